section
variable {nc nl le ne : Nat} {fw : Int32} {cl ph pk pa po qw qu cs cw cu rc ho hw hu wb bw bu lc lk la lo lv lt : Nat → Int32}
theorem tc_is {k c a : Nat} {kd op : Int32} {post : Int32 → SX → Prop} (hI : tc_I k nc nl le ne cl ph pk pa qw qu cw cu rc ho hw hu bw bu lk lt) (hk : k + 5 ≤ 2564) (hc : c < nc) (ha : a < nl) (hkd : kd = 1 ∨ kd = 2 ∨ kd = 3) (h0 : ph (nI c).toNatClampNeg = 0) (hfree : ne + tc_cnt ph nc < 64)
    (HW : ∀ (r : Int32) (u' : SX), wY_issue_98 (fun r' v' => r' = r ∧ i_Rel (k + 5) u' v') (nI c) kd (nI a) op (nI nc) (nI nl) (nI le) fw (nI ne) cl ph pk pa po qw qu cs cw cu rc ho hw hu wb bw bu lc lk la lo lv lt → post r u') : wX_issue_68 post (nI c) kd (nI a) op (nI nc) (nI nl) (nI le) fw (nI ne) cl ph pk pa po qw qu cs cw cu rc ho hw hu wb bw bu lc lk la lo lv lt := by
  obtain ⟨hD, hP, hQ, hO, hB, hT, hL⟩ := id hI
  obtain ⟨d1, d2, d3, d4, d5, d6⟩ := id hD
  obtain ⟨t1, t2, t3, t4, t5, t6, t7, t8, t9⟩ := id hT
  have hne : ne ≤ 64 := by omega
  have up : 1000 + 20 * k ≤ 1000 + 20 * (k + 5) := by omega
  have hc4 : vp_in (nI c) 4 := vp_in_nI (by omega) (by omega)
  have ec : (nI c).toNatClampNeg = c := nI_clamp (by omega)
  have en : (nI ne).toNatClampNeg = ne := nI_clamp (by omega)
  have hp : vp_in (nI c * 8 + nI a) 32 := tc_pin (by omega) (by omega)
  have hvn : vp_in (nI ne) 64 := vp_in_nI (by omega) (by omega)
  have hU : i_Rel (k + 5) (nI nc, nI nl, nI le, fw, nI ne, cl, ph, pk, pa, po, qw, qu, cs, cw, cu, rc, ho, hw, hu, wb, bw, bu, lc, lk, la, lo, lv, lt) (nI nc, nI nl, nI le, fw, nI ne, cl, ph, pk, pa, po, qw, qu, cs, cw, cu, rc, ho, hw, hu, wb, bw, bu, lc, lk, la, lo, lv, lt) := ⟨rfl, nc, nl, le, ne, rfl, rfl, rfl, rfl, tc_I_up hI⟩
  have h0' : ph c = 0 := by rw [ec] at h0; exact h0
  have hP' : ne + tc_cnt (upd ph (nI c).toNatClampNeg 10) nc ≤ 64 := by rw [ec, tc_cnt_in h0' (by decide) nc hc]; omega
  have hQ' : tc_Q nc nl (upd ph (nI c).toNatClampNeg 10) (upd pk (nI c).toNatClampNeg kd) (upd pa (nI c).toNatClampNeg (nI a)) := by rw [ec]; exact tc_Q_in hQ hkd ha
  unfold wX_issue_68
  by_cases hh : cs (nI c * 8 + nI a).toNatClampNeg = 2 ∨ (kd = 1 ∧ cs (nI c * 8 + nI a).toNatClampNeg = 1 ∧ ¬ cu (nI c * 8 + nI a).toNatClampNeg < cl (nI c).toNatClampNeg)
  · refine tx_hit1 hc4 hp hh (br_f (by decide) ?_)
    obtain ⟨r, hr⟩ := tc_F1_ex (fun j => tc_V lk la (nI a) j ∧ lt j = cw (nI c * 8 + nI a).toNatClampNeg) lv 0 ne
    obtain ⟨dw, du, tm, vl, hcm⟩ := tc_CM_ex op r (cs (nI c * 8 + nI a).toNatClampNeg) (cl (nI c).toNatClampNeg) (nI c * 8 + nI a).toNatClampNeg cw cu hkd
    have hInv : tc_I (k + 5) nc nl le (ne + 1) (upd cl (nI c).toNatClampNeg tm) ph pk pa qw qu dw du rc ho hw hu bw bu (upd lk (nI ne).toNatClampNeg kd) (upd lt (nI ne).toNatClampNeg tm) := by
      rw [en]
      exact tc_I_cm hD (by omega) hQ hO hB hT hL (by omega) (by omega) hcm
    refine tx_cm hc4 hp hvn hne hr hcm (HW 1 (nI nc, nI nl, nI le, fw, nI ne + 1, upd cl (nI c).toNatClampNeg tm, ph, pk, pa, po, qw, qu, cs, dw, du, rc, ho, hw, hu, wb, bw, bu, upd lc (nI ne).toNatClampNeg (nI c), upd lk (nI ne).toNatClampNeg kd, upd la (nI ne).toNatClampNeg (nI a), upd lo (nI ne).toNatClampNeg op, upd lv (nI ne).toNatClampNeg vl, upd lt (nI ne).toNatClampNeg tm) (ty_hit1 hc4 hp hh ?_))
    unfold wY_issue_151
    exact ty_cm hc4 hp hvn hne hr hcm ⟨rfl, rfl, nc, nl, le, ne + 1, rfl, rfl, rfl, nI_1 ne, hInv⟩
  · refine tx_hit0 hc4 hp hh (br_t rfl (tx_pair ⟨hp, ?_⟩))
    by_cases hs : cs (nI c * 8 + nI a).toNatClampNeg = 0
    · refine br_t hs (tx_cc (by omega) d4 ?_)
      by_cases hw' : nI (tc_cnt (fun j => cs (nI c * 8 + nI j).toNatClampNeg) nl) < fw
      · exact br_t hw' (tx_119 hc4 (HW _ _ (ty_hit0 hc4 hp hh (ty_168 (by omega) d4 (fun n => br_t (Int32.le_refl _) ⟨hp, br_t hs (br_t hw' (ty_223 hc4 ⟨rfl, rfl, nc, nl, le, ne, rfl, rfl, rfl, rfl, ⟨hD, hP', hQ', hO, hB, ⟨tc_T_up up t1, tc_T_up up t2, tc_T_up up t3, tc_T_up up t4, tc_T_up up t5, tc_T_up up t6, tc_T_up up t7, tc_T_up up t8, tc_T_up up t9⟩, hL⟩⟩))⟩)))))
      · exact br_f hw' (HW _ _ (ty_hit0 hc4 hp hh (ty_168 (by omega) d4 (fun n => br_t (Int32.le_refl _) ⟨hp, br_t hs (br_f hw' ⟨rfl, hU⟩)⟩))))
    · exact br_f hs (tx_119 hc4 (HW _ _ (ty_hit0 hc4 hp hh (ty_168 (by omega) d4 (fun n => br_t (Int32.le_refl _) ⟨hp, br_f hs (ty_223 hc4 ⟨rfl, rfl, nc, nl, le, ne, rfl, rfl, rfl, rfl, ⟨hD, hP', hQ', hO, hB, ⟨tc_T_up up t1, tc_T_up up t2, tc_T_up up t3, tc_T_up up t4, tc_T_up up t5, tc_T_up up t6, tc_T_up up t7, tc_T_up up t8, tc_T_up up t9⟩, hL⟩⟩)⟩)))))
end
section
theorem i_vc_issue {k : Nat} {u : SX} {v : SY} (I : i_Rel k u v) (hk : k + 5 ≤ 2564) (v1 : Int32) (v2 : Int32) (v3 : Int32) (v4 : Int32) : wpX_issue (fun r u' => wpY_issue (fun r' v' => r' = r ∧ i_Rel (k + 5) u' v') v v1 v2 v3 v4) u v1 v2 v3 v4 := by
  obtain ⟨rfl, hJ⟩ := I
  have hU : i_Rel (k + 5) u u := i_up ⟨rfl, hJ⟩
  obtain ⟨fc, fl, fe, fw, fn, cl, ph, pk, pa, po, qw, qu, cs, cw, cu, rc, ho, hw, hu, wb, bw, bu, lc, lk, la, lo, lv, lt⟩ := u
  obtain ⟨nc, nl, le, ne, rfl, rfl, rfl, rfl, hI⟩ := hJ
  obtain ⟨hD, hP, hQ, hO, hB, hT, hL⟩ := id hI
  obtain ⟨d1, d2, d3, d4, d5, d6⟩ := id hD
  obtain ⟨t1, t2, t3, t4, t5, t6, t7, t8, t9⟩ := id hT
  have hn : nc < 2 ^ 31 := by omega
  have hl : nl < 2 ^ 31 := by omega
  have hne : ne ≤ 64 := by omega
  have up : 1000 + 20 * k ≤ 1000 + 20 * (k + 5) := by omega
  unfold wpX_issue wpY_issue
  rcases tc_ix v1 hn with hb | ⟨c, hc, rfl⟩
  · exact tx_bc1 hb (br_f (by decide) (ty_bc1 hb (br_f (by decide) ⟨rfl, hU⟩)))
  have hc4 : vp_in (nI c) 4 := vp_in_nI (by omega) (by omega)
  by_cases k1 : v2 < 1
  · exact tx_bc0 hc hn (br_t rfl (br_t k1 (ty_bc0 hc hn (br_t rfl (br_t k1 ⟨rfl, hU⟩)))))
  by_cases k3 : 3 < v2
  · exact tx_bc0 hc hn (br_t rfl (br_f k1 (br_t k3 (ty_bc0 hc hn (br_t rfl (br_f k1 (br_t k3 ⟨rfl, hU⟩)))))))
  rcases tc_ix v3 hl with hb | ⟨a, ha, rfl⟩
  · exact tx_bc0 hc hn (br_t rfl (br_f k1 (br_f k3 (tx_ba1 hb (br_f (by decide) (ty_bc0 hc hn (br_t rfl (br_f k1 (br_f k3 (ty_ba1 hb (br_f (by decide) ⟨rfl, hU⟩)))))))))))
  have hkd : v2 = 1 ∨ v2 = 2 ∨ v2 = 3 := by
    obtain ⟨j, hj, rfl⟩ := nI_of2 (x := v2) (M := 3) (n := 3) rfl (fun z => k1 (Int32.lt_trans z (by decide))) (Int32.not_lt.mp k3)
    have h1 : ¬ j < 1 := fun z => k1 (nI_lt (b := 1) z (by omega))
    have h2 : j = 1 ∨ j = 2 ∨ j = 3 := by omega
    rcases h2 with rfl | rfl | rfl
    · exact Or.inl rfl
    · exact Or.inr (Or.inl rfl)
    · exact Or.inr (Or.inr rfl)
  by_cases h0 : ph (nI c).toNatClampNeg = 0
  · refine tx_bc0 hc hn (br_t rfl (br_f k1 (br_f k3 (tx_ba0 ha hl (br_t rfl ⟨hc4, br_t h0 (tx_pc d2 ?_)⟩)))))
    by_cases hf : ne + tc_cnt ph nc < 64
    · have f1 : nI (ne + tc_cnt ph nc) < 64 := nI_lt (b := 64) hf (by omega)
      have f2 : nI ne + nI (tc_cnt ph nc) < 64 := by rw [nI_add]; exact f1
      refine br_t f2 ?_
      by_cases q : v2 = 1
      · exact br_t q (tc_is hI hk hc ha hkd h0 hf (fun r u' h => ty_bc0 hc hn (br_t rfl (br_f k1 (br_f k3 (ty_ba0 ha hl (br_t rfl ⟨hc4, br_t h0 (ty_49 d2 (fun n => br_t (Int32.le_refl _) (br_t f1 (br_t q h))))⟩)))))))
      · exact br_f q (tc_is hI hk hc ha hkd h0 hf (fun r u' h => ty_bc0 hc hn (br_t rfl (br_f k1 (br_f k3 (ty_ba0 ha hl (br_t rfl ⟨hc4, br_t h0 (ty_49 d2 (fun n => br_t (Int32.le_refl _) (br_t f1 (br_f q h))))⟩)))))))
    · have f1 : ¬ nI (ne + tc_cnt ph nc) < 64 := nI_nlt (b := 64) (by omega) (by omega)
      have f2 : ¬ nI ne + nI (tc_cnt ph nc) < 64 := by rw [nI_add]; exact f1
      exact br_f f2 (ty_bc0 hc hn (br_t rfl (br_f k1 (br_f k3 (ty_ba0 ha hl (br_t rfl ⟨hc4, br_t h0 (ty_49 d2 (fun n => br_t (Int32.le_refl _) (br_f f1 ⟨rfl, hU⟩)))⟩))))))
  · exact tx_bc0 hc hn (br_t rfl (br_f k1 (br_f k3 (tx_ba0 ha hl (br_t rfl ⟨hc4, br_f h0 (ty_bc0 hc hn (br_t rfl (br_f k1 (br_f k3 (ty_ba0 ha hl (br_t rfl ⟨hc4, br_f h0 ⟨rfl, hU⟩⟩))))))⟩)))))
end
