section
theorem i_vc_deliverRequest {k : Nat} {u : SX} {v : SY} (I : i_Rel k u v) (hk : k + 5 ≤ 2564) (v1 : Int32) : wpX_deliverRequest (fun r u' => wpY_deliverRequest (fun r' v' => r' = r ∧ i_Rel (k + 5) u' v') v v1) u v1 := by
  obtain ⟨rfl, hJ⟩ := I
  have hU : i_Rel (k + 5) u u := i_up ⟨rfl, hJ⟩
  obtain ⟨fc, fl, fe, fw, fn, cl, ph, pk, pa, po, qw, qu, cs, cw, cu, rc, ho, hw, hu, wb, bw, bu, lc, lk, la, lo, lv, lt⟩ := u
  obtain ⟨nc, nl, le, ne, rfl, rfl, rfl, rfl, hI⟩ := hJ
  obtain ⟨hD, hP, hQ, hO, hB, hT, hL⟩ := id hI
  obtain ⟨d1, d2, d3, d4, d5, d6⟩ := id hD
  obtain ⟨t1, t2, t3, t4, t5, t6, t7, t8, t9⟩ := id hT
  have hn : nc < 2 ^ 31 := by omega
  have hl : nl < 2 ^ 31 := by omega
  have hne : ne ≤ 64 := by omega
  have up : 1000 + 20 * k ≤ 1000 + 20 * (k + 5) := by omega
  unfold wpX_deliverRequest wpY_deliverRequest
  rcases tc_ix v1 hn with hb | ⟨c, hc, rfl⟩
  · exact tx_bc1 hb (br_f (by decide) (ty_bc1 hb (br_f (by decide) ⟨rfl, hU⟩)))
  have hc4 : vp_in (nI c) 4 := vp_in_nI (by omega) (by omega)
  have ec : (nI c).toNatClampNeg = c := nI_clamp (by omega)
  refine tx_bc0 hc hn (br_t rfl (⟨hc4, ?_⟩))
  by_cases h0 : ph (nI c).toNatClampNeg = 10
  · have hz0 : ¬ ph c = 0 := by rw [ec] at h0; rw [h0]; decide
    obtain ⟨hkd, a, ha, ea⟩ := hQ c hc hz0
    rw [← ec] at ea
    have ha8 : vp_in (nI a) 8 := vp_in_nI (by omega) (by omega)
    have hp : vp_in (nI c * 8 + nI a) 32 := tc_pin (by omega) (by omega)
    have eA : (nI a).toNatClampNeg = a := nI_clamp (by omega)
    have hle : 1000 + 20 * k + le ≤ 1000 + 20 * (k + 5) := by omega
    refine br_t h0 ⟨hc4, nm_r ea ⟨ha8, nm_e ?_⟩⟩
    have hz : ∃ z : Int32, ((z = 4 ∧ ¬ cs (nI c * 8 + nI a).toNatClampNeg = 0 ∧ cw (nI c * 8 + nI a).toNatClampNeg = hw (nI a).toNatClampNeg) ∨ (z = 5 ∧ (cs (nI c * 8 + nI a).toNatClampNeg = 0 ∨ ¬ cw (nI c * 8 + nI a).toNatClampNeg = hw (nI a).toNatClampNeg))) ∧ ¬ z = 0 := by
      by_cases q1 : cs (nI c * 8 + nI a).toNatClampNeg = 0
      · exact ⟨5, Or.inr ⟨rfl, Or.inl q1⟩, by decide⟩
      · by_cases q2 : cw (nI c * 8 + nI a).toNatClampNeg = hw (nI a).toNatClampNeg
        · exact ⟨4, Or.inl ⟨rfl, q1, q2⟩, by decide⟩
        · exact ⟨5, Or.inr ⟨rfl, Or.inr q2⟩, by decide⟩
    obtain ⟨z, hz, hzn⟩ := hz
    have hP' : ne + tc_cnt (upd ph (nI c).toNatClampNeg z) nc ≤ 64 := by rw [ec, tc_cnt_eq hz0 hzn]; exact hP
    have hQ' : tc_Q nc nl (upd ph (nI c).toNatClampNeg z) pk pa := by rw [ec]; exact tc_Q_u hQ (Or.inl hz0)
    have hO' := hO a (by omega)
    rw [← eA] at hO'
    by_cases h1 : ho (nI a).toNatClampNeg = -1
    · have h1' : ho (nI a).toNatClampNeg < 0 := by rw [h1]; decide
      refine br_t h1 ⟨hc4, ?_⟩
      by_cases h2 : pk (nI c).toNatClampNeg = 1
      · refine br_t h2 ?_
        unfold wpX_extendLease
        refine ⟨ha8, hc4, tx_lg ⟨ha8, tx_lg ⟨ha8, nm_e ?_⟩⟩⟩
        have hH : tc_T (1000 + 20 * (k + 5)) (upd hu (nI a).toNatClampNeg (tc_mx (hu (nI a).toNatClampNeg) (tc_mx (hw (nI a).toNatClampNeg) (cl (nI c).toNatClampNeg) + nI le))) := tc_T_u (tc_T_up up t7) (tc_t_up hle (tc_t_mx (tc_t_up (Nat.le_add_right _ le) (t7 _)) (tc_t_add le (tc_t_mx (t6 _) (t1 _)))))
        unfold wX_deliverRequest_87
        refine tx_sr hc4 ha8 hp hz ?_
        exact ty_bc0 hc hn (br_t rfl (⟨hc4, br_t h0 ⟨hc4, nm_r ea ⟨ha8, br_t h1' ⟨hc4, br_t h2 ⟨ha8, hc4, ty_lg ⟨ha8, ty_lg ⟨ha8, nm_e (ty_sr hc4 ha8 hp hz ⟨rfl, rfl, nc, nl, le, ne, rfl, rfl, rfl, rfl, ⟨hD, hP', hQ', hO, hB, ⟨tc_T_up up t1, tc_T_u (tc_T_up up t2) (tc_t_up up (t6 _)), tc_T_u (tc_T_up up t3) (hH _), tc_T_up up t4, tc_T_up up t5, tc_T_up up t6, hH, tc_T_up up t8, tc_T_up up t9⟩, hL⟩⟩)⟩⟩⟩⟩⟩⟩⟩))
      · refine br_f h2 ⟨ha8, nm_e ?_⟩
        unfold wX_deliverRequest_87
        refine tx_sr hc4 ha8 hp hz ?_
        exact ty_bc0 hc hn (br_t rfl (⟨hc4, br_t h0 ⟨hc4, nm_r ea ⟨ha8, br_t h1' ⟨hc4, br_f h2 ⟨ha8, nm_e (ty_sr hc4 ha8 hp hz ⟨rfl, rfl, nc, nl, le, ne, rfl, rfl, rfl, rfl, ⟨hD, hP', hQ', tc_O_u hO (Or.inr ⟨c, hc, rfl⟩), hB, ⟨tc_T_up up t1, tc_T_u (tc_T_up up t2) (tc_t_up up (t6 _)), tc_T_u (tc_T_up up t3) (tc_t_up up (t7 _)), tc_T_up up t4, tc_T_up up t5, tc_T_up up t6, tc_T_up up t7, tc_T_up up t8, tc_T_up up t9⟩, hL⟩⟩)⟩⟩⟩⟩⟩))
    · obtain ⟨o, ho1, eo⟩ := hO'.resolve_left h1
      have h1' : ¬ ho (nI a).toNatClampNeg < 0 := by rw [eo]; exact nI_pos (by omega)
      refine br_f h1 ?_
      by_cases h2 : ho (nI a).toNatClampNeg = nI c
      · exact br_t h2 (ty_bc0 hc hn (br_t rfl (⟨hc4, br_t h0 ⟨hc4, nm_r ea ⟨ha8, br_f h1' ⟨ha8, br_t h2 ⟨rfl, hU⟩⟩⟩⟩⟩)))
      · have hq : vp_in (ho (nI a).toNatClampNeg * 8 + nI a) 32 := by rw [eo]; exact tc_pin (by omega) (by omega)
        exact br_f h2 (tx_pair ⟨hq, nm_e (ty_bc0 hc hn (br_t rfl (⟨hc4, br_t h0 ⟨hc4, nm_r ea ⟨ha8, br_f h1' ⟨ha8, br_f h2 ⟨ha8, hq, nm_e ⟨rfl, rfl, nc, nl, le, ne, rfl, rfl, rfl, rfl, ⟨hD, hP, hQ, hO, tc_B_u hB tc_b1, ⟨tc_T_up up t1, tc_T_up up t2, tc_T_up up t3, tc_T_up up t4, tc_T_up up t5, tc_T_up up t6, tc_T_up up t7, tc_T_up up t8, tc_T_up up t9⟩, hL⟩⟩⟩⟩⟩⟩⟩)))⟩)
  · exact br_f h0 (ty_bc0 hc hn (br_t rfl (⟨hc4, br_f h0 ⟨rfl, hU⟩⟩)))
section
variable {nc nl le ne : Nat} {fw : Int32} {cl ph pk pa po qw qu cs cw cu rc ho hw hu wb bw bu lc lk la lo lv lt : Nat → Int32}
theorem tx_hr1 {post : Int32 → Prop} {x1 : Int32} (h1 : vp_in x1 4) (h : ph x1.toNatClampNeg = 4 ∨ ph x1.toNatClampNeg = 5) (hq : post 1) : wpX_hasReply post (nI nc, nI nl, nI le, fw, nI ne, cl, ph, pk, pa, po, qw, qu, cs, cw, cu, rc, ho, hw, hu, wb, bw, bu, lc, lk, la, lo, lv, lt) x1 := by
  unfold wpX_hasReply
  by_cases h4 : ph x1.toNatClampNeg = 4
  · exact ⟨h1, br_t h4 hq⟩
  · exact ⟨h1, br_f h4 ⟨h1, br_t (h.resolve_left h4) hq⟩⟩
theorem tx_hr0 {post : Int32 → Prop} {x1 : Int32} (h1 : vp_in x1 4) (h : ¬ (ph x1.toNatClampNeg = 4 ∨ ph x1.toNatClampNeg = 5)) (hq : post 0) : wpX_hasReply post (nI nc, nI nl, nI le, fw, nI ne, cl, ph, pk, pa, po, qw, qu, cs, cw, cu, rc, ho, hw, hu, wb, bw, bu, lc, lk, la, lo, lv, lt) x1 := by
  unfold wpX_hasReply
  exact ⟨h1, br_f (fun z => h (Or.inl z)) ⟨h1, br_f (fun z => h (Or.inr z)) hq⟩⟩
end
theorem i_vc_deliverReply {k : Nat} {u : SX} {v : SY} (I : i_Rel k u v) (hk : k + 5 ≤ 2564) (v1 : Int32) : wpX_deliverReply (fun r u' => wpY_deliverReply (fun r' v' => r' = r ∧ i_Rel (k + 5) u' v') v v1) u v1 := by
  obtain ⟨rfl, hJ⟩ := I
  have hU : i_Rel (k + 5) u u := i_up ⟨rfl, hJ⟩
  obtain ⟨fc, fl, fe, fw, fn, cl, ph, pk, pa, po, qw, qu, cs, cw, cu, rc, ho, hw, hu, wb, bw, bu, lc, lk, la, lo, lv, lt⟩ := u
  obtain ⟨nc, nl, le, ne, rfl, rfl, rfl, rfl, hI⟩ := hJ
  obtain ⟨hD, hP, hQ, hO, hB, hT, hL⟩ := id hI
  obtain ⟨d1, d2, d3, d4, d5, d6⟩ := id hD
  obtain ⟨t1, t2, t3, t4, t5, t6, t7, t8, t9⟩ := id hT
  have hn : nc < 2 ^ 31 := by omega
  have hl : nl < 2 ^ 31 := by omega
  have hne : ne ≤ 64 := by omega
  have up : 1000 + 20 * k ≤ 1000 + 20 * (k + 5) := by omega
  unfold wpX_deliverReply wpY_deliverReply
  rcases tc_ix v1 hn with hb | ⟨c, hc, rfl⟩
  · exact tx_bc1 hb (br_f (by decide) (ty_bc1 hb (br_f (by decide) ⟨rfl, hU⟩)))
  have hc4 : vp_in (nI c) 4 := vp_in_nI (by omega) (by omega)
  have ec : (nI c).toNatClampNeg = c := nI_clamp (by omega)
  refine tx_bc0 hc hn (br_t rfl (?_))
  by_cases h0 : ph (nI c).toNatClampNeg = 4 ∨ ph (nI c).toNatClampNeg = 5
  · have hz0 : ¬ ph c = 0 := by
      rw [ec] at h0
      rcases h0 with h | h <;> rw [h] <;> decide
    obtain ⟨hkd, a, ha, ea⟩ := hQ c hc hz0
    rw [← ec] at ea hkd
    have hp : vp_in (nI c * 8 + nI a) 32 := tc_pin (by omega) (by omega)
    have en : (nI ne).toNatClampNeg = ne := nI_clamp (by omega)
    have hc1 := tc_cnt_pos hz0 nc hc
    have hvn : vp_in (nI ne) 64 := vp_in_nI (by omega) (by omega)
    have hP' : ne + 1 + tc_cnt (upd ph (nI c).toNatClampNeg 0) nc ≤ 64 := by
      have := tc_cnt_out hz0 (x := 0) rfl nc hc
      rw [ec]; omega
    have hQ' : tc_Q nc nl (upd ph (nI c).toNatClampNeg 0) pk pa := by rw [ec]; exact tc_Q_u hQ (Or.inr rfl)
    refine tx_hr1 hc4 h0 (br_f (by decide) ⟨hc4, nm_e ⟨hc4, nm_r ea (tx_pair ?_)⟩⟩)
    by_cases h2 : pk (nI c).toNatClampNeg = 1
    · skip
      refine br_t h2 ?_
      unfold wX_deliverReply_58
      refine ⟨hp, nm_e ⟨hc4, hp, nm_e ⟨hc4, hp, nm_e ⟨hc4, ?_⟩⟩⟩⟩
      obtain ⟨r, hr⟩ := tc_F1_ex (fun j => tc_V lk la (nI a) j ∧ lt j = (upd cw (nI c * 8 + nI a).toNatClampNeg (qw (nI c).toNatClampNeg)) (nI c * 8 + nI a).toNatClampNeg) lv 0 ne
      obtain ⟨dw, du, tm, vl, hcm⟩ := tc_CM_ex (po (nI c).toNatClampNeg) r ((upd cs (nI c * 8 + nI a).toNatClampNeg 1) (nI c * 8 + nI a).toNatClampNeg) (cl (nI c).toNatClampNeg) (nI c * 8 + nI a).toNatClampNeg (upd cw (nI c * 8 + nI a).toNatClampNeg (qw (nI c).toNatClampNeg)) (upd cu (nI c * 8 + nI a).toNatClampNeg (qu (nI c).toNatClampNeg)) hkd
      have hInv : tc_I (k + 5) nc nl le (ne + 1) (upd cl (nI c).toNatClampNeg tm) (upd ph (nI c).toNatClampNeg 0) pk pa qw qu dw du rc ho hw hu bw bu (upd lk (nI ne).toNatClampNeg (pk (nI c).toNatClampNeg)) (upd lt (nI ne).toNatClampNeg tm) := by
        rw [en]
        exact tc_I_cm hD hP' hQ' hO hB ⟨t1, t2, t3, tc_T_u t4 (t2 _), tc_T_u t5 (t3 _), t6, t7, t8, t9⟩ hL (by omega) (by omega) hcm
      refine tx_cm hc4 hp hvn hne hr hcm ⟨hc4, nm_e ?_⟩
      have YY : wY_deliverReply_33 (fun r' v' => r' = 1 ∧ i_Rel (k + 5) (nI nc, nI nl, nI le, fw, nI ne + 1, upd cl (nI c).toNatClampNeg tm, upd ph (nI c).toNatClampNeg 0, pk, pa, po, qw, qu, upd cs (nI c * 8 + nI a).toNatClampNeg 1, dw, du, rc, ho, hw, hu, wb, bw, bu, upd lc (nI ne).toNatClampNeg (nI c), upd lk (nI ne).toNatClampNeg (pk (nI c).toNatClampNeg), upd la (nI ne).toNatClampNeg (nI a), upd lo (nI ne).toNatClampNeg (po (nI c).toNatClampNeg), upd lv (nI ne).toNatClampNeg vl, upd lt (nI ne).toNatClampNeg tm) v') (nI c) (nI nc) (nI nl) (nI le) fw (nI ne) cl ph pk pa po qw qu cs cw cu rc ho hw hu wb bw bu lc lk la lo lv lt := by
        unfold wY_deliverReply_33
        refine ⟨hc4, nm_r (congrArg (fun z => nI c * 8 + z) ea) ⟨hc4, hp, nm_e ⟨hc4, hp, nm_e ⟨hc4, br_t h2 ?_⟩⟩⟩⟩
        unfold wY_deliverReply_89
        refine ⟨hp, nm_e ⟨hc4, hc4, hc4, ?_⟩⟩
        rw [ea]
        exact ty_cm hc4 hp hvn hne hr hcm ⟨hc4, nm_e ⟨rfl, rfl, nc, nl, le, ne + 1, rfl, rfl, rfl, nI_1 ne, hInv⟩⟩
      by_cases h4 : ph (nI c).toNatClampNeg = 4
      · exact ty_bc0 hc hn (br_t rfl (⟨hc4, br_t h4 YY⟩))
      · exact ty_bc0 hc hn (br_t rfl (⟨hc4, br_f h4 ⟨hc4, br_t (h0.resolve_left h4) YY⟩⟩))
    · skip
      refine br_f h2 ?_
      unfold wX_deliverReply_58
      refine ⟨hp, nm_e ⟨hc4, hp, nm_e ⟨hc4, hp, nm_e ⟨hc4, ?_⟩⟩⟩⟩
      obtain ⟨r, hr⟩ := tc_F1_ex (fun j => tc_V lk la (nI a) j ∧ lt j = (upd cw (nI c * 8 + nI a).toNatClampNeg (qw (nI c).toNatClampNeg)) (nI c * 8 + nI a).toNatClampNeg) lv 0 ne
      obtain ⟨dw, du, tm, vl, hcm⟩ := tc_CM_ex (po (nI c).toNatClampNeg) r ((upd cs (nI c * 8 + nI a).toNatClampNeg 2) (nI c * 8 + nI a).toNatClampNeg) (cl (nI c).toNatClampNeg) (nI c * 8 + nI a).toNatClampNeg (upd cw (nI c * 8 + nI a).toNatClampNeg (qw (nI c).toNatClampNeg)) (upd cu (nI c * 8 + nI a).toNatClampNeg (qu (nI c).toNatClampNeg)) hkd
      have hInv : tc_I (k + 5) nc nl le (ne + 1) (upd cl (nI c).toNatClampNeg tm) (upd ph (nI c).toNatClampNeg 0) pk pa qw qu dw du rc ho hw hu bw bu (upd lk (nI ne).toNatClampNeg (pk (nI c).toNatClampNeg)) (upd lt (nI ne).toNatClampNeg tm) := by
        rw [en]
        exact tc_I_cm hD hP' hQ' hO hB ⟨t1, t2, t3, tc_T_u t4 (t2 _), tc_T_u t5 (t3 _), t6, t7, t8, t9⟩ hL (by omega) (by omega) hcm
      refine tx_cm hc4 hp hvn hne hr hcm ⟨hc4, nm_e ?_⟩
      have YY : wY_deliverReply_33 (fun r' v' => r' = 1 ∧ i_Rel (k + 5) (nI nc, nI nl, nI le, fw, nI ne + 1, upd cl (nI c).toNatClampNeg tm, upd ph (nI c).toNatClampNeg 0, pk, pa, po, qw, qu, upd cs (nI c * 8 + nI a).toNatClampNeg 2, dw, du, rc, ho, hw, hu, wb, bw, bu, upd lc (nI ne).toNatClampNeg (nI c), upd lk (nI ne).toNatClampNeg (pk (nI c).toNatClampNeg), upd la (nI ne).toNatClampNeg (nI a), upd lo (nI ne).toNatClampNeg (po (nI c).toNatClampNeg), upd lv (nI ne).toNatClampNeg vl, upd lt (nI ne).toNatClampNeg tm) v') (nI c) (nI nc) (nI nl) (nI le) fw (nI ne) cl ph pk pa po qw qu cs cw cu rc ho hw hu wb bw bu lc lk la lo lv lt := by
        unfold wY_deliverReply_33
        refine ⟨hc4, nm_r (congrArg (fun z => nI c * 8 + z) ea) ⟨hc4, hp, nm_e ⟨hc4, hp, nm_e ⟨hc4, br_f h2 ?_⟩⟩⟩⟩
        unfold wY_deliverReply_89
        refine ⟨hp, nm_e ⟨hc4, hc4, hc4, ?_⟩⟩
        rw [ea]
        exact ty_cm hc4 hp hvn hne hr hcm ⟨hc4, nm_e ⟨rfl, rfl, nc, nl, le, ne + 1, rfl, rfl, rfl, nI_1 ne, hInv⟩⟩
      by_cases h4 : ph (nI c).toNatClampNeg = 4
      · exact ty_bc0 hc hn (br_t rfl (⟨hc4, br_t h4 YY⟩))
      · exact ty_bc0 hc hn (br_t rfl (⟨hc4, br_f h4 ⟨hc4, br_t (h0.resolve_left h4) YY⟩⟩))
  · exact tx_hr0 hc4 h0 (br_t rfl (ty_bc0 hc hn (br_t rfl (⟨hc4, br_f (fun z => h0 (Or.inl z)) ⟨hc4, br_f (fun z => h0 (Or.inr z)) ⟨rfl, hU⟩⟩⟩))))
end
