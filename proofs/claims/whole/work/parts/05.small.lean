section
theorem i_vc_clock {k : Nat} {u : SX} {v : SY} (I : i_Rel k u v) (hk : k + 5 ≤ 2564) (v1 : Int32) : wpX_clock (fun r => wpY_clock (fun r' => r' = r ∧ i_Rel (k + 5) u v) v v1) u v1 := by
  obtain ⟨rfl, hJ⟩ := I
  have hU : i_Rel (k + 5) u u := i_up ⟨rfl, hJ⟩
  obtain ⟨fc, fl, fe, fw, fn, cl, ph, pk, pa, po, qw, qu, cs, cw, cu, rc, ho, hw, hu, wb, bw, bu, lc, lk, la, lo, lv, lt⟩ := u
  obtain ⟨nc, nl, le, ne, rfl, rfl, rfl, rfl, hI⟩ := hJ
  obtain ⟨hD, hP, hQ, hO, hB, hT, hL⟩ := id hI
  obtain ⟨d1, d2, d3, d4, d5, d6⟩ := id hD
  obtain ⟨t1, t2, t3, t4, t5, t6, t7, t8, t9⟩ := id hT
  have hn : nc < 2 ^ 31 := by omega
  have hl : nl < 2 ^ 31 := by omega
  have hne : ne ≤ 64 := by omega
  have up : 1000 + 20 * k ≤ 1000 + 20 * (k + 5) := by omega
  unfold wpX_clock wpY_clock
  rcases tc_ix v1 hn with hb | ⟨c, hc, rfl⟩
  · exact tx_bc1 hb (br_f (by decide) (ty_bc1 hb (br_f (by decide) ⟨rfl, hU⟩)))
  have hc4 : vp_in (nI c) 4 := vp_in_nI (by omega) (by omega)
  have ec : (nI c).toNatClampNeg = c := nI_clamp (by omega)
  exact tx_bc0 hc hn (br_t rfl (⟨hc4, ty_bc0 hc hn (br_t rfl (⟨hc4, ⟨rfl, hU⟩⟩))⟩))
theorem i_vc_commits {k : Nat} {u : SX} {v : SY} (I : i_Rel k u v) (hk : k + 5 ≤ 2564) : wpX_commits (fun r => wpY_commits (fun r' => r' = r ∧ i_Rel (k + 5) u v) v) u := by
  obtain ⟨rfl, hJ⟩ := I
  have hU : i_Rel (k + 5) u u := i_up ⟨rfl, hJ⟩
  obtain ⟨fc, fl, fe, fw, fn, cl, ph, pk, pa, po, qw, qu, cs, cw, cu, rc, ho, hw, hu, wb, bw, bu, lc, lk, la, lo, lv, lt⟩ := u
  obtain ⟨nc, nl, le, ne, rfl, rfl, rfl, rfl, hI⟩ := hJ
  obtain ⟨hD, hP, hQ, hO, hB, hT, hL⟩ := id hI
  obtain ⟨d1, d2, d3, d4, d5, d6⟩ := id hD
  obtain ⟨t1, t2, t3, t4, t5, t6, t7, t8, t9⟩ := id hT
  have hn : nc < 2 ^ 31 := by omega
  have hl : nl < 2 ^ 31 := by omega
  have hne : ne ≤ 64 := by omega
  have up : 1000 + 20 * k ≤ 1000 + 20 * (k + 5) := by omega
  unfold wpX_commits wpY_commits
  exact ⟨rfl, hU⟩
theorem i_vc_recallFlying {k : Nat} {u : SX} {v : SY} (I : i_Rel k u v) (hk : k + 5 ≤ 2564) (v1 : Int32) (v2 : Int32) : wpX_recallFlying (fun r => wpY_recallFlying (fun r' => r' = r ∧ i_Rel (k + 5) u v) v v1 v2) u v1 v2 := by
  obtain ⟨rfl, hJ⟩ := I
  have hU : i_Rel (k + 5) u u := i_up ⟨rfl, hJ⟩
  obtain ⟨fc, fl, fe, fw, fn, cl, ph, pk, pa, po, qw, qu, cs, cw, cu, rc, ho, hw, hu, wb, bw, bu, lc, lk, la, lo, lv, lt⟩ := u
  obtain ⟨nc, nl, le, ne, rfl, rfl, rfl, rfl, hI⟩ := hJ
  obtain ⟨hD, hP, hQ, hO, hB, hT, hL⟩ := id hI
  obtain ⟨d1, d2, d3, d4, d5, d6⟩ := id hD
  obtain ⟨t1, t2, t3, t4, t5, t6, t7, t8, t9⟩ := id hT
  have hn : nc < 2 ^ 31 := by omega
  have hl : nl < 2 ^ 31 := by omega
  have hne : ne ≤ 64 := by omega
  have up : 1000 + 20 * k ≤ 1000 + 20 * (k + 5) := by omega
  unfold wpX_recallFlying wpY_recallFlying
  rcases tc_ix v1 hn with hb | ⟨c, hc, rfl⟩
  · exact tx_bc1 hb (br_f (by decide) (ty_bc1 hb (br_f (by decide) ⟨rfl, hU⟩)))
  have hc4 : vp_in (nI c) 4 := vp_in_nI (by omega) (by omega)
  have ec : (nI c).toNatClampNeg = c := nI_clamp (by omega)
  rcases tc_ix v2 hl with hb | ⟨a, ha, rfl⟩
  · exact tx_bc0 hc hn (br_t rfl (tx_ba1 hb (br_f (by decide) (ty_bc0 hc hn (br_t rfl (ty_ba1 hb (br_f (by decide) ⟨rfl, hU⟩)))))))
  have ha8 : vp_in (nI a) 8 := vp_in_nI (by omega) (by omega)
  have hp : vp_in (nI c * 8 + nI a) 32 := tc_pin (by omega) (by omega)
  exact tx_bc0 hc hn (br_t rfl (tx_ba0 ha hl (br_t rfl (tx_pair ⟨hp, tc_nb (hB _), ty_bc0 hc hn (br_t rfl (ty_ba0 ha hl (br_t rfl (⟨hp, tc_nb (hB _), ⟨rfl, hU⟩⟩))))⟩))))
theorem i_vc_advance {k : Nat} {u : SX} {v : SY} (I : i_Rel k u v) (hk : k + 5 ≤ 2564) (v1 : Int32) (v2 : Int32) : wpX_advance (fun r u' => wpY_advance (fun r' v' => r' = r ∧ i_Rel (k + 5) u' v') v v1 v2) u v1 v2 := by
  obtain ⟨rfl, hJ⟩ := I
  have hU : i_Rel (k + 5) u u := i_up ⟨rfl, hJ⟩
  obtain ⟨fc, fl, fe, fw, fn, cl, ph, pk, pa, po, qw, qu, cs, cw, cu, rc, ho, hw, hu, wb, bw, bu, lc, lk, la, lo, lv, lt⟩ := u
  obtain ⟨nc, nl, le, ne, rfl, rfl, rfl, rfl, hI⟩ := hJ
  obtain ⟨hD, hP, hQ, hO, hB, hT, hL⟩ := id hI
  obtain ⟨d1, d2, d3, d4, d5, d6⟩ := id hD
  obtain ⟨t1, t2, t3, t4, t5, t6, t7, t8, t9⟩ := id hT
  have hn : nc < 2 ^ 31 := by omega
  have hl : nl < 2 ^ 31 := by omega
  have hne : ne ≤ 64 := by omega
  have up : 1000 + 20 * k ≤ 1000 + 20 * (k + 5) := by omega
  unfold wpX_advance wpY_advance
  rcases tc_ix v1 hn with hb | ⟨c, hc, rfl⟩
  · exact tx_bc1 hb (br_f (by decide) (ty_bc1 hb (br_f (by decide) ⟨rfl, hU⟩)))
  have hc4 : vp_in (nI c) 4 := vp_in_nI (by omega) (by omega)
  have ec : (nI c).toNatClampNeg = c := nI_clamp (by omega)
  refine tx_bc0 hc hn (br_t rfl (?_))
  by_cases h1 : v2 < 1
  · exact br_t h1 (ty_bc0 hc hn (br_t rfl (br_t h1 ⟨rfl, hU⟩)))
  by_cases h2 : v2 ≤ 64
  · refine br_f h1 (br_t h2 ⟨hc4, ?_⟩)
    obtain ⟨s, hs, rfl⟩ := nI_of2 (x := v2) (M := 64) (n := 64) rfl (fun z => h1 (Int32.lt_trans z (by decide))) h2
    by_cases h3 : ph (nI c).toNatClampNeg = 0
    · refine br_t h3 ⟨hc4, ?_⟩
      by_cases h4 : cl (nI c).toNatClampNeg + nI s ≤ 1000
      · exact br_t h4 ⟨hc4, hc4, nm_e (ty_bc0 hc hn (br_t rfl (br_f h1 (br_t h2 ⟨hc4, br_t h3 ⟨hc4, br_t h4 ⟨hc4, hc4, nm_e ⟨rfl, rfl, nc, nl, le, ne, rfl, rfl, rfl, rfl, ⟨hD, hP, hQ, hO, hB, ⟨tc_T_u (tc_T_up up t1) (tc_t_up (by omega) (tc_t_add s (t1 _))), tc_T_up up t2, tc_T_up up t3, tc_T_up up t4, tc_T_up up t5, tc_T_up up t6, tc_T_up up t7, tc_T_up up t8, tc_T_up up t9⟩, hL⟩⟩⟩⟩⟩))))⟩
      · exact br_f h4 (ty_bc0 hc hn (br_t rfl (br_f h1 (br_t h2 ⟨hc4, br_t h3 ⟨hc4, br_f h4 ⟨rfl, hU⟩⟩⟩))))
    · exact br_f h3 (ty_bc0 hc hn (br_t rfl (br_f h1 (br_t h2 ⟨hc4, br_f h3 ⟨rfl, hU⟩⟩))))
  · exact br_f h1 (br_f h2 (ty_bc0 hc hn (br_t rfl (br_f h1 (br_f h2 ⟨rfl, hU⟩)))))
theorem i_vc_evict {k : Nat} {u : SX} {v : SY} (I : i_Rel k u v) (hk : k + 5 ≤ 2564) (v1 : Int32) (v2 : Int32) : wpX_evict (fun r u' => wpY_evict (fun r' v' => r' = r ∧ i_Rel (k + 5) u' v') v v1 v2) u v1 v2 := by
  obtain ⟨rfl, hJ⟩ := I
  have hU : i_Rel (k + 5) u u := i_up ⟨rfl, hJ⟩
  obtain ⟨fc, fl, fe, fw, fn, cl, ph, pk, pa, po, qw, qu, cs, cw, cu, rc, ho, hw, hu, wb, bw, bu, lc, lk, la, lo, lv, lt⟩ := u
  obtain ⟨nc, nl, le, ne, rfl, rfl, rfl, rfl, hI⟩ := hJ
  obtain ⟨hD, hP, hQ, hO, hB, hT, hL⟩ := id hI
  obtain ⟨d1, d2, d3, d4, d5, d6⟩ := id hD
  obtain ⟨t1, t2, t3, t4, t5, t6, t7, t8, t9⟩ := id hT
  have hn : nc < 2 ^ 31 := by omega
  have hl : nl < 2 ^ 31 := by omega
  have hne : ne ≤ 64 := by omega
  have up : 1000 + 20 * k ≤ 1000 + 20 * (k + 5) := by omega
  unfold wpX_evict wpY_evict
  rcases tc_ix v1 hn with hb | ⟨c, hc, rfl⟩
  · exact tx_bc1 hb (br_f (by decide) (ty_bc1 hb (br_f (by decide) ⟨rfl, hU⟩)))
  have hc4 : vp_in (nI c) 4 := vp_in_nI (by omega) (by omega)
  have ec : (nI c).toNatClampNeg = c := nI_clamp (by omega)
  rcases tc_ix v2 hl with hb | ⟨a, ha, rfl⟩
  · exact tx_bc0 hc hn (br_t rfl (tx_ba1 hb (br_f (by decide) (ty_bc0 hc hn (br_t rfl (ty_ba1 hb (br_f (by decide) ⟨rfl, hU⟩)))))))
  have ha8 : vp_in (nI a) 8 := vp_in_nI (by omega) (by omega)
  have hp : vp_in (nI c * 8 + nI a) 32 := tc_pin (by omega) (by omega)
  refine tx_bc0 hc hn (br_t rfl (tx_ba0 ha hl (br_t rfl (⟨hc4, ?_⟩))))
  by_cases h0 : ph (nI c).toNatClampNeg = 0
  · refine br_t h0 (tx_pair ⟨hp, nm_e ?_⟩)
    by_cases h1 : cs (nI c * 8 + nI a).toNatClampNeg = 0
    · exact br_t h1 (ty_bc0 hc hn (br_t rfl (ty_ba0 ha hl (br_t rfl (⟨hc4, br_t h0 ⟨hp, nm_e (br_t h1 ⟨rfl, hU⟩)⟩⟩)))))
    · refine br_f h1 ⟨hp, nm_e ?_⟩
      by_cases h2 : cs (nI c * 8 + nI a).toNatClampNeg = 1
      · exact br_t h2 (ty_bc0 hc hn (br_t rfl (ty_ba0 ha hl (br_t rfl (⟨hc4, br_t h0 ⟨hp, nm_e (br_f h1 ⟨hp, nm_e (br_t h2 ⟨rfl, rfl, nc, nl, le, ne, rfl, rfl, rfl, rfl, tc_I_up hI⟩)⟩)⟩⟩)))))
      · exact br_f h2 (tx_wb ha8 hp (ty_bc0 hc hn (br_t rfl (ty_ba0 ha hl (br_t rfl (⟨hc4, br_t h0 ⟨hp, nm_e (br_f h1 ⟨hp, nm_e (br_f h2 (ty_wb ha8 hp ⟨rfl, rfl, nc, nl, le, ne, rfl, rfl, rfl, rfl, ⟨hD, hP, hQ, hO, hB, ⟨tc_T_up up t1, tc_T_up up t2, tc_T_up up t3, tc_T_up up t4, tc_T_up up t5, tc_T_up up t6, tc_T_up up t7, tc_T_u (tc_T_up up t8) (tc_t_up up (t4 _)), tc_T_u (tc_T_up up t9) (tc_t_up up (t5 _))⟩, hL⟩⟩))⟩)⟩⟩))))))
  · exact br_f h0 (ty_bc0 hc hn (br_t rfl (ty_ba0 ha hl (br_t rfl (⟨hc4, br_f h0 ⟨rfl, hU⟩⟩)))))
theorem i_vc_deliverRecall {k : Nat} {u : SX} {v : SY} (I : i_Rel k u v) (hk : k + 5 ≤ 2564) (v1 : Int32) (v2 : Int32) : wpX_deliverRecall (fun r u' => wpY_deliverRecall (fun r' v' => r' = r ∧ i_Rel (k + 5) u' v') v v1 v2) u v1 v2 := by
  obtain ⟨rfl, hJ⟩ := I
  have hU : i_Rel (k + 5) u u := i_up ⟨rfl, hJ⟩
  obtain ⟨fc, fl, fe, fw, fn, cl, ph, pk, pa, po, qw, qu, cs, cw, cu, rc, ho, hw, hu, wb, bw, bu, lc, lk, la, lo, lv, lt⟩ := u
  obtain ⟨nc, nl, le, ne, rfl, rfl, rfl, rfl, hI⟩ := hJ
  obtain ⟨hD, hP, hQ, hO, hB, hT, hL⟩ := id hI
  obtain ⟨d1, d2, d3, d4, d5, d6⟩ := id hD
  obtain ⟨t1, t2, t3, t4, t5, t6, t7, t8, t9⟩ := id hT
  have hn : nc < 2 ^ 31 := by omega
  have hl : nl < 2 ^ 31 := by omega
  have hne : ne ≤ 64 := by omega
  have up : 1000 + 20 * k ≤ 1000 + 20 * (k + 5) := by omega
  unfold wpX_deliverRecall wpY_deliverRecall
  rcases tc_ix v1 hn with hb | ⟨c, hc, rfl⟩
  · exact tx_bc1 hb (br_f (by decide) (ty_bc1 hb (br_f (by decide) ⟨rfl, hU⟩)))
  have hc4 : vp_in (nI c) 4 := vp_in_nI (by omega) (by omega)
  have ec : (nI c).toNatClampNeg = c := nI_clamp (by omega)
  rcases tc_ix v2 hl with hb | ⟨a, ha, rfl⟩
  · exact tx_bc0 hc hn (br_t rfl (tx_ba1 hb (br_f (by decide) (ty_bc0 hc hn (br_t rfl (ty_ba1 hb (br_f (by decide) ⟨rfl, hU⟩)))))))
  have ha8 : vp_in (nI a) 8 := vp_in_nI (by omega) (by omega)
  have hp : vp_in (nI c * 8 + nI a) 32 := tc_pin (by omega) (by omega)
  refine tx_bc0 hc hn (br_t rfl (tx_ba0 ha hl (br_t rfl (tx_pair ⟨hp, ?_⟩))))
  by_cases h0 : rc (nI c * 8 + nI a).toNatClampNeg = 0
  · exact br_t h0 (ty_bc0 hc hn (br_t rfl (ty_ba0 ha hl (br_t rfl (nm_e ⟨hp, br_t h0 ⟨rfl, hU⟩⟩)))))
  · refine br_f h0 ⟨hp, nm_e ⟨hp, ?_⟩⟩
    by_cases h1 : cs (nI c * 8 + nI a).toNatClampNeg = 2
    · exact br_t h1 ⟨hp, nm_e (tx_wb ha8 hp (ty_bc0 hc hn (br_t rfl (ty_ba0 ha hl (br_t rfl (nm_e ⟨hp, br_f h0 ⟨hp, nm_e ⟨hp, br_t h1 ⟨hp, nm_e (ty_wb ha8 hp ⟨rfl, rfl, nc, nl, le, ne, rfl, rfl, rfl, rfl, ⟨hD, hP, hQ, hO, tc_B_u hB tc_b0, ⟨tc_T_up up t1, tc_T_up up t2, tc_T_up up t3, tc_T_up up t4, tc_T_up up t5, tc_T_up up t6, tc_T_up up t7, tc_T_u (tc_T_up up t8) (tc_t_up up (t4 _)), tc_T_u (tc_T_up up t9) (tc_t_up up (t5 _))⟩, hL⟩⟩)⟩⟩⟩⟩))))))⟩
    · exact br_f h1 (ty_bc0 hc hn (br_t rfl (ty_ba0 ha hl (br_t rfl (nm_e ⟨hp, br_f h0 ⟨hp, nm_e ⟨hp, br_f h1 ⟨rfl, rfl, nc, nl, le, ne, rfl, rfl, rfl, rfl, ⟨hD, hP, hQ, hO, tc_B_u hB tc_b0, ⟨tc_T_up up t1, tc_T_up up t2, tc_T_up up t3, tc_T_up up t4, tc_T_up up t5, tc_T_up up t6, tc_T_up up t7, tc_T_up up t8, tc_T_up up t9⟩, hL⟩⟩⟩⟩⟩)))))
theorem i_vc_deliverWriteBack {k : Nat} {u : SX} {v : SY} (I : i_Rel k u v) (hk : k + 5 ≤ 2564) (v1 : Int32) : wpX_deliverWriteBack (fun r u' => wpY_deliverWriteBack (fun r' v' => r' = r ∧ i_Rel (k + 5) u' v') v v1) u v1 := by
  obtain ⟨rfl, hJ⟩ := I
  have hU : i_Rel (k + 5) u u := i_up ⟨rfl, hJ⟩
  obtain ⟨fc, fl, fe, fw, fn, cl, ph, pk, pa, po, qw, qu, cs, cw, cu, rc, ho, hw, hu, wb, bw, bu, lc, lk, la, lo, lv, lt⟩ := u
  obtain ⟨nc, nl, le, ne, rfl, rfl, rfl, rfl, hI⟩ := hJ
  obtain ⟨hD, hP, hQ, hO, hB, hT, hL⟩ := id hI
  obtain ⟨d1, d2, d3, d4, d5, d6⟩ := id hD
  obtain ⟨t1, t2, t3, t4, t5, t6, t7, t8, t9⟩ := id hT
  have hn : nc < 2 ^ 31 := by omega
  have hl : nl < 2 ^ 31 := by omega
  have hne : ne ≤ 64 := by omega
  have up : 1000 + 20 * k ≤ 1000 + 20 * (k + 5) := by omega
  unfold wpX_deliverWriteBack wpY_deliverWriteBack
  rcases tc_ix v1 hl with hb | ⟨a, ha, rfl⟩
  · exact tx_ba1 hb (br_f (by decide) (ty_ba1 hb (br_f (by decide) ⟨rfl, hU⟩)))
  have ha8 : vp_in (nI a) 8 := vp_in_nI (by omega) (by omega)
  refine tx_ba0 ha hl (br_t rfl (⟨ha8, ?_⟩))
  by_cases h0 : wb (nI a).toNatClampNeg = 0
  · exact br_t h0 (ty_ba0 ha hl (br_t rfl (⟨ha8, br_t h0 ⟨rfl, hU⟩⟩)))
  · exact br_f h0 ⟨ha8, nm_e ⟨ha8, ha8, nm_e ⟨ha8, ha8, nm_e ⟨ha8, nm_e (ty_ba0 ha hl (br_t rfl (⟨ha8, br_f h0 ⟨ha8, nm_e ⟨ha8, ha8, nm_e ⟨ha8, ha8, nm_e ⟨ha8, nm_e ⟨rfl, rfl, nc, nl, le, ne, rfl, rfl, rfl, rfl, ⟨hD, hP, hQ, tc_O_u hO (Or.inl rfl), hB, ⟨tc_T_up up t1, tc_T_up up t2, tc_T_up up t3, tc_T_up up t4, tc_T_up up t5, tc_T_u (tc_T_up up t6) (tc_t_up up (t8 _)), tc_T_u (tc_T_up up t7) (tc_t_up up (t9 _)), tc_T_up up t8, tc_T_up up t9⟩, hL⟩⟩⟩⟩⟩⟩⟩)))⟩⟩⟩⟩
end
