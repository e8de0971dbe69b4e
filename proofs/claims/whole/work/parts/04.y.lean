section
variable {nc nl le ne : Nat} {fw : Int32} {cl ph pk pa po qw qu cs cw cu rc ho hw hu wb bw bu lc lk la lo lv lt : Nat → Int32}
theorem ty_lg {post : Int32 → Prop} {x y : Int32} (h : post (tc_mx x y)) : wpY_larger post (nI nc, nI nl, nI le, fw, nI ne, cl, ph, pk, pa, po, qw, qu, cs, cw, cu, rc, ho, hw, hu, wb, bw, bu, lc, lk, la, lo, lv, lt) x y := by
  unfold wpY_larger
  by_cases e : x ≤ y
  · rw [tc_mx_t e] at h; exact br_t e h
  · rw [tc_mx_f e] at h; exact br_f e h
theorem ty_bc0 {post : Int32 → Prop} {c : Nat} (hc : c < nc) (hn : nc < 2 ^ 31) (hp : post 0) : wpY_badCore post (nI nc, nI nl, nI le, fw, nI ne, cl, ph, pk, pa, po, qw, qu, cs, cw, cu, rc, ho, hw, hu, wb, bw, bu, lc, lk, la, lo, lv, lt) (nI c) := by
  unfold wpY_badCore
  exact br_f (nI_pos (Nat.lt_trans hc hn)) (br_t (nI_lt hc hn) hp)
theorem ty_bc1 {post : Int32 → Prop} {x : Int32} (h : x < 0 ∨ nI nc ≤ x) (hp : post 1) : wpY_badCore post (nI nc, nI nl, nI le, fw, nI ne, cl, ph, pk, pa, po, qw, qu, cs, cw, cu, rc, ho, hw, hu, wb, bw, bu, lc, lk, la, lo, lv, lt) x := by
  unfold wpY_badCore
  by_cases h0 : x < 0
  · exact br_t h0 hp
  · exact br_f h0 (br_f (Int32.not_lt.mpr (h.resolve_left h0)) hp)
theorem ty_ba0 {post : Int32 → Prop} {a : Nat} (ha : a < nl) (hn : nl < 2 ^ 31) (hp : post 0) : wpY_badAddress post (nI nc, nI nl, nI le, fw, nI ne, cl, ph, pk, pa, po, qw, qu, cs, cw, cu, rc, ho, hw, hu, wb, bw, bu, lc, lk, la, lo, lv, lt) (nI a) := by
  unfold wpY_badAddress
  exact br_f (nI_pos (Nat.lt_trans ha hn)) (br_t (nI_lt ha hn) hp)
theorem ty_ba1 {post : Int32 → Prop} {x : Int32} (h : x < 0 ∨ nI nl ≤ x) (hp : post 1) : wpY_badAddress post (nI nc, nI nl, nI le, fw, nI ne, cl, ph, pk, pa, po, qw, qu, cs, cw, cu, rc, ho, hw, hu, wb, bw, bu, lc, lk, la, lo, lv, lt) x := by
  unfold wpY_badAddress
  by_cases h0 : x < 0
  · exact br_t h0 hp
  · exact br_f h0 (br_f (Int32.not_lt.mpr (h.resolve_left h0)) hp)
theorem ty_val {post : Int32 → Prop} {adr w r : Int32} (h : tc_FM lk la lt lv adr w ne r) (hne : ne ≤ 64) (hp : post r) : wpY_valueOf post (nI nc, nI nl, nI le, fw, nI ne, cl, ph, pk, pa, po, qw, qu, cs, cw, cu, rc, ho, hw, hu, wb, bw, bu, lc, lk, la, lo, lv, lt) adr w := by
  have L : ∀ d i : Nat, i + d = ne → (∀ j, j < i → ¬ (tc_V lk la adr j ∧ lt j = w)) → wY_valueOf_2 post adr w (nI nc) (nI nl) (nI le) fw (nI ne) cl ph pk pa po qw qu cs cw cu rc ho hw hu wb bw bu lc lk la lo lv lt (d + 1) (nI i) := by
    intro d
    induction d with
    | zero =>
      intro i hi hf
      have e : i = ne := by omega
      subst e
      have r0 := tc_F1_miss h hf
      rw [r0] at hp
      exact br_t (Int32.le_refl _) hp
    | succ d ih =>
      intro i hi hf
      have e : (nI i).toNatClampNeg = i := nI_clamp (by omega)
      have hv : vp_in (nI i) 64 := vp_in_nI (by omega) (by omega)
      have hlt : ¬ nI ne ≤ nI i := nI_ge (by omega) (by omega)
      refine br_f hlt ⟨hv, ?_⟩
      rw [e]
      by_cases ha : la i = adr
      · refine br_t ha ⟨hv, ?_⟩
        by_cases hk : lk i = 1
        · exact br_t hk (nm_r (nI_1 i) (ih (i + 1) (by omega) (tc_not_s hf (fun z => z.1.2 hk))))
        · refine br_f hk ⟨hv, ?_⟩
          by_cases hw : lt i = w
          · have r0 := tc_F1_hit h (by omega) ⟨⟨ha, hk⟩, hw⟩ hf
            rw [r0] at hp
            exact br_t hw ⟨hv, hp⟩
          · exact br_f hw (nm_r (nI_1 i) (ih (i + 1) (by omega) (tc_not_s hf (fun z => hw z.2))))
      · exact br_f ha (nm_r (nI_1 i) (ih (i + 1) (by omega) (tc_not_s hf (fun z => ha z.1.1))))
  unfold wpY_valueOf
  exact ⟨ne + 1, L ne 0 (by omega) (fun j hj => absurd hj (Nat.not_lt_zero j))⟩
theorem ty_lat {post : Int32 → Prop} {adr : Int32} (hne : ne ≤ 64) (H : ∀ n : Nat, wY_line_77 post adr (nI nc) (nI nl) (nI le) fw (nI ne) cl ph pk pa po qw qu cs cw cu rc ho hw hu wb bw bu lc lk la lo lv lt (n + 1) (tc_gr lk la lt adr ne) (nI ne)) : ∃ n : Nat, wY_line_77 post adr (nI nc) (nI nl) (nI le) fw (nI ne) cl ph pk pa po qw qu cs cw cu rc ho hw hu wb bw bu lc lk la lo lv lt n 0 0 := by
  have L : ∀ d i : Nat, i + d = ne → wY_line_77 post adr (nI nc) (nI nl) (nI le) fw (nI ne) cl ph pk pa po qw qu cs cw cu rc ho hw hu wb bw bu lc lk la lo lv lt (d + 1) (tc_gr lk la lt adr i) (nI i) := by
    intro d
    induction d with
    | zero =>
      intro i hi
      have e : i = ne := by omega
      subst e
      exact H 0
    | succ d ih =>
      intro i hi
      have e : (nI i).toNatClampNeg = i := nI_clamp (by omega)
      have hv : vp_in (nI i) 64 := vp_in_nI (by omega) (by omega)
      have hlt : ¬ nI ne ≤ nI i := nI_ge (by omega) (by omega)
      have I := ih (i + 1) (by omega)
      refine br_f hlt ⟨hv, ?_⟩
      rw [e]
      by_cases ha : la i = adr
      · refine br_t ha ⟨hv, ?_⟩
        by_cases hk : lk i = 1
        · have hn : ¬ ((la i = adr ∧ ¬ lk i = 1) ∧ tc_gr lk la lt adr i < lt i) := fun z => z.1.2 hk
          rw [tc_gr_f hn] at I
          exact br_t hk (nm_r (nI_1 i) I)
        · rw [← tc_mx_gr ⟨ha, hk⟩] at I
          exact br_f hk ⟨hv, ty_lg (nm_r (nI_1 i) I)⟩
      · have hn : ¬ ((la i = adr ∧ ¬ lk i = 1) ∧ tc_gr lk la lt adr i < lt i) := fun z => ha z.1.1
        rw [tc_gr_f hn] at I
        exact br_f ha (nm_r (nI_1 i) I)
  exact ⟨ne + 1, L ne 0 (by omega)⟩
theorem ty_49 {post : Int32 → SY → Prop} {x1 x2 x3 x4 : Int32} (hn : nc ≤ 4) (H : ∀ n : Nat, wY_issue_49 post x1 x2 x3 x4 (nI nc) (nI nl) (nI le) fw (nI ne) cl ph pk pa po qw qu cs cw cu rc ho hw hu wb bw bu lc lk la lo lv lt (n + 1) (nI (ne + tc_cnt ph nc)) (nI nc)) : ∃ n : Nat, wY_issue_49 post x1 x2 x3 x4 (nI nc) (nI nl) (nI le) fw (nI ne) cl ph pk pa po qw qu cs cw cu rc ho hw hu wb bw bu lc lk la lo lv lt n (nI ne) 0 := by
  have L : ∀ d i : Nat, i + d = nc → wY_issue_49 post x1 x2 x3 x4 (nI nc) (nI nl) (nI le) fw (nI ne) cl ph pk pa po qw qu cs cw cu rc ho hw hu wb bw bu lc lk la lo lv lt (d + 1) (nI (ne + tc_cnt ph i)) (nI i) := by
    intro d
    induction d with
    | zero =>
      intro i hi
      have e : i = nc := by omega
      subst e
      exact H 0
    | succ d ih =>
      intro i hi
      have e : (nI i).toNatClampNeg = i := nI_clamp (by omega)
      have hv : vp_in (nI i) 4 := vp_in_nI (by omega) (by omega)
      have hlt : ¬ nI nc ≤ nI i := nI_ge (by omega) (by omega)
      have I := ih (i + 1) (by omega)
      refine br_f hlt ⟨hv, ?_⟩
      rw [e]
      by_cases h0 : ph i = 0
      · rw [tc_cnt_z h0] at I
        exact br_t h0 (nm_r (nI_1 i) I)
      · rw [tc_cnt_s h0] at I
        exact br_f h0 (nm_r (nI_1 _) (nm_r (nI_1 i) I))
  exact ⟨nc + 1, L nc 0 (by omega)⟩
theorem ty_168 {post : Int32 → SY → Prop} {x2 x3 x6 x7 : Int32} {c : Nat} (hc : c < 4) (hn : nl ≤ 8) (H : ∀ n : Nat, wY_issue_168 post (nI c) x2 x3 x6 x7 (nI nc) (nI nl) (nI le) fw (nI ne) cl ph pk pa po qw qu cs cw cu rc ho hw hu wb bw bu lc lk la lo lv lt (n + 1) (nI (tc_cnt (fun j => cs (nI c * 8 + nI j).toNatClampNeg) nl)) (nI nl)) : ∃ n : Nat, wY_issue_168 post (nI c) x2 x3 x6 x7 (nI nc) (nI nl) (nI le) fw (nI ne) cl ph pk pa po qw qu cs cw cu rc ho hw hu wb bw bu lc lk la lo lv lt n 0 0 := by
  have L : ∀ d i : Nat, i + d = nl → wY_issue_168 post (nI c) x2 x3 x6 x7 (nI nc) (nI nl) (nI le) fw (nI ne) cl ph pk pa po qw qu cs cw cu rc ho hw hu wb bw bu lc lk la lo lv lt (d + 1) (nI (tc_cnt (fun j => cs (nI c * 8 + nI j).toNatClampNeg) i)) (nI i) := by
    intro d
    induction d with
    | zero =>
      intro i hi
      have e : i = nl := by omega
      subst e
      exact H 0
    | succ d ih =>
      intro i hi
      have hv : vp_in (nI c * 8 + nI i) 32 := tc_pin hc (by omega)
      have hlt : ¬ nI nl ≤ nI i := nI_ge (by omega) (by omega)
      have I := ih (i + 1) (by omega)
      refine br_f hlt ⟨hv, ?_⟩
      by_cases h0 : cs (nI c * 8 + nI i).toNatClampNeg = 0
      · rw [tc_cnt_z (f := fun j => cs (nI c * 8 + nI j).toNatClampNeg) h0] at I
        exact br_t h0 (nm_r (nI_1 i) I)
      · rw [tc_cnt_s (f := fun j => cs (nI c * 8 + nI j).toNatClampNeg) h0] at I
        exact br_f h0 (nm_r (nI_1 _) (nm_r (nI_1 i) I))
  exact ⟨nl + 1, L nl 0 (by omega)⟩
theorem ty_29 {post : Int32 → Prop} {J : Int32 → Prop} {x1 : Int32} {i : Nat} (hi : i < ne) (hne : ne ≤ 64) (H : ∀ n : Nat, wY_ordered_29 post J x1 (nI i) (nI nc) (nI nl) (nI le) fw (nI ne) cl ph pk pa po qw qu cs cw cu rc ho hw hu wb bw bu lc lk la lo lv lt (n + 1) (nI (tc_rk lt i ne)) (nI ne)) : ∃ n : Nat, wY_ordered_29 post J x1 (nI i) (nI nc) (nI nl) (nI le) fw (nI ne) cl ph pk pa po qw qu cs cw cu rc ho hw hu wb bw bu lc lk la lo lv lt n 0 0 := by
  have ei : (nI i).toNatClampNeg = i := nI_clamp (by omega)
  have vi : vp_in (nI i) 64 := vp_in_nI (by omega) (by omega)
  have L : ∀ d j : Nat, j + d = ne → wY_ordered_29 post J x1 (nI i) (nI nc) (nI nl) (nI le) fw (nI ne) cl ph pk pa po qw qu cs cw cu rc ho hw hu wb bw bu lc lk la lo lv lt (d + 1) (nI (tc_rk lt i j)) (nI j) := by
    intro d
    induction d with
    | zero =>
      intro j hj
      have e : j = ne := by omega
      subst e
      exact H 0
    | succ d ih =>
      intro j hj
      have ej : (nI j).toNatClampNeg = j := nI_clamp (by omega)
      have vj : vp_in (nI j) 64 := vp_in_nI (by omega) (by omega)
      have hlt : ¬ nI ne ≤ nI j := nI_ge (by omega) (by omega)
      have I := ih (j + 1) (by omega)
      refine br_f hlt ⟨vj, vi, ?_⟩
      rw [ei, ej]
      by_cases h1 : lt j < lt i
      · rw [tc_rk_t (Or.inl h1)] at I
        exact br_t h1 (nm_r (nI_1 _) (nm_r (nI_1 j) I))
      · refine br_f h1 ⟨vj, vi, ?_⟩
        by_cases he : lt j = lt i
        · refine br_t he ?_
          by_cases hij : j < i
          · rw [tc_rk_t (Or.inr ⟨he, hij⟩)] at I
            exact br_f (nI_ge hij (by omega)) (nm_r (nI_1 _) (nm_r (nI_1 j) I))
          · have hn : ¬ (lt j < lt i ∨ (lt j = lt i ∧ j < i)) := fun z => z.elim h1 (fun y => hij y.2)
            rw [tc_rk_f hn] at I
            exact br_t (nI_le (by omega) (by omega)) (nm_r (nI_1 j) I)
        · have hn : ¬ (lt j < lt i ∨ (lt j = lt i ∧ j < i)) := fun z => z.elim h1 (fun y => he y.1)
          rw [tc_rk_f hn] at I
          exact br_f he (nm_r (nI_1 j) I)
  exact ⟨ne + 1, L ne 0 (by omega)⟩
theorem ty_140 {post : SY → Prop} {x1 kd x3 op vl tm : Int32} (h1 : vp_in x1 4) (hn : vp_in (nI ne) 64) (hq : post (nI nc, nI nl, nI le, fw, nI ne + 1, upd cl x1.toNatClampNeg tm, ph, pk, pa, po, qw, qu, cs, cw, cu, rc, ho, hw, hu, wb, bw, bu, upd lc (nI ne).toNatClampNeg x1, upd lk (nI ne).toNatClampNeg kd, upd la (nI ne).toNatClampNeg x3, upd lo (nI ne).toNatClampNeg op, upd lv (nI ne).toNatClampNeg vl, upd lt (nI ne).toNatClampNeg tm)) : wY_commit_140 post x1 kd x3 op tm vl (nI nc) (nI nl) (nI le) fw (nI ne) cl ph pk pa po qw qu cs cw cu rc ho hw hu wb bw bu lc lk la lo lv lt := by
  unfold wY_commit_140
  exact ⟨h1, nm_e ⟨hn, nm_e ⟨hn, nm_e ⟨hn, nm_e ⟨hn, nm_e ⟨hn, nm_e ⟨hn, nm_e (nm_e hq)⟩⟩⟩⟩⟩⟩⟩
theorem ty_cm {post : SY → Prop} {x1 kd x3 op r tm vl : Int32} {dw du : Nat → Int32} (h1 : vp_in x1 4) (hp : vp_in (x1 * 8 + x3) 32) (hn : vp_in (nI ne) 64) (hne : ne ≤ 64) (hfm : tc_FM lk la lt lv x3 (cw (x1 * 8 + x3).toNatClampNeg) ne r) (hcm : tc_CM kd op r (cs (x1 * 8 + x3).toNatClampNeg) (cl x1.toNatClampNeg) (x1 * 8 + x3).toNatClampNeg cw cu dw du tm vl) (hq : post (nI nc, nI nl, nI le, fw, nI ne + 1, upd cl x1.toNatClampNeg tm, ph, pk, pa, po, qw, qu, cs, dw, du, rc, ho, hw, hu, wb, bw, bu, upd lc (nI ne).toNatClampNeg x1, upd lk (nI ne).toNatClampNeg kd, upd la (nI ne).toNatClampNeg x3, upd lo (nI ne).toNatClampNeg op, upd lv (nI ne).toNatClampNeg vl, upd lt (nI ne).toNatClampNeg tm)) : wpY_commit post (nI nc, nI nl, nI le, fw, nI ne, cl, ph, pk, pa, po, qw, qu, cs, cw, cu, rc, ho, hw, hu, wb, bw, bu, lc, lk, la, lo, lv, lt) x1 kd x3 op := by
  unfold wpY_commit
  refine nm_e ⟨hp, ty_val hfm hne ?_⟩
  rcases hcm with ⟨hk, hs, e3, e1, e2, e4⟩ | ⟨hk, hs, e3, e1, e2, e4⟩ | ⟨hk, e3, e1, e2, e4⟩ | ⟨hk, e3, e1, e2, e4⟩
  · subst hk e4 e1 e2 e3
    refine br_t rfl ⟨h1, hp, ty_lg ⟨hp, br_t hs ⟨hp, ty_lg ⟨hp, nm_e ?_⟩⟩⟩⟩
    unfold wY_commit_77
    exact ty_140 h1 hn hq
  · subst hk e4 e1 e2 e3
    refine br_t rfl ⟨h1, hp, ty_lg ⟨hp, br_f hs ?_⟩⟩
    unfold wY_commit_77
    exact ty_140 h1 hn hq
  · subst hk e4 e1 e2 e3
    refine br_f (by decide) ⟨h1, hp, ty_lg (br_t rfl ?_)⟩
    unfold wY_commit_120
    exact ⟨hp, nm_e ⟨hp, nm_e (ty_140 h1 hn hq)⟩⟩
  · subst hk e4 e1 e2 e3
    refine br_f (by decide) ⟨h1, hp, ty_lg (br_f (by decide) ?_)⟩
    unfold wY_commit_120
    exact ⟨hp, nm_e ⟨hp, nm_e (ty_140 h1 hn hq)⟩⟩
theorem ty_wb {post : SY → Prop} {y x : Int32} (h8 : vp_in x 8) (hp : vp_in (y * 8 + x) 32) (hq : post (nI nc, nI nl, nI le, fw, nI ne, cl, ph, pk, pa, po, qw, qu, cs, cw, cu, rc, ho, hw, hu, upd wb x.toNatClampNeg (vp_nar .boolean 1), upd bw x.toNatClampNeg (cw (y * 8 + x).toNatClampNeg), upd bu x.toNatClampNeg (cu (y * 8 + x).toNatClampNeg), lc, lk, la, lo, lv, lt)) : wpY_sendBack post (nI nc, nI nl, nI le, fw, nI ne, cl, ph, pk, pa, po, qw, qu, cs, cw, cu, rc, ho, hw, hu, wb, bw, bu, lc, lk, la, lo, lv, lt) y x := by
  unfold wpY_sendBack
  exact ⟨h8, nm_e ⟨hp, h8, nm_e ⟨hp, h8, nm_e hq⟩⟩⟩
theorem ty_sr {post : Int32 → SY → Prop} {x1 x2 z : Int32} (h1 : vp_in x1 4) (h8 : vp_in x2 8) (hp : vp_in (x1 * 8 + x2) 32) (hz : (z = 4 ∧ ¬ cs (x1 * 8 + x2).toNatClampNeg = 0 ∧ cw (x1 * 8 + x2).toNatClampNeg = hw x2.toNatClampNeg) ∨ (z = 5 ∧ (cs (x1 * 8 + x2).toNatClampNeg = 0 ∨ ¬ cw (x1 * 8 + x2).toNatClampNeg = hw x2.toNatClampNeg))) (hq : post (upd ph x1.toNatClampNeg z x1.toNatClampNeg) (nI nc, nI nl, nI le, fw, nI ne, cl, upd ph x1.toNatClampNeg z, pk, pa, po, upd qw x1.toNatClampNeg (hw x2.toNatClampNeg), upd qu x1.toNatClampNeg (hu x2.toNatClampNeg), cs, cw, cu, rc, ho, hw, hu, wb, bw, bu, lc, lk, la, lo, lv, lt)) : wY_deliverRequest_128 post x1 x2 (nI nc) (nI nl) (nI le) fw (nI ne) cl ph pk pa po qw qu cs cw cu rc ho hw hu wb bw bu lc lk la lo lv lt := by
  unfold wY_deliverRequest_128
  refine ⟨h8, h1, nm_e ⟨h8, h1, nm_e ⟨hp, ?_⟩⟩⟩
  rcases hz with ⟨rfl, hs, hw'⟩ | ⟨rfl, hs⟩
  · refine br_f hs ⟨hp, h8, br_t hw' ?_⟩
    unfold wY_deliverRequest_191
    exact br_f (by decide) ⟨h1, nm_e ⟨h1, hq⟩⟩
  · by_cases h0 : cs (x1 * 8 + x2).toNatClampNeg = 0
    · refine br_t h0 ?_
      unfold wY_deliverRequest_190 wY_deliverRequest_191
      exact br_t rfl ⟨h1, nm_e ⟨h1, hq⟩⟩
    · refine br_f h0 ⟨hp, h8, br_f (hs.resolve_left h0) ?_⟩
      unfold wY_deliverRequest_190 wY_deliverRequest_191
      exact br_t rfl ⟨h1, nm_e ⟨h1, hq⟩⟩
theorem ty_hit1 {post : Int32 → SY → Prop} {x1 kd x3 op : Int32} (h1 : vp_in x1 4) (hp : vp_in (x1 * 8 + x3) 32) (hh : cs (x1 * 8 + x3).toNatClampNeg = 2 ∨ (kd = 1 ∧ cs (x1 * 8 + x3).toNatClampNeg = 1 ∧ ¬ cu (x1 * 8 + x3).toNatClampNeg < cl x1.toNatClampNeg)) (hq : wY_issue_151 post x1 kd x3 op (nI nc) (nI nl) (nI le) fw (nI ne) cl ph pk pa po qw qu cs cw cu rc ho hw hu wb bw bu lc lk la lo lv lt) : wY_issue_98 post x1 kd x3 op (nI nc) (nI nl) (nI le) fw (nI ne) cl ph pk pa po qw qu cs cw cu rc ho hw hu wb bw bu lc lk la lo lv lt := by
  unfold wY_issue_98
  refine nm_e ⟨hp, ?_⟩
  by_cases h2 : cs (x1 * 8 + x3).toNatClampNeg = 2
  · exact br_t h2 hq
  · have h := hh.resolve_left h2
    exact br_f h2 (br_t h.1 ⟨hp, br_t h.2.1 ⟨h1, hp, br_f h.2.2 hq⟩⟩)
theorem ty_hit0 {post : Int32 → SY → Prop} {x1 kd x3 op : Int32} (h1 : vp_in x1 4) (hp : vp_in (x1 * 8 + x3) 32) (hh : ¬ (cs (x1 * 8 + x3).toNatClampNeg = 2 ∨ (kd = 1 ∧ cs (x1 * 8 + x3).toNatClampNeg = 1 ∧ ¬ cu (x1 * 8 + x3).toNatClampNeg < cl x1.toNatClampNeg))) (hq : ∃ n : Nat, wY_issue_168 post x1 kd x3 op (x1 * 8 + x3) (nI nc) (nI nl) (nI le) fw (nI ne) cl ph pk pa po qw qu cs cw cu rc ho hw hu wb bw bu lc lk la lo lv lt n 0 0) : wY_issue_98 post x1 kd x3 op (nI nc) (nI nl) (nI le) fw (nI ne) cl ph pk pa po qw qu cs cw cu rc ho hw hu wb bw bu lc lk la lo lv lt := by
  unfold wY_issue_98
  refine nm_e ⟨hp, br_f (fun z => hh (Or.inl z)) ?_⟩
  by_cases hk : kd = 1
  · refine br_t hk ⟨hp, ?_⟩
    by_cases hs : cs (x1 * 8 + x3).toNatClampNeg = 1
    · refine br_t hs ⟨h1, hp, ?_⟩
      by_cases hu' : cu (x1 * 8 + x3).toNatClampNeg < cl x1.toNatClampNeg
      · exact br_t hu' hq
      · exact absurd (Or.inr ⟨hk, hs, hu'⟩) hh
    · exact br_f hs hq
  · exact br_f hk hq
theorem ty_223 {post : Int32 → SY → Prop} {x1 kd x3 op : Int32} (h1 : vp_in x1 4) (hq : post 2 (nI nc, nI nl, nI le, fw, nI ne, cl, upd ph x1.toNatClampNeg 10, upd pk x1.toNatClampNeg kd, upd pa x1.toNatClampNeg x3, upd po x1.toNatClampNeg op, qw, qu, cs, cw, cu, rc, ho, hw, hu, wb, bw, bu, lc, lk, la, lo, lv, lt)) : wY_issue_223 post x1 kd x3 op (nI nc) (nI nl) (nI le) fw (nI ne) cl ph pk pa po qw qu cs cw cu rc ho hw hu wb bw bu lc lk la lo lv lt := by
  unfold wY_issue_223
  exact ⟨h1, nm_e ⟨h1, nm_e ⟨h1, nm_e ⟨h1, nm_e hq⟩⟩⟩⟩
end
