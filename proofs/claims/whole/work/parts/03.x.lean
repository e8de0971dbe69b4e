section
variable {nc nl le ne : Nat} {fw : Int32} {cl ph pk pa po qw qu cs cw cu rc ho hw hu wb bw bu lc lk la lo lv lt : Nat → Int32}
theorem tx_pair {post : Int32 → Prop} {x y : Int32} (h : post (x * 8 + y)) : wpX_pairOf post x y := h
theorem tx_lg {post : Int32 → Prop} {x y : Int32} (h : post (tc_mx x y)) : wpX_larger post x y := by
  unfold wpX_larger
  by_cases e : x ≤ y
  · rw [tc_mx_t e] at h; exact br_t e h
  · rw [tc_mx_f e] at h; exact br_f e h
theorem tx_bc0 {post : Int32 → Prop} {c : Nat} (hc : c < nc) (hn : nc < 2 ^ 31) (hp : post 0) : wpX_isBadCore post (nI nc, nI nl, nI le, fw, nI ne, cl, ph, pk, pa, po, qw, qu, cs, cw, cu, rc, ho, hw, hu, wb, bw, bu, lc, lk, la, lo, lv, lt) (nI c) := by
  unfold wpX_isBadCore
  exact br_f (nI_pos (Nat.lt_trans hc hn)) (br_t (nI_lt hc hn) hp)
theorem tx_bc1 {post : Int32 → Prop} {x : Int32} (h : x < 0 ∨ nI nc ≤ x) (hp : post 1) : wpX_isBadCore post (nI nc, nI nl, nI le, fw, nI ne, cl, ph, pk, pa, po, qw, qu, cs, cw, cu, rc, ho, hw, hu, wb, bw, bu, lc, lk, la, lo, lv, lt) x := by
  unfold wpX_isBadCore
  by_cases h0 : x < 0
  · exact br_t h0 hp
  · exact br_f h0 (br_f (Int32.not_lt.mpr (h.resolve_left h0)) hp)
theorem tx_ba0 {post : Int32 → Prop} {a : Nat} (ha : a < nl) (hn : nl < 2 ^ 31) (hp : post 0) : wpX_isBadAddress post (nI nc, nI nl, nI le, fw, nI ne, cl, ph, pk, pa, po, qw, qu, cs, cw, cu, rc, ho, hw, hu, wb, bw, bu, lc, lk, la, lo, lv, lt) (nI a) := by
  unfold wpX_isBadAddress
  exact br_f (nI_pos (Nat.lt_trans ha hn)) (br_t (nI_lt ha hn) hp)
theorem tx_ba1 {post : Int32 → Prop} {x : Int32} (h : x < 0 ∨ nI nl ≤ x) (hp : post 1) : wpX_isBadAddress post (nI nc, nI nl, nI le, fw, nI ne, cl, ph, pk, pa, po, qw, qu, cs, cw, cu, rc, ho, hw, hu, wb, bw, bu, lc, lk, la, lo, lv, lt) x := by
  unfold wpX_isBadAddress
  by_cases h0 : x < 0
  · exact br_t h0 hp
  · exact br_f h0 (br_f (Int32.not_lt.mpr (h.resolve_left h0)) hp)
theorem tx_ver1 {post : Int32 → Prop} {i : Nat} {adr : Int32} (hi : i < 64) (hV : tc_V lk la adr i) (hp : post 1) : wpX_isVersionOf post (nI nc, nI nl, nI le, fw, nI ne, cl, ph, pk, pa, po, qw, qu, cs, cw, cu, rc, ho, hw, hu, wb, bw, bu, lc, lk, la, lo, lv, lt) (nI i) adr := by
  have e : (nI i).toNatClampNeg = i := nI_clamp (by omega)
  have hv : vp_in (nI i) 64 := vp_in_nI hi (by omega)
  unfold wpX_isVersionOf
  dsimp only
  rw [e]
  exact ⟨hv, br_t hV.1 ⟨hv, br_f hV.2 hp⟩⟩
theorem tx_ver0 {post : Int32 → Prop} {i : Nat} {adr : Int32} (hi : i < 64) (hV : ¬ tc_V lk la adr i) (hp : post 0) : wpX_isVersionOf post (nI nc, nI nl, nI le, fw, nI ne, cl, ph, pk, pa, po, qw, qu, cs, cw, cu, rc, ho, hw, hu, wb, bw, bu, lc, lk, la, lo, lv, lt) (nI i) adr := by
  have e : (nI i).toNatClampNeg = i := nI_clamp (by omega)
  have hv : vp_in (nI i) 64 := vp_in_nI hi (by omega)
  unfold wpX_isVersionOf
  dsimp only
  rw [e]
  by_cases h1 : la i = adr
  · by_cases h2 : lk i = 1
    · exact ⟨hv, br_t h1 ⟨hv, br_t h2 hp⟩⟩
    · exact absurd ⟨h1, h2⟩ hV
  · exact ⟨hv, br_f h1 hp⟩
theorem tx_val {post : Int32 → Prop} {adr w r : Int32} (h : tc_FM lk la lt lv adr w ne r) (hne : ne ≤ 64) (hp : post r) : wpX_versionValue post (nI nc, nI nl, nI le, fw, nI ne, cl, ph, pk, pa, po, qw, qu, cs, cw, cu, rc, ho, hw, hu, wb, bw, bu, lc, lk, la, lo, lv, lt) adr w := by
  have L : ∀ d i : Nat, i + d = ne → (∀ j, j < i → ¬ (tc_V lk la adr j ∧ lt j = w)) → wX_versionValue_2 post adr w (nI nc) (nI nl) (nI le) fw (nI ne) cl ph pk pa po qw qu cs cw cu rc ho hw hu wb bw bu lc lk la lo lv lt (d + 1) (nI i) := by
    intro d
    induction d with
    | zero =>
      intro i hi hf
      have e : i = ne := by omega
      subst e
      have r0 := tc_F1_miss h hf
      rw [r0] at hp
      exact br_t (Int32.le_refl _) hp
    | succ d ih =>
      intro i hi hf
      have e : (nI i).toNatClampNeg = i := nI_clamp (by omega)
      have hv : vp_in (nI i) 64 := vp_in_nI (by omega) (by omega)
      have hlt : ¬ nI ne ≤ nI i := nI_ge (by omega) (by omega)
      refine br_f hlt ?_
      by_cases hV : tc_V lk la adr i
      · refine tx_ver1 (by omega) hV (br_f (by decide) ⟨hv, ?_⟩)
        rw [e]
        by_cases hw : lt i = w
        · have r0 := tc_F1_hit h (by omega) ⟨hV, hw⟩ hf
          rw [r0] at hp
          exact br_t hw ⟨hv, hp⟩
        · exact br_f hw (nm_r (nI_1 i) (ih (i + 1) (by omega) (tc_not_s hf (fun z => hw z.2))))
      · exact tx_ver0 (by omega) hV (br_t rfl (nm_r (nI_1 i) (ih (i + 1) (by omega) (tc_not_s hf (fun z => hV z.1)))))
  unfold wpX_versionValue
  exact ⟨ne + 1, L ne 0 (by omega) (fun j hj => absurd hj (Nat.not_lt_zero j))⟩
theorem tx_lat {post : Int32 → Prop} {adr : Int32} (hne : ne ≤ 64) (hp : post (tc_gv lk la lt lv adr ne)) : wpX_latestValue post (nI nc, nI nl, nI le, fw, nI ne, cl, ph, pk, pa, po, qw, qu, cs, cw, cu, rc, ho, hw, hu, wb, bw, bu, lc, lk, la, lo, lv, lt) adr := by
  have L : ∀ d i : Nat, i + d = ne → wX_latestValue_7 post adr (nI nc) (nI nl) (nI le) fw (nI ne) cl ph pk pa po qw qu cs cw cu rc ho hw hu wb bw bu lc lk la lo lv lt (d + 1) (tc_gr lk la lt adr i) (tc_gv lk la lt lv adr i) (nI i) := by
    intro d
    induction d with
    | zero =>
      intro i hi
      have e : i = ne := by omega
      subst e
      exact br_t (Int32.le_refl _) hp
    | succ d ih =>
      intro i hi
      have e : (nI i).toNatClampNeg = i := nI_clamp (by omega)
      have hv : vp_in (nI i) 64 := vp_in_nI (by omega) (by omega)
      have hlt : ¬ nI ne ≤ nI i := nI_ge (by omega) (by omega)
      have I := ih (i + 1) (by omega)
      refine br_f hlt ?_
      by_cases hV : tc_V lk la adr i
      · refine tx_ver1 (by omega) hV (br_f (by decide) ⟨hv, ?_⟩)
        rw [e]
        by_cases hg : lt i ≤ tc_gr lk la lt adr i
        · have hn : ¬ ((la i = adr ∧ ¬ lk i = 1) ∧ tc_gr lk la lt adr i < lt i) := fun z => Int32.not_lt.mpr hg z.2
          rw [tc_gr_f hn, tc_gv_f hn] at I
          exact br_t hg (nm_r (nI_1 i) I)
        · have hg' : tc_gr lk la lt adr i < lt i := Int32.not_le.mp hg
          rw [tc_gr_t hV hg', tc_gv_t hV hg'] at I
          exact br_f hg ⟨hv, nm_e ⟨hv, nm_e (nm_r (nI_1 i) I)⟩⟩
      · have hn : ¬ ((la i = adr ∧ ¬ lk i = 1) ∧ tc_gr lk la lt adr i < lt i) := fun z => hV z.1
        rw [tc_gr_f hn, tc_gv_f hn] at I
        exact tx_ver0 (by omega) hV (br_t rfl (nm_r (nI_1 i) I))
  unfold wpX_latestValue
  exact ⟨ne + 1, L ne 0 (by omega)⟩
theorem tx_pc {post : Int32 → Prop} (hn : nc ≤ 4) (hp : post (nI (tc_cnt ph nc))) : wpX_pendingCount post (nI nc, nI nl, nI le, fw, nI ne, cl, ph, pk, pa, po, qw, qu, cs, cw, cu, rc, ho, hw, hu, wb, bw, bu, lc, lk, la, lo, lv, lt) := by
  have L : ∀ d i : Nat, i + d = nc → wX_pendingCount_4 post (nI nc) (nI nl) (nI le) fw (nI ne) cl ph pk pa po qw qu cs cw cu rc ho hw hu wb bw bu lc lk la lo lv lt (d + 1) (nI (tc_cnt ph i)) (nI i) := by
    intro d
    induction d with
    | zero =>
      intro i hi
      have e : i = nc := by omega
      subst e
      exact br_t (Int32.le_refl _) hp
    | succ d ih =>
      intro i hi
      have e : (nI i).toNatClampNeg = i := nI_clamp (by omega)
      have hv : vp_in (nI i) 4 := vp_in_nI (by omega) (by omega)
      have hlt : ¬ nI nc ≤ nI i := nI_ge (by omega) (by omega)
      have I := ih (i + 1) (by omega)
      refine br_f hlt ⟨hv, ?_⟩
      rw [e]
      by_cases h0 : ph i = 0
      · rw [tc_cnt_z h0] at I
        exact br_t h0 (nm_r (nI_1 i) I)
      · rw [tc_cnt_s h0] at I
        exact br_f h0 (nm_r (nI_1 _) (nm_r (nI_1 i) I))
  unfold wpX_pendingCount
  exact ⟨nc + 1, L nc 0 (by omega)⟩
theorem tx_cc {post : Int32 → Prop} {c : Nat} (hc : c < 4) (hn : nl ≤ 8) (hp : post (nI (tc_cnt (fun j => cs (nI c * 8 + nI j).toNatClampNeg) nl))) : wpX_copyCount post (nI nc, nI nl, nI le, fw, nI ne, cl, ph, pk, pa, po, qw, qu, cs, cw, cu, rc, ho, hw, hu, wb, bw, bu, lc, lk, la, lo, lv, lt) (nI c) := by
  have L : ∀ d i : Nat, i + d = nl → wX_copyCount_4 post (nI c) (nI nc) (nI nl) (nI le) fw (nI ne) cl ph pk pa po qw qu cs cw cu rc ho hw hu wb bw bu lc lk la lo lv lt (d + 1) (nI (tc_cnt (fun j => cs (nI c * 8 + nI j).toNatClampNeg) i)) (nI i) := by
    intro d
    induction d with
    | zero =>
      intro i hi
      have e : i = nl := by omega
      subst e
      exact br_t (Int32.le_refl _) hp
    | succ d ih =>
      intro i hi
      have hv : vp_in (nI c * 8 + nI i) 32 := tc_pin hc (by omega)
      have hlt : ¬ nI nl ≤ nI i := nI_ge (by omega) (by omega)
      have I := ih (i + 1) (by omega)
      refine br_f hlt (tx_pair ⟨hv, ?_⟩)
      by_cases h0 : cs (nI c * 8 + nI i).toNatClampNeg = 0
      · rw [tc_cnt_z (f := fun j => cs (nI c * 8 + nI j).toNatClampNeg) h0] at I
        exact br_t h0 (nm_r (nI_1 i) I)
      · rw [tc_cnt_s (f := fun j => cs (nI c * 8 + nI j).toNatClampNeg) h0] at I
        exact br_f h0 (nm_r (nI_1 _) (nm_r (nI_1 i) I))
  unfold wpX_copyCount
  exact ⟨nl + 1, L nl 0 (by omega)⟩
theorem tx_rk {post : Int32 → Prop} {i : Nat} (hi : i < ne) (hne : ne ≤ 64) (hp : post (nI (tc_rk lt i ne))) : wpX_rankOf post (nI nc, nI nl, nI le, fw, nI ne, cl, ph, pk, pa, po, qw, qu, cs, cw, cu, rc, ho, hw, hu, wb, bw, bu, lc, lk, la, lo, lv, lt) (nI i) := by
  have ei : (nI i).toNatClampNeg = i := nI_clamp (by omega)
  have vi : vp_in (nI i) 64 := vp_in_nI (by omega) (by omega)
  have L : ∀ d j : Nat, j + d = ne → wX_rankOf_4 post (nI i) (nI nc) (nI nl) (nI le) fw (nI ne) cl ph pk pa po qw qu cs cw cu rc ho hw hu wb bw bu lc lk la lo lv lt (d + 1) (nI (tc_rk lt i j)) (nI j) := by
    intro d
    induction d with
    | zero =>
      intro j hj
      have e : j = ne := by omega
      subst e
      exact br_t (Int32.le_refl _) hp
    | succ d ih =>
      intro j hj
      have ej : (nI j).toNatClampNeg = j := nI_clamp (by omega)
      have vj : vp_in (nI j) 64 := vp_in_nI (by omega) (by omega)
      have hlt : ¬ nI ne ≤ nI j := nI_ge (by omega) (by omega)
      have I := ih (j + 1) (by omega)
      refine br_f hlt ⟨vj, vi, ?_⟩
      rw [ei, ej]
      by_cases h1 : lt j < lt i
      · rw [tc_rk_t (Or.inl h1)] at I
        refine br_f (Int32.not_le.mpr h1) ?_
        unfold wX_rankOf_32
        refine ⟨vj, vi, ?_⟩
        rw [ei, ej]
        have hne' : ¬ lt j = lt i := fun z => Int32.lt_irrefl (by rw [z] at h1; exact h1)
        refine br_f hne' ?_
        unfold wX_rankOf_58 wX_rankOf_59
        exact br_f (by decide) (nm_r (nI_1 _) (nm_r (nI_1 j) I))
      · refine br_t (Int32.not_lt.mp h1) ?_
        unfold wX_rankOf_32
        refine ⟨vj, vi, ?_⟩
        rw [ei, ej]
        by_cases he : lt j = lt i
        · refine br_t he ?_
          by_cases hij : j < i
          · rw [tc_rk_t (Or.inr ⟨he, hij⟩)] at I
            refine br_f (nI_ge hij (by omega)) ?_
            unfold wX_rankOf_59
            exact br_t rfl (br_f (by decide) (nm_r (nI_1 _) (nm_r (nI_1 j) I)))
          · have hn : ¬ (lt j < lt i ∨ (lt j = lt i ∧ j < i)) := fun z => z.elim h1 (fun y => hij y.2)
            rw [tc_rk_f hn] at I
            refine br_t (nI_le (by omega) (by omega)) ?_
            unfold wX_rankOf_58 wX_rankOf_59
            exact br_t rfl (br_t rfl (nm_r (nI_1 j) I))
        · have hn : ¬ (lt j < lt i ∨ (lt j = lt i ∧ j < i)) := fun z => z.elim h1 (fun y => he y.1)
          rw [tc_rk_f hn] at I
          refine br_f he ?_
          unfold wX_rankOf_58 wX_rankOf_59
          exact br_t rfl (br_t rfl (nm_r (nI_1 j) I))
  unfold wpX_rankOf
  exact ⟨ne + 1, L ne 0 (by omega)⟩
theorem tx_132 {post : SX → Prop} {x1 kd x3 op vl tm : Int32} (h1 : vp_in x1 4) (hn : vp_in (nI ne) 64) (hq : post (nI nc, nI nl, nI le, fw, nI ne + 1, upd cl x1.toNatClampNeg tm, ph, pk, pa, po, qw, qu, cs, cw, cu, rc, ho, hw, hu, wb, bw, bu, upd lc (nI ne).toNatClampNeg x1, upd lk (nI ne).toNatClampNeg kd, upd la (nI ne).toNatClampNeg x3, upd lo (nI ne).toNatClampNeg op, upd lv (nI ne).toNatClampNeg vl, upd lt (nI ne).toNatClampNeg tm)) : wX_commit_132 post x1 kd x3 op vl tm (nI nc) (nI nl) (nI le) fw (nI ne) cl ph pk pa po qw qu cs cw cu rc ho hw hu wb bw bu lc lk la lo lv lt := by
  unfold wX_commit_132
  refine ⟨h1, nm_e ?_⟩
  unfold wpX_addEntry
  exact ⟨hn, nm_e ⟨hn, nm_e ⟨hn, nm_e ⟨hn, nm_e ⟨hn, nm_e ⟨hn, nm_e (nm_e hq)⟩⟩⟩⟩⟩⟩
theorem tx_cm {post : SX → Prop} {x1 kd x3 op r tm vl : Int32} {dw du : Nat → Int32} (h1 : vp_in x1 4) (hp : vp_in (x1 * 8 + x3) 32) (hn : vp_in (nI ne) 64) (hne : ne ≤ 64) (hfm : tc_FM lk la lt lv x3 (cw (x1 * 8 + x3).toNatClampNeg) ne r) (hcm : tc_CM kd op r (cs (x1 * 8 + x3).toNatClampNeg) (cl x1.toNatClampNeg) (x1 * 8 + x3).toNatClampNeg cw cu dw du tm vl) (hq : post (nI nc, nI nl, nI le, fw, nI ne + 1, upd cl x1.toNatClampNeg tm, ph, pk, pa, po, qw, qu, cs, dw, du, rc, ho, hw, hu, wb, bw, bu, upd lc (nI ne).toNatClampNeg x1, upd lk (nI ne).toNatClampNeg kd, upd la (nI ne).toNatClampNeg x3, upd lo (nI ne).toNatClampNeg op, upd lv (nI ne).toNatClampNeg vl, upd lt (nI ne).toNatClampNeg tm)) : wpX_commit post (nI nc, nI nl, nI le, fw, nI ne, cl, ph, pk, pa, po, qw, qu, cs, cw, cu, rc, ho, hw, hu, wb, bw, bu, lc, lk, la, lo, lv, lt) x1 kd x3 op := by
  unfold wpX_commit
  refine tx_pair ⟨hp, tx_val hfm hne ?_⟩
  rcases hcm with ⟨hk, hs, e3, e1, e2, e4⟩ | ⟨hk, hs, e3, e1, e2, e4⟩ | ⟨hk, e3, e1, e2, e4⟩ | ⟨hk, e3, e1, e2, e4⟩
  · subst hk e4 e1 e2 e3
    exact br_t rfl ⟨h1, hp, tx_lg ⟨hp, br_t hs ⟨hp, tx_lg ⟨hp, nm_e (tx_132 h1 hn hq)⟩⟩⟩⟩
  · subst hk e4 e1 e2 e3
    exact br_t rfl ⟨h1, hp, tx_lg ⟨hp, br_f hs (tx_132 h1 hn hq)⟩⟩
  · subst hk e4 e1 e2 e3
    refine br_f (by decide) ⟨h1, hp, tx_lg (br_f (by decide) ?_)⟩
    unfold wX_commit_112
    exact ⟨hp, nm_e ⟨hp, nm_e (tx_132 h1 hn hq)⟩⟩
  · subst hk e4 e1 e2 e3
    refine br_f (by decide) ⟨h1, hp, tx_lg (br_t rfl ?_)⟩
    unfold wX_commit_112
    exact ⟨hp, nm_e ⟨hp, nm_e (tx_132 h1 hn hq)⟩⟩
theorem tx_wb {post : SX → Prop} {x p : Int32} (h8 : vp_in x 8) (hp : vp_in p 32) (hq : post (nI nc, nI nl, nI le, fw, nI ne, cl, ph, pk, pa, po, qw, qu, cs, cw, cu, rc, ho, hw, hu, upd wb x.toNatClampNeg (vp_nar .boolean 1), upd bw x.toNatClampNeg (cw p.toNatClampNeg), upd bu x.toNatClampNeg (cu p.toNatClampNeg), lc, lk, la, lo, lv, lt)) : wpX_sendWriteBack post (nI nc, nI nl, nI le, fw, nI ne, cl, ph, pk, pa, po, qw, qu, cs, cw, cu, rc, ho, hw, hu, wb, bw, bu, lc, lk, la, lo, lv, lt) x p := by
  unfold wpX_sendWriteBack
  exact ⟨h8, nm_e ⟨hp, h8, nm_e ⟨hp, h8, nm_e hq⟩⟩⟩
theorem tx_sr {post : Int32 → SX → Prop} {x1 x2 z : Int32} (h1 : vp_in x1 4) (h8 : vp_in x2 8) (hp : vp_in (x1 * 8 + x2) 32) (hz : (z = 4 ∧ ¬ cs (x1 * 8 + x2).toNatClampNeg = 0 ∧ cw (x1 * 8 + x2).toNatClampNeg = hw x2.toNatClampNeg) ∨ (z = 5 ∧ (cs (x1 * 8 + x2).toNatClampNeg = 0 ∨ ¬ cw (x1 * 8 + x2).toNatClampNeg = hw x2.toNatClampNeg))) (hq : post (upd ph x1.toNatClampNeg z x1.toNatClampNeg) (nI nc, nI nl, nI le, fw, nI ne, cl, upd ph x1.toNatClampNeg z, pk, pa, po, upd qw x1.toNatClampNeg (hw x2.toNatClampNeg), upd qu x1.toNatClampNeg (hu x2.toNatClampNeg), cs, cw, cu, rc, ho, hw, hu, wb, bw, bu, lc, lk, la, lo, lv, lt)) : wpX_sendReply post (nI nc, nI nl, nI le, fw, nI ne, cl, ph, pk, pa, po, qw, qu, cs, cw, cu, rc, ho, hw, hu, wb, bw, bu, lc, lk, la, lo, lv, lt) x1 x2 := by
  unfold wpX_sendReply
  refine tx_pair ⟨hp, ?_⟩
  rcases hz with ⟨rfl, hs, hw'⟩ | ⟨rfl, hs⟩
  · refine br_f hs ⟨hp, h8, br_t hw' ?_⟩
    unfold wX_sendReply_35
    exact ⟨h8, h1, nm_e ⟨h8, h1, nm_e (br_f (by decide) ⟨h1, nm_e ⟨h1, hq⟩⟩)⟩⟩
  · by_cases h0 : cs (x1 * 8 + x2).toNatClampNeg = 0
    · refine br_t h0 ?_
      unfold wX_sendReply_34 wX_sendReply_35
      exact ⟨h8, h1, nm_e ⟨h8, h1, nm_e (br_t rfl ⟨h1, nm_e ⟨h1, hq⟩⟩)⟩⟩
    · refine br_f h0 ⟨hp, h8, br_f (hs.resolve_left h0) ?_⟩
      unfold wX_sendReply_34 wX_sendReply_35
      exact ⟨h8, h1, nm_e ⟨h8, h1, nm_e (br_t rfl ⟨h1, nm_e ⟨h1, hq⟩⟩)⟩⟩
theorem tx_hit1 {post : Int32 → Prop} {x1 kd x3 : Int32} (h1 : vp_in x1 4) (hp : vp_in (x1 * 8 + x3) 32) (hh : cs (x1 * 8 + x3).toNatClampNeg = 2 ∨ (kd = 1 ∧ cs (x1 * 8 + x3).toNatClampNeg = 1 ∧ ¬ cu (x1 * 8 + x3).toNatClampNeg < cl x1.toNatClampNeg)) (hq : post 1) : wpX_isHit post (nI nc, nI nl, nI le, fw, nI ne, cl, ph, pk, pa, po, qw, qu, cs, cw, cu, rc, ho, hw, hu, wb, bw, bu, lc, lk, la, lo, lv, lt) x1 kd x3 := by
  unfold wpX_isHit
  refine tx_pair ⟨hp, ?_⟩
  by_cases h2 : cs (x1 * 8 + x3).toNatClampNeg = 2
  · exact br_t h2 hq
  · have h := hh.resolve_left h2
    exact br_f h2 (br_t h.1 ⟨hp, br_t h.2.1 ⟨h1, hp, br_f h.2.2 hq⟩⟩)
theorem tx_hit0 {post : Int32 → Prop} {x1 kd x3 : Int32} (h1 : vp_in x1 4) (hp : vp_in (x1 * 8 + x3) 32) (hh : ¬ (cs (x1 * 8 + x3).toNatClampNeg = 2 ∨ (kd = 1 ∧ cs (x1 * 8 + x3).toNatClampNeg = 1 ∧ ¬ cu (x1 * 8 + x3).toNatClampNeg < cl x1.toNatClampNeg))) (hq : post 0) : wpX_isHit post (nI nc, nI nl, nI le, fw, nI ne, cl, ph, pk, pa, po, qw, qu, cs, cw, cu, rc, ho, hw, hu, wb, bw, bu, lc, lk, la, lo, lv, lt) x1 kd x3 := by
  unfold wpX_isHit
  refine tx_pair ⟨hp, br_f (fun z => hh (Or.inl z)) ?_⟩
  by_cases hk : kd = 1
  · refine br_t hk ⟨hp, ?_⟩
    by_cases hs : cs (x1 * 8 + x3).toNatClampNeg = 1
    · refine br_t hs ⟨h1, hp, ?_⟩
      by_cases hu' : cu (x1 * 8 + x3).toNatClampNeg < cl x1.toNatClampNeg
      · exact br_t hu' hq
      · exact absurd (Or.inr ⟨hk, hs, hu'⟩) hh
    · exact br_f hs hq
  · exact br_f hk hq
theorem tx_119 {post : Int32 → SX → Prop} {x1 kd x3 op : Int32} (h1 : vp_in x1 4) (hq : post 2 (nI nc, nI nl, nI le, fw, nI ne, cl, upd ph x1.toNatClampNeg 10, upd pk x1.toNatClampNeg kd, upd pa x1.toNatClampNeg x3, upd po x1.toNatClampNeg op, qw, qu, cs, cw, cu, rc, ho, hw, hu, wb, bw, bu, lc, lk, la, lo, lv, lt)) : wX_issue_119 post x1 kd x3 op (nI nc) (nI nl) (nI le) fw (nI ne) cl ph pk pa po qw qu cs cw cu rc ho hw hu wb bw bu lc lk la lo lv lt := by
  unfold wX_issue_119
  exact ⟨h1, nm_e ⟨h1, nm_e ⟨h1, nm_e ⟨h1, nm_e hq⟩⟩⟩⟩
end
