section
section
variable {nc nl le ne : Nat} {fw : Int32} {cl ph pk pa po qw qu cs cw cu rc ho hw hu wb bw bu lc lk la lo lv lt : Nat → Int32}
theorem tx_or {post : Int32 → Prop} {x r : Int32} (h : tc_F1 (fun i => nI (tc_rk lt i ne) = x) nI (-1) ne r) (hne : ne ≤ 64) (hp : post r) : wpX_ordered post (nI nc, nI nl, nI le, fw, nI ne, cl, ph, pk, pa, po, qw, qu, cs, cw, cu, rc, ho, hw, hu, wb, bw, bu, lc, lk, la, lo, lv, lt) x := by
  have L : ∀ d i : Nat, i + d = ne → (∀ j, j < i → ¬ nI (tc_rk lt j ne) = x) → wX_ordered_2 post x (nI nc) (nI nl) (nI le) fw (nI ne) cl ph pk pa po qw qu cs cw cu rc ho hw hu wb bw bu lc lk la lo lv lt (d + 1) (nI i) := by
    intro d
    induction d with
    | zero =>
      intro i hi hf
      have e : i = ne := by omega
      subst e
      have r0 := tc_F1_miss h hf
      rw [r0] at hp
      exact br_t (Int32.le_refl _) hp
    | succ d ih =>
      intro i hi hf
      have hlt : ¬ nI ne ≤ nI i := nI_ge (by omega) (by omega)
      refine br_f hlt (tx_rk (by omega) hne ?_)
      by_cases hm : nI (tc_rk lt i ne) = x
      · have r0 := tc_F1_hit h (by omega) hm hf
        rw [r0] at hp
        exact br_t hm hp
      · exact br_f hm (nm_r (nI_1 i) (ih (i + 1) (by omega) (tc_not_s hf hm)))
  unfold wpX_ordered
  exact ⟨ne + 1, L ne 0 (by omega) (fun j hj => absurd hj (Nat.not_lt_zero j))⟩
theorem ty_or {post : Int32 → Prop} {x r : Int32} (h : tc_F1 (fun i => nI (tc_rk lt i ne) = x) nI (-1) ne r) (hne : ne ≤ 64) (hp : post r) : ∃ n : Nat, wY_ordered_16 post x (nI nc) (nI nl) (nI le) fw (nI ne) cl ph pk pa po qw qu cs cw cu rc ho hw hu wb bw bu lc lk la lo lv lt n 0 := by
  have L : ∀ d i : Nat, i + d = ne → (∀ j, j < i → ¬ nI (tc_rk lt j ne) = x) → wY_ordered_16 post x (nI nc) (nI nl) (nI le) fw (nI ne) cl ph pk pa po qw qu cs cw cu rc ho hw hu wb bw bu lc lk la lo lv lt (d + 1) (nI i) := by
    intro d
    induction d with
    | zero =>
      intro i hi hf
      have e : i = ne := by omega
      subst e
      have r0 := tc_F1_miss h hf
      rw [r0] at hp
      exact br_t (Int32.le_refl _) hp
    | succ d ih =>
      intro i hi hf
      have hlt : ¬ nI ne ≤ nI i := nI_ge (by omega) (by omega)
      refine br_f hlt (ty_29 (by omega) hne (fun n => br_t (Int32.le_refl _) ?_))
      by_cases hm : nI (tc_rk lt i ne) = x
      · have r0 := tc_F1_hit h (by omega) hm hf
        rw [r0] at hp
        exact br_t hm hp
      · exact br_f hm (nm_r (nI_1 i) (ih (i + 1) (by omega) (tc_not_s hf hm)))
  exact ⟨ne + 1, L ne 0 (by omega) (fun j hj => absurd hj (Nat.not_lt_zero j))⟩
end
theorem i_vc_ordered {k : Nat} {u : SX} {v : SY} (I : i_Rel k u v) (hk : k + 5 ≤ 2564) (v1 : Int32) : wpX_ordered (fun r => wpY_ordered (fun r' => r' = r ∧ i_Rel (k + 5) u v) v v1) u v1 := by
  obtain ⟨rfl, hJ⟩ := I
  have hU : i_Rel (k + 5) u u := i_up ⟨rfl, hJ⟩
  obtain ⟨fc, fl, fe, fw, fn, cl, ph, pk, pa, po, qw, qu, cs, cw, cu, rc, ho, hw, hu, wb, bw, bu, lc, lk, la, lo, lv, lt⟩ := u
  obtain ⟨nc, nl, le, ne, rfl, rfl, rfl, rfl, hI⟩ := hJ
  obtain ⟨hD, hP, hQ, hO, hB, hT, hL⟩ := id hI
  obtain ⟨d1, d2, d3, d4, d5, d6⟩ := id hD
  obtain ⟨t1, t2, t3, t4, t5, t6, t7, t8, t9⟩ := id hT
  have hn : nc < 2 ^ 31 := by omega
  have hl : nl < 2 ^ 31 := by omega
  have hne : ne ≤ 64 := by omega
  have up : 1000 + 20 * k ≤ 1000 + 20 * (k + 5) := by omega
  obtain ⟨r, hr⟩ := tc_F1_ex (fun i => nI (tc_rk lt i ne) = v1) nI (-1) ne
  refine tx_or hr hne ?_
  unfold wpY_ordered
  by_cases h0 : v1 < 0
  · have hm : r = -1 := tc_F1_miss hr (fun j hj e => nI_pos (n := tc_rk lt j ne) (Nat.lt_of_le_of_lt (tc_rk_le lt j ne) (by omega)) (by rw [e]; exact h0))
    exact br_t h0 ⟨hm.symm, hU⟩
  by_cases h1 : v1 < nI ne
  · exact br_f h0 (br_t h1 (ty_or hr hne ⟨rfl, hU⟩))
  · have hm : r = -1 := tc_F1_miss hr (fun j hj e => h1 (by rw [← e]; exact nI_lt (tc_rk_lt lt j ne hj) (by omega)))
    exact br_f h0 (br_f h1 ⟨hm.symm, hU⟩)
theorem tx_cl {post : Int32 → Prop} {p lo hi : Int32} (h : post (tc_cp p lo hi)) : wpX_clamped post p lo hi := by
  unfold wpX_clamped
  exact tc_cpw h
theorem tx_ini {post : SX → Prop} {r1 r2 r3 r4 : Int32} (hq : post (r1, r2, r3, r4, 0, fun _ => 0, fun _ => 0, fun _ => 0, fun _ => 0, fun _ => 0, fun _ => 0, fun _ => 0, fun _ => 0, fun _ => 0, fun _ => 0, fun _ => 0, tc_ini 8, fun _ => 0, fun _ => 0, fun _ => 0, fun _ => 0, fun _ => 0, fun _ => 0, fun _ => 0, fun _ => 0, fun _ => 0, fun _ => 0, fun _ => 0)) : ∃ n : Nat, wX_init_232 post r1 r2 r3 r4 0 n 0 (fun _ => 0) (fun _ => 0) (fun _ => 0) (fun _ => 0) (fun _ => 0) (fun _ => 0) (fun _ => 0) (fun _ => 0) (fun _ => 0) (fun _ => 0) (fun _ => 0) (fun _ => 0) (fun _ => 0) (fun _ => 0) (fun _ => 0) (fun _ => 0) (fun _ => 0) (fun _ => 0) (fun _ => 0) (fun _ => 0) (fun _ => 0) (fun _ => 0) (fun _ => 0) := by
  have L : ∀ d i : Nat, i + d = 8 → wX_init_232 post r1 r2 r3 r4 0 (d + 1) (nI i) (fun _ => 0) (fun _ => 0) (fun _ => 0) (fun _ => 0) (fun _ => 0) (fun _ => 0) (fun _ => 0) (fun _ => 0) (fun _ => 0) (fun _ => 0) (fun _ => 0) (tc_ini i) (fun _ => 0) (fun _ => 0) (fun _ => 0) (fun _ => 0) (fun _ => 0) (fun _ => 0) (fun _ => 0) (fun _ => 0) (fun _ => 0) (fun _ => 0) (fun _ => 0) := by
    intro d
    induction d with
    | zero =>
      intro i hi
      have e : i = 8 := by omega
      subst e
      exact br_t (by decide) hq
    | succ d ih =>
      intro i hi
      have e : (nI i).toNatClampNeg = i := nI_clamp (by omega)
      have hv : vp_in (nI i) 8 := vp_in_nI (by omega) (by omega)
      have hlt : ¬ (8 : Int32) ≤ nI i := nI_ge (b := 8) (by omega) (by omega)
      exact br_f hlt ⟨hv, nm_r (by rw [e]; rfl) (nm_r (nI_1 i) (ih (i + 1) (by omega)))⟩
  exact ⟨9, L 8 0 (by omega)⟩
theorem ty_ini {post : SY → Prop} {r1 r2 r3 r4 : Int32} (hq : post (r1, r2, r3, r4, 0, fun _ => 0, fun _ => 0, fun _ => 0, fun _ => 0, fun _ => 0, fun _ => 0, fun _ => 0, fun _ => 0, fun _ => 0, fun _ => 0, fun _ => 0, tc_ini 8, fun _ => 0, fun _ => 0, fun _ => 0, fun _ => 0, fun _ => 0, fun _ => 0, fun _ => 0, fun _ => 0, fun _ => 0, fun _ => 0, fun _ => 0)) : ∃ n : Nat, wY_init_283 post r1 r2 r3 r4 0 n 0 (fun _ => 0) (fun _ => 0) (fun _ => 0) (fun _ => 0) (fun _ => 0) (fun _ => 0) (fun _ => 0) (fun _ => 0) (fun _ => 0) (fun _ => 0) (fun _ => 0) (fun _ => 0) (fun _ => 0) (fun _ => 0) (fun _ => 0) (fun _ => 0) (fun _ => 0) (fun _ => 0) (fun _ => 0) (fun _ => 0) (fun _ => 0) (fun _ => 0) (fun _ => 0) := by
  have L : ∀ d i : Nat, i + d = 8 → wY_init_283 post r1 r2 r3 r4 0 (d + 1) (nI i) (fun _ => 0) (fun _ => 0) (fun _ => 0) (fun _ => 0) (fun _ => 0) (fun _ => 0) (fun _ => 0) (fun _ => 0) (fun _ => 0) (fun _ => 0) (fun _ => 0) (tc_ini i) (fun _ => 0) (fun _ => 0) (fun _ => 0) (fun _ => 0) (fun _ => 0) (fun _ => 0) (fun _ => 0) (fun _ => 0) (fun _ => 0) (fun _ => 0) (fun _ => 0) := by
    intro d
    induction d with
    | zero =>
      intro i hi
      have e : i = 8 := by omega
      subst e
      exact br_t (by decide) hq
    | succ d ih =>
      intro i hi
      have e : (nI i).toNatClampNeg = i := nI_clamp (by omega)
      have hv : vp_in (nI i) 8 := vp_in_nI (by omega) (by omega)
      have hlt : ¬ (8 : Int32) ≤ nI i := nI_ge (b := 8) (by omega) (by omega)
      exact br_f hlt ⟨hv, nm_r (by rw [e]; rfl) (nm_r (nI_1 i) (ih (i + 1) (by omega)))⟩
  exact ⟨9, L 8 0 (by omega)⟩
theorem i_vc0 (k0 : Int32) (k1 : Int32) (k2 : Int32) (k3 : Int32) : wpX_init (fun u => wpY_init (fun v => i_Rel 4 u v) k0 k1 k2 k3) k0 k1 k2 k3 := by
  unfold wpX_init
  refine tx_cl (tx_cl (tx_cl (tx_cl (tx_ini ?_))))
  unfold wpY_init
  refine tc_cpw (F := fun z => wY_init_201 _ k1 k2 k3 z 0 0 0 0 0 (fun _ => 0) (fun _ => 0) (fun _ => 0) (fun _ => 0) (fun _ => 0) (fun _ => 0) (fun _ => 0) (fun _ => 0) (fun _ => 0) (fun _ => 0) (fun _ => 0) (fun _ => 0) (fun _ => 0) (fun _ => 0) (fun _ => 0) (fun _ => 0) (fun _ => 0) (fun _ => 0) (fun _ => 0) (fun _ => 0) (fun _ => 0) (fun _ => 0) (fun _ => 0)) ?_
  unfold wY_init_201
  refine tc_cpw (F := fun z => wY_init_226 _ k2 k3 z (tc_cp k0 2 4) 0 0 0 0 (fun _ => 0) (fun _ => 0) (fun _ => 0) (fun _ => 0) (fun _ => 0) (fun _ => 0) (fun _ => 0) (fun _ => 0) (fun _ => 0) (fun _ => 0) (fun _ => 0) (fun _ => 0) (fun _ => 0) (fun _ => 0) (fun _ => 0) (fun _ => 0) (fun _ => 0) (fun _ => 0) (fun _ => 0) (fun _ => 0) (fun _ => 0) (fun _ => 0) (fun _ => 0)) ?_
  unfold wY_init_226
  refine tc_cpw (F := fun z => wY_init_251 _ k3 z (tc_cp k0 2 4) (tc_cp k1 1 8) 0 0 0 (fun _ => 0) (fun _ => 0) (fun _ => 0) (fun _ => 0) (fun _ => 0) (fun _ => 0) (fun _ => 0) (fun _ => 0) (fun _ => 0) (fun _ => 0) (fun _ => 0) (fun _ => 0) (fun _ => 0) (fun _ => 0) (fun _ => 0) (fun _ => 0) (fun _ => 0) (fun _ => 0) (fun _ => 0) (fun _ => 0) (fun _ => 0) (fun _ => 0) (fun _ => 0)) ?_
  unfold wY_init_251
  refine tc_cpw (F := fun z => ∃ n : Nat, wY_init_283 _ (tc_cp k0 2 4) (tc_cp k1 1 8) (tc_cp k2 1 16) z 0 n 0 (fun _ => 0) (fun _ => 0) (fun _ => 0) (fun _ => 0) (fun _ => 0) (fun _ => 0) (fun _ => 0) (fun _ => 0) (fun _ => 0) (fun _ => 0) (fun _ => 0) (fun _ => 0) (fun _ => 0) (fun _ => 0) (fun _ => 0) (fun _ => 0) (fun _ => 0) (fun _ => 0) (fun _ => 0) (fun _ => 0) (fun _ => 0) (fun _ => 0) (fun _ => 0)) ?_
  refine ty_ini ?_
  obtain ⟨nc, c1, c2, ec⟩ := tc_cp_r k0 (l := 2) (h := 4) (by omega) (by omega)
  obtain ⟨nl, l1, l2, el⟩ := tc_cp_r k1 (l := 1) (h := 8) (by omega) (by omega)
  obtain ⟨le, b1, b2, eb⟩ := tc_cp_r k2 (l := 1) (h := 16) (by omega) (by omega)
  have t0 := tc_T_0 (1000 + 20 * 4)
  have hcn : 0 + tc_cnt (fun _ => 0) nc ≤ 64 := by rw [tc_cnt_0]; omega
  exact ⟨rfl, nc, nl, le, 0, ec, el, eb, rfl, ⟨c1, c2, l1, l2, b1, b2⟩, hcn, fun c _ h => absurd rfl h, fun a ha => Or.inl (tc_ini_m 8 a ha), fun _ => Or.inl rfl, ⟨t0, t0, t0, t0, t0, t0, t0, t0, t0⟩, fun i hi => absurd hi (Nat.not_lt_zero i)⟩
end
