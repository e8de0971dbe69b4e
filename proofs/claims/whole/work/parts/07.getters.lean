section
section
variable {nc nl le ne : Nat} {fw : Int32} {cl ph pk pa po qw qu cs cw cu rc ho hw hu wb bw bu lc lk la lo lv lt : Nat → Int32}
theorem ty_pd1 {post : Int32 → Prop} {x1 x2 z : Int32} (h1 : vp_in x1 4) (h : ph x1.toNatClampNeg = 4 ∨ ph x1.toNatClampNeg = 5) (hq : wY_pending_50 post x1 x2 z 1 (nI nc) (nI nl) (nI le) fw (nI ne) cl ph pk pa po qw qu cs cw cu rc ho hw hu wb bw bu lc lk la lo lv lt) : wY_pending_24 post x1 x2 z (nI nc) (nI nl) (nI le) fw (nI ne) cl ph pk pa po qw qu cs cw cu rc ho hw hu wb bw bu lc lk la lo lv lt := by
  unfold wY_pending_24 wY_pending_45
  by_cases h4 : ph x1.toNatClampNeg = 4
  · exact ⟨h1, br_t h4 hq⟩
  · exact ⟨h1, br_f h4 ⟨h1, br_t (h.resolve_left h4) hq⟩⟩
theorem ty_pd0 {post : Int32 → Prop} {x1 x2 z : Int32} (h1 : vp_in x1 4) (h : ¬ (ph x1.toNatClampNeg = 4 ∨ ph x1.toNatClampNeg = 5)) (hq : wY_pending_50 post x1 x2 z 0 (nI nc) (nI nl) (nI le) fw (nI ne) cl ph pk pa po qw qu cs cw cu rc ho hw hu wb bw bu lc lk la lo lv lt) : wY_pending_24 post x1 x2 z (nI nc) (nI nl) (nI le) fw (nI ne) cl ph pk pa po qw qu cs cw cu rc ho hw hu wb bw bu lc lk la lo lv lt := by
  unfold wY_pending_24 wY_pending_45
  exact ⟨h1, br_f (fun z => h (Or.inl z)) ⟨h1, br_f (fun z => h (Or.inr z)) hq⟩⟩
end
theorem i_vc_pending {k : Nat} {u : SX} {v : SY} (I : i_Rel k u v) (hk : k + 5 ≤ 2564) (v1 : Int32) (v2 : Int32) : wpX_pending (fun r => wpY_pending (fun r' => r' = r ∧ i_Rel (k + 5) u v) v v1 v2) u v1 v2 := by
  obtain ⟨rfl, hJ⟩ := I
  have hU : i_Rel (k + 5) u u := i_up ⟨rfl, hJ⟩
  obtain ⟨fc, fl, fe, fw, fn, cl, ph, pk, pa, po, qw, qu, cs, cw, cu, rc, ho, hw, hu, wb, bw, bu, lc, lk, la, lo, lv, lt⟩ := u
  obtain ⟨nc, nl, le, ne, rfl, rfl, rfl, rfl, hI⟩ := hJ
  obtain ⟨hD, hP, hQ, hO, hB, hT, hL⟩ := id hI
  obtain ⟨d1, d2, d3, d4, d5, d6⟩ := id hD
  obtain ⟨t1, t2, t3, t4, t5, t6, t7, t8, t9⟩ := id hT
  have hn : nc < 2 ^ 31 := by omega
  have hl : nl < 2 ^ 31 := by omega
  have hne : ne ≤ 64 := by omega
  have up : 1000 + 20 * k ≤ 1000 + 20 * (k + 5) := by omega
  unfold wpX_pending wpY_pending
  rcases tc_ix v1 hn with hb | ⟨c, hc, rfl⟩
  · exact tx_bc1 hb (br_f (by decide) (ty_bc1 hb (br_f (by decide) ⟨rfl, hU⟩)))
  have hc4 : vp_in (nI c) 4 := vp_in_nI (by omega) (by omega)
  have ec : (nI c).toNatClampNeg = c := nI_clamp (by omega)
  by_cases p0 : ph (nI c).toNatClampNeg = 0
  · by_cases pr : ph (nI c).toNatClampNeg = 4 ∨ ph (nI c).toNatClampNeg = 5
    · skip
      by_cases e0 : v2 = 0
      · subst e0
        exact tx_bc0 hc hn (br_t rfl (⟨hc4, br_t p0 (tx_hr1 hc4 pr (br_f (by decide) (br_f (by decide) (br_t rfl (⟨hc4, ty_bc0 hc hn (br_t rfl (⟨hc4, br_t p0 (ty_pd1 hc4 pr (br_t rfl (⟨hc4, ⟨rfl, hU⟩⟩)))⟩))⟩)))))⟩))
      by_cases e1 : v2 = 1
      · subst e1
        exact tx_bc0 hc hn (br_t rfl (⟨hc4, br_t p0 (tx_hr1 hc4 pr (br_f (by decide) (br_f (by decide) (br_f (by decide) (br_t rfl (br_f (by decide) (ty_bc0 hc hn (br_t rfl (⟨hc4, br_t p0 (ty_pd1 hc4 pr (br_f (by decide) (br_t rfl (br_f (by decide) (⟨rfl, hU⟩)))))⟩)))))))))⟩))
      by_cases e2 : v2 = 2
      · subst e2
        exact tx_bc0 hc hn (br_t rfl (⟨hc4, br_t p0 (tx_hr1 hc4 pr (br_f (by decide) (br_f (by decide) (br_f (by decide) (br_f (by decide) (br_t rfl (ty_bc0 hc hn (br_t rfl (⟨hc4, br_t p0 (ty_pd1 hc4 pr (br_f (by decide) (br_f (by decide) (br_f (by decide) (br_f (by decide) (br_f (by decide) (br_f (by decide) (⟨rfl, hU⟩))))))))⟩)))))))))⟩))
      by_cases e3 : v2 = 3
      · subst e3
        exact tx_bc0 hc hn (br_t rfl (⟨hc4, br_t p0 (tx_hr1 hc4 pr (br_f (by decide) (br_f (by decide) (br_f (by decide) (br_f (by decide) (br_f (by decide) (br_t rfl (br_f (by decide) (ty_bc0 hc hn (br_t rfl (⟨hc4, br_t p0 (ty_pd1 hc4 pr (br_f (by decide) (br_f (by decide) (br_t rfl (br_f (by decide) (⟨rfl, hU⟩))))))⟩)))))))))))⟩))
      by_cases e4 : v2 = 4
      · subst e4
        exact tx_bc0 hc hn (br_t rfl (⟨hc4, br_t p0 (tx_hr1 hc4 pr (br_f (by decide) (br_f (by decide) (br_f (by decide) (br_f (by decide) (br_f (by decide) (br_f (by decide) (br_t rfl (br_f (by decide) (ty_bc0 hc hn (br_t rfl (⟨hc4, br_t p0 (ty_pd1 hc4 pr (br_f (by decide) (br_f (by decide) (br_f (by decide) (br_t rfl (br_f (by decide) (⟨rfl, hU⟩)))))))⟩))))))))))))⟩))
      by_cases e5 : v2 = 5
      · subst e5
        exact tx_bc0 hc hn (br_t rfl (⟨hc4, br_t p0 (tx_hr1 hc4 pr (br_f (by decide) (br_f (by decide) (br_f (by decide) (br_f (by decide) (br_f (by decide) (br_f (by decide) (br_f (by decide) (br_t rfl (ty_bc0 hc hn (br_t rfl (⟨hc4, br_t p0 (ty_pd1 hc4 pr (br_f (by decide) (br_f (by decide) (br_f (by decide) (br_f (by decide) (br_f (by decide) (br_f (by decide) (⟨rfl, hU⟩))))))))⟩))))))))))))⟩))
      by_cases e6 : v2 = 6
      · subst e6
        exact tx_bc0 hc hn (br_t rfl (⟨hc4, br_t p0 (tx_hr1 hc4 pr (br_f (by decide) (br_f (by decide) (br_f (by decide) (br_f (by decide) (br_f (by decide) (br_f (by decide) (br_f (by decide) (br_f (by decide) (br_t rfl (ty_bc0 hc hn (br_t rfl (⟨hc4, br_t p0 (ty_pd1 hc4 pr (br_f (by decide) (br_f (by decide) (br_f (by decide) (br_f (by decide) (br_f (by decide) (br_f (by decide) (⟨rfl, hU⟩))))))))⟩)))))))))))))⟩))
      by_cases e7 : v2 = 7
      · subst e7
        exact tx_bc0 hc hn (br_t rfl (⟨hc4, br_t p0 (tx_hr1 hc4 pr (br_f (by decide) (br_f (by decide) (br_f (by decide) (br_f (by decide) (br_f (by decide) (br_f (by decide) (br_f (by decide) (br_f (by decide) (br_f (by decide) (br_t rfl (br_f (by decide) ⟨hc4, ty_bc0 hc hn (br_t rfl (⟨hc4, br_t p0 (ty_pd1 hc4 pr (br_f (by decide) (br_f (by decide) (br_f (by decide) (br_f (by decide) (br_t rfl (br_f (by decide) ⟨hc4, ⟨rfl, hU⟩⟩)))))))⟩))⟩))))))))))))⟩))
      by_cases e8 : v2 = 8
      · subst e8
        exact tx_bc0 hc hn (br_t rfl (⟨hc4, br_t p0 (tx_hr1 hc4 pr (br_f (by decide) (br_f (by decide) (br_f (by decide) (br_f (by decide) (br_f (by decide) (br_f (by decide) (br_f (by decide) (br_f (by decide) (br_f (by decide) (br_f (by decide) (br_t rfl (br_f (by decide) ⟨hc4, ty_bc0 hc hn (br_t rfl (⟨hc4, br_t p0 (ty_pd1 hc4 pr (br_f (by decide) (br_f (by decide) (br_f (by decide) (br_f (by decide) (br_f (by decide) (br_t rfl (br_f (by decide) ⟨hc4, ⟨rfl, hU⟩⟩))))))))⟩))⟩)))))))))))))⟩))
      by_cases g1 : v2 < 0
      · exact tx_bc0 hc hn (br_t rfl (⟨hc4, br_t p0 (tx_hr1 hc4 pr (br_t g1 (ty_bc0 hc hn (br_t rfl (⟨hc4, br_t p0 (ty_pd1 hc4 pr (br_f e0 (br_f e1 (br_f e3 (br_f e4 (br_f e7 (br_f e8 (⟨rfl, hU⟩))))))))⟩)))))⟩))
      by_cases g2 : 8 < v2
      · exact tx_bc0 hc hn (br_t rfl (⟨hc4, br_t p0 (tx_hr1 hc4 pr (br_f g1 (br_t g2 (ty_bc0 hc hn (br_t rfl (⟨hc4, br_t p0 (ty_pd1 hc4 pr (br_f e0 (br_f e1 (br_f e3 (br_f e4 (br_f e7 (br_f e8 (⟨rfl, hU⟩))))))))⟩))))))⟩))
      exact tx_bc0 hc hn (br_t rfl (⟨hc4, br_t p0 (tx_hr1 hc4 pr (br_f g1 (br_f g2 (br_f e0 (br_f e1 (br_f e2 (br_f e3 (br_f e4 (br_f e5 (br_f e6 (br_f e7 (br_f e8 (trivial)))))))))))))⟩))
    · skip
      by_cases e0 : v2 = 0
      · subst e0
        exact tx_bc0 hc hn (br_t rfl (⟨hc4, br_t p0 (tx_hr0 hc4 pr (br_f (by decide) (br_f (by decide) (br_t rfl (⟨hc4, ty_bc0 hc hn (br_t rfl (⟨hc4, br_t p0 (ty_pd0 hc4 pr (br_t rfl (⟨hc4, ⟨rfl, hU⟩⟩)))⟩))⟩)))))⟩))
      by_cases e1 : v2 = 1
      · subst e1
        exact tx_bc0 hc hn (br_t rfl (⟨hc4, br_t p0 (tx_hr0 hc4 pr (br_f (by decide) (br_f (by decide) (br_f (by decide) (br_t rfl (br_f (by decide) (ty_bc0 hc hn (br_t rfl (⟨hc4, br_t p0 (ty_pd0 hc4 pr (br_f (by decide) (br_t rfl (br_f (by decide) (⟨rfl, hU⟩)))))⟩)))))))))⟩))
      by_cases e2 : v2 = 2
      · subst e2
        exact tx_bc0 hc hn (br_t rfl (⟨hc4, br_t p0 (tx_hr0 hc4 pr (br_f (by decide) (br_f (by decide) (br_f (by decide) (br_f (by decide) (br_t rfl (ty_bc0 hc hn (br_t rfl (⟨hc4, br_t p0 (ty_pd0 hc4 pr (br_f (by decide) (br_f (by decide) (br_f (by decide) (br_f (by decide) (br_f (by decide) (br_f (by decide) (⟨rfl, hU⟩))))))))⟩)))))))))⟩))
      by_cases e3 : v2 = 3
      · subst e3
        exact tx_bc0 hc hn (br_t rfl (⟨hc4, br_t p0 (tx_hr0 hc4 pr (br_f (by decide) (br_f (by decide) (br_f (by decide) (br_f (by decide) (br_f (by decide) (br_t rfl (br_f (by decide) (ty_bc0 hc hn (br_t rfl (⟨hc4, br_t p0 (ty_pd0 hc4 pr (br_f (by decide) (br_f (by decide) (br_t rfl (br_f (by decide) (⟨rfl, hU⟩))))))⟩)))))))))))⟩))
      by_cases e4 : v2 = 4
      · subst e4
        exact tx_bc0 hc hn (br_t rfl (⟨hc4, br_t p0 (tx_hr0 hc4 pr (br_f (by decide) (br_f (by decide) (br_f (by decide) (br_f (by decide) (br_f (by decide) (br_f (by decide) (br_t rfl (br_f (by decide) (ty_bc0 hc hn (br_t rfl (⟨hc4, br_t p0 (ty_pd0 hc4 pr (br_f (by decide) (br_f (by decide) (br_f (by decide) (br_t rfl (br_f (by decide) (⟨rfl, hU⟩)))))))⟩))))))))))))⟩))
      by_cases e5 : v2 = 5
      · subst e5
        exact tx_bc0 hc hn (br_t rfl (⟨hc4, br_t p0 (tx_hr0 hc4 pr (br_f (by decide) (br_f (by decide) (br_f (by decide) (br_f (by decide) (br_f (by decide) (br_f (by decide) (br_f (by decide) (br_t rfl (ty_bc0 hc hn (br_t rfl (⟨hc4, br_t p0 (ty_pd0 hc4 pr (br_f (by decide) (br_f (by decide) (br_f (by decide) (br_f (by decide) (br_f (by decide) (br_f (by decide) (⟨rfl, hU⟩))))))))⟩))))))))))))⟩))
      by_cases e6 : v2 = 6
      · subst e6
        exact tx_bc0 hc hn (br_t rfl (⟨hc4, br_t p0 (tx_hr0 hc4 pr (br_f (by decide) (br_f (by decide) (br_f (by decide) (br_f (by decide) (br_f (by decide) (br_f (by decide) (br_f (by decide) (br_f (by decide) (br_t rfl (ty_bc0 hc hn (br_t rfl (⟨hc4, br_t p0 (ty_pd0 hc4 pr (br_f (by decide) (br_f (by decide) (br_f (by decide) (br_f (by decide) (br_f (by decide) (br_f (by decide) (⟨rfl, hU⟩))))))))⟩)))))))))))))⟩))
      by_cases e7 : v2 = 7
      · subst e7
        exact tx_bc0 hc hn (br_t rfl (⟨hc4, br_t p0 (tx_hr0 hc4 pr (br_f (by decide) (br_f (by decide) (br_f (by decide) (br_f (by decide) (br_f (by decide) (br_f (by decide) (br_f (by decide) (br_f (by decide) (br_f (by decide) (br_t rfl (br_t rfl (ty_bc0 hc hn (br_t rfl (⟨hc4, br_t p0 (ty_pd0 hc4 pr (br_f (by decide) (br_f (by decide) (br_f (by decide) (br_f (by decide) (br_t rfl (br_t rfl (⟨rfl, hU⟩))))))))⟩)))))))))))))))⟩))
      by_cases e8 : v2 = 8
      · subst e8
        exact tx_bc0 hc hn (br_t rfl (⟨hc4, br_t p0 (tx_hr0 hc4 pr (br_f (by decide) (br_f (by decide) (br_f (by decide) (br_f (by decide) (br_f (by decide) (br_f (by decide) (br_f (by decide) (br_f (by decide) (br_f (by decide) (br_f (by decide) (br_t rfl (br_t rfl (ty_bc0 hc hn (br_t rfl (⟨hc4, br_t p0 (ty_pd0 hc4 pr (br_f (by decide) (br_f (by decide) (br_f (by decide) (br_f (by decide) (br_f (by decide) (br_t rfl (br_t rfl (⟨rfl, hU⟩)))))))))⟩))))))))))))))))⟩))
      by_cases g1 : v2 < 0
      · exact tx_bc0 hc hn (br_t rfl (⟨hc4, br_t p0 (tx_hr0 hc4 pr (br_t g1 (ty_bc0 hc hn (br_t rfl (⟨hc4, br_t p0 (ty_pd0 hc4 pr (br_f e0 (br_f e1 (br_f e3 (br_f e4 (br_f e7 (br_f e8 (⟨rfl, hU⟩))))))))⟩)))))⟩))
      by_cases g2 : 8 < v2
      · exact tx_bc0 hc hn (br_t rfl (⟨hc4, br_t p0 (tx_hr0 hc4 pr (br_f g1 (br_t g2 (ty_bc0 hc hn (br_t rfl (⟨hc4, br_t p0 (ty_pd0 hc4 pr (br_f e0 (br_f e1 (br_f e3 (br_f e4 (br_f e7 (br_f e8 (⟨rfl, hU⟩))))))))⟩))))))⟩))
      exact tx_bc0 hc hn (br_t rfl (⟨hc4, br_t p0 (tx_hr0 hc4 pr (br_f g1 (br_f g2 (br_f e0 (br_f e1 (br_f e2 (br_f e3 (br_f e4 (br_f e5 (br_f e6 (br_f e7 (br_f e8 (trivial)))))))))))))⟩))
  · by_cases pr : ph (nI c).toNatClampNeg = 4 ∨ ph (nI c).toNatClampNeg = 5
    · skip
      by_cases e0 : v2 = 0
      · subst e0
        exact tx_bc0 hc hn (br_t rfl (⟨hc4, br_f p0 (tx_hr1 hc4 pr (br_f (by decide) (br_f (by decide) (br_t rfl (⟨hc4, ty_bc0 hc hn (br_t rfl (⟨hc4, br_f p0 (ty_pd1 hc4 pr (br_t rfl (⟨hc4, ⟨rfl, hU⟩⟩)))⟩))⟩)))))⟩))
      by_cases e1 : v2 = 1
      · subst e1
        exact tx_bc0 hc hn (br_t rfl (⟨hc4, br_f p0 (tx_hr1 hc4 pr (br_f (by decide) (br_f (by decide) (br_f (by decide) (br_t rfl (br_t rfl ⟨hc4, ty_bc0 hc hn (br_t rfl (⟨hc4, br_f p0 (ty_pd1 hc4 pr (br_f (by decide) (br_t rfl (br_t rfl ⟨hc4, ⟨rfl, hU⟩⟩))))⟩))⟩))))))⟩))
      by_cases e2 : v2 = 2
      · subst e2
        exact tx_bc0 hc hn (br_t rfl (⟨hc4, br_f p0 (tx_hr1 hc4 pr (br_f (by decide) (br_f (by decide) (br_f (by decide) (br_f (by decide) (br_t rfl (ty_bc0 hc hn (br_t rfl (⟨hc4, br_f p0 (ty_pd1 hc4 pr (br_f (by decide) (br_f (by decide) (br_f (by decide) (br_f (by decide) (br_f (by decide) (br_f (by decide) (⟨rfl, hU⟩))))))))⟩)))))))))⟩))
      by_cases e3 : v2 = 3
      · subst e3
        exact tx_bc0 hc hn (br_t rfl (⟨hc4, br_f p0 (tx_hr1 hc4 pr (br_f (by decide) (br_f (by decide) (br_f (by decide) (br_f (by decide) (br_f (by decide) (br_t rfl (br_t rfl ⟨hc4, ty_bc0 hc hn (br_t rfl (⟨hc4, br_f p0 (ty_pd1 hc4 pr (br_f (by decide) (br_f (by decide) (br_t rfl (br_t rfl ⟨hc4, ⟨rfl, hU⟩⟩)))))⟩))⟩))))))))⟩))
      by_cases e4 : v2 = 4
      · subst e4
        exact tx_bc0 hc hn (br_t rfl (⟨hc4, br_f p0 (tx_hr1 hc4 pr (br_f (by decide) (br_f (by decide) (br_f (by decide) (br_f (by decide) (br_f (by decide) (br_f (by decide) (br_t rfl (br_t rfl ⟨hc4, ty_bc0 hc hn (br_t rfl (⟨hc4, br_f p0 (ty_pd1 hc4 pr (br_f (by decide) (br_f (by decide) (br_f (by decide) (br_t rfl (br_t rfl ⟨hc4, ⟨rfl, hU⟩⟩))))))⟩))⟩)))))))))⟩))
      by_cases e5 : v2 = 5
      · subst e5
        exact tx_bc0 hc hn (br_t rfl (⟨hc4, br_f p0 (tx_hr1 hc4 pr (br_f (by decide) (br_f (by decide) (br_f (by decide) (br_f (by decide) (br_f (by decide) (br_f (by decide) (br_f (by decide) (br_t rfl (ty_bc0 hc hn (br_t rfl (⟨hc4, br_f p0 (ty_pd1 hc4 pr (br_f (by decide) (br_f (by decide) (br_f (by decide) (br_f (by decide) (br_f (by decide) (br_f (by decide) (⟨rfl, hU⟩))))))))⟩))))))))))))⟩))
      by_cases e6 : v2 = 6
      · subst e6
        exact tx_bc0 hc hn (br_t rfl (⟨hc4, br_f p0 (tx_hr1 hc4 pr (br_f (by decide) (br_f (by decide) (br_f (by decide) (br_f (by decide) (br_f (by decide) (br_f (by decide) (br_f (by decide) (br_f (by decide) (br_t rfl (ty_bc0 hc hn (br_t rfl (⟨hc4, br_f p0 (ty_pd1 hc4 pr (br_f (by decide) (br_f (by decide) (br_f (by decide) (br_f (by decide) (br_f (by decide) (br_f (by decide) (⟨rfl, hU⟩))))))))⟩)))))))))))))⟩))
      by_cases e7 : v2 = 7
      · subst e7
        exact tx_bc0 hc hn (br_t rfl (⟨hc4, br_f p0 (tx_hr1 hc4 pr (br_f (by decide) (br_f (by decide) (br_f (by decide) (br_f (by decide) (br_f (by decide) (br_f (by decide) (br_f (by decide) (br_f (by decide) (br_f (by decide) (br_t rfl (br_f (by decide) ⟨hc4, ty_bc0 hc hn (br_t rfl (⟨hc4, br_f p0 (ty_pd1 hc4 pr (br_f (by decide) (br_f (by decide) (br_f (by decide) (br_f (by decide) (br_t rfl (br_f (by decide) ⟨hc4, ⟨rfl, hU⟩⟩)))))))⟩))⟩))))))))))))⟩))
      by_cases e8 : v2 = 8
      · subst e8
        exact tx_bc0 hc hn (br_t rfl (⟨hc4, br_f p0 (tx_hr1 hc4 pr (br_f (by decide) (br_f (by decide) (br_f (by decide) (br_f (by decide) (br_f (by decide) (br_f (by decide) (br_f (by decide) (br_f (by decide) (br_f (by decide) (br_f (by decide) (br_t rfl (br_f (by decide) ⟨hc4, ty_bc0 hc hn (br_t rfl (⟨hc4, br_f p0 (ty_pd1 hc4 pr (br_f (by decide) (br_f (by decide) (br_f (by decide) (br_f (by decide) (br_f (by decide) (br_t rfl (br_f (by decide) ⟨hc4, ⟨rfl, hU⟩⟩))))))))⟩))⟩)))))))))))))⟩))
      by_cases g1 : v2 < 0
      · exact tx_bc0 hc hn (br_t rfl (⟨hc4, br_f p0 (tx_hr1 hc4 pr (br_t g1 (ty_bc0 hc hn (br_t rfl (⟨hc4, br_f p0 (ty_pd1 hc4 pr (br_f e0 (br_f e1 (br_f e3 (br_f e4 (br_f e7 (br_f e8 (⟨rfl, hU⟩))))))))⟩)))))⟩))
      by_cases g2 : 8 < v2
      · exact tx_bc0 hc hn (br_t rfl (⟨hc4, br_f p0 (tx_hr1 hc4 pr (br_f g1 (br_t g2 (ty_bc0 hc hn (br_t rfl (⟨hc4, br_f p0 (ty_pd1 hc4 pr (br_f e0 (br_f e1 (br_f e3 (br_f e4 (br_f e7 (br_f e8 (⟨rfl, hU⟩))))))))⟩))))))⟩))
      exact tx_bc0 hc hn (br_t rfl (⟨hc4, br_f p0 (tx_hr1 hc4 pr (br_f g1 (br_f g2 (br_f e0 (br_f e1 (br_f e2 (br_f e3 (br_f e4 (br_f e5 (br_f e6 (br_f e7 (br_f e8 (trivial)))))))))))))⟩))
    · skip
      by_cases e0 : v2 = 0
      · subst e0
        exact tx_bc0 hc hn (br_t rfl (⟨hc4, br_f p0 (tx_hr0 hc4 pr (br_f (by decide) (br_f (by decide) (br_t rfl (⟨hc4, ty_bc0 hc hn (br_t rfl (⟨hc4, br_f p0 (ty_pd0 hc4 pr (br_t rfl (⟨hc4, ⟨rfl, hU⟩⟩)))⟩))⟩)))))⟩))
      by_cases e1 : v2 = 1
      · subst e1
        exact tx_bc0 hc hn (br_t rfl (⟨hc4, br_f p0 (tx_hr0 hc4 pr (br_f (by decide) (br_f (by decide) (br_f (by decide) (br_t rfl (br_t rfl ⟨hc4, ty_bc0 hc hn (br_t rfl (⟨hc4, br_f p0 (ty_pd0 hc4 pr (br_f (by decide) (br_t rfl (br_t rfl ⟨hc4, ⟨rfl, hU⟩⟩))))⟩))⟩))))))⟩))
      by_cases e2 : v2 = 2
      · subst e2
        exact tx_bc0 hc hn (br_t rfl (⟨hc4, br_f p0 (tx_hr0 hc4 pr (br_f (by decide) (br_f (by decide) (br_f (by decide) (br_f (by decide) (br_t rfl (ty_bc0 hc hn (br_t rfl (⟨hc4, br_f p0 (ty_pd0 hc4 pr (br_f (by decide) (br_f (by decide) (br_f (by decide) (br_f (by decide) (br_f (by decide) (br_f (by decide) (⟨rfl, hU⟩))))))))⟩)))))))))⟩))
      by_cases e3 : v2 = 3
      · subst e3
        exact tx_bc0 hc hn (br_t rfl (⟨hc4, br_f p0 (tx_hr0 hc4 pr (br_f (by decide) (br_f (by decide) (br_f (by decide) (br_f (by decide) (br_f (by decide) (br_t rfl (br_t rfl ⟨hc4, ty_bc0 hc hn (br_t rfl (⟨hc4, br_f p0 (ty_pd0 hc4 pr (br_f (by decide) (br_f (by decide) (br_t rfl (br_t rfl ⟨hc4, ⟨rfl, hU⟩⟩)))))⟩))⟩))))))))⟩))
      by_cases e4 : v2 = 4
      · subst e4
        exact tx_bc0 hc hn (br_t rfl (⟨hc4, br_f p0 (tx_hr0 hc4 pr (br_f (by decide) (br_f (by decide) (br_f (by decide) (br_f (by decide) (br_f (by decide) (br_f (by decide) (br_t rfl (br_t rfl ⟨hc4, ty_bc0 hc hn (br_t rfl (⟨hc4, br_f p0 (ty_pd0 hc4 pr (br_f (by decide) (br_f (by decide) (br_f (by decide) (br_t rfl (br_t rfl ⟨hc4, ⟨rfl, hU⟩⟩))))))⟩))⟩)))))))))⟩))
      by_cases e5 : v2 = 5
      · subst e5
        exact tx_bc0 hc hn (br_t rfl (⟨hc4, br_f p0 (tx_hr0 hc4 pr (br_f (by decide) (br_f (by decide) (br_f (by decide) (br_f (by decide) (br_f (by decide) (br_f (by decide) (br_f (by decide) (br_t rfl (ty_bc0 hc hn (br_t rfl (⟨hc4, br_f p0 (ty_pd0 hc4 pr (br_f (by decide) (br_f (by decide) (br_f (by decide) (br_f (by decide) (br_f (by decide) (br_f (by decide) (⟨rfl, hU⟩))))))))⟩))))))))))))⟩))
      by_cases e6 : v2 = 6
      · subst e6
        exact tx_bc0 hc hn (br_t rfl (⟨hc4, br_f p0 (tx_hr0 hc4 pr (br_f (by decide) (br_f (by decide) (br_f (by decide) (br_f (by decide) (br_f (by decide) (br_f (by decide) (br_f (by decide) (br_f (by decide) (br_t rfl (ty_bc0 hc hn (br_t rfl (⟨hc4, br_f p0 (ty_pd0 hc4 pr (br_f (by decide) (br_f (by decide) (br_f (by decide) (br_f (by decide) (br_f (by decide) (br_f (by decide) (⟨rfl, hU⟩))))))))⟩)))))))))))))⟩))
      by_cases e7 : v2 = 7
      · subst e7
        exact tx_bc0 hc hn (br_t rfl (⟨hc4, br_f p0 (tx_hr0 hc4 pr (br_f (by decide) (br_f (by decide) (br_f (by decide) (br_f (by decide) (br_f (by decide) (br_f (by decide) (br_f (by decide) (br_f (by decide) (br_f (by decide) (br_t rfl (br_t rfl (ty_bc0 hc hn (br_t rfl (⟨hc4, br_f p0 (ty_pd0 hc4 pr (br_f (by decide) (br_f (by decide) (br_f (by decide) (br_f (by decide) (br_t rfl (br_t rfl (⟨rfl, hU⟩))))))))⟩)))))))))))))))⟩))
      by_cases e8 : v2 = 8
      · subst e8
        exact tx_bc0 hc hn (br_t rfl (⟨hc4, br_f p0 (tx_hr0 hc4 pr (br_f (by decide) (br_f (by decide) (br_f (by decide) (br_f (by decide) (br_f (by decide) (br_f (by decide) (br_f (by decide) (br_f (by decide) (br_f (by decide) (br_f (by decide) (br_t rfl (br_t rfl (ty_bc0 hc hn (br_t rfl (⟨hc4, br_f p0 (ty_pd0 hc4 pr (br_f (by decide) (br_f (by decide) (br_f (by decide) (br_f (by decide) (br_f (by decide) (br_t rfl (br_t rfl (⟨rfl, hU⟩)))))))))⟩))))))))))))))))⟩))
      by_cases g1 : v2 < 0
      · exact tx_bc0 hc hn (br_t rfl (⟨hc4, br_f p0 (tx_hr0 hc4 pr (br_t g1 (ty_bc0 hc hn (br_t rfl (⟨hc4, br_f p0 (ty_pd0 hc4 pr (br_f e0 (br_f e1 (br_f e3 (br_f e4 (br_f e7 (br_f e8 (⟨rfl, hU⟩))))))))⟩)))))⟩))
      by_cases g2 : 8 < v2
      · exact tx_bc0 hc hn (br_t rfl (⟨hc4, br_f p0 (tx_hr0 hc4 pr (br_f g1 (br_t g2 (ty_bc0 hc hn (br_t rfl (⟨hc4, br_f p0 (ty_pd0 hc4 pr (br_f e0 (br_f e1 (br_f e3 (br_f e4 (br_f e7 (br_f e8 (⟨rfl, hU⟩))))))))⟩))))))⟩))
      exact tx_bc0 hc hn (br_t rfl (⟨hc4, br_f p0 (tx_hr0 hc4 pr (br_f g1 (br_f g2 (br_f e0 (br_f e1 (br_f e2 (br_f e3 (br_f e4 (br_f e5 (br_f e6 (br_f e7 (br_f e8 (trivial)))))))))))))⟩))
theorem i_vc_copy {k : Nat} {u : SX} {v : SY} (I : i_Rel k u v) (hk : k + 5 ≤ 2564) (v1 : Int32) (v2 : Int32) (v3 : Int32) : wpX_copy (fun r => wpY_copy (fun r' => r' = r ∧ i_Rel (k + 5) u v) v v1 v2 v3) u v1 v2 v3 := by
  obtain ⟨rfl, hJ⟩ := I
  have hU : i_Rel (k + 5) u u := i_up ⟨rfl, hJ⟩
  obtain ⟨fc, fl, fe, fw, fn, cl, ph, pk, pa, po, qw, qu, cs, cw, cu, rc, ho, hw, hu, wb, bw, bu, lc, lk, la, lo, lv, lt⟩ := u
  obtain ⟨nc, nl, le, ne, rfl, rfl, rfl, rfl, hI⟩ := hJ
  obtain ⟨hD, hP, hQ, hO, hB, hT, hL⟩ := id hI
  obtain ⟨d1, d2, d3, d4, d5, d6⟩ := id hD
  obtain ⟨t1, t2, t3, t4, t5, t6, t7, t8, t9⟩ := id hT
  have hn : nc < 2 ^ 31 := by omega
  have hl : nl < 2 ^ 31 := by omega
  have hne : ne ≤ 64 := by omega
  have up : 1000 + 20 * k ≤ 1000 + 20 * (k + 5) := by omega
  unfold wpX_copy wpY_copy
  rcases tc_ix v1 hn with hb | ⟨c, hc, rfl⟩
  · exact tx_bc1 hb (br_f (by decide) (ty_bc1 hb (br_f (by decide) ⟨rfl, hU⟩)))
  have hc4 : vp_in (nI c) 4 := vp_in_nI (by omega) (by omega)
  have ec : (nI c).toNatClampNeg = c := nI_clamp (by omega)
  rcases tc_ix v2 hl with hb | ⟨a, ha, rfl⟩
  · exact tx_bc0 hc hn (br_t rfl (tx_ba1 hb (br_f (by decide) (ty_bc0 hc hn (br_t rfl (ty_ba1 hb (br_f (by decide) ⟨rfl, hU⟩)))))))
  have ha8 : vp_in (nI a) 8 := vp_in_nI (by omega) (by omega)
  have hp : vp_in (nI c * 8 + nI a) 32 := tc_pin (by omega) (by omega)
  obtain ⟨r, hr⟩ := tc_F1_ex (fun j => tc_V lk la (nI a) j ∧ lt j = cw (nI c * 8 + nI a).toNatClampNeg) lv 0 ne
  by_cases p0 : cs (nI c * 8 + nI a).toNatClampNeg = 0
  · skip
    by_cases e0 : v3 = 0
    · subst e0
      exact tx_bc0 hc hn (br_t rfl (tx_ba0 ha hl (br_t rfl (tx_pair ⟨hp, br_t p0 (br_f (by decide) (br_f (by decide) (br_t rfl (⟨hp, ty_bc0 hc hn (br_t rfl (ty_ba0 ha hl (br_t rfl (nm_e ⟨hp, br_t p0 (br_t rfl (⟨hp, ⟨rfl, hU⟩⟩))⟩))))⟩))))⟩))))
    by_cases e1 : v3 = 1
    · subst e1
      exact tx_bc0 hc hn (br_t rfl (tx_ba0 ha hl (br_t rfl (tx_pair ⟨hp, br_t p0 (br_f (by decide) (br_f (by decide) (br_f (by decide) (br_t rfl (ty_bc0 hc hn (br_t rfl (ty_ba0 ha hl (br_t rfl (nm_e ⟨hp, br_t p0 (br_f (by decide) (br_f (by decide) (br_f (by decide) (br_f (by decide) (⟨rfl, hU⟩)))))⟩)))))))))⟩))))
    by_cases e2 : v3 = 2
    · subst e2
      exact tx_bc0 hc hn (br_t rfl (tx_ba0 ha hl (br_t rfl (tx_pair ⟨hp, br_t p0 (br_f (by decide) (br_f (by decide) (br_f (by decide) (br_f (by decide) (br_t rfl (ty_bc0 hc hn (br_t rfl (ty_ba0 ha hl (br_t rfl (nm_e ⟨hp, br_t p0 (br_f (by decide) (br_f (by decide) (br_f (by decide) (br_f (by decide) (⟨rfl, hU⟩)))))⟩))))))))))⟩))))
    by_cases e3 : v3 = 3
    · subst e3
      exact tx_bc0 hc hn (br_t rfl (tx_ba0 ha hl (br_t rfl (tx_pair ⟨hp, br_t p0 (br_f (by decide) (br_f (by decide) (br_f (by decide) (br_f (by decide) (br_f (by decide) (br_t rfl (ty_bc0 hc hn (br_t rfl (ty_ba0 ha hl (br_t rfl (nm_e ⟨hp, br_t p0 (br_f (by decide) (br_f (by decide) (br_f (by decide) (br_f (by decide) (⟨rfl, hU⟩)))))⟩)))))))))))⟩))))
    by_cases e4 : v3 = 4
    · subst e4
      exact tx_bc0 hc hn (br_t rfl (tx_ba0 ha hl (br_t rfl (tx_pair ⟨hp, br_t p0 (br_f (by decide) (br_f (by decide) (br_f (by decide) (br_f (by decide) (br_f (by decide) (br_f (by decide) (br_t rfl (ty_bc0 hc hn (br_t rfl (ty_ba0 ha hl (br_t rfl (nm_e ⟨hp, br_t p0 (br_f (by decide) (br_f (by decide) (br_f (by decide) (br_f (by decide) (⟨rfl, hU⟩)))))⟩))))))))))))⟩))))
    by_cases e5 : v3 = 5
    · subst e5
      exact tx_bc0 hc hn (br_t rfl (tx_ba0 ha hl (br_t rfl (tx_pair ⟨hp, br_t p0 (br_f (by decide) (br_f (by decide) (br_f (by decide) (br_f (by decide) (br_f (by decide) (br_f (by decide) (br_f (by decide) (br_t rfl (br_f (by decide) (ty_bc0 hc hn (br_t rfl (ty_ba0 ha hl (br_t rfl (nm_e ⟨hp, br_t p0 (br_f (by decide) (br_f (by decide) (br_f (by decide) (br_t rfl (br_f (by decide) (⟨rfl, hU⟩))))))⟩))))))))))))))⟩))))
    by_cases e6 : v3 = 6
    · subst e6
      exact tx_bc0 hc hn (br_t rfl (tx_ba0 ha hl (br_t rfl (tx_pair ⟨hp, br_t p0 (br_f (by decide) (br_f (by decide) (br_f (by decide) (br_f (by decide) (br_f (by decide) (br_f (by decide) (br_f (by decide) (br_f (by decide) (br_t rfl (ty_bc0 hc hn (br_t rfl (ty_ba0 ha hl (br_t rfl (nm_e ⟨hp, br_t p0 (br_f (by decide) (br_f (by decide) (br_f (by decide) (br_f (by decide) (⟨rfl, hU⟩)))))⟩))))))))))))))⟩))))
    by_cases e7 : v3 = 7
    · subst e7
      exact tx_bc0 hc hn (br_t rfl (tx_ba0 ha hl (br_t rfl (tx_pair ⟨hp, br_t p0 (br_f (by decide) (br_f (by decide) (br_f (by decide) (br_f (by decide) (br_f (by decide) (br_f (by decide) (br_f (by decide) (br_f (by decide) (br_f (by decide) (br_t rfl (br_f (by decide) (ty_bc0 hc hn (br_t rfl (ty_ba0 ha hl (br_t rfl (nm_e ⟨hp, br_t p0 (br_f (by decide) (br_t rfl (br_f (by decide) (⟨rfl, hU⟩))))⟩))))))))))))))))⟩))))
    by_cases e8 : v3 = 8
    · subst e8
      exact tx_bc0 hc hn (br_t rfl (tx_ba0 ha hl (br_t rfl (tx_pair ⟨hp, br_t p0 (br_f (by decide) (br_f (by decide) (br_f (by decide) (br_f (by decide) (br_f (by decide) (br_f (by decide) (br_f (by decide) (br_f (by decide) (br_f (by decide) (br_f (by decide) (br_t rfl (br_f (by decide) (ty_bc0 hc hn (br_t rfl (ty_ba0 ha hl (br_t rfl (nm_e ⟨hp, br_t p0 (br_f (by decide) (br_f (by decide) (br_t rfl (br_f (by decide) (⟨rfl, hU⟩)))))⟩)))))))))))))))))⟩))))
    by_cases g1 : v3 < 0
    · exact tx_bc0 hc hn (br_t rfl (tx_ba0 ha hl (br_t rfl (tx_pair ⟨hp, br_t p0 (br_t g1 (ty_bc0 hc hn (br_t rfl (ty_ba0 ha hl (br_t rfl (nm_e ⟨hp, br_t p0 (br_f e0 (br_f e7 (br_f e8 (br_f e5 (⟨rfl, hU⟩)))))⟩))))))⟩))))
    by_cases g2 : 8 < v3
    · exact tx_bc0 hc hn (br_t rfl (tx_ba0 ha hl (br_t rfl (tx_pair ⟨hp, br_t p0 (br_f g1 (br_t g2 (ty_bc0 hc hn (br_t rfl (ty_ba0 ha hl (br_t rfl (nm_e ⟨hp, br_t p0 (br_f e0 (br_f e7 (br_f e8 (br_f e5 (⟨rfl, hU⟩)))))⟩)))))))⟩))))
    exact tx_bc0 hc hn (br_t rfl (tx_ba0 ha hl (br_t rfl (tx_pair ⟨hp, br_t p0 (br_f g1 (br_f g2 (br_f e0 (br_f e1 (br_f e2 (br_f e3 (br_f e4 (br_f e5 (br_f e6 (br_f e7 (br_f e8 (trivial))))))))))))⟩))))
  · skip
    by_cases e0 : v3 = 0
    · subst e0
      exact tx_bc0 hc hn (br_t rfl (tx_ba0 ha hl (br_t rfl (tx_pair ⟨hp, br_f p0 (br_f (by decide) (br_f (by decide) (br_t rfl (⟨hp, ty_bc0 hc hn (br_t rfl (ty_ba0 ha hl (br_t rfl (nm_e ⟨hp, br_f p0 (br_t rfl (⟨hp, ⟨rfl, hU⟩⟩))⟩))))⟩))))⟩))))
    by_cases e1 : v3 = 1
    · subst e1
      exact tx_bc0 hc hn (br_t rfl (tx_ba0 ha hl (br_t rfl (tx_pair ⟨hp, br_f p0 (br_f (by decide) (br_f (by decide) (br_f (by decide) (br_t rfl (ty_bc0 hc hn (br_t rfl (ty_ba0 ha hl (br_t rfl (nm_e ⟨hp, br_f p0 (br_f (by decide) (br_f (by decide) (br_f (by decide) (br_f (by decide) (⟨rfl, hU⟩)))))⟩)))))))))⟩))))
    by_cases e2 : v3 = 2
    · subst e2
      exact tx_bc0 hc hn (br_t rfl (tx_ba0 ha hl (br_t rfl (tx_pair ⟨hp, br_f p0 (br_f (by decide) (br_f (by decide) (br_f (by decide) (br_f (by decide) (br_t rfl (ty_bc0 hc hn (br_t rfl (ty_ba0 ha hl (br_t rfl (nm_e ⟨hp, br_f p0 (br_f (by decide) (br_f (by decide) (br_f (by decide) (br_f (by decide) (⟨rfl, hU⟩)))))⟩))))))))))⟩))))
    by_cases e3 : v3 = 3
    · subst e3
      exact tx_bc0 hc hn (br_t rfl (tx_ba0 ha hl (br_t rfl (tx_pair ⟨hp, br_f p0 (br_f (by decide) (br_f (by decide) (br_f (by decide) (br_f (by decide) (br_f (by decide) (br_t rfl (ty_bc0 hc hn (br_t rfl (ty_ba0 ha hl (br_t rfl (nm_e ⟨hp, br_f p0 (br_f (by decide) (br_f (by decide) (br_f (by decide) (br_f (by decide) (⟨rfl, hU⟩)))))⟩)))))))))))⟩))))
    by_cases e4 : v3 = 4
    · subst e4
      exact tx_bc0 hc hn (br_t rfl (tx_ba0 ha hl (br_t rfl (tx_pair ⟨hp, br_f p0 (br_f (by decide) (br_f (by decide) (br_f (by decide) (br_f (by decide) (br_f (by decide) (br_f (by decide) (br_t rfl (ty_bc0 hc hn (br_t rfl (ty_ba0 ha hl (br_t rfl (nm_e ⟨hp, br_f p0 (br_f (by decide) (br_f (by decide) (br_f (by decide) (br_f (by decide) (⟨rfl, hU⟩)))))⟩))))))))))))⟩))))
    by_cases e5 : v3 = 5
    · subst e5
      exact tx_bc0 hc hn (br_t rfl (tx_ba0 ha hl (br_t rfl (tx_pair ⟨hp, br_f p0 (br_f (by decide) (br_f (by decide) (br_f (by decide) (br_f (by decide) (br_f (by decide) (br_f (by decide) (br_f (by decide) (br_t rfl (br_t rfl ⟨hp, tx_val hr hne (ty_bc0 hc hn (br_t rfl (ty_ba0 ha hl (br_t rfl (nm_e ⟨hp, br_f p0 (br_f (by decide) (br_f (by decide) (br_f (by decide) (br_t rfl (br_t rfl ⟨hp, ty_val hr hne (⟨rfl, hU⟩)⟩)))))⟩)))))⟩)))))))))⟩))))
    by_cases e6 : v3 = 6
    · subst e6
      exact tx_bc0 hc hn (br_t rfl (tx_ba0 ha hl (br_t rfl (tx_pair ⟨hp, br_f p0 (br_f (by decide) (br_f (by decide) (br_f (by decide) (br_f (by decide) (br_f (by decide) (br_f (by decide) (br_f (by decide) (br_f (by decide) (br_t rfl (ty_bc0 hc hn (br_t rfl (ty_ba0 ha hl (br_t rfl (nm_e ⟨hp, br_f p0 (br_f (by decide) (br_f (by decide) (br_f (by decide) (br_f (by decide) (⟨rfl, hU⟩)))))⟩))))))))))))))⟩))))
    by_cases e7 : v3 = 7
    · subst e7
      exact tx_bc0 hc hn (br_t rfl (tx_ba0 ha hl (br_t rfl (tx_pair ⟨hp, br_f p0 (br_f (by decide) (br_f (by decide) (br_f (by decide) (br_f (by decide) (br_f (by decide) (br_f (by decide) (br_f (by decide) (br_f (by decide) (br_f (by decide) (br_t rfl (br_t rfl ⟨hp, ty_bc0 hc hn (br_t rfl (ty_ba0 ha hl (br_t rfl (nm_e ⟨hp, br_f p0 (br_f (by decide) (br_t rfl (br_t rfl ⟨hp, ⟨rfl, hU⟩⟩)))⟩))))⟩)))))))))))⟩))))
    by_cases e8 : v3 = 8
    · subst e8
      exact tx_bc0 hc hn (br_t rfl (tx_ba0 ha hl (br_t rfl (tx_pair ⟨hp, br_f p0 (br_f (by decide) (br_f (by decide) (br_f (by decide) (br_f (by decide) (br_f (by decide) (br_f (by decide) (br_f (by decide) (br_f (by decide) (br_f (by decide) (br_f (by decide) (br_t rfl (br_t rfl ⟨hp, ty_bc0 hc hn (br_t rfl (ty_ba0 ha hl (br_t rfl (nm_e ⟨hp, br_f p0 (br_f (by decide) (br_f (by decide) (br_t rfl (br_t rfl ⟨hp, ⟨rfl, hU⟩⟩))))⟩))))⟩))))))))))))⟩))))
    by_cases g1 : v3 < 0
    · exact tx_bc0 hc hn (br_t rfl (tx_ba0 ha hl (br_t rfl (tx_pair ⟨hp, br_f p0 (br_t g1 (ty_bc0 hc hn (br_t rfl (ty_ba0 ha hl (br_t rfl (nm_e ⟨hp, br_f p0 (br_f e0 (br_f e7 (br_f e8 (br_f e5 (⟨rfl, hU⟩)))))⟩))))))⟩))))
    by_cases g2 : 8 < v3
    · exact tx_bc0 hc hn (br_t rfl (tx_ba0 ha hl (br_t rfl (tx_pair ⟨hp, br_f p0 (br_f g1 (br_t g2 (ty_bc0 hc hn (br_t rfl (ty_ba0 ha hl (br_t rfl (nm_e ⟨hp, br_f p0 (br_f e0 (br_f e7 (br_f e8 (br_f e5 (⟨rfl, hU⟩)))))⟩)))))))⟩))))
    exact tx_bc0 hc hn (br_t rfl (tx_ba0 ha hl (br_t rfl (tx_pair ⟨hp, br_f p0 (br_f g1 (br_f g2 (br_f e0 (br_f e1 (br_f e2 (br_f e3 (br_f e4 (br_f e5 (br_f e6 (br_f e7 (br_f e8 (trivial))))))))))))⟩))))
theorem i_vc_line {k : Nat} {u : SX} {v : SY} (I : i_Rel k u v) (hk : k + 5 ≤ 2564) (v1 : Int32) (v2 : Int32) : wpX_line (fun r => wpY_line (fun r' => r' = r ∧ i_Rel (k + 5) u v) v v1 v2) u v1 v2 := by
  obtain ⟨rfl, hJ⟩ := I
  have hU : i_Rel (k + 5) u u := i_up ⟨rfl, hJ⟩
  obtain ⟨fc, fl, fe, fw, fn, cl, ph, pk, pa, po, qw, qu, cs, cw, cu, rc, ho, hw, hu, wb, bw, bu, lc, lk, la, lo, lv, lt⟩ := u
  obtain ⟨nc, nl, le, ne, rfl, rfl, rfl, rfl, hI⟩ := hJ
  obtain ⟨hD, hP, hQ, hO, hB, hT, hL⟩ := id hI
  obtain ⟨d1, d2, d3, d4, d5, d6⟩ := id hD
  obtain ⟨t1, t2, t3, t4, t5, t6, t7, t8, t9⟩ := id hT
  have hn : nc < 2 ^ 31 := by omega
  have hl : nl < 2 ^ 31 := by omega
  have hne : ne ≤ 64 := by omega
  have up : 1000 + 20 * k ≤ 1000 + 20 * (k + 5) := by omega
  unfold wpX_line wpY_line
  rcases tc_ix v1 hl with hb | ⟨a, ha, rfl⟩
  · exact tx_ba1 hb (br_f (by decide) (ty_ba1 hb (br_f (by decide) ⟨rfl, hU⟩)))
  have ha8 : vp_in (nI a) 8 := vp_in_nI (by omega) (by omega)
  obtain ⟨r, hr⟩ := tc_F1_ex (fun j => tc_V lk la (nI a) j ∧ lt j = hw (nI a).toNatClampNeg) lv 0 ne
  have hg := (tc_gr_ok lk la lt lv (nI a) ne hL).2.2
  by_cases p0 : wb (nI a).toNatClampNeg = 0
  · skip
    by_cases e5 : v2 = 5
    · subst e5
      exact tx_ba0 ha hl (br_t rfl (br_f (by decide) (br_f (by decide) (br_t rfl (⟨ha8, tx_val hr hne (ty_ba0 ha hl (br_t rfl (br_f (by decide) (br_f (by decide) (br_f (by decide) (br_t rfl (⟨ha8, ty_val hr hne ⟨rfl, hU⟩⟩)))))))⟩)))))
    by_cases e6 : v2 = 6
    · subst e6
      exact tx_ba0 ha hl (br_t rfl (br_f (by decide) (br_f (by decide) (br_f (by decide) (br_t rfl (ty_ba0 ha hl (br_t rfl (br_f (by decide) (br_f (by decide) (br_f (by decide) (br_f (by decide) (br_f (by decide) (br_f (by decide) (⟨rfl, hU⟩))))))))))))))
    by_cases e7 : v2 = 7
    · subst e7
      exact tx_ba0 ha hl (br_t rfl (br_f (by decide) (br_f (by decide) (br_f (by decide) (br_f (by decide) (br_t rfl (⟨ha8, ty_ba0 ha hl (br_t rfl (br_f (by decide) (br_t rfl (⟨ha8, ⟨rfl, hU⟩⟩))))⟩)))))))
    by_cases e8 : v2 = 8
    · subst e8
      exact tx_ba0 ha hl (br_t rfl (br_f (by decide) (br_f (by decide) (br_f (by decide) (br_f (by decide) (br_f (by decide) (br_t rfl (⟨ha8, ty_ba0 ha hl (br_t rfl (br_f (by decide) (br_f (by decide) (br_t rfl (⟨ha8, ⟨rfl, hU⟩⟩)))))⟩))))))))
    by_cases e9 : v2 = 9
    · subst e9
      exact tx_ba0 ha hl (br_t rfl (br_f (by decide) (br_f (by decide) (br_f (by decide) (br_f (by decide) (br_f (by decide) (br_f (by decide) (br_t rfl (⟨ha8, ty_ba0 ha hl (br_t rfl (br_t rfl (⟨ha8, ⟨rfl, hU⟩⟩)))⟩)))))))))
    by_cases e10 : v2 = 10
    · subst e10
      exact tx_ba0 ha hl (br_t rfl (br_f (by decide) (br_f (by decide) (br_f (by decide) (br_f (by decide) (br_f (by decide) (br_f (by decide) (br_f (by decide) (br_t rfl (tx_lat hne (ty_ba0 ha hl (br_t rfl (br_f (by decide) (br_f (by decide) (br_f (by decide) (br_f (by decide) (br_t rfl (ty_lat hne (fun n => br_t (Int32.le_refl _) (ty_val hg hne ⟨rfl, hU⟩))))))))))))))))))))
    by_cases e11 : v2 = 11
    · subst e11
      exact tx_ba0 ha hl (br_t rfl (br_f (by decide) (br_f (by decide) (br_f (by decide) (br_f (by decide) (br_f (by decide) (br_f (by decide) (br_f (by decide) (br_f (by decide) (br_t rfl (⟨ha8, br_t p0 (ty_ba0 ha hl (br_t rfl (br_f (by decide) (br_f (by decide) (br_f (by decide) (br_f (by decide) (br_f (by decide) (br_t rfl (⟨ha8, br_t p0 ⟨rfl, hU⟩⟩)))))))))⟩)))))))))))
    by_cases g1 : v2 < 5
    · exact tx_ba0 ha hl (br_t rfl (br_t g1 (ty_ba0 ha hl (br_t rfl (br_f e9 (br_f e7 (br_f e8 (br_f e5 (br_f e10 (br_f e11 (⟨rfl, hU⟩)))))))))))
    by_cases g2 : 11 < v2
    · exact tx_ba0 ha hl (br_t rfl (br_f g1 (br_t g2 (ty_ba0 ha hl (br_t rfl (br_f e9 (br_f e7 (br_f e8 (br_f e5 (br_f e10 (br_f e11 (⟨rfl, hU⟩))))))))))))
    exact tx_ba0 ha hl (br_t rfl (br_f g1 (br_f g2 (br_f e5 (br_f e6 (br_f e7 (br_f e8 (br_f e9 (br_f e10 (br_f e11 (trivial)))))))))))
  · skip
    by_cases e5 : v2 = 5
    · subst e5
      exact tx_ba0 ha hl (br_t rfl (br_f (by decide) (br_f (by decide) (br_t rfl (⟨ha8, tx_val hr hne (ty_ba0 ha hl (br_t rfl (br_f (by decide) (br_f (by decide) (br_f (by decide) (br_t rfl (⟨ha8, ty_val hr hne ⟨rfl, hU⟩⟩)))))))⟩)))))
    by_cases e6 : v2 = 6
    · subst e6
      exact tx_ba0 ha hl (br_t rfl (br_f (by decide) (br_f (by decide) (br_f (by decide) (br_t rfl (ty_ba0 ha hl (br_t rfl (br_f (by decide) (br_f (by decide) (br_f (by decide) (br_f (by decide) (br_f (by decide) (br_f (by decide) (⟨rfl, hU⟩))))))))))))))
    by_cases e7 : v2 = 7
    · subst e7
      exact tx_ba0 ha hl (br_t rfl (br_f (by decide) (br_f (by decide) (br_f (by decide) (br_f (by decide) (br_t rfl (⟨ha8, ty_ba0 ha hl (br_t rfl (br_f (by decide) (br_t rfl (⟨ha8, ⟨rfl, hU⟩⟩))))⟩)))))))
    by_cases e8 : v2 = 8
    · subst e8
      exact tx_ba0 ha hl (br_t rfl (br_f (by decide) (br_f (by decide) (br_f (by decide) (br_f (by decide) (br_f (by decide) (br_t rfl (⟨ha8, ty_ba0 ha hl (br_t rfl (br_f (by decide) (br_f (by decide) (br_t rfl (⟨ha8, ⟨rfl, hU⟩⟩)))))⟩))))))))
    by_cases e9 : v2 = 9
    · subst e9
      exact tx_ba0 ha hl (br_t rfl (br_f (by decide) (br_f (by decide) (br_f (by decide) (br_f (by decide) (br_f (by decide) (br_f (by decide) (br_t rfl (⟨ha8, ty_ba0 ha hl (br_t rfl (br_t rfl (⟨ha8, ⟨rfl, hU⟩⟩)))⟩)))))))))
    by_cases e10 : v2 = 10
    · subst e10
      exact tx_ba0 ha hl (br_t rfl (br_f (by decide) (br_f (by decide) (br_f (by decide) (br_f (by decide) (br_f (by decide) (br_f (by decide) (br_f (by decide) (br_t rfl (tx_lat hne (ty_ba0 ha hl (br_t rfl (br_f (by decide) (br_f (by decide) (br_f (by decide) (br_f (by decide) (br_t rfl (ty_lat hne (fun n => br_t (Int32.le_refl _) (ty_val hg hne ⟨rfl, hU⟩))))))))))))))))))))
    by_cases e11 : v2 = 11
    · subst e11
      exact tx_ba0 ha hl (br_t rfl (br_f (by decide) (br_f (by decide) (br_f (by decide) (br_f (by decide) (br_f (by decide) (br_f (by decide) (br_f (by decide) (br_f (by decide) (br_t rfl (⟨ha8, br_f p0 ⟨ha8, ty_ba0 ha hl (br_t rfl (br_f (by decide) (br_f (by decide) (br_f (by decide) (br_f (by decide) (br_f (by decide) (br_t rfl (⟨ha8, br_f p0 ⟨ha8, ⟨rfl, hU⟩⟩⟩))))))))⟩⟩)))))))))))
    by_cases g1 : v2 < 5
    · exact tx_ba0 ha hl (br_t rfl (br_t g1 (ty_ba0 ha hl (br_t rfl (br_f e9 (br_f e7 (br_f e8 (br_f e5 (br_f e10 (br_f e11 (⟨rfl, hU⟩)))))))))))
    by_cases g2 : 11 < v2
    · exact tx_ba0 ha hl (br_t rfl (br_f g1 (br_t g2 (ty_ba0 ha hl (br_t rfl (br_f e9 (br_f e7 (br_f e8 (br_f e5 (br_f e10 (br_f e11 (⟨rfl, hU⟩))))))))))))
    exact tx_ba0 ha hl (br_t rfl (br_f g1 (br_f g2 (br_f e5 (br_f e6 (br_f e7 (br_f e8 (br_f e9 (br_f e10 (br_f e11 (trivial)))))))))))
theorem i_vc_log {k : Nat} {u : SX} {v : SY} (I : i_Rel k u v) (hk : k + 5 ≤ 2564) (v1 : Int32) (v2 : Int32) : wpX_log (fun r => wpY_log (fun r' => r' = r ∧ i_Rel (k + 5) u v) v v1 v2) u v1 v2 := by
  obtain ⟨rfl, hJ⟩ := I
  have hU : i_Rel (k + 5) u u := i_up ⟨rfl, hJ⟩
  obtain ⟨fc, fl, fe, fw, fn, cl, ph, pk, pa, po, qw, qu, cs, cw, cu, rc, ho, hw, hu, wb, bw, bu, lc, lk, la, lo, lv, lt⟩ := u
  obtain ⟨nc, nl, le, ne, rfl, rfl, rfl, rfl, hI⟩ := hJ
  obtain ⟨hD, hP, hQ, hO, hB, hT, hL⟩ := id hI
  obtain ⟨d1, d2, d3, d4, d5, d6⟩ := id hD
  obtain ⟨t1, t2, t3, t4, t5, t6, t7, t8, t9⟩ := id hT
  have hn : nc < 2 ^ 31 := by omega
  have hl : nl < 2 ^ 31 := by omega
  have hne : ne ≤ 64 := by omega
  have up : 1000 + 20 * k ≤ 1000 + 20 * (k + 5) := by omega
  unfold wpX_log wpY_log
  by_cases h0 : v1 < 0
  · exact br_t h0 (br_t h0 ⟨rfl, hU⟩)
  by_cases h1 : v1 < nI ne
  · have hv : vp_in v1 64 := by
      obtain ⟨i, hi, rfl⟩ := nI_of h0
      rw [nI_ltI hi (by omega)] at h1
      exact vp_in_nI (by omega) (by omega)
    by_cases e1 : v2 = 1
    · subst e1
      exact br_f h0 (br_t h1 (br_f (by decide) (br_f (by decide) (br_t rfl (⟨hv, br_f h0 (br_t h1 (br_f (by decide) (br_t rfl (⟨hv, ⟨rfl, hU⟩⟩))))⟩)))))
    by_cases e2 : v2 = 2
    · subst e2
      exact br_f h0 (br_t h1 (br_f (by decide) (br_f (by decide) (br_f (by decide) (br_t rfl (⟨hv, br_f h0 (br_t h1 (br_t rfl (⟨hv, ⟨rfl, hU⟩⟩)))⟩))))))
    by_cases e3 : v2 = 3
    · subst e3
      exact br_f h0 (br_t h1 (br_f (by decide) (br_f (by decide) (br_f (by decide) (br_f (by decide) (br_t rfl (⟨hv, br_f h0 (br_t h1 (br_f (by decide) (br_f (by decide) (br_t rfl (⟨hv, ⟨rfl, hU⟩⟩)))))⟩)))))))
    by_cases e4 : v2 = 4
    · subst e4
      exact br_f h0 (br_t h1 (br_f (by decide) (br_f (by decide) (br_f (by decide) (br_f (by decide) (br_f (by decide) (br_t rfl (⟨hv, br_f h0 (br_t h1 (br_f (by decide) (br_f (by decide) (br_f (by decide) (br_t rfl (⟨hv, ⟨rfl, hU⟩⟩))))))⟩))))))))
    by_cases e5 : v2 = 5
    · subst e5
      exact br_f h0 (br_t h1 (br_f (by decide) (br_f (by decide) (br_f (by decide) (br_f (by decide) (br_f (by decide) (br_f (by decide) (br_t rfl (⟨hv, br_f h0 (br_t h1 (br_f (by decide) (br_f (by decide) (br_f (by decide) (br_f (by decide) (br_t rfl (⟨hv, ⟨rfl, hU⟩⟩)))))))⟩)))))))))
    by_cases e6 : v2 = 6
    · subst e6
      exact br_f h0 (br_t h1 (br_f (by decide) (br_f (by decide) (br_f (by decide) (br_f (by decide) (br_f (by decide) (br_f (by decide) (br_f (by decide) (br_t rfl (⟨hv, br_f h0 (br_t h1 (br_f (by decide) (br_f (by decide) (br_f (by decide) (br_f (by decide) (br_f (by decide) (br_t rfl (⟨hv, ⟨rfl, hU⟩⟩))))))))⟩))))))))))
    by_cases g1 : v2 < 1
    · exact br_f h0 (br_t h1 (br_t g1 (br_f h0 (br_t h1 (br_f e2 (br_f e1 (br_f e3 (br_f e4 (br_f e5 (br_f e6 (⟨rfl, hU⟩)))))))))))
    by_cases g2 : 6 < v2
    · exact br_f h0 (br_t h1 (br_f g1 (br_t g2 (br_f h0 (br_t h1 (br_f e2 (br_f e1 (br_f e3 (br_f e4 (br_f e5 (br_f e6 (⟨rfl, hU⟩))))))))))))
    exact br_f h0 (br_t h1 (br_f g1 (br_f g2 (br_f e1 (br_f e2 (br_f e3 (br_f e4 (br_f e5 (br_f e6 (trivial))))))))))
  · exact br_f h0 (br_f h1 (br_f h0 (br_f h1 ⟨rfl, hU⟩)))
end
