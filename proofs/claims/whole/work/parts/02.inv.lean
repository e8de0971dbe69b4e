/-! the invariant of the shared state and what keeps it -/
def tc_D (nc nl le : Nat) : Prop := 2 ≤ nc ∧ nc ≤ 4 ∧ 1 ≤ nl ∧ nl ≤ 8 ∧ 1 ≤ le ∧ le ≤ 16
def tc_Q (nc nl : Nat) (ph pk pa : Nat → Int32) : Prop := ∀ c, c < nc → ¬ ph c = 0 → (pk c = 1 ∨ pk c = 2 ∨ pk c = 3) ∧ ∃ a, a < nl ∧ pa c = nI a
def tc_O (nc : Nat) (ho : Nat → Int32) : Prop := ∀ a, a < 8 → ho a = -1 ∨ ∃ c, c < nc ∧ ho a = nI c
def tc_B (rc : Nat → Int32) : Prop := ∀ i, rc i = 0 ∨ rc i = 1
def tc_L (ne : Nat) (lk lt : Nat → Int32) : Prop := ∀ i, i < ne → ¬ lk i = 1 → ¬ lt i = 0
def tc_TT (B : Nat) (cl qw qu cw cu hw hu bw bu : Nat → Int32) : Prop := tc_T B cl ∧ tc_T B qw ∧ tc_T B qu ∧ tc_T B cw ∧ tc_T B cu ∧ tc_T B hw ∧ tc_T B hu ∧ tc_T B bw ∧ tc_T B bu
def tc_I (k nc nl le ne : Nat) (cl ph pk pa qw qu cw cu rc ho hw hu bw bu lk lt : Nat → Int32) : Prop :=
  tc_D nc nl le ∧ ne + tc_cnt ph nc ≤ 64 ∧ tc_Q nc nl ph pk pa ∧ tc_O nc ho ∧ tc_B rc ∧ tc_TT (1000 + 20 * k) cl qw qu cw cu hw hu bw bu ∧ tc_L ne lk lt
theorem tc_TT_up {B C : Nat} {cl qw qu cw cu hw hu bw bu : Nat → Int32} (h : B ≤ C) (t : tc_TT B cl qw qu cw cu hw hu bw bu) : tc_TT C cl qw qu cw cu hw hu bw bu := by
  obtain ⟨h1, h2, h3, h4, h5, h6, h7, h8, h9⟩ := t
  exact ⟨tc_T_up h h1, tc_T_up h h2, tc_T_up h h3, tc_T_up h h4, tc_T_up h h5, tc_T_up h h6, tc_T_up h h7, tc_T_up h h8, tc_T_up h h9⟩
theorem tc_I_up {k nc nl le ne : Nat} {cl ph pk pa qw qu cw cu rc ho hw hu bw bu lk lt : Nat → Int32} (h : tc_I k nc nl le ne cl ph pk pa qw qu cw cu rc ho hw hu bw bu lk lt) : tc_I (k + 5) nc nl le ne cl ph pk pa qw qu cw cu rc ho hw hu bw bu lk lt := by
  obtain ⟨hD, hP, hQ, hO, hB, hT, hL⟩ := h
  exact ⟨hD, hP, hQ, hO, hB, tc_TT_up (by omega) hT, hL⟩
theorem tc_Q_in {nc nl c a : Nat} {ph pk pa : Nat → Int32} {x kd : Int32} (h : tc_Q nc nl ph pk pa) (hk : kd = 1 ∨ kd = 2 ∨ kd = 3) (ha : a < nl) : tc_Q nc nl (upd ph c x) (upd pk c kd) (upd pa c (nI a)) := by
  intro d hd hp
  by_cases e : d = c
  · subst e; rw [tc_us, tc_us]; exact ⟨hk, a, ha, rfl⟩
  · rw [tc_un e] at hp; rw [tc_un e, tc_un e]; exact h d hd hp
theorem tc_Q_u {nc nl c : Nat} {ph pk pa : Nat → Int32} {x : Int32} (h : tc_Q nc nl ph pk pa) (hx : ¬ ph c = 0 ∨ x = 0) : tc_Q nc nl (upd ph c x) pk pa := by
  intro d hd hp
  by_cases e : d = c
  · subst e
    rw [tc_us] at hp
    cases hx with
    | inl h1 => exact h d hd h1
    | inr h1 => exact absurd h1 hp
  · rw [tc_un e] at hp; exact h d hd hp
theorem tc_O_u {nc a : Nat} {ho : Nat → Int32} {x : Int32} (h : tc_O nc ho) (hx : x = -1 ∨ ∃ c, c < nc ∧ x = nI c) : tc_O nc (upd ho a x) := by
  intro b hb
  by_cases e : b = a
  · subst e; rw [tc_us]; exact hx
  · rw [tc_un e]; exact h b hb
theorem tc_B_u {i : Nat} {rc : Nat → Int32} {x : Int32} (h : tc_B rc) (hx : x = 0 ∨ x = 1) : tc_B (upd rc i x) := by
  intro b
  by_cases e : b = i
  · subst e; rw [tc_us]; exact hx
  · rw [tc_un e]; exact h b
theorem tc_L_u {ne : Nat} {lk lt : Nat → Int32} {kd tm : Int32} (h : tc_L ne lk lt) (hx : ¬ kd = 1 → ¬ tm = 0) : tc_L (ne + 1) (upd lk ne kd) (upd lt ne tm) := by
  intro i hi
  by_cases e : i = ne
  · subst e; rw [tc_us, tc_us]; exact hx
  · rw [tc_un e, tc_un e]; exact h i (by omega)
theorem tc_mul (a b : Nat) : nI a * nI b = nI (a * b) := (Int32.ofNat_mul a b).symm
theorem tc_8 : (8 : Int32) = nI 8 := by decide
theorem tc_pair (c a : Nat) : nI c * 8 + nI a = nI (c * 8 + a) := by
  rw [tc_8, tc_mul, nI_add]
theorem tc_pin {c a : Nat} (hc : c < 4) (ha : a < 8) : vp_in (nI c * 8 + nI a) 32 := by
  rw [tc_pair]
  exact vp_in_nI (by omega) (by omega)
/-- what a commit makes of a pair's written and until, its time and its value -/
def tc_CM (kd op r s x : Int32) (p : Nat) (cw cu dw du : Nat → Int32) (tm vl : Int32) : Prop :=
  (kd = 1 ∧ s = 2 ∧ tm = tc_mx x (cw p) ∧ dw = cw ∧ du = upd cu p (tc_mx (cu p) tm) ∧ vl = r) ∨
  (kd = 1 ∧ ¬ s = 2 ∧ tm = tc_mx x (cw p) ∧ dw = cw ∧ du = cu ∧ vl = r) ∨
  (kd = 2 ∧ tm = tc_mx x (cu p + 1) ∧ dw = upd cw p tm ∧ du = upd cu p tm ∧ vl = op) ∨
  (kd = 3 ∧ tm = tc_mx x (cu p + 1) ∧ dw = upd cw p tm ∧ du = upd cu p tm ∧ vl = r + op)
theorem tc_CM_ex {kd : Int32} (op r s x : Int32) (p : Nat) (cw cu : Nat → Int32) (hk : kd = 1 ∨ kd = 2 ∨ kd = 3) : ∃ dw du tm vl, tc_CM kd op r s x p cw cu dw du tm vl := by
  rcases hk with rfl | rfl | rfl
  · by_cases hs : s = 2
    · exact ⟨_, _, _, _, Or.inl ⟨rfl, hs, rfl, rfl, rfl, rfl⟩⟩
    · exact ⟨_, _, _, _, Or.inr (Or.inl ⟨rfl, hs, rfl, rfl, rfl, rfl⟩)⟩
  · exact ⟨_, _, _, _, Or.inr (Or.inr (Or.inl ⟨rfl, rfl, rfl, rfl, rfl⟩))⟩
  · exact ⟨_, _, _, _, Or.inr (Or.inr (Or.inr ⟨rfl, rfl, rfl, rfl, rfl⟩))⟩
theorem tc_CM_T {B p : Nat} {kd op r s x tm vl : Int32} {cw cu dw du : Nat → Int32} (h : tc_CM kd op r s x p cw cu dw du tm vl) (hB : B + 1 < 2 ^ 31) (hw : tc_T B cw) (hu : tc_T B cu) (hx : tc_t B x) : tc_T (B + 1) dw ∧ tc_T (B + 1) du ∧ tc_t (B + 1) tm ∧ (¬ kd = 1 → ¬ tm = 0) := by
  have up : B ≤ B + 1 := Nat.le_succ B
  rcases h with ⟨hk, _, ht, e1, e2, _⟩ | ⟨hk, _, ht, e1, e2, _⟩ | ⟨hk, ht, e1, e2, _⟩ | ⟨hk, ht, e1, e2, _⟩
  · have T : tc_t (B + 1) tm := by rw [ht]; exact tc_t_up up (tc_t_mx hx (hw p))
    rw [e1, e2]
    exact ⟨tc_T_up up hw, tc_T_u (tc_T_up up hu) (tc_t_mx (tc_t_up up (hu p)) T), T, fun z => absurd hk z⟩
  · have T : tc_t (B + 1) tm := by rw [ht]; exact tc_t_up up (tc_t_mx hx (hw p))
    rw [e1, e2]
    exact ⟨tc_T_up up hw, tc_T_up up hu, T, fun z => absurd hk z⟩
  · have T : tc_t (B + 1) tm := by rw [ht]; exact tc_t_mx (tc_t_up up hx) (tc_t_1 (hu p))
    rw [e1, e2]
    exact ⟨tc_T_u (tc_T_up up hw) T, tc_T_u (tc_T_up up hu) T, T, fun _ => by rw [ht]; exact tc_mx_0 hB hx (hu p)⟩
  · have T : tc_t (B + 1) tm := by rw [ht]; exact tc_t_mx (tc_t_up up hx) (tc_t_1 (hu p))
    rw [e1, e2]
    exact ⟨tc_T_u (tc_T_up up hw) T, tc_T_u (tc_T_up up hu) T, T, fun _ => by rw [ht]; exact tc_mx_0 hB hx (hu p)⟩
theorem tc_I_cm {B k nc nl le ne p ci : Nat} {kd op r s tm vl : Int32} {cl ph pk pa qw qu cw cu dw du rc ho hw hu bw bu lk lt : Nat → Int32} (hD : tc_D nc nl le) (hP : ne + 1 + tc_cnt ph nc ≤ 64) (hQ : tc_Q nc nl ph pk pa) (hO : tc_O nc ho) (hR : tc_B rc) (hT : tc_TT B cl qw qu cw cu hw hu bw bu) (hL : tc_L ne lk lt) (hB : B + 1 ≤ 1000 + 20 * k) (hk : k ≤ 2564) (h : tc_CM kd op r s (cl ci) p cw cu dw du tm vl) : tc_I k nc nl le (ne + 1) (upd cl ci tm) ph pk pa qw qu dw du rc ho hw hu bw bu (upd lk ne kd) (upd lt ne tm) := by
  obtain ⟨t1, t2, t3, t4, t5, t6, t7, t8, t9⟩ := hT
  obtain ⟨c1, c2, c3, c4⟩ := tc_CM_T h (by omega) t4 t5 (t1 ci)
  have up : B ≤ 1000 + 20 * k := by omega
  exact ⟨hD, hP, hQ, hO, hR, ⟨tc_T_u (tc_T_up up t1) (tc_t_up hB c3), tc_T_up up t2, tc_T_up up t3, tc_T_up hB c1, tc_T_up hB c2, tc_T_up up t6, tc_T_up up t7, tc_T_up up t8, tc_T_up up t9⟩, tc_L_u hL c4⟩
theorem tc_nb {x : Int32} (h : x = 0 ∨ x = 1) : narrow .boolean (.int x) = .int x := by
  rcases h with rfl | rfl <;> rfl
theorem tc_b1 : vp_nar .boolean 1 = 0 ∨ vp_nar .boolean 1 = 1 := Or.inr rfl
theorem tc_b0 : vp_nar .boolean 0 = 0 ∨ vp_nar .boolean 0 = 1 := Or.inl rfl
/-- the invariant of a state -/
def tc_J (k : Nat) (u : SX) : Prop := match u with
  | (fc, fl, fe, _, fn, cl, ph, pk, pa, _, qw, qu, _, cw, cu, rc, ho, hw, hu, _, bw, bu, _, lk, _, _, _, lt) => ∃ nc nl le ne : Nat, fc = nI nc ∧ fl = nI nl ∧ fe = nI le ∧ fn = nI ne ∧ tc_I k nc nl le ne cl ph pk pa qw qu cw cu rc ho hw hu bw bu lk lt
/-- both sides hold the same state, and it keeps the invariant -/
def i_Rel (k : Nat) (u : SX) (v : SY) : Prop := u = v ∧ tc_J k u
theorem i_up {k : Nat} {u : SX} {v : SY} (h : i_Rel k u v) : i_Rel (k + 5) u v := by
  obtain ⟨e, hJ⟩ := h
  refine ⟨e, ?_⟩
  obtain ⟨fc, fl, fe, fw, fn, cl, ph, pk, pa, po, qw, qu, cs, cw, cu, rc, ho, hw, hu, wb, bw, bu, lc, lk, la, lo, lv, lt⟩ := u
  obtain ⟨nc, nl, le, ne, e1, e2, e3, e4, hI⟩ := hJ
  exact ⟨nc, nl, le, ne, e1, e2, e3, e4, tc_I_up hI⟩
