/-! the invariant of the shared state and what keeps it -/
def tc_D (nc nl le : Nat) : Prop := 2 ≤ nc ∧ nc ≤ 4 ∧ 1 ≤ nl ∧ nl ≤ 8 ∧ 1 ≤ le ∧ le ≤ 16
def tc_Q (nc nl : Nat) (ph pk pa : Nat → Int32) : Prop := ∀ c, c < nc → ¬ ph c = 0 → (pk c = 1 ∨ pk c = 2 ∨ pk c = 3) ∧ ∃ a, a < nl ∧ pa c = nI a
def tc_O (nc : Nat) (ho : Nat → Int32) : Prop := ∀ a, a < 8 → ho a = -1 ∨ ∃ c, c < nc ∧ ho a = nI c
def tc_B (rc : Nat → Int32) : Prop := ∀ i, rc i = 0 ∨ rc i = 1
def tc_L (ne : Nat) (lk lt : Nat → Int32) : Prop := ∀ i, i < ne → ¬ lk i = 1 → ¬ lt i = 0
def tc_TT (B : Nat) (cl rw ru cw cu hw hu bw bu : Nat → Int32) : Prop := tc_T B cl ∧ tc_T B rw ∧ tc_T B ru ∧ tc_T B cw ∧ tc_T B cu ∧ tc_T B hw ∧ tc_T B hu ∧ tc_T B bw ∧ tc_T B bu
def tc_I (k nc nl le ne : Nat) (cl ph pk pa rw ru cw cu rc ho hw hu bw bu lk lt : Nat → Int32) : Prop :=
  tc_D nc nl le ∧ ne + tc_cnt ph nc ≤ 64 ∧ tc_Q nc nl ph pk pa ∧ tc_O nc ho ∧ tc_B rc ∧ tc_TT (1000 + 20 * k) cl rw ru cw cu hw hu bw bu ∧ tc_L ne lk lt
theorem tc_TT_up {B C : Nat} {cl rw ru cw cu hw hu bw bu : Nat → Int32} (h : B ≤ C) (t : tc_TT B cl rw ru cw cu hw hu bw bu) : tc_TT C cl rw ru cw cu hw hu bw bu := by
  obtain ⟨h1, h2, h3, h4, h5, h6, h7, h8, h9⟩ := t
  exact ⟨tc_T_up h h1, tc_T_up h h2, tc_T_up h h3, tc_T_up h h4, tc_T_up h h5, tc_T_up h h6, tc_T_up h h7, tc_T_up h h8, tc_T_up h h9⟩
theorem tc_I_up {k nc nl le ne : Nat} {cl ph pk pa rw ru cw cu rc ho hw hu bw bu lk lt : Nat → Int32} (h : tc_I k nc nl le ne cl ph pk pa rw ru cw cu rc ho hw hu bw bu lk lt) : tc_I (k + 5) nc nl le ne cl ph pk pa rw ru cw cu rc ho hw hu bw bu lk lt := by
  obtain ⟨hD, hP, hQ, hO, hB, hT, hL⟩ := h
  exact ⟨hD, hP, hQ, hO, hB, tc_TT_up (by omega) hT, hL⟩
theorem tc_Q_in {nc nl c a : Nat} {ph pk pa : Nat → Int32} {x kd : Int32} (h : tc_Q nc nl ph pk pa) (hk : kd = 1 ∨ kd = 2 ∨ kd = 3) (ha : a < nl) : tc_Q nc nl (upd ph c x) (upd pk c kd) (upd pa c (nI a)) := by
  intro d hd hp
  by_cases e : d = c
  · subst e; rw [tc_us, tc_us]; exact ⟨hk, a, ha, rfl⟩
  · rw [tc_un e] at hp; rw [tc_un e, tc_un e]; exact h d hd hp
theorem tc_Q_u {nc nl c : Nat} {ph pk pa : Nat → Int32} {x : Int32} (h : tc_Q nc nl ph pk pa) (hx : ¬ ph c = 0 ∨ x = 0) : tc_Q nc nl (upd ph c x) pk pa := by
  intro d hd hp
  by_cases e : d = c
  · subst e
    rw [tc_us] at hp
    cases hx with
    | inl h1 => exact h d hd h1
    | inr h1 => exact absurd h1 hp
  · rw [tc_un e] at hp; exact h d hd hp
theorem tc_O_u {nc a : Nat} {ho : Nat → Int32} {x : Int32} (h : tc_O nc ho) (hx : x = -1 ∨ ∃ c, c < nc ∧ x = nI c) : tc_O nc (upd ho a x) := by
  intro b hb
  by_cases e : b = a
  · subst e; rw [tc_us]; exact hx
  · rw [tc_un e]; exact h b hb
theorem tc_B_u {i : Nat} {rc : Nat → Int32} {x : Int32} (h : tc_B rc) (hx : x = 0 ∨ x = 1) : tc_B (upd rc i x) := by
  intro b
  by_cases e : b = i
  · subst e; rw [tc_us]; exact hx
  · rw [tc_un e]; exact h b
theorem tc_L_u {ne : Nat} {lk lt : Nat → Int32} {kd tm : Int32} (h : tc_L ne lk lt) (hx : ¬ kd = 1 → ¬ tm = 0) : tc_L (ne + 1) (upd lk ne kd) (upd lt ne tm) := by
  intro i hi
  by_cases e : i = ne
  · subst e; rw [tc_us, tc_us]; exact hx
  · rw [tc_un e, tc_un e]; exact h i (by omega)
theorem tc_mul (a b : Nat) : nI a * nI b = nI (a * b) := (Int32.ofNat_mul a b).symm
theorem tc_8 : (8 : Int32) = nI 8 := by decide
theorem tc_pair (c a : Nat) : nI c * 8 + nI a = nI (c * 8 + a) := by
  rw [tc_8, tc_mul, nI_add]
theorem tc_pin {c a : Nat} (hc : c < 4) (ha : a < 8) : vp_in (nI c * 8 + nI a) 32 := by
  rw [tc_pair]
  exact vp_in_nI (by omega) (by omega)
