section
/-! pure facts: first match, greatest, rank, count, bounded times -/
def tc_V (lk la : Nat → Int32) (adr : Int32) (j : Nat) : Prop := la j = adr ∧ ¬ lk j = 1
/-- r is f at the first j below n with P, or d if there is none -/
def tc_F1 (P : Nat → Prop) (f : Nat → Int32) (d : Int32) (n : Nat) (r : Int32) : Prop :=
  (∃ j, j < n ∧ P j ∧ (∀ i, i < j → ¬ P i) ∧ r = f j) ∨ ((∀ j, j < n → ¬ P j) ∧ r = d)
theorem tc_F1_ex (P : Nat → Prop) (f : Nat → Int32) (d : Int32) (n : Nat) : ∃ r, tc_F1 P f d n r := by
  induction n with
  | zero => exact ⟨d, Or.inr ⟨fun j hj => absurd hj (Nat.not_lt_zero j), rfl⟩⟩
  | succ n ih =>
    obtain ⟨r, h⟩ := ih
    cases h with
    | inl h =>
      obtain ⟨j, hj, hV, hf, e⟩ := h
      exact ⟨r, Or.inl ⟨j, Nat.lt_succ_of_lt hj, hV, hf, e⟩⟩
    | inr h =>
      obtain ⟨hf, e⟩ := h
      by_cases hm : P n
      · exact ⟨f n, Or.inl ⟨n, Nat.lt_succ_self n, hm, hf, rfl⟩⟩
      · refine ⟨r, Or.inr ⟨fun j hj => ?_, e⟩⟩
        by_cases hn : j = n
        · subst hn; exact hm
        · exact hf j (by omega)
theorem tc_F1_hit {P : Nat → Prop} {f : Nat → Int32} {d : Int32} {n : Nat} {r : Int32} (h : tc_F1 P f d n r) {i : Nat} (hi : i < n) (hV : P i) (hf : ∀ j, j < i → ¬ P j) : r = f i := by
  cases h with
  | inl h =>
    obtain ⟨j, hj, hV', hf', e⟩ := h
    by_cases h1 : j < i
    · exact absurd hV' (hf j h1)
    · by_cases h2 : i < j
      · exact absurd hV (hf' i h2)
      · have : j = i := by omega
        subst this; exact e
  | inr h => exact absurd hV (h.1 i hi)
theorem tc_F1_miss {P : Nat → Prop} {f : Nat → Int32} {d : Int32} {n : Nat} {r : Int32} (h : tc_F1 P f d n r) (hf : ∀ j, j < n → ¬ P j) : r = d := by
  cases h with
  | inl h =>
    obtain ⟨j, hj, hV', hf', e⟩ := h
    exact absurd hV' (hf j hj)
  | inr h => exact h.2
theorem tc_not_s {P : Nat → Prop} {i : Nat} (hf : ∀ j, j < i → ¬ P j) (h : ¬ P i) : ∀ j, j < i + 1 → ¬ P j := by
  intro j hj
  by_cases e : j = i
  · subst e; exact h
  · exact hf j (by omega)
def tc_FM (lk la lt lv : Nat → Int32) (adr w : Int32) (n : Nat) (r : Int32) : Prop := tc_F1 (fun j => tc_V lk la adr j ∧ lt j = w) lv 0 n r
/-- the greatest time of a version of the line among the first n entries, and its value -/
def tc_gr (lk la lt : Nat → Int32) (adr : Int32) : Nat → Int32
  | 0 => 0
  | n + 1 => if (la n = adr ∧ ¬ lk n = 1) ∧ tc_gr lk la lt adr n < lt n then lt n else tc_gr lk la lt adr n
def tc_gv (lk la lt lv : Nat → Int32) (adr : Int32) : Nat → Int32
  | 0 => 0
  | n + 1 => if (la n = adr ∧ ¬ lk n = 1) ∧ tc_gr lk la lt adr n < lt n then lv n else tc_gv lk la lt lv adr n
theorem tc_gr_t {lk la lt : Nat → Int32} {adr : Int32} {n : Nat} (h : la n = adr ∧ ¬ lk n = 1) (g : tc_gr lk la lt adr n < lt n) : tc_gr lk la lt adr (n + 1) = lt n := by
  rw [tc_gr, if_pos ⟨h, g⟩]
theorem tc_gr_f {lk la lt : Nat → Int32} {adr : Int32} {n : Nat} (h : ¬ ((la n = adr ∧ ¬ lk n = 1) ∧ tc_gr lk la lt adr n < lt n)) : tc_gr lk la lt adr (n + 1) = tc_gr lk la lt adr n := by
  rw [tc_gr, if_neg h]
theorem tc_gv_t {lk la lt lv : Nat → Int32} {adr : Int32} {n : Nat} (h : la n = adr ∧ ¬ lk n = 1) (g : tc_gr lk la lt adr n < lt n) : tc_gv lk la lt lv adr (n + 1) = lv n := by
  rw [tc_gv, if_pos ⟨h, g⟩]
theorem tc_gv_f {lk la lt lv : Nat → Int32} {adr : Int32} {n : Nat} (h : ¬ ((la n = adr ∧ ¬ lk n = 1) ∧ tc_gr lk la lt adr n < lt n)) : tc_gv lk la lt lv adr (n + 1) = tc_gv lk la lt lv adr n := by
  rw [tc_gv, if_neg h]
theorem tc_gr_ok (lk la lt lv : Nat → Int32) (adr : Int32) : ∀ n : Nat, (∀ i, i < n → ¬ lk i = 1 → ¬ lt i = 0) →
    (∀ j, j < n → tc_V lk la adr j → lt j ≤ tc_gr lk la lt adr n) ∧ (tc_gr lk la lt adr n = 0 ∨ ∃ j, j < n ∧ tc_V lk la adr j ∧ lt j = tc_gr lk la lt adr n) ∧ tc_FM lk la lt lv adr (tc_gr lk la lt adr n) n (tc_gv lk la lt lv adr n) := by
  intro n
  induction n with
  | zero =>
    intro _
    exact ⟨fun j hj => absurd hj (Nat.not_lt_zero j), Or.inl rfl, Or.inr ⟨fun j hj => absurd hj (Nat.not_lt_zero j), rfl⟩⟩
  | succ n ih =>
    intro hz
    obtain ⟨hb, hg, hfm⟩ := ih (fun i hi => hz i (Nat.lt_succ_of_lt hi))
    by_cases hc : (la n = adr ∧ ¬ lk n = 1) ∧ tc_gr lk la lt adr n < lt n
    · rw [tc_gr_t hc.1 hc.2, tc_gv_t hc.1 hc.2]
      refine ⟨fun j hj hV => ?_, Or.inr ⟨n, Nat.lt_succ_self n, hc.1, rfl⟩, Or.inl ⟨n, Nat.lt_succ_self n, ⟨hc.1, rfl⟩, fun i hi hm => ?_, rfl⟩⟩
      · by_cases hn : j = n
        · subst hn; exact Int32.le_refl _
        · exact Int32.le_trans (hb j (by omega) hV) (Int32.le_of_lt hc.2)
      · have h1 := hb i hi hm.1
        rw [hm.2] at h1
        exact absurd hc.2 (Int32.not_lt.mpr h1)
    · rw [tc_gr_f hc, tc_gv_f hc]
      refine ⟨fun j hj hV => ?_, ?_, ?_⟩
      · by_cases hn : j = n
        · subst hn
          exact Int32.not_lt.mp (fun hl => hc ⟨hV, hl⟩)
        · exact hb j (by omega) hV
      · cases hg with
        | inl h => exact Or.inl h
        | inr h =>
          obtain ⟨j, hj, hV, e⟩ := h
          exact Or.inr ⟨j, Nat.lt_succ_of_lt hj, hV, e⟩
      · cases hfm with
        | inl h =>
          obtain ⟨j, hj, hV', hf', e⟩ := h
          exact Or.inl ⟨j, Nat.lt_succ_of_lt hj, hV', hf', e⟩
        | inr h =>
          refine Or.inr ⟨fun j hj hm => ?_, h.2⟩
          by_cases hn : j = n
          · subst hn
            cases hg with
            | inl g0 => exact hz j (Nat.lt_succ_self j) hm.1.2 (hm.2.trans g0)
            | inr g1 =>
              obtain ⟨i, hi, hV, e⟩ := g1
              exact h.1 i hi ⟨hV, e⟩
          · exact h.1 j (by omega) hm
/-- the rank of entry i among the first n -/
def tc_rk (lt : Nat → Int32) (i : Nat) : Nat → Nat
  | 0 => 0
  | n + 1 => tc_rk lt i n + (if lt n < lt i ∨ (lt n = lt i ∧ n < i) then 1 else 0)
theorem tc_rk_t {lt : Nat → Int32} {i n : Nat} (h : lt n < lt i ∨ (lt n = lt i ∧ n < i)) : tc_rk lt i (n + 1) = tc_rk lt i n + 1 := by
  rw [tc_rk, if_pos h]
theorem tc_rk_f {lt : Nat → Int32} {i n : Nat} (h : ¬ (lt n < lt i ∨ (lt n = lt i ∧ n < i))) : tc_rk lt i (n + 1) = tc_rk lt i n := by
  rw [tc_rk, if_neg h]; exact Nat.add_zero _
theorem tc_rk_le (lt : Nat → Int32) (i n : Nat) : tc_rk lt i n ≤ n := by
  induction n with
  | zero => exact Nat.le_refl _
  | succ n ih =>
    by_cases h : lt n < lt i ∨ (lt n = lt i ∧ n < i)
    · rw [tc_rk_t h]; omega
    · rw [tc_rk_f h]; omega
theorem tc_rk_lt (lt : Nat → Int32) (i n : Nat) : i < n → tc_rk lt i n < n := by
  induction n with
  | zero => intro h; omega
  | succ n ih =>
    intro hi
    by_cases h : lt n < lt i ∨ (lt n = lt i ∧ n < i)
    · by_cases hn : i = n
      · subst hn
        cases h with
        | inl h => exact absurd h Int32.lt_irrefl
        | inr h => omega
      · rw [tc_rk_t h]
        have := ih (by omega)
        omega
    · rw [tc_rk_f h]
      have := tc_rk_le lt i n
      omega
/-- how many of the first n cells are not 0 -/
def tc_cnt (f : Nat → Int32) : Nat → Nat
  | 0 => 0
  | n + 1 => tc_cnt f n + (if f n = 0 then 0 else 1)
theorem tc_cnt_z {f : Nat → Int32} {n : Nat} (h : f n = 0) : tc_cnt f (n + 1) = tc_cnt f n := by
  rw [tc_cnt, if_pos h]; exact Nat.add_zero _
theorem tc_cnt_s {f : Nat → Int32} {n : Nat} (h : ¬ f n = 0) : tc_cnt f (n + 1) = tc_cnt f n + 1 := by
  rw [tc_cnt, if_neg h]
theorem tc_cnt_le (f : Nat → Int32) (n : Nat) : tc_cnt f n ≤ n := by
  induction n with
  | zero => exact Nat.le_refl _
  | succ n ih =>
    by_cases h : f n = 0
    · rw [tc_cnt_z h]; omega
    · rw [tc_cnt_s h]; omega
theorem tc_cnt_0 (n : Nat) : tc_cnt (fun _ => 0) n = 0 := by
  induction n with
  | zero => rfl
  | succ n ih => rw [tc_cnt_z rfl]; exact ih
theorem tc_us {f : Nat → Int32} {k : Nat} {x : Int32} : upd f k x k = x := if_pos rfl
theorem tc_un {f : Nat → Int32} {k j : Nat} {x : Int32} (h : j ≠ k) : upd f k x j = f j := if_neg h
theorem tc_cnt_un {f : Nat → Int32} {c : Nat} {x : Int32} (n : Nat) : n ≤ c → tc_cnt (upd f c x) n = tc_cnt f n := by
  induction n with
  | zero => intro _; rfl
  | succ n ih =>
    intro h
    have hn : upd f c x n = f n := tc_un (by omega)
    have i := ih (by omega)
    by_cases h0 : f n = 0
    · rw [tc_cnt_z h0, tc_cnt_z (hn.trans h0), i]
    · rw [tc_cnt_s h0, tc_cnt_s (by rw [hn]; exact h0), i]
theorem tc_cnt_pos {f : Nat → Int32} {c : Nat} (h : ¬ f c = 0) (n : Nat) : c < n → 1 ≤ tc_cnt f n := by
  induction n with
  | zero => intro h; omega
  | succ n ih =>
    intro hc
    by_cases hn : c = n
    · subst hn; rw [tc_cnt_s h]; omega
    · have i := ih (by omega)
      by_cases h0 : f n = 0
      · rw [tc_cnt_z h0]; exact i
      · rw [tc_cnt_s h0]; omega
theorem tc_cnt_in {f : Nat → Int32} {c : Nat} {x : Int32} (h : f c = 0) (hx : ¬ x = 0) (n : Nat) : c < n → tc_cnt (upd f c x) n = tc_cnt f n + 1 := by
  induction n with
  | zero => intro h; omega
  | succ n ih =>
    intro hc
    by_cases hn : c = n
    · subst hn
      rw [tc_cnt_z h, tc_cnt_s (by rw [tc_us]; exact hx), tc_cnt_un c (Nat.le_refl _)]
    · have i := ih (by omega)
      have hu : upd f c x n = f n := tc_un (by omega)
      by_cases h0 : f n = 0
      · rw [tc_cnt_z h0, tc_cnt_z (hu.trans h0), i]
      · rw [tc_cnt_s h0, tc_cnt_s (by rw [hu]; exact h0), i]
theorem tc_cnt_out {f : Nat → Int32} {c : Nat} {x : Int32} (h : ¬ f c = 0) (hx : x = 0) (n : Nat) : c < n → tc_cnt (upd f c x) n + 1 = tc_cnt f n := by
  induction n with
  | zero => intro h; omega
  | succ n ih =>
    intro hc
    by_cases hn : c = n
    · subst hn
      rw [tc_cnt_s h, tc_cnt_z (by rw [tc_us]; exact hx), tc_cnt_un c (Nat.le_refl _)]
    · have i := ih (by omega)
      have hu : upd f c x n = f n := tc_un (by omega)
      by_cases h0 : f n = 0
      · rw [tc_cnt_z h0, tc_cnt_z (hu.trans h0), i]
      · rw [tc_cnt_s h0, tc_cnt_s (by rw [hu]; exact h0), ← i]
theorem tc_cnt_eq {f : Nat → Int32} {c : Nat} {x : Int32} (h : ¬ f c = 0) (hx : ¬ x = 0) (n : Nat) : tc_cnt (upd f c x) n = tc_cnt f n := by
  induction n with
  | zero => rfl
  | succ n ih =>
    by_cases hn : n = c
    · subst hn
      rw [tc_cnt_s h, tc_cnt_s (by rw [tc_us]; exact hx), ih]
    · have hu : upd f c x n = f n := tc_un hn
      by_cases h0 : f n = 0
      · rw [tc_cnt_z h0, tc_cnt_z (hu.trans h0), ih]
      · rw [tc_cnt_s h0, tc_cnt_s (by rw [hu]; exact h0), ih]
/-- a time of at most B -/
def tc_t (B : Nat) (x : Int32) : Prop := ∃ t : Nat, t ≤ B ∧ x = nI t
def tc_T (B : Nat) (f : Nat → Int32) : Prop := ∀ i : Nat, tc_t B (f i)
theorem tc_t_up {B C : Nat} {x : Int32} (h : B ≤ C) (t : tc_t B x) : tc_t C x := by
  obtain ⟨n, hn, e⟩ := t
  exact ⟨n, by omega, e⟩
theorem tc_T_up {B C : Nat} {f : Nat → Int32} (h : B ≤ C) (t : tc_T B f) : tc_T C f := fun i => tc_t_up h (t i)
theorem tc_T_u {B : Nat} {f : Nat → Int32} {c : Nat} {x : Int32} (t : tc_T B f) (hx : tc_t B x) : tc_T B (upd f c x) := by
  intro i
  by_cases h : i = c
  · subst h; rw [tc_us]; exact hx
  · rw [tc_un h]; exact t i
theorem tc_t_add {B : Nat} {x : Int32} (n : Nat) (t : tc_t B x) : tc_t (B + n) (x + nI n) := by
  obtain ⟨m, hm, e⟩ := t
  exact ⟨m + n, by omega, by rw [e, nI_add]⟩
theorem tc_t_1 {B : Nat} {x : Int32} (t : tc_t B x) : tc_t (B + 1) (x + 1) := by
  obtain ⟨m, hm, e⟩ := t
  exact ⟨m + 1, by omega, by rw [e, nI_1]⟩
theorem tc_T_0 (B : Nat) : tc_T B (fun _ => 0) := fun _ => ⟨0, Nat.zero_le _, rfl⟩
/-- the larger of two -/
def tc_mx (x y : Int32) : Int32 := if x ≤ y then y else x
theorem tc_mx_t {x y : Int32} (h : x ≤ y) : tc_mx x y = y := if_pos h
theorem tc_mx_f {x y : Int32} (h : ¬ x ≤ y) : tc_mx x y = x := if_neg h
theorem tc_t_mx {B : Nat} {x y : Int32} (hx : tc_t B x) (hy : tc_t B y) : tc_t B (tc_mx x y) := by
  by_cases h : x ≤ y
  · rw [tc_mx_t h]; exact hy
  · rw [tc_mx_f h]; exact hx
theorem tc_mx_0 {B : Nat} {x y : Int32} (hB : B + 1 < 2 ^ 31) (hx : tc_t B x) (hy : tc_t B y) : ¬ tc_mx x (y + 1) = 0 := by
  obtain ⟨s, hs, rfl⟩ := hx
  obtain ⟨t, ht, rfl⟩ := hy
  rw [nI_1]
  by_cases h : nI s ≤ nI (t + 1)
  · rw [tc_mx_t h]; exact nI_ne0 (by omega) (by omega)
  · rw [tc_mx_f h]
    rw [nI_leI (by omega) (by omega)] at h
    exact nI_ne0 (by omega) (by omega)
theorem tc_mx_gr {lk la lt : Nat → Int32} {adr : Int32} {n : Nat} (h : la n = adr ∧ ¬ lk n = 1) : tc_mx (tc_gr lk la lt adr n) (lt n) = tc_gr lk la lt adr (n + 1) := by
  by_cases g : tc_gr lk la lt adr n < lt n
  · rw [tc_gr_t h g, tc_mx_t (Int32.le_of_lt g)]
  · rw [tc_gr_f (fun z => g z.2)]
    by_cases e : tc_gr lk la lt adr n ≤ lt n
    · rw [tc_mx_t e]
      exact Int32.le_antisymm (Int32.not_lt.mp g) e
    · rw [tc_mx_f e]
/-- clamping -/
def tc_cp (p lo hi : Int32) : Int32 := if lo ≤ p then (if p ≤ hi then p else hi) else lo
theorem tc_cpw {p lo hi : Int32} {F : Int32 → Prop} (h : F (tc_cp p lo hi)) : (lo ≤ p → ((p ≤ hi → F p) ∧ (¬ p ≤ hi → F hi))) ∧ (¬ lo ≤ p → F lo) := by
  unfold tc_cp at h
  by_cases h1 : lo ≤ p
  · rw [if_pos h1] at h
    by_cases h2 : p ≤ hi
    · rw [if_pos h2] at h; exact br_t h1 (br_t h2 h)
    · rw [if_neg h2] at h; exact br_t h1 (br_f h2 h)
  · rw [if_neg h1] at h; exact br_f h1 h
theorem tc_cp_r (p : Int32) {l h : Nat} (hl : l ≤ h) (hh : h < 2 ^ 31) : ∃ j : Nat, l ≤ j ∧ j ≤ h ∧ tc_cp p (nI l) (nI h) = nI j := by
  unfold tc_cp
  by_cases h1 : nI l ≤ p
  · rw [if_pos h1]
    by_cases h2 : p ≤ nI h
    · rw [if_pos h2]
      obtain ⟨j, hj, rfl⟩ := nI_of (x := p) (Int32.not_lt.mpr (Int32.le_trans (nI_pos' (n := l) (by omega)) h1))
      rw [nI_leI (by omega) hj] at h1
      rw [nI_leI hj hh] at h2
      exact ⟨j, h1, h2, rfl⟩
    · rw [if_neg h2]; exact ⟨h, hl, Nat.le_refl _, rfl⟩
  · rw [if_neg h1]; exact ⟨l, Nat.le_refl _, hl, rfl⟩
/-- the owners as the constructor's loop leaves them -/
def tc_ini : Nat → (Nat → Int32)
  | 0 => fun _ => 0
  | i + 1 => upd (tc_ini i) i (-1)
theorem tc_ini_m (i a : Nat) : a < i → tc_ini i a = -1 := by
  induction i with
  | zero => intro h; omega
  | succ i ih =>
    intro h
    show upd (tc_ini i) i (-1) a = -1
    by_cases e : a = i
    · subst e; exact tc_us
    · rw [tc_un e]; exact ih (by omega)
theorem tc_ix (x : Int32) {n : Nat} (hn : n < 2 ^ 31) : (x < 0 ∨ nI n ≤ x) ∨ ∃ j : Nat, j < n ∧ x = nI j := by
  by_cases h : x < 0
  · exact Or.inl (Or.inl h)
  · obtain ⟨j, hj, rfl⟩ := nI_of h
    by_cases h2 : nI n ≤ nI j
    · exact Or.inl (Or.inr h2)
    · rw [nI_leI hn hj] at h2
      exact Or.inr ⟨j, by omega, rfl⟩
end
section
/-! the invariant of the shared state and what keeps it -/
def tc_D (nc nl le : Nat) : Prop := 2 ≤ nc ∧ nc ≤ 4 ∧ 1 ≤ nl ∧ nl ≤ 8 ∧ 1 ≤ le ∧ le ≤ 16
def tc_Q (nc nl : Nat) (ph pk pa : Nat → Int32) : Prop := ∀ c, c < nc → ¬ ph c = 0 → (pk c = 1 ∨ pk c = 2 ∨ pk c = 3) ∧ ∃ a, a < nl ∧ pa c = nI a
def tc_O (nc : Nat) (ho : Nat → Int32) : Prop := ∀ a, a < 8 → ho a = -1 ∨ ∃ c, c < nc ∧ ho a = nI c
def tc_B (rc : Nat → Int32) : Prop := ∀ i, rc i = 0 ∨ rc i = 1
def tc_L (ne : Nat) (lk lt : Nat → Int32) : Prop := ∀ i, i < ne → ¬ lk i = 1 → ¬ lt i = 0
def tc_TT (B : Nat) (cl qw qu cw cu hw hu bw bu : Nat → Int32) : Prop := tc_T B cl ∧ tc_T B qw ∧ tc_T B qu ∧ tc_T B cw ∧ tc_T B cu ∧ tc_T B hw ∧ tc_T B hu ∧ tc_T B bw ∧ tc_T B bu
def tc_I (k nc nl le ne : Nat) (cl ph pk pa qw qu cw cu rc ho hw hu bw bu lk lt : Nat → Int32) : Prop :=
  tc_D nc nl le ∧ ne + tc_cnt ph nc ≤ 64 ∧ tc_Q nc nl ph pk pa ∧ tc_O nc ho ∧ tc_B rc ∧ tc_TT (1000 + 20 * k) cl qw qu cw cu hw hu bw bu ∧ tc_L ne lk lt
theorem tc_TT_up {B C : Nat} {cl qw qu cw cu hw hu bw bu : Nat → Int32} (h : B ≤ C) (t : tc_TT B cl qw qu cw cu hw hu bw bu) : tc_TT C cl qw qu cw cu hw hu bw bu := by
  obtain ⟨h1, h2, h3, h4, h5, h6, h7, h8, h9⟩ := t
  exact ⟨tc_T_up h h1, tc_T_up h h2, tc_T_up h h3, tc_T_up h h4, tc_T_up h h5, tc_T_up h h6, tc_T_up h h7, tc_T_up h h8, tc_T_up h h9⟩
theorem tc_I_up {k nc nl le ne : Nat} {cl ph pk pa qw qu cw cu rc ho hw hu bw bu lk lt : Nat → Int32} (h : tc_I k nc nl le ne cl ph pk pa qw qu cw cu rc ho hw hu bw bu lk lt) : tc_I (k + 5) nc nl le ne cl ph pk pa qw qu cw cu rc ho hw hu bw bu lk lt := by
  obtain ⟨hD, hP, hQ, hO, hB, hT, hL⟩ := h
  exact ⟨hD, hP, hQ, hO, hB, tc_TT_up (by omega) hT, hL⟩
theorem tc_Q_in {nc nl c a : Nat} {ph pk pa : Nat → Int32} {x kd : Int32} (h : tc_Q nc nl ph pk pa) (hk : kd = 1 ∨ kd = 2 ∨ kd = 3) (ha : a < nl) : tc_Q nc nl (upd ph c x) (upd pk c kd) (upd pa c (nI a)) := by
  intro d hd hp
  by_cases e : d = c
  · subst e; rw [tc_us, tc_us]; exact ⟨hk, a, ha, rfl⟩
  · rw [tc_un e] at hp; rw [tc_un e, tc_un e]; exact h d hd hp
theorem tc_Q_u {nc nl c : Nat} {ph pk pa : Nat → Int32} {x : Int32} (h : tc_Q nc nl ph pk pa) (hx : ¬ ph c = 0 ∨ x = 0) : tc_Q nc nl (upd ph c x) pk pa := by
  intro d hd hp
  by_cases e : d = c
  · subst e
    rw [tc_us] at hp
    cases hx with
    | inl h1 => exact h d hd h1
    | inr h1 => exact absurd h1 hp
  · rw [tc_un e] at hp; exact h d hd hp
theorem tc_O_u {nc a : Nat} {ho : Nat → Int32} {x : Int32} (h : tc_O nc ho) (hx : x = -1 ∨ ∃ c, c < nc ∧ x = nI c) : tc_O nc (upd ho a x) := by
  intro b hb
  by_cases e : b = a
  · subst e; rw [tc_us]; exact hx
  · rw [tc_un e]; exact h b hb
theorem tc_B_u {i : Nat} {rc : Nat → Int32} {x : Int32} (h : tc_B rc) (hx : x = 0 ∨ x = 1) : tc_B (upd rc i x) := by
  intro b
  by_cases e : b = i
  · subst e; rw [tc_us]; exact hx
  · rw [tc_un e]; exact h b
theorem tc_L_u {ne : Nat} {lk lt : Nat → Int32} {kd tm : Int32} (h : tc_L ne lk lt) (hx : ¬ kd = 1 → ¬ tm = 0) : tc_L (ne + 1) (upd lk ne kd) (upd lt ne tm) := by
  intro i hi
  by_cases e : i = ne
  · subst e; rw [tc_us, tc_us]; exact hx
  · rw [tc_un e, tc_un e]; exact h i (by omega)
theorem tc_mul (a b : Nat) : nI a * nI b = nI (a * b) := (Int32.ofNat_mul a b).symm
theorem tc_8 : (8 : Int32) = nI 8 := by decide
theorem tc_pair (c a : Nat) : nI c * 8 + nI a = nI (c * 8 + a) := by
  rw [tc_8, tc_mul, nI_add]
theorem tc_pin {c a : Nat} (hc : c < 4) (ha : a < 8) : vp_in (nI c * 8 + nI a) 32 := by
  rw [tc_pair]
  exact vp_in_nI (by omega) (by omega)
/-- what a commit makes of a pair's written and until, its time and its value -/
def tc_CM (kd op r s x : Int32) (p : Nat) (cw cu dw du : Nat → Int32) (tm vl : Int32) : Prop :=
  (kd = 1 ∧ s = 2 ∧ tm = tc_mx x (cw p) ∧ dw = cw ∧ du = upd cu p (tc_mx (cu p) tm) ∧ vl = r) ∨
  (kd = 1 ∧ ¬ s = 2 ∧ tm = tc_mx x (cw p) ∧ dw = cw ∧ du = cu ∧ vl = r) ∨
  (kd = 2 ∧ tm = tc_mx x (cu p + 1) ∧ dw = upd cw p tm ∧ du = upd cu p tm ∧ vl = op) ∨
  (kd = 3 ∧ tm = tc_mx x (cu p + 1) ∧ dw = upd cw p tm ∧ du = upd cu p tm ∧ vl = r + op)
theorem tc_CM_ex {kd : Int32} (op r s x : Int32) (p : Nat) (cw cu : Nat → Int32) (hk : kd = 1 ∨ kd = 2 ∨ kd = 3) : ∃ dw du tm vl, tc_CM kd op r s x p cw cu dw du tm vl := by
  rcases hk with rfl | rfl | rfl
  · by_cases hs : s = 2
    · exact ⟨_, _, _, _, Or.inl ⟨rfl, hs, rfl, rfl, rfl, rfl⟩⟩
    · exact ⟨_, _, _, _, Or.inr (Or.inl ⟨rfl, hs, rfl, rfl, rfl, rfl⟩)⟩
  · exact ⟨_, _, _, _, Or.inr (Or.inr (Or.inl ⟨rfl, rfl, rfl, rfl, rfl⟩))⟩
  · exact ⟨_, _, _, _, Or.inr (Or.inr (Or.inr ⟨rfl, rfl, rfl, rfl, rfl⟩))⟩
theorem tc_CM_T {B p : Nat} {kd op r s x tm vl : Int32} {cw cu dw du : Nat → Int32} (h : tc_CM kd op r s x p cw cu dw du tm vl) (hB : B + 1 < 2 ^ 31) (hw : tc_T B cw) (hu : tc_T B cu) (hx : tc_t B x) : tc_T (B + 1) dw ∧ tc_T (B + 1) du ∧ tc_t (B + 1) tm ∧ (¬ kd = 1 → ¬ tm = 0) := by
  have up : B ≤ B + 1 := Nat.le_succ B
  rcases h with ⟨hk, _, ht, e1, e2, _⟩ | ⟨hk, _, ht, e1, e2, _⟩ | ⟨hk, ht, e1, e2, _⟩ | ⟨hk, ht, e1, e2, _⟩
  · have T : tc_t (B + 1) tm := by rw [ht]; exact tc_t_up up (tc_t_mx hx (hw p))
    rw [e1, e2]
    exact ⟨tc_T_up up hw, tc_T_u (tc_T_up up hu) (tc_t_mx (tc_t_up up (hu p)) T), T, fun z => absurd hk z⟩
  · have T : tc_t (B + 1) tm := by rw [ht]; exact tc_t_up up (tc_t_mx hx (hw p))
    rw [e1, e2]
    exact ⟨tc_T_up up hw, tc_T_up up hu, T, fun z => absurd hk z⟩
  · have T : tc_t (B + 1) tm := by rw [ht]; exact tc_t_mx (tc_t_up up hx) (tc_t_1 (hu p))
    rw [e1, e2]
    exact ⟨tc_T_u (tc_T_up up hw) T, tc_T_u (tc_T_up up hu) T, T, fun _ => by rw [ht]; exact tc_mx_0 hB hx (hu p)⟩
  · have T : tc_t (B + 1) tm := by rw [ht]; exact tc_t_mx (tc_t_up up hx) (tc_t_1 (hu p))
    rw [e1, e2]
    exact ⟨tc_T_u (tc_T_up up hw) T, tc_T_u (tc_T_up up hu) T, T, fun _ => by rw [ht]; exact tc_mx_0 hB hx (hu p)⟩
theorem tc_I_cm {B k nc nl le ne p ci : Nat} {kd op r s tm vl : Int32} {cl ph pk pa qw qu cw cu dw du rc ho hw hu bw bu lk lt : Nat → Int32} (hD : tc_D nc nl le) (hP : ne + 1 + tc_cnt ph nc ≤ 64) (hQ : tc_Q nc nl ph pk pa) (hO : tc_O nc ho) (hR : tc_B rc) (hT : tc_TT B cl qw qu cw cu hw hu bw bu) (hL : tc_L ne lk lt) (hB : B + 1 ≤ 1000 + 20 * k) (hk : k ≤ 2564) (h : tc_CM kd op r s (cl ci) p cw cu dw du tm vl) : tc_I k nc nl le (ne + 1) (upd cl ci tm) ph pk pa qw qu dw du rc ho hw hu bw bu (upd lk ne kd) (upd lt ne tm) := by
  obtain ⟨t1, t2, t3, t4, t5, t6, t7, t8, t9⟩ := hT
  obtain ⟨c1, c2, c3, c4⟩ := tc_CM_T h (by omega) t4 t5 (t1 ci)
  have up : B ≤ 1000 + 20 * k := by omega
  exact ⟨hD, hP, hQ, hO, hR, ⟨tc_T_u (tc_T_up up t1) (tc_t_up hB c3), tc_T_up up t2, tc_T_up up t3, tc_T_up hB c1, tc_T_up hB c2, tc_T_up up t6, tc_T_up up t7, tc_T_up up t8, tc_T_up up t9⟩, tc_L_u hL c4⟩
theorem tc_nb {x : Int32} (h : x = 0 ∨ x = 1) : narrow .boolean (.int x) = .int x := by
  rcases h with rfl | rfl <;> rfl
theorem tc_b1 : vp_nar .boolean 1 = 0 ∨ vp_nar .boolean 1 = 1 := Or.inr rfl
theorem tc_b0 : vp_nar .boolean 0 = 0 ∨ vp_nar .boolean 0 = 1 := Or.inl rfl
/-- the invariant of a state -/
def tc_J (k : Nat) (u : SX) : Prop := match u with
  | (fc, fl, fe, _, fn, cl, ph, pk, pa, _, qw, qu, _, cw, cu, rc, ho, hw, hu, _, bw, bu, _, lk, _, _, _, lt) => ∃ nc nl le ne : Nat, fc = nI nc ∧ fl = nI nl ∧ fe = nI le ∧ fn = nI ne ∧ tc_I k nc nl le ne cl ph pk pa qw qu cw cu rc ho hw hu bw bu lk lt
/-- both sides hold the same state, and it keeps the invariant -/
def i_Rel (k : Nat) (u : SX) (v : SY) : Prop := u = v ∧ tc_J k u
theorem i_up {k : Nat} {u : SX} {v : SY} (h : i_Rel k u v) : i_Rel (k + 5) u v := by
  obtain ⟨e, hJ⟩ := h
  refine ⟨e, ?_⟩
  obtain ⟨fc, fl, fe, fw, fn, cl, ph, pk, pa, po, qw, qu, cs, cw, cu, rc, ho, hw, hu, wb, bw, bu, lc, lk, la, lo, lv, lt⟩ := u
  obtain ⟨nc, nl, le, ne, e1, e2, e3, e4, hI⟩ := hJ
  exact ⟨nc, nl, le, ne, e1, e2, e3, e4, tc_I_up hI⟩
end
section
section
variable {nc nl le ne : Nat} {fw : Int32} {cl ph pk pa po qw qu cs cw cu rc ho hw hu wb bw bu lc lk la lo lv lt : Nat → Int32}
theorem tx_pair {post : Int32 → Prop} {x y : Int32} (h : post (x * 8 + y)) : wpX_pairOf post x y := h
theorem tx_lg {post : Int32 → Prop} {x y : Int32} (h : post (tc_mx x y)) : wpX_larger post x y := by
  unfold wpX_larger
  by_cases e : x ≤ y
  · rw [tc_mx_t e] at h; exact br_t e h
  · rw [tc_mx_f e] at h; exact br_f e h
theorem tx_bc0 {post : Int32 → Prop} {c : Nat} (hc : c < nc) (hn : nc < 2 ^ 31) (hp : post 0) : wpX_isBadCore post (nI nc, nI nl, nI le, fw, nI ne, cl, ph, pk, pa, po, qw, qu, cs, cw, cu, rc, ho, hw, hu, wb, bw, bu, lc, lk, la, lo, lv, lt) (nI c) := by
  unfold wpX_isBadCore
  exact br_f (nI_pos (Nat.lt_trans hc hn)) (br_t (nI_lt hc hn) hp)
theorem tx_bc1 {post : Int32 → Prop} {x : Int32} (h : x < 0 ∨ nI nc ≤ x) (hp : post 1) : wpX_isBadCore post (nI nc, nI nl, nI le, fw, nI ne, cl, ph, pk, pa, po, qw, qu, cs, cw, cu, rc, ho, hw, hu, wb, bw, bu, lc, lk, la, lo, lv, lt) x := by
  unfold wpX_isBadCore
  by_cases h0 : x < 0
  · exact br_t h0 hp
  · exact br_f h0 (br_f (Int32.not_lt.mpr (h.resolve_left h0)) hp)
theorem tx_ba0 {post : Int32 → Prop} {a : Nat} (ha : a < nl) (hn : nl < 2 ^ 31) (hp : post 0) : wpX_isBadAddress post (nI nc, nI nl, nI le, fw, nI ne, cl, ph, pk, pa, po, qw, qu, cs, cw, cu, rc, ho, hw, hu, wb, bw, bu, lc, lk, la, lo, lv, lt) (nI a) := by
  unfold wpX_isBadAddress
  exact br_f (nI_pos (Nat.lt_trans ha hn)) (br_t (nI_lt ha hn) hp)
theorem tx_ba1 {post : Int32 → Prop} {x : Int32} (h : x < 0 ∨ nI nl ≤ x) (hp : post 1) : wpX_isBadAddress post (nI nc, nI nl, nI le, fw, nI ne, cl, ph, pk, pa, po, qw, qu, cs, cw, cu, rc, ho, hw, hu, wb, bw, bu, lc, lk, la, lo, lv, lt) x := by
  unfold wpX_isBadAddress
  by_cases h0 : x < 0
  · exact br_t h0 hp
  · exact br_f h0 (br_f (Int32.not_lt.mpr (h.resolve_left h0)) hp)
theorem tx_ver1 {post : Int32 → Prop} {i : Nat} {adr : Int32} (hi : i < 64) (hV : tc_V lk la adr i) (hp : post 1) : wpX_isVersionOf post (nI nc, nI nl, nI le, fw, nI ne, cl, ph, pk, pa, po, qw, qu, cs, cw, cu, rc, ho, hw, hu, wb, bw, bu, lc, lk, la, lo, lv, lt) (nI i) adr := by
  have e : (nI i).toNatClampNeg = i := nI_clamp (by omega)
  have hv : vp_in (nI i) 64 := vp_in_nI hi (by omega)
  unfold wpX_isVersionOf
  dsimp only
  rw [e]
  exact ⟨hv, br_t hV.1 ⟨hv, br_f hV.2 hp⟩⟩
theorem tx_ver0 {post : Int32 → Prop} {i : Nat} {adr : Int32} (hi : i < 64) (hV : ¬ tc_V lk la adr i) (hp : post 0) : wpX_isVersionOf post (nI nc, nI nl, nI le, fw, nI ne, cl, ph, pk, pa, po, qw, qu, cs, cw, cu, rc, ho, hw, hu, wb, bw, bu, lc, lk, la, lo, lv, lt) (nI i) adr := by
  have e : (nI i).toNatClampNeg = i := nI_clamp (by omega)
  have hv : vp_in (nI i) 64 := vp_in_nI hi (by omega)
  unfold wpX_isVersionOf
  dsimp only
  rw [e]
  by_cases h1 : la i = adr
  · by_cases h2 : lk i = 1
    · exact ⟨hv, br_t h1 ⟨hv, br_t h2 hp⟩⟩
    · exact absurd ⟨h1, h2⟩ hV
  · exact ⟨hv, br_f h1 hp⟩
theorem tx_val {post : Int32 → Prop} {adr w r : Int32} (h : tc_FM lk la lt lv adr w ne r) (hne : ne ≤ 64) (hp : post r) : wpX_versionValue post (nI nc, nI nl, nI le, fw, nI ne, cl, ph, pk, pa, po, qw, qu, cs, cw, cu, rc, ho, hw, hu, wb, bw, bu, lc, lk, la, lo, lv, lt) adr w := by
  have L : ∀ d i : Nat, i + d = ne → (∀ j, j < i → ¬ (tc_V lk la adr j ∧ lt j = w)) → wX_versionValue_2 post adr w (nI nc) (nI nl) (nI le) fw (nI ne) cl ph pk pa po qw qu cs cw cu rc ho hw hu wb bw bu lc lk la lo lv lt (d + 1) (nI i) := by
    intro d
    induction d with
    | zero =>
      intro i hi hf
      have e : i = ne := by omega
      subst e
      have r0 := tc_F1_miss h hf
      rw [r0] at hp
      exact br_t (Int32.le_refl _) hp
    | succ d ih =>
      intro i hi hf
      have e : (nI i).toNatClampNeg = i := nI_clamp (by omega)
      have hv : vp_in (nI i) 64 := vp_in_nI (by omega) (by omega)
      have hlt : ¬ nI ne ≤ nI i := nI_ge (by omega) (by omega)
      refine br_f hlt ?_
      by_cases hV : tc_V lk la adr i
      · refine tx_ver1 (by omega) hV (br_f (by decide) ⟨hv, ?_⟩)
        rw [e]
        by_cases hw : lt i = w
        · have r0 := tc_F1_hit h (by omega) ⟨hV, hw⟩ hf
          rw [r0] at hp
          exact br_t hw ⟨hv, hp⟩
        · exact br_f hw (nm_r (nI_1 i) (ih (i + 1) (by omega) (tc_not_s hf (fun z => hw z.2))))
      · exact tx_ver0 (by omega) hV (br_t rfl (nm_r (nI_1 i) (ih (i + 1) (by omega) (tc_not_s hf (fun z => hV z.1)))))
  unfold wpX_versionValue
  exact ⟨ne + 1, L ne 0 (by omega) (fun j hj => absurd hj (Nat.not_lt_zero j))⟩
theorem tx_lat {post : Int32 → Prop} {adr : Int32} (hne : ne ≤ 64) (hp : post (tc_gv lk la lt lv adr ne)) : wpX_latestValue post (nI nc, nI nl, nI le, fw, nI ne, cl, ph, pk, pa, po, qw, qu, cs, cw, cu, rc, ho, hw, hu, wb, bw, bu, lc, lk, la, lo, lv, lt) adr := by
  have L : ∀ d i : Nat, i + d = ne → wX_latestValue_7 post adr (nI nc) (nI nl) (nI le) fw (nI ne) cl ph pk pa po qw qu cs cw cu rc ho hw hu wb bw bu lc lk la lo lv lt (d + 1) (tc_gr lk la lt adr i) (tc_gv lk la lt lv adr i) (nI i) := by
    intro d
    induction d with
    | zero =>
      intro i hi
      have e : i = ne := by omega
      subst e
      exact br_t (Int32.le_refl _) hp
    | succ d ih =>
      intro i hi
      have e : (nI i).toNatClampNeg = i := nI_clamp (by omega)
      have hv : vp_in (nI i) 64 := vp_in_nI (by omega) (by omega)
      have hlt : ¬ nI ne ≤ nI i := nI_ge (by omega) (by omega)
      have I := ih (i + 1) (by omega)
      refine br_f hlt ?_
      by_cases hV : tc_V lk la adr i
      · refine tx_ver1 (by omega) hV (br_f (by decide) ⟨hv, ?_⟩)
        rw [e]
        by_cases hg : lt i ≤ tc_gr lk la lt adr i
        · have hn : ¬ ((la i = adr ∧ ¬ lk i = 1) ∧ tc_gr lk la lt adr i < lt i) := fun z => Int32.not_lt.mpr hg z.2
          rw [tc_gr_f hn, tc_gv_f hn] at I
          exact br_t hg (nm_r (nI_1 i) I)
        · have hg' : tc_gr lk la lt adr i < lt i := Int32.not_le.mp hg
          rw [tc_gr_t hV hg', tc_gv_t hV hg'] at I
          exact br_f hg ⟨hv, nm_e ⟨hv, nm_e (nm_r (nI_1 i) I)⟩⟩
      · have hn : ¬ ((la i = adr ∧ ¬ lk i = 1) ∧ tc_gr lk la lt adr i < lt i) := fun z => hV z.1
        rw [tc_gr_f hn, tc_gv_f hn] at I
        exact tx_ver0 (by omega) hV (br_t rfl (nm_r (nI_1 i) I))
  unfold wpX_latestValue
  exact ⟨ne + 1, L ne 0 (by omega)⟩
theorem tx_pc {post : Int32 → Prop} (hn : nc ≤ 4) (hp : post (nI (tc_cnt ph nc))) : wpX_pendingCount post (nI nc, nI nl, nI le, fw, nI ne, cl, ph, pk, pa, po, qw, qu, cs, cw, cu, rc, ho, hw, hu, wb, bw, bu, lc, lk, la, lo, lv, lt) := by
  have L : ∀ d i : Nat, i + d = nc → wX_pendingCount_4 post (nI nc) (nI nl) (nI le) fw (nI ne) cl ph pk pa po qw qu cs cw cu rc ho hw hu wb bw bu lc lk la lo lv lt (d + 1) (nI (tc_cnt ph i)) (nI i) := by
    intro d
    induction d with
    | zero =>
      intro i hi
      have e : i = nc := by omega
      subst e
      exact br_t (Int32.le_refl _) hp
    | succ d ih =>
      intro i hi
      have e : (nI i).toNatClampNeg = i := nI_clamp (by omega)
      have hv : vp_in (nI i) 4 := vp_in_nI (by omega) (by omega)
      have hlt : ¬ nI nc ≤ nI i := nI_ge (by omega) (by omega)
      have I := ih (i + 1) (by omega)
      refine br_f hlt ⟨hv, ?_⟩
      rw [e]
      by_cases h0 : ph i = 0
      · rw [tc_cnt_z h0] at I
        exact br_t h0 (nm_r (nI_1 i) I)
      · rw [tc_cnt_s h0] at I
        exact br_f h0 (nm_r (nI_1 _) (nm_r (nI_1 i) I))
  unfold wpX_pendingCount
  exact ⟨nc + 1, L nc 0 (by omega)⟩
theorem tx_cc {post : Int32 → Prop} {c : Nat} (hc : c < 4) (hn : nl ≤ 8) (hp : post (nI (tc_cnt (fun j => cs (nI c * 8 + nI j).toNatClampNeg) nl))) : wpX_copyCount post (nI nc, nI nl, nI le, fw, nI ne, cl, ph, pk, pa, po, qw, qu, cs, cw, cu, rc, ho, hw, hu, wb, bw, bu, lc, lk, la, lo, lv, lt) (nI c) := by
  have L : ∀ d i : Nat, i + d = nl → wX_copyCount_4 post (nI c) (nI nc) (nI nl) (nI le) fw (nI ne) cl ph pk pa po qw qu cs cw cu rc ho hw hu wb bw bu lc lk la lo lv lt (d + 1) (nI (tc_cnt (fun j => cs (nI c * 8 + nI j).toNatClampNeg) i)) (nI i) := by
    intro d
    induction d with
    | zero =>
      intro i hi
      have e : i = nl := by omega
      subst e
      exact br_t (Int32.le_refl _) hp
    | succ d ih =>
      intro i hi
      have hv : vp_in (nI c * 8 + nI i) 32 := tc_pin hc (by omega)
      have hlt : ¬ nI nl ≤ nI i := nI_ge (by omega) (by omega)
      have I := ih (i + 1) (by omega)
      refine br_f hlt (tx_pair ⟨hv, ?_⟩)
      by_cases h0 : cs (nI c * 8 + nI i).toNatClampNeg = 0
      · rw [tc_cnt_z (f := fun j => cs (nI c * 8 + nI j).toNatClampNeg) h0] at I
        exact br_t h0 (nm_r (nI_1 i) I)
      · rw [tc_cnt_s (f := fun j => cs (nI c * 8 + nI j).toNatClampNeg) h0] at I
        exact br_f h0 (nm_r (nI_1 _) (nm_r (nI_1 i) I))
  unfold wpX_copyCount
  exact ⟨nl + 1, L nl 0 (by omega)⟩
theorem tx_rk {post : Int32 → Prop} {i : Nat} (hi : i < ne) (hne : ne ≤ 64) (hp : post (nI (tc_rk lt i ne))) : wpX_rankOf post (nI nc, nI nl, nI le, fw, nI ne, cl, ph, pk, pa, po, qw, qu, cs, cw, cu, rc, ho, hw, hu, wb, bw, bu, lc, lk, la, lo, lv, lt) (nI i) := by
  have ei : (nI i).toNatClampNeg = i := nI_clamp (by omega)
  have vi : vp_in (nI i) 64 := vp_in_nI (by omega) (by omega)
  have L : ∀ d j : Nat, j + d = ne → wX_rankOf_4 post (nI i) (nI nc) (nI nl) (nI le) fw (nI ne) cl ph pk pa po qw qu cs cw cu rc ho hw hu wb bw bu lc lk la lo lv lt (d + 1) (nI (tc_rk lt i j)) (nI j) := by
    intro d
    induction d with
    | zero =>
      intro j hj
      have e : j = ne := by omega
      subst e
      exact br_t (Int32.le_refl _) hp
    | succ d ih =>
      intro j hj
      have ej : (nI j).toNatClampNeg = j := nI_clamp (by omega)
      have vj : vp_in (nI j) 64 := vp_in_nI (by omega) (by omega)
      have hlt : ¬ nI ne ≤ nI j := nI_ge (by omega) (by omega)
      have I := ih (j + 1) (by omega)
      refine br_f hlt ⟨vj, vi, ?_⟩
      rw [ei, ej]
      by_cases h1 : lt j < lt i
      · rw [tc_rk_t (Or.inl h1)] at I
        refine br_f (Int32.not_le.mpr h1) ?_
        unfold wX_rankOf_32
        refine ⟨vj, vi, ?_⟩
        rw [ei, ej]
        have hne' : ¬ lt j = lt i := fun z => Int32.lt_irrefl (by rw [z] at h1; exact h1)
        refine br_f hne' ?_
        unfold wX_rankOf_58 wX_rankOf_59
        exact br_f (by decide) (nm_r (nI_1 _) (nm_r (nI_1 j) I))
      · refine br_t (Int32.not_lt.mp h1) ?_
        unfold wX_rankOf_32
        refine ⟨vj, vi, ?_⟩
        rw [ei, ej]
        by_cases he : lt j = lt i
        · refine br_t he ?_
          by_cases hij : j < i
          · rw [tc_rk_t (Or.inr ⟨he, hij⟩)] at I
            refine br_f (nI_ge hij (by omega)) ?_
            unfold wX_rankOf_59
            exact br_t rfl (br_f (by decide) (nm_r (nI_1 _) (nm_r (nI_1 j) I)))
          · have hn : ¬ (lt j < lt i ∨ (lt j = lt i ∧ j < i)) := fun z => z.elim h1 (fun y => hij y.2)
            rw [tc_rk_f hn] at I
            refine br_t (nI_le (by omega) (by omega)) ?_
            unfold wX_rankOf_58 wX_rankOf_59
            exact br_t rfl (br_t rfl (nm_r (nI_1 j) I))
        · have hn : ¬ (lt j < lt i ∨ (lt j = lt i ∧ j < i)) := fun z => z.elim h1 (fun y => he y.1)
          rw [tc_rk_f hn] at I
          refine br_f he ?_
          unfold wX_rankOf_58 wX_rankOf_59
          exact br_t rfl (br_t rfl (nm_r (nI_1 j) I))
  unfold wpX_rankOf
  exact ⟨ne + 1, L ne 0 (by omega)⟩
theorem tx_132 {post : SX → Prop} {x1 kd x3 op vl tm : Int32} (h1 : vp_in x1 4) (hn : vp_in (nI ne) 64) (hq : post (nI nc, nI nl, nI le, fw, nI ne + 1, upd cl x1.toNatClampNeg tm, ph, pk, pa, po, qw, qu, cs, cw, cu, rc, ho, hw, hu, wb, bw, bu, upd lc (nI ne).toNatClampNeg x1, upd lk (nI ne).toNatClampNeg kd, upd la (nI ne).toNatClampNeg x3, upd lo (nI ne).toNatClampNeg op, upd lv (nI ne).toNatClampNeg vl, upd lt (nI ne).toNatClampNeg tm)) : wX_commit_132 post x1 kd x3 op vl tm (nI nc) (nI nl) (nI le) fw (nI ne) cl ph pk pa po qw qu cs cw cu rc ho hw hu wb bw bu lc lk la lo lv lt := by
  unfold wX_commit_132
  refine ⟨h1, nm_e ?_⟩
  unfold wpX_addEntry
  exact ⟨hn, nm_e ⟨hn, nm_e ⟨hn, nm_e ⟨hn, nm_e ⟨hn, nm_e ⟨hn, nm_e (nm_e hq)⟩⟩⟩⟩⟩⟩
theorem tx_cm {post : SX → Prop} {x1 kd x3 op r tm vl : Int32} {dw du : Nat → Int32} (h1 : vp_in x1 4) (hp : vp_in (x1 * 8 + x3) 32) (hn : vp_in (nI ne) 64) (hne : ne ≤ 64) (hfm : tc_FM lk la lt lv x3 (cw (x1 * 8 + x3).toNatClampNeg) ne r) (hcm : tc_CM kd op r (cs (x1 * 8 + x3).toNatClampNeg) (cl x1.toNatClampNeg) (x1 * 8 + x3).toNatClampNeg cw cu dw du tm vl) (hq : post (nI nc, nI nl, nI le, fw, nI ne + 1, upd cl x1.toNatClampNeg tm, ph, pk, pa, po, qw, qu, cs, dw, du, rc, ho, hw, hu, wb, bw, bu, upd lc (nI ne).toNatClampNeg x1, upd lk (nI ne).toNatClampNeg kd, upd la (nI ne).toNatClampNeg x3, upd lo (nI ne).toNatClampNeg op, upd lv (nI ne).toNatClampNeg vl, upd lt (nI ne).toNatClampNeg tm)) : wpX_commit post (nI nc, nI nl, nI le, fw, nI ne, cl, ph, pk, pa, po, qw, qu, cs, cw, cu, rc, ho, hw, hu, wb, bw, bu, lc, lk, la, lo, lv, lt) x1 kd x3 op := by
  unfold wpX_commit
  refine tx_pair ⟨hp, tx_val hfm hne ?_⟩
  rcases hcm with ⟨hk, hs, e3, e1, e2, e4⟩ | ⟨hk, hs, e3, e1, e2, e4⟩ | ⟨hk, e3, e1, e2, e4⟩ | ⟨hk, e3, e1, e2, e4⟩
  · subst hk e4 e1 e2 e3
    exact br_t rfl ⟨h1, hp, tx_lg ⟨hp, br_t hs ⟨hp, tx_lg ⟨hp, nm_e (tx_132 h1 hn hq)⟩⟩⟩⟩
  · subst hk e4 e1 e2 e3
    exact br_t rfl ⟨h1, hp, tx_lg ⟨hp, br_f hs (tx_132 h1 hn hq)⟩⟩
  · subst hk e4 e1 e2 e3
    refine br_f (by decide) ⟨h1, hp, tx_lg (br_f (by decide) ?_)⟩
    unfold wX_commit_112
    exact ⟨hp, nm_e ⟨hp, nm_e (tx_132 h1 hn hq)⟩⟩
  · subst hk e4 e1 e2 e3
    refine br_f (by decide) ⟨h1, hp, tx_lg (br_t rfl ?_)⟩
    unfold wX_commit_112
    exact ⟨hp, nm_e ⟨hp, nm_e (tx_132 h1 hn hq)⟩⟩
theorem tx_wb {post : SX → Prop} {x p : Int32} (h8 : vp_in x 8) (hp : vp_in p 32) (hq : post (nI nc, nI nl, nI le, fw, nI ne, cl, ph, pk, pa, po, qw, qu, cs, cw, cu, rc, ho, hw, hu, upd wb x.toNatClampNeg (vp_nar .boolean 1), upd bw x.toNatClampNeg (cw p.toNatClampNeg), upd bu x.toNatClampNeg (cu p.toNatClampNeg), lc, lk, la, lo, lv, lt)) : wpX_sendWriteBack post (nI nc, nI nl, nI le, fw, nI ne, cl, ph, pk, pa, po, qw, qu, cs, cw, cu, rc, ho, hw, hu, wb, bw, bu, lc, lk, la, lo, lv, lt) x p := by
  unfold wpX_sendWriteBack
  exact ⟨h8, nm_e ⟨hp, h8, nm_e ⟨hp, h8, nm_e hq⟩⟩⟩
theorem tx_sr {post : Int32 → SX → Prop} {x1 x2 z : Int32} (h1 : vp_in x1 4) (h8 : vp_in x2 8) (hp : vp_in (x1 * 8 + x2) 32) (hz : (z = 4 ∧ ¬ cs (x1 * 8 + x2).toNatClampNeg = 0 ∧ cw (x1 * 8 + x2).toNatClampNeg = hw x2.toNatClampNeg) ∨ (z = 5 ∧ (cs (x1 * 8 + x2).toNatClampNeg = 0 ∨ ¬ cw (x1 * 8 + x2).toNatClampNeg = hw x2.toNatClampNeg))) (hq : post (upd ph x1.toNatClampNeg z x1.toNatClampNeg) (nI nc, nI nl, nI le, fw, nI ne, cl, upd ph x1.toNatClampNeg z, pk, pa, po, upd qw x1.toNatClampNeg (hw x2.toNatClampNeg), upd qu x1.toNatClampNeg (hu x2.toNatClampNeg), cs, cw, cu, rc, ho, hw, hu, wb, bw, bu, lc, lk, la, lo, lv, lt)) : wpX_sendReply post (nI nc, nI nl, nI le, fw, nI ne, cl, ph, pk, pa, po, qw, qu, cs, cw, cu, rc, ho, hw, hu, wb, bw, bu, lc, lk, la, lo, lv, lt) x1 x2 := by
  unfold wpX_sendReply
  refine tx_pair ⟨hp, ?_⟩
  rcases hz with ⟨rfl, hs, hw'⟩ | ⟨rfl, hs⟩
  · refine br_f hs ⟨hp, h8, br_t hw' ?_⟩
    unfold wX_sendReply_35
    exact ⟨h8, h1, nm_e ⟨h8, h1, nm_e (br_f (by decide) ⟨h1, nm_e ⟨h1, hq⟩⟩)⟩⟩
  · by_cases h0 : cs (x1 * 8 + x2).toNatClampNeg = 0
    · refine br_t h0 ?_
      unfold wX_sendReply_34 wX_sendReply_35
      exact ⟨h8, h1, nm_e ⟨h8, h1, nm_e (br_t rfl ⟨h1, nm_e ⟨h1, hq⟩⟩)⟩⟩
    · refine br_f h0 ⟨hp, h8, br_f (hs.resolve_left h0) ?_⟩
      unfold wX_sendReply_34 wX_sendReply_35
      exact ⟨h8, h1, nm_e ⟨h8, h1, nm_e (br_t rfl ⟨h1, nm_e ⟨h1, hq⟩⟩)⟩⟩
theorem tx_hit1 {post : Int32 → Prop} {x1 kd x3 : Int32} (h1 : vp_in x1 4) (hp : vp_in (x1 * 8 + x3) 32) (hh : cs (x1 * 8 + x3).toNatClampNeg = 2 ∨ (kd = 1 ∧ cs (x1 * 8 + x3).toNatClampNeg = 1 ∧ ¬ cu (x1 * 8 + x3).toNatClampNeg < cl x1.toNatClampNeg)) (hq : post 1) : wpX_isHit post (nI nc, nI nl, nI le, fw, nI ne, cl, ph, pk, pa, po, qw, qu, cs, cw, cu, rc, ho, hw, hu, wb, bw, bu, lc, lk, la, lo, lv, lt) x1 kd x3 := by
  unfold wpX_isHit
  refine tx_pair ⟨hp, ?_⟩
  by_cases h2 : cs (x1 * 8 + x3).toNatClampNeg = 2
  · exact br_t h2 hq
  · have h := hh.resolve_left h2
    exact br_f h2 (br_t h.1 ⟨hp, br_t h.2.1 ⟨h1, hp, br_f h.2.2 hq⟩⟩)
theorem tx_hit0 {post : Int32 → Prop} {x1 kd x3 : Int32} (h1 : vp_in x1 4) (hp : vp_in (x1 * 8 + x3) 32) (hh : ¬ (cs (x1 * 8 + x3).toNatClampNeg = 2 ∨ (kd = 1 ∧ cs (x1 * 8 + x3).toNatClampNeg = 1 ∧ ¬ cu (x1 * 8 + x3).toNatClampNeg < cl x1.toNatClampNeg))) (hq : post 0) : wpX_isHit post (nI nc, nI nl, nI le, fw, nI ne, cl, ph, pk, pa, po, qw, qu, cs, cw, cu, rc, ho, hw, hu, wb, bw, bu, lc, lk, la, lo, lv, lt) x1 kd x3 := by
  unfold wpX_isHit
  refine tx_pair ⟨hp, br_f (fun z => hh (Or.inl z)) ?_⟩
  by_cases hk : kd = 1
  · refine br_t hk ⟨hp, ?_⟩
    by_cases hs : cs (x1 * 8 + x3).toNatClampNeg = 1
    · refine br_t hs ⟨h1, hp, ?_⟩
      by_cases hu' : cu (x1 * 8 + x3).toNatClampNeg < cl x1.toNatClampNeg
      · exact br_t hu' hq
      · exact absurd (Or.inr ⟨hk, hs, hu'⟩) hh
    · exact br_f hs hq
  · exact br_f hk hq
theorem tx_119 {post : Int32 → SX → Prop} {x1 kd x3 op : Int32} (h1 : vp_in x1 4) (hq : post 2 (nI nc, nI nl, nI le, fw, nI ne, cl, upd ph x1.toNatClampNeg 10, upd pk x1.toNatClampNeg kd, upd pa x1.toNatClampNeg x3, upd po x1.toNatClampNeg op, qw, qu, cs, cw, cu, rc, ho, hw, hu, wb, bw, bu, lc, lk, la, lo, lv, lt)) : wX_issue_119 post x1 kd x3 op (nI nc) (nI nl) (nI le) fw (nI ne) cl ph pk pa po qw qu cs cw cu rc ho hw hu wb bw bu lc lk la lo lv lt := by
  unfold wX_issue_119
  exact ⟨h1, nm_e ⟨h1, nm_e ⟨h1, nm_e ⟨h1, nm_e hq⟩⟩⟩⟩
end
end
section
section
variable {nc nl le ne : Nat} {fw : Int32} {cl ph pk pa po qw qu cs cw cu rc ho hw hu wb bw bu lc lk la lo lv lt : Nat → Int32}
theorem ty_lg {post : Int32 → Prop} {x y : Int32} (h : post (tc_mx x y)) : wpY_larger post (nI nc, nI nl, nI le, fw, nI ne, cl, ph, pk, pa, po, qw, qu, cs, cw, cu, rc, ho, hw, hu, wb, bw, bu, lc, lk, la, lo, lv, lt) x y := by
  unfold wpY_larger
  by_cases e : x ≤ y
  · rw [tc_mx_t e] at h; exact br_t e h
  · rw [tc_mx_f e] at h; exact br_f e h
theorem ty_bc0 {post : Int32 → Prop} {c : Nat} (hc : c < nc) (hn : nc < 2 ^ 31) (hp : post 0) : wpY_badCore post (nI nc, nI nl, nI le, fw, nI ne, cl, ph, pk, pa, po, qw, qu, cs, cw, cu, rc, ho, hw, hu, wb, bw, bu, lc, lk, la, lo, lv, lt) (nI c) := by
  unfold wpY_badCore
  exact br_f (nI_pos (Nat.lt_trans hc hn)) (br_t (nI_lt hc hn) hp)
theorem ty_bc1 {post : Int32 → Prop} {x : Int32} (h : x < 0 ∨ nI nc ≤ x) (hp : post 1) : wpY_badCore post (nI nc, nI nl, nI le, fw, nI ne, cl, ph, pk, pa, po, qw, qu, cs, cw, cu, rc, ho, hw, hu, wb, bw, bu, lc, lk, la, lo, lv, lt) x := by
  unfold wpY_badCore
  by_cases h0 : x < 0
  · exact br_t h0 hp
  · exact br_f h0 (br_f (Int32.not_lt.mpr (h.resolve_left h0)) hp)
theorem ty_ba0 {post : Int32 → Prop} {a : Nat} (ha : a < nl) (hn : nl < 2 ^ 31) (hp : post 0) : wpY_badAddress post (nI nc, nI nl, nI le, fw, nI ne, cl, ph, pk, pa, po, qw, qu, cs, cw, cu, rc, ho, hw, hu, wb, bw, bu, lc, lk, la, lo, lv, lt) (nI a) := by
  unfold wpY_badAddress
  exact br_f (nI_pos (Nat.lt_trans ha hn)) (br_t (nI_lt ha hn) hp)
theorem ty_ba1 {post : Int32 → Prop} {x : Int32} (h : x < 0 ∨ nI nl ≤ x) (hp : post 1) : wpY_badAddress post (nI nc, nI nl, nI le, fw, nI ne, cl, ph, pk, pa, po, qw, qu, cs, cw, cu, rc, ho, hw, hu, wb, bw, bu, lc, lk, la, lo, lv, lt) x := by
  unfold wpY_badAddress
  by_cases h0 : x < 0
  · exact br_t h0 hp
  · exact br_f h0 (br_f (Int32.not_lt.mpr (h.resolve_left h0)) hp)
theorem ty_val {post : Int32 → Prop} {adr w r : Int32} (h : tc_FM lk la lt lv adr w ne r) (hne : ne ≤ 64) (hp : post r) : wpY_valueOf post (nI nc, nI nl, nI le, fw, nI ne, cl, ph, pk, pa, po, qw, qu, cs, cw, cu, rc, ho, hw, hu, wb, bw, bu, lc, lk, la, lo, lv, lt) adr w := by
  have L : ∀ d i : Nat, i + d = ne → (∀ j, j < i → ¬ (tc_V lk la adr j ∧ lt j = w)) → wY_valueOf_2 post adr w (nI nc) (nI nl) (nI le) fw (nI ne) cl ph pk pa po qw qu cs cw cu rc ho hw hu wb bw bu lc lk la lo lv lt (d + 1) (nI i) := by
    intro d
    induction d with
    | zero =>
      intro i hi hf
      have e : i = ne := by omega
      subst e
      have r0 := tc_F1_miss h hf
      rw [r0] at hp
      exact br_t (Int32.le_refl _) hp
    | succ d ih =>
      intro i hi hf
      have e : (nI i).toNatClampNeg = i := nI_clamp (by omega)
      have hv : vp_in (nI i) 64 := vp_in_nI (by omega) (by omega)
      have hlt : ¬ nI ne ≤ nI i := nI_ge (by omega) (by omega)
      refine br_f hlt ⟨hv, ?_⟩
      rw [e]
      by_cases ha : la i = adr
      · refine br_t ha ⟨hv, ?_⟩
        by_cases hk : lk i = 1
        · exact br_t hk (nm_r (nI_1 i) (ih (i + 1) (by omega) (tc_not_s hf (fun z => z.1.2 hk))))
        · refine br_f hk ⟨hv, ?_⟩
          by_cases hw : lt i = w
          · have r0 := tc_F1_hit h (by omega) ⟨⟨ha, hk⟩, hw⟩ hf
            rw [r0] at hp
            exact br_t hw ⟨hv, hp⟩
          · exact br_f hw (nm_r (nI_1 i) (ih (i + 1) (by omega) (tc_not_s hf (fun z => hw z.2))))
      · exact br_f ha (nm_r (nI_1 i) (ih (i + 1) (by omega) (tc_not_s hf (fun z => ha z.1.1))))
  unfold wpY_valueOf
  exact ⟨ne + 1, L ne 0 (by omega) (fun j hj => absurd hj (Nat.not_lt_zero j))⟩
theorem ty_lat {post : Int32 → Prop} {adr : Int32} (hne : ne ≤ 64) (H : ∀ n : Nat, wY_line_77 post adr (nI nc) (nI nl) (nI le) fw (nI ne) cl ph pk pa po qw qu cs cw cu rc ho hw hu wb bw bu lc lk la lo lv lt (n + 1) (tc_gr lk la lt adr ne) (nI ne)) : ∃ n : Nat, wY_line_77 post adr (nI nc) (nI nl) (nI le) fw (nI ne) cl ph pk pa po qw qu cs cw cu rc ho hw hu wb bw bu lc lk la lo lv lt n 0 0 := by
  have L : ∀ d i : Nat, i + d = ne → wY_line_77 post adr (nI nc) (nI nl) (nI le) fw (nI ne) cl ph pk pa po qw qu cs cw cu rc ho hw hu wb bw bu lc lk la lo lv lt (d + 1) (tc_gr lk la lt adr i) (nI i) := by
    intro d
    induction d with
    | zero =>
      intro i hi
      have e : i = ne := by omega
      subst e
      exact H 0
    | succ d ih =>
      intro i hi
      have e : (nI i).toNatClampNeg = i := nI_clamp (by omega)
      have hv : vp_in (nI i) 64 := vp_in_nI (by omega) (by omega)
      have hlt : ¬ nI ne ≤ nI i := nI_ge (by omega) (by omega)
      have I := ih (i + 1) (by omega)
      refine br_f hlt ⟨hv, ?_⟩
      rw [e]
      by_cases ha : la i = adr
      · refine br_t ha ⟨hv, ?_⟩
        by_cases hk : lk i = 1
        · have hn : ¬ ((la i = adr ∧ ¬ lk i = 1) ∧ tc_gr lk la lt adr i < lt i) := fun z => z.1.2 hk
          rw [tc_gr_f hn] at I
          exact br_t hk (nm_r (nI_1 i) I)
        · rw [← tc_mx_gr ⟨ha, hk⟩] at I
          exact br_f hk ⟨hv, ty_lg (nm_r (nI_1 i) I)⟩
      · have hn : ¬ ((la i = adr ∧ ¬ lk i = 1) ∧ tc_gr lk la lt adr i < lt i) := fun z => ha z.1.1
        rw [tc_gr_f hn] at I
        exact br_f ha (nm_r (nI_1 i) I)
  exact ⟨ne + 1, L ne 0 (by omega)⟩
theorem ty_49 {post : Int32 → SY → Prop} {x1 x2 x3 x4 : Int32} (hn : nc ≤ 4) (H : ∀ n : Nat, wY_issue_49 post x1 x2 x3 x4 (nI nc) (nI nl) (nI le) fw (nI ne) cl ph pk pa po qw qu cs cw cu rc ho hw hu wb bw bu lc lk la lo lv lt (n + 1) (nI (ne + tc_cnt ph nc)) (nI nc)) : ∃ n : Nat, wY_issue_49 post x1 x2 x3 x4 (nI nc) (nI nl) (nI le) fw (nI ne) cl ph pk pa po qw qu cs cw cu rc ho hw hu wb bw bu lc lk la lo lv lt n (nI ne) 0 := by
  have L : ∀ d i : Nat, i + d = nc → wY_issue_49 post x1 x2 x3 x4 (nI nc) (nI nl) (nI le) fw (nI ne) cl ph pk pa po qw qu cs cw cu rc ho hw hu wb bw bu lc lk la lo lv lt (d + 1) (nI (ne + tc_cnt ph i)) (nI i) := by
    intro d
    induction d with
    | zero =>
      intro i hi
      have e : i = nc := by omega
      subst e
      exact H 0
    | succ d ih =>
      intro i hi
      have e : (nI i).toNatClampNeg = i := nI_clamp (by omega)
      have hv : vp_in (nI i) 4 := vp_in_nI (by omega) (by omega)
      have hlt : ¬ nI nc ≤ nI i := nI_ge (by omega) (by omega)
      have I := ih (i + 1) (by omega)
      refine br_f hlt ⟨hv, ?_⟩
      rw [e]
      by_cases h0 : ph i = 0
      · rw [tc_cnt_z h0] at I
        exact br_t h0 (nm_r (nI_1 i) I)
      · rw [tc_cnt_s h0] at I
        exact br_f h0 (nm_r (nI_1 _) (nm_r (nI_1 i) I))
  exact ⟨nc + 1, L nc 0 (by omega)⟩
theorem ty_168 {post : Int32 → SY → Prop} {x2 x3 x6 x7 : Int32} {c : Nat} (hc : c < 4) (hn : nl ≤ 8) (H : ∀ n : Nat, wY_issue_168 post (nI c) x2 x3 x6 x7 (nI nc) (nI nl) (nI le) fw (nI ne) cl ph pk pa po qw qu cs cw cu rc ho hw hu wb bw bu lc lk la lo lv lt (n + 1) (nI (tc_cnt (fun j => cs (nI c * 8 + nI j).toNatClampNeg) nl)) (nI nl)) : ∃ n : Nat, wY_issue_168 post (nI c) x2 x3 x6 x7 (nI nc) (nI nl) (nI le) fw (nI ne) cl ph pk pa po qw qu cs cw cu rc ho hw hu wb bw bu lc lk la lo lv lt n 0 0 := by
  have L : ∀ d i : Nat, i + d = nl → wY_issue_168 post (nI c) x2 x3 x6 x7 (nI nc) (nI nl) (nI le) fw (nI ne) cl ph pk pa po qw qu cs cw cu rc ho hw hu wb bw bu lc lk la lo lv lt (d + 1) (nI (tc_cnt (fun j => cs (nI c * 8 + nI j).toNatClampNeg) i)) (nI i) := by
    intro d
    induction d with
    | zero =>
      intro i hi
      have e : i = nl := by omega
      subst e
      exact H 0
    | succ d ih =>
      intro i hi
      have hv : vp_in (nI c * 8 + nI i) 32 := tc_pin hc (by omega)
      have hlt : ¬ nI nl ≤ nI i := nI_ge (by omega) (by omega)
      have I := ih (i + 1) (by omega)
      refine br_f hlt ⟨hv, ?_⟩
      by_cases h0 : cs (nI c * 8 + nI i).toNatClampNeg = 0
      · rw [tc_cnt_z (f := fun j => cs (nI c * 8 + nI j).toNatClampNeg) h0] at I
        exact br_t h0 (nm_r (nI_1 i) I)
      · rw [tc_cnt_s (f := fun j => cs (nI c * 8 + nI j).toNatClampNeg) h0] at I
        exact br_f h0 (nm_r (nI_1 _) (nm_r (nI_1 i) I))
  exact ⟨nl + 1, L nl 0 (by omega)⟩
theorem ty_29 {post : Int32 → Prop} {J : Int32 → Prop} {x1 : Int32} {i : Nat} (hi : i < ne) (hne : ne ≤ 64) (H : ∀ n : Nat, wY_ordered_29 post J x1 (nI i) (nI nc) (nI nl) (nI le) fw (nI ne) cl ph pk pa po qw qu cs cw cu rc ho hw hu wb bw bu lc lk la lo lv lt (n + 1) (nI (tc_rk lt i ne)) (nI ne)) : ∃ n : Nat, wY_ordered_29 post J x1 (nI i) (nI nc) (nI nl) (nI le) fw (nI ne) cl ph pk pa po qw qu cs cw cu rc ho hw hu wb bw bu lc lk la lo lv lt n 0 0 := by
  have ei : (nI i).toNatClampNeg = i := nI_clamp (by omega)
  have vi : vp_in (nI i) 64 := vp_in_nI (by omega) (by omega)
  have L : ∀ d j : Nat, j + d = ne → wY_ordered_29 post J x1 (nI i) (nI nc) (nI nl) (nI le) fw (nI ne) cl ph pk pa po qw qu cs cw cu rc ho hw hu wb bw bu lc lk la lo lv lt (d + 1) (nI (tc_rk lt i j)) (nI j) := by
    intro d
    induction d with
    | zero =>
      intro j hj
      have e : j = ne := by omega
      subst e
      exact H 0
    | succ d ih =>
      intro j hj
      have ej : (nI j).toNatClampNeg = j := nI_clamp (by omega)
      have vj : vp_in (nI j) 64 := vp_in_nI (by omega) (by omega)
      have hlt : ¬ nI ne ≤ nI j := nI_ge (by omega) (by omega)
      have I := ih (j + 1) (by omega)
      refine br_f hlt ⟨vj, vi, ?_⟩
      rw [ei, ej]
      by_cases h1 : lt j < lt i
      · rw [tc_rk_t (Or.inl h1)] at I
        exact br_t h1 (nm_r (nI_1 _) (nm_r (nI_1 j) I))
      · refine br_f h1 ⟨vj, vi, ?_⟩
        by_cases he : lt j = lt i
        · refine br_t he ?_
          by_cases hij : j < i
          · rw [tc_rk_t (Or.inr ⟨he, hij⟩)] at I
            exact br_f (nI_ge hij (by omega)) (nm_r (nI_1 _) (nm_r (nI_1 j) I))
          · have hn : ¬ (lt j < lt i ∨ (lt j = lt i ∧ j < i)) := fun z => z.elim h1 (fun y => hij y.2)
            rw [tc_rk_f hn] at I
            exact br_t (nI_le (by omega) (by omega)) (nm_r (nI_1 j) I)
        · have hn : ¬ (lt j < lt i ∨ (lt j = lt i ∧ j < i)) := fun z => z.elim h1 (fun y => he y.1)
          rw [tc_rk_f hn] at I
          exact br_f he (nm_r (nI_1 j) I)
  exact ⟨ne + 1, L ne 0 (by omega)⟩
theorem ty_140 {post : SY → Prop} {x1 kd x3 op vl tm : Int32} (h1 : vp_in x1 4) (hn : vp_in (nI ne) 64) (hq : post (nI nc, nI nl, nI le, fw, nI ne + 1, upd cl x1.toNatClampNeg tm, ph, pk, pa, po, qw, qu, cs, cw, cu, rc, ho, hw, hu, wb, bw, bu, upd lc (nI ne).toNatClampNeg x1, upd lk (nI ne).toNatClampNeg kd, upd la (nI ne).toNatClampNeg x3, upd lo (nI ne).toNatClampNeg op, upd lv (nI ne).toNatClampNeg vl, upd lt (nI ne).toNatClampNeg tm)) : wY_commit_140 post x1 kd x3 op tm vl (nI nc) (nI nl) (nI le) fw (nI ne) cl ph pk pa po qw qu cs cw cu rc ho hw hu wb bw bu lc lk la lo lv lt := by
  unfold wY_commit_140
  exact ⟨h1, nm_e ⟨hn, nm_e ⟨hn, nm_e ⟨hn, nm_e ⟨hn, nm_e ⟨hn, nm_e ⟨hn, nm_e (nm_e hq)⟩⟩⟩⟩⟩⟩⟩
theorem ty_cm {post : SY → Prop} {x1 kd x3 op r tm vl : Int32} {dw du : Nat → Int32} (h1 : vp_in x1 4) (hp : vp_in (x1 * 8 + x3) 32) (hn : vp_in (nI ne) 64) (hne : ne ≤ 64) (hfm : tc_FM lk la lt lv x3 (cw (x1 * 8 + x3).toNatClampNeg) ne r) (hcm : tc_CM kd op r (cs (x1 * 8 + x3).toNatClampNeg) (cl x1.toNatClampNeg) (x1 * 8 + x3).toNatClampNeg cw cu dw du tm vl) (hq : post (nI nc, nI nl, nI le, fw, nI ne + 1, upd cl x1.toNatClampNeg tm, ph, pk, pa, po, qw, qu, cs, dw, du, rc, ho, hw, hu, wb, bw, bu, upd lc (nI ne).toNatClampNeg x1, upd lk (nI ne).toNatClampNeg kd, upd la (nI ne).toNatClampNeg x3, upd lo (nI ne).toNatClampNeg op, upd lv (nI ne).toNatClampNeg vl, upd lt (nI ne).toNatClampNeg tm)) : wpY_commit post (nI nc, nI nl, nI le, fw, nI ne, cl, ph, pk, pa, po, qw, qu, cs, cw, cu, rc, ho, hw, hu, wb, bw, bu, lc, lk, la, lo, lv, lt) x1 kd x3 op := by
  unfold wpY_commit
  refine nm_e ⟨hp, ty_val hfm hne ?_⟩
  rcases hcm with ⟨hk, hs, e3, e1, e2, e4⟩ | ⟨hk, hs, e3, e1, e2, e4⟩ | ⟨hk, e3, e1, e2, e4⟩ | ⟨hk, e3, e1, e2, e4⟩
  · subst hk e4 e1 e2 e3
    refine br_t rfl ⟨h1, hp, ty_lg ⟨hp, br_t hs ⟨hp, ty_lg ⟨hp, nm_e ?_⟩⟩⟩⟩
    unfold wY_commit_77
    exact ty_140 h1 hn hq
  · subst hk e4 e1 e2 e3
    refine br_t rfl ⟨h1, hp, ty_lg ⟨hp, br_f hs ?_⟩⟩
    unfold wY_commit_77
    exact ty_140 h1 hn hq
  · subst hk e4 e1 e2 e3
    refine br_f (by decide) ⟨h1, hp, ty_lg (br_t rfl ?_)⟩
    unfold wY_commit_120
    exact ⟨hp, nm_e ⟨hp, nm_e (ty_140 h1 hn hq)⟩⟩
  · subst hk e4 e1 e2 e3
    refine br_f (by decide) ⟨h1, hp, ty_lg (br_f (by decide) ?_)⟩
    unfold wY_commit_120
    exact ⟨hp, nm_e ⟨hp, nm_e (ty_140 h1 hn hq)⟩⟩
theorem ty_wb {post : SY → Prop} {y x : Int32} (h8 : vp_in x 8) (hp : vp_in (y * 8 + x) 32) (hq : post (nI nc, nI nl, nI le, fw, nI ne, cl, ph, pk, pa, po, qw, qu, cs, cw, cu, rc, ho, hw, hu, upd wb x.toNatClampNeg (vp_nar .boolean 1), upd bw x.toNatClampNeg (cw (y * 8 + x).toNatClampNeg), upd bu x.toNatClampNeg (cu (y * 8 + x).toNatClampNeg), lc, lk, la, lo, lv, lt)) : wpY_sendBack post (nI nc, nI nl, nI le, fw, nI ne, cl, ph, pk, pa, po, qw, qu, cs, cw, cu, rc, ho, hw, hu, wb, bw, bu, lc, lk, la, lo, lv, lt) y x := by
  unfold wpY_sendBack
  exact ⟨h8, nm_e ⟨hp, h8, nm_e ⟨hp, h8, nm_e hq⟩⟩⟩
theorem ty_sr {post : Int32 → SY → Prop} {x1 x2 z : Int32} (h1 : vp_in x1 4) (h8 : vp_in x2 8) (hp : vp_in (x1 * 8 + x2) 32) (hz : (z = 4 ∧ ¬ cs (x1 * 8 + x2).toNatClampNeg = 0 ∧ cw (x1 * 8 + x2).toNatClampNeg = hw x2.toNatClampNeg) ∨ (z = 5 ∧ (cs (x1 * 8 + x2).toNatClampNeg = 0 ∨ ¬ cw (x1 * 8 + x2).toNatClampNeg = hw x2.toNatClampNeg))) (hq : post (upd ph x1.toNatClampNeg z x1.toNatClampNeg) (nI nc, nI nl, nI le, fw, nI ne, cl, upd ph x1.toNatClampNeg z, pk, pa, po, upd qw x1.toNatClampNeg (hw x2.toNatClampNeg), upd qu x1.toNatClampNeg (hu x2.toNatClampNeg), cs, cw, cu, rc, ho, hw, hu, wb, bw, bu, lc, lk, la, lo, lv, lt)) : wY_deliverRequest_128 post x1 x2 (nI nc) (nI nl) (nI le) fw (nI ne) cl ph pk pa po qw qu cs cw cu rc ho hw hu wb bw bu lc lk la lo lv lt := by
  unfold wY_deliverRequest_128
  refine ⟨h8, h1, nm_e ⟨h8, h1, nm_e ⟨hp, ?_⟩⟩⟩
  rcases hz with ⟨rfl, hs, hw'⟩ | ⟨rfl, hs⟩
  · refine br_f hs ⟨hp, h8, br_t hw' ?_⟩
    unfold wY_deliverRequest_191
    exact br_f (by decide) ⟨h1, nm_e ⟨h1, hq⟩⟩
  · by_cases h0 : cs (x1 * 8 + x2).toNatClampNeg = 0
    · refine br_t h0 ?_
      unfold wY_deliverRequest_190 wY_deliverRequest_191
      exact br_t rfl ⟨h1, nm_e ⟨h1, hq⟩⟩
    · refine br_f h0 ⟨hp, h8, br_f (hs.resolve_left h0) ?_⟩
      unfold wY_deliverRequest_190 wY_deliverRequest_191
      exact br_t rfl ⟨h1, nm_e ⟨h1, hq⟩⟩
theorem ty_hit1 {post : Int32 → SY → Prop} {x1 kd x3 op : Int32} (h1 : vp_in x1 4) (hp : vp_in (x1 * 8 + x3) 32) (hh : cs (x1 * 8 + x3).toNatClampNeg = 2 ∨ (kd = 1 ∧ cs (x1 * 8 + x3).toNatClampNeg = 1 ∧ ¬ cu (x1 * 8 + x3).toNatClampNeg < cl x1.toNatClampNeg)) (hq : wY_issue_151 post x1 kd x3 op (nI nc) (nI nl) (nI le) fw (nI ne) cl ph pk pa po qw qu cs cw cu rc ho hw hu wb bw bu lc lk la lo lv lt) : wY_issue_98 post x1 kd x3 op (nI nc) (nI nl) (nI le) fw (nI ne) cl ph pk pa po qw qu cs cw cu rc ho hw hu wb bw bu lc lk la lo lv lt := by
  unfold wY_issue_98
  refine nm_e ⟨hp, ?_⟩
  by_cases h2 : cs (x1 * 8 + x3).toNatClampNeg = 2
  · exact br_t h2 hq
  · have h := hh.resolve_left h2
    exact br_f h2 (br_t h.1 ⟨hp, br_t h.2.1 ⟨h1, hp, br_f h.2.2 hq⟩⟩)
theorem ty_hit0 {post : Int32 → SY → Prop} {x1 kd x3 op : Int32} (h1 : vp_in x1 4) (hp : vp_in (x1 * 8 + x3) 32) (hh : ¬ (cs (x1 * 8 + x3).toNatClampNeg = 2 ∨ (kd = 1 ∧ cs (x1 * 8 + x3).toNatClampNeg = 1 ∧ ¬ cu (x1 * 8 + x3).toNatClampNeg < cl x1.toNatClampNeg))) (hq : ∃ n : Nat, wY_issue_168 post x1 kd x3 op (x1 * 8 + x3) (nI nc) (nI nl) (nI le) fw (nI ne) cl ph pk pa po qw qu cs cw cu rc ho hw hu wb bw bu lc lk la lo lv lt n 0 0) : wY_issue_98 post x1 kd x3 op (nI nc) (nI nl) (nI le) fw (nI ne) cl ph pk pa po qw qu cs cw cu rc ho hw hu wb bw bu lc lk la lo lv lt := by
  unfold wY_issue_98
  refine nm_e ⟨hp, br_f (fun z => hh (Or.inl z)) ?_⟩
  by_cases hk : kd = 1
  · refine br_t hk ⟨hp, ?_⟩
    by_cases hs : cs (x1 * 8 + x3).toNatClampNeg = 1
    · refine br_t hs ⟨h1, hp, ?_⟩
      by_cases hu' : cu (x1 * 8 + x3).toNatClampNeg < cl x1.toNatClampNeg
      · exact br_t hu' hq
      · exact absurd (Or.inr ⟨hk, hs, hu'⟩) hh
    · exact br_f hs hq
  · exact br_f hk hq
theorem ty_223 {post : Int32 → SY → Prop} {x1 kd x3 op : Int32} (h1 : vp_in x1 4) (hq : post 2 (nI nc, nI nl, nI le, fw, nI ne, cl, upd ph x1.toNatClampNeg 10, upd pk x1.toNatClampNeg kd, upd pa x1.toNatClampNeg x3, upd po x1.toNatClampNeg op, qw, qu, cs, cw, cu, rc, ho, hw, hu, wb, bw, bu, lc, lk, la, lo, lv, lt)) : wY_issue_223 post x1 kd x3 op (nI nc) (nI nl) (nI le) fw (nI ne) cl ph pk pa po qw qu cs cw cu rc ho hw hu wb bw bu lc lk la lo lv lt := by
  unfold wY_issue_223
  exact ⟨h1, nm_e ⟨h1, nm_e ⟨h1, nm_e ⟨h1, nm_e hq⟩⟩⟩⟩
end
end
section
section
theorem i_vc_clock {k : Nat} {u : SX} {v : SY} (I : i_Rel k u v) (hk : k + 5 ≤ 2564) (v1 : Int32) : wpX_clock (fun r => wpY_clock (fun r' => r' = r ∧ i_Rel (k + 5) u v) v v1) u v1 := by
  obtain ⟨rfl, hJ⟩ := I
  have hU : i_Rel (k + 5) u u := i_up ⟨rfl, hJ⟩
  obtain ⟨fc, fl, fe, fw, fn, cl, ph, pk, pa, po, qw, qu, cs, cw, cu, rc, ho, hw, hu, wb, bw, bu, lc, lk, la, lo, lv, lt⟩ := u
  obtain ⟨nc, nl, le, ne, rfl, rfl, rfl, rfl, hI⟩ := hJ
  obtain ⟨hD, hP, hQ, hO, hB, hT, hL⟩ := id hI
  obtain ⟨d1, d2, d3, d4, d5, d6⟩ := id hD
  obtain ⟨t1, t2, t3, t4, t5, t6, t7, t8, t9⟩ := id hT
  have hn : nc < 2 ^ 31 := by omega
  have hl : nl < 2 ^ 31 := by omega
  have hne : ne ≤ 64 := by omega
  have up : 1000 + 20 * k ≤ 1000 + 20 * (k + 5) := by omega
  unfold wpX_clock wpY_clock
  rcases tc_ix v1 hn with hb | ⟨c, hc, rfl⟩
  · exact tx_bc1 hb (br_f (by decide) (ty_bc1 hb (br_f (by decide) ⟨rfl, hU⟩)))
  have hc4 : vp_in (nI c) 4 := vp_in_nI (by omega) (by omega)
  have ec : (nI c).toNatClampNeg = c := nI_clamp (by omega)
  exact tx_bc0 hc hn (br_t rfl (⟨hc4, ty_bc0 hc hn (br_t rfl (⟨hc4, ⟨rfl, hU⟩⟩))⟩))
theorem i_vc_commits {k : Nat} {u : SX} {v : SY} (I : i_Rel k u v) (hk : k + 5 ≤ 2564) : wpX_commits (fun r => wpY_commits (fun r' => r' = r ∧ i_Rel (k + 5) u v) v) u := by
  obtain ⟨rfl, hJ⟩ := I
  have hU : i_Rel (k + 5) u u := i_up ⟨rfl, hJ⟩
  obtain ⟨fc, fl, fe, fw, fn, cl, ph, pk, pa, po, qw, qu, cs, cw, cu, rc, ho, hw, hu, wb, bw, bu, lc, lk, la, lo, lv, lt⟩ := u
  obtain ⟨nc, nl, le, ne, rfl, rfl, rfl, rfl, hI⟩ := hJ
  obtain ⟨hD, hP, hQ, hO, hB, hT, hL⟩ := id hI
  obtain ⟨d1, d2, d3, d4, d5, d6⟩ := id hD
  obtain ⟨t1, t2, t3, t4, t5, t6, t7, t8, t9⟩ := id hT
  have hn : nc < 2 ^ 31 := by omega
  have hl : nl < 2 ^ 31 := by omega
  have hne : ne ≤ 64 := by omega
  have up : 1000 + 20 * k ≤ 1000 + 20 * (k + 5) := by omega
  unfold wpX_commits wpY_commits
  exact ⟨rfl, hU⟩
theorem i_vc_recallFlying {k : Nat} {u : SX} {v : SY} (I : i_Rel k u v) (hk : k + 5 ≤ 2564) (v1 : Int32) (v2 : Int32) : wpX_recallFlying (fun r => wpY_recallFlying (fun r' => r' = r ∧ i_Rel (k + 5) u v) v v1 v2) u v1 v2 := by
  obtain ⟨rfl, hJ⟩ := I
  have hU : i_Rel (k + 5) u u := i_up ⟨rfl, hJ⟩
  obtain ⟨fc, fl, fe, fw, fn, cl, ph, pk, pa, po, qw, qu, cs, cw, cu, rc, ho, hw, hu, wb, bw, bu, lc, lk, la, lo, lv, lt⟩ := u
  obtain ⟨nc, nl, le, ne, rfl, rfl, rfl, rfl, hI⟩ := hJ
  obtain ⟨hD, hP, hQ, hO, hB, hT, hL⟩ := id hI
  obtain ⟨d1, d2, d3, d4, d5, d6⟩ := id hD
  obtain ⟨t1, t2, t3, t4, t5, t6, t7, t8, t9⟩ := id hT
  have hn : nc < 2 ^ 31 := by omega
  have hl : nl < 2 ^ 31 := by omega
  have hne : ne ≤ 64 := by omega
  have up : 1000 + 20 * k ≤ 1000 + 20 * (k + 5) := by omega
  unfold wpX_recallFlying wpY_recallFlying
  rcases tc_ix v1 hn with hb | ⟨c, hc, rfl⟩
  · exact tx_bc1 hb (br_f (by decide) (ty_bc1 hb (br_f (by decide) ⟨rfl, hU⟩)))
  have hc4 : vp_in (nI c) 4 := vp_in_nI (by omega) (by omega)
  have ec : (nI c).toNatClampNeg = c := nI_clamp (by omega)
  rcases tc_ix v2 hl with hb | ⟨a, ha, rfl⟩
  · exact tx_bc0 hc hn (br_t rfl (tx_ba1 hb (br_f (by decide) (ty_bc0 hc hn (br_t rfl (ty_ba1 hb (br_f (by decide) ⟨rfl, hU⟩)))))))
  have ha8 : vp_in (nI a) 8 := vp_in_nI (by omega) (by omega)
  have hp : vp_in (nI c * 8 + nI a) 32 := tc_pin (by omega) (by omega)
  exact tx_bc0 hc hn (br_t rfl (tx_ba0 ha hl (br_t rfl (tx_pair ⟨hp, tc_nb (hB _), ty_bc0 hc hn (br_t rfl (ty_ba0 ha hl (br_t rfl (⟨hp, tc_nb (hB _), ⟨rfl, hU⟩⟩))))⟩))))
theorem i_vc_advance {k : Nat} {u : SX} {v : SY} (I : i_Rel k u v) (hk : k + 5 ≤ 2564) (v1 : Int32) (v2 : Int32) : wpX_advance (fun r u' => wpY_advance (fun r' v' => r' = r ∧ i_Rel (k + 5) u' v') v v1 v2) u v1 v2 := by
  obtain ⟨rfl, hJ⟩ := I
  have hU : i_Rel (k + 5) u u := i_up ⟨rfl, hJ⟩
  obtain ⟨fc, fl, fe, fw, fn, cl, ph, pk, pa, po, qw, qu, cs, cw, cu, rc, ho, hw, hu, wb, bw, bu, lc, lk, la, lo, lv, lt⟩ := u
  obtain ⟨nc, nl, le, ne, rfl, rfl, rfl, rfl, hI⟩ := hJ
  obtain ⟨hD, hP, hQ, hO, hB, hT, hL⟩ := id hI
  obtain ⟨d1, d2, d3, d4, d5, d6⟩ := id hD
  obtain ⟨t1, t2, t3, t4, t5, t6, t7, t8, t9⟩ := id hT
  have hn : nc < 2 ^ 31 := by omega
  have hl : nl < 2 ^ 31 := by omega
  have hne : ne ≤ 64 := by omega
  have up : 1000 + 20 * k ≤ 1000 + 20 * (k + 5) := by omega
  unfold wpX_advance wpY_advance
  rcases tc_ix v1 hn with hb | ⟨c, hc, rfl⟩
  · exact tx_bc1 hb (br_f (by decide) (ty_bc1 hb (br_f (by decide) ⟨rfl, hU⟩)))
  have hc4 : vp_in (nI c) 4 := vp_in_nI (by omega) (by omega)
  have ec : (nI c).toNatClampNeg = c := nI_clamp (by omega)
  refine tx_bc0 hc hn (br_t rfl (?_))
  by_cases h1 : v2 < 1
  · exact br_t h1 (ty_bc0 hc hn (br_t rfl (br_t h1 ⟨rfl, hU⟩)))
  by_cases h2 : v2 ≤ 64
  · refine br_f h1 (br_t h2 ⟨hc4, ?_⟩)
    obtain ⟨s, hs, rfl⟩ := nI_of2 (x := v2) (M := 64) (n := 64) rfl (fun z => h1 (Int32.lt_trans z (by decide))) h2
    by_cases h3 : ph (nI c).toNatClampNeg = 0
    · refine br_t h3 ⟨hc4, ?_⟩
      by_cases h4 : cl (nI c).toNatClampNeg + nI s ≤ 1000
      · exact br_t h4 ⟨hc4, hc4, nm_e (ty_bc0 hc hn (br_t rfl (br_f h1 (br_t h2 ⟨hc4, br_t h3 ⟨hc4, br_t h4 ⟨hc4, hc4, nm_e ⟨rfl, rfl, nc, nl, le, ne, rfl, rfl, rfl, rfl, ⟨hD, hP, hQ, hO, hB, ⟨tc_T_u (tc_T_up up t1) (tc_t_up (by omega) (tc_t_add s (t1 _))), tc_T_up up t2, tc_T_up up t3, tc_T_up up t4, tc_T_up up t5, tc_T_up up t6, tc_T_up up t7, tc_T_up up t8, tc_T_up up t9⟩, hL⟩⟩⟩⟩⟩))))⟩
      · exact br_f h4 (ty_bc0 hc hn (br_t rfl (br_f h1 (br_t h2 ⟨hc4, br_t h3 ⟨hc4, br_f h4 ⟨rfl, hU⟩⟩⟩))))
    · exact br_f h3 (ty_bc0 hc hn (br_t rfl (br_f h1 (br_t h2 ⟨hc4, br_f h3 ⟨rfl, hU⟩⟩))))
  · exact br_f h1 (br_f h2 (ty_bc0 hc hn (br_t rfl (br_f h1 (br_f h2 ⟨rfl, hU⟩)))))
theorem i_vc_evict {k : Nat} {u : SX} {v : SY} (I : i_Rel k u v) (hk : k + 5 ≤ 2564) (v1 : Int32) (v2 : Int32) : wpX_evict (fun r u' => wpY_evict (fun r' v' => r' = r ∧ i_Rel (k + 5) u' v') v v1 v2) u v1 v2 := by
  obtain ⟨rfl, hJ⟩ := I
  have hU : i_Rel (k + 5) u u := i_up ⟨rfl, hJ⟩
  obtain ⟨fc, fl, fe, fw, fn, cl, ph, pk, pa, po, qw, qu, cs, cw, cu, rc, ho, hw, hu, wb, bw, bu, lc, lk, la, lo, lv, lt⟩ := u
  obtain ⟨nc, nl, le, ne, rfl, rfl, rfl, rfl, hI⟩ := hJ
  obtain ⟨hD, hP, hQ, hO, hB, hT, hL⟩ := id hI
  obtain ⟨d1, d2, d3, d4, d5, d6⟩ := id hD
  obtain ⟨t1, t2, t3, t4, t5, t6, t7, t8, t9⟩ := id hT
  have hn : nc < 2 ^ 31 := by omega
  have hl : nl < 2 ^ 31 := by omega
  have hne : ne ≤ 64 := by omega
  have up : 1000 + 20 * k ≤ 1000 + 20 * (k + 5) := by omega
  unfold wpX_evict wpY_evict
  rcases tc_ix v1 hn with hb | ⟨c, hc, rfl⟩
  · exact tx_bc1 hb (br_f (by decide) (ty_bc1 hb (br_f (by decide) ⟨rfl, hU⟩)))
  have hc4 : vp_in (nI c) 4 := vp_in_nI (by omega) (by omega)
  have ec : (nI c).toNatClampNeg = c := nI_clamp (by omega)
  rcases tc_ix v2 hl with hb | ⟨a, ha, rfl⟩
  · exact tx_bc0 hc hn (br_t rfl (tx_ba1 hb (br_f (by decide) (ty_bc0 hc hn (br_t rfl (ty_ba1 hb (br_f (by decide) ⟨rfl, hU⟩)))))))
  have ha8 : vp_in (nI a) 8 := vp_in_nI (by omega) (by omega)
  have hp : vp_in (nI c * 8 + nI a) 32 := tc_pin (by omega) (by omega)
  refine tx_bc0 hc hn (br_t rfl (tx_ba0 ha hl (br_t rfl (⟨hc4, ?_⟩))))
  by_cases h0 : ph (nI c).toNatClampNeg = 0
  · refine br_t h0 (tx_pair ⟨hp, nm_e ?_⟩)
    by_cases h1 : cs (nI c * 8 + nI a).toNatClampNeg = 0
    · exact br_t h1 (ty_bc0 hc hn (br_t rfl (ty_ba0 ha hl (br_t rfl (⟨hc4, br_t h0 ⟨hp, nm_e (br_t h1 ⟨rfl, hU⟩)⟩⟩)))))
    · refine br_f h1 ⟨hp, nm_e ?_⟩
      by_cases h2 : cs (nI c * 8 + nI a).toNatClampNeg = 1
      · exact br_t h2 (ty_bc0 hc hn (br_t rfl (ty_ba0 ha hl (br_t rfl (⟨hc4, br_t h0 ⟨hp, nm_e (br_f h1 ⟨hp, nm_e (br_t h2 ⟨rfl, rfl, nc, nl, le, ne, rfl, rfl, rfl, rfl, tc_I_up hI⟩)⟩)⟩⟩)))))
      · exact br_f h2 (tx_wb ha8 hp (ty_bc0 hc hn (br_t rfl (ty_ba0 ha hl (br_t rfl (⟨hc4, br_t h0 ⟨hp, nm_e (br_f h1 ⟨hp, nm_e (br_f h2 (ty_wb ha8 hp ⟨rfl, rfl, nc, nl, le, ne, rfl, rfl, rfl, rfl, ⟨hD, hP, hQ, hO, hB, ⟨tc_T_up up t1, tc_T_up up t2, tc_T_up up t3, tc_T_up up t4, tc_T_up up t5, tc_T_up up t6, tc_T_up up t7, tc_T_u (tc_T_up up t8) (tc_t_up up (t4 _)), tc_T_u (tc_T_up up t9) (tc_t_up up (t5 _))⟩, hL⟩⟩))⟩)⟩⟩))))))
  · exact br_f h0 (ty_bc0 hc hn (br_t rfl (ty_ba0 ha hl (br_t rfl (⟨hc4, br_f h0 ⟨rfl, hU⟩⟩)))))
theorem i_vc_deliverRecall {k : Nat} {u : SX} {v : SY} (I : i_Rel k u v) (hk : k + 5 ≤ 2564) (v1 : Int32) (v2 : Int32) : wpX_deliverRecall (fun r u' => wpY_deliverRecall (fun r' v' => r' = r ∧ i_Rel (k + 5) u' v') v v1 v2) u v1 v2 := by
  obtain ⟨rfl, hJ⟩ := I
  have hU : i_Rel (k + 5) u u := i_up ⟨rfl, hJ⟩
  obtain ⟨fc, fl, fe, fw, fn, cl, ph, pk, pa, po, qw, qu, cs, cw, cu, rc, ho, hw, hu, wb, bw, bu, lc, lk, la, lo, lv, lt⟩ := u
  obtain ⟨nc, nl, le, ne, rfl, rfl, rfl, rfl, hI⟩ := hJ
  obtain ⟨hD, hP, hQ, hO, hB, hT, hL⟩ := id hI
  obtain ⟨d1, d2, d3, d4, d5, d6⟩ := id hD
  obtain ⟨t1, t2, t3, t4, t5, t6, t7, t8, t9⟩ := id hT
  have hn : nc < 2 ^ 31 := by omega
  have hl : nl < 2 ^ 31 := by omega
  have hne : ne ≤ 64 := by omega
  have up : 1000 + 20 * k ≤ 1000 + 20 * (k + 5) := by omega
  unfold wpX_deliverRecall wpY_deliverRecall
  rcases tc_ix v1 hn with hb | ⟨c, hc, rfl⟩
  · exact tx_bc1 hb (br_f (by decide) (ty_bc1 hb (br_f (by decide) ⟨rfl, hU⟩)))
  have hc4 : vp_in (nI c) 4 := vp_in_nI (by omega) (by omega)
  have ec : (nI c).toNatClampNeg = c := nI_clamp (by omega)
  rcases tc_ix v2 hl with hb | ⟨a, ha, rfl⟩
  · exact tx_bc0 hc hn (br_t rfl (tx_ba1 hb (br_f (by decide) (ty_bc0 hc hn (br_t rfl (ty_ba1 hb (br_f (by decide) ⟨rfl, hU⟩)))))))
  have ha8 : vp_in (nI a) 8 := vp_in_nI (by omega) (by omega)
  have hp : vp_in (nI c * 8 + nI a) 32 := tc_pin (by omega) (by omega)
  refine tx_bc0 hc hn (br_t rfl (tx_ba0 ha hl (br_t rfl (tx_pair ⟨hp, ?_⟩))))
  by_cases h0 : rc (nI c * 8 + nI a).toNatClampNeg = 0
  · exact br_t h0 (ty_bc0 hc hn (br_t rfl (ty_ba0 ha hl (br_t rfl (nm_e ⟨hp, br_t h0 ⟨rfl, hU⟩⟩)))))
  · refine br_f h0 ⟨hp, nm_e ⟨hp, ?_⟩⟩
    by_cases h1 : cs (nI c * 8 + nI a).toNatClampNeg = 2
    · exact br_t h1 ⟨hp, nm_e (tx_wb ha8 hp (ty_bc0 hc hn (br_t rfl (ty_ba0 ha hl (br_t rfl (nm_e ⟨hp, br_f h0 ⟨hp, nm_e ⟨hp, br_t h1 ⟨hp, nm_e (ty_wb ha8 hp ⟨rfl, rfl, nc, nl, le, ne, rfl, rfl, rfl, rfl, ⟨hD, hP, hQ, hO, tc_B_u hB tc_b0, ⟨tc_T_up up t1, tc_T_up up t2, tc_T_up up t3, tc_T_up up t4, tc_T_up up t5, tc_T_up up t6, tc_T_up up t7, tc_T_u (tc_T_up up t8) (tc_t_up up (t4 _)), tc_T_u (tc_T_up up t9) (tc_t_up up (t5 _))⟩, hL⟩⟩)⟩⟩⟩⟩))))))⟩
    · exact br_f h1 (ty_bc0 hc hn (br_t rfl (ty_ba0 ha hl (br_t rfl (nm_e ⟨hp, br_f h0 ⟨hp, nm_e ⟨hp, br_f h1 ⟨rfl, rfl, nc, nl, le, ne, rfl, rfl, rfl, rfl, ⟨hD, hP, hQ, hO, tc_B_u hB tc_b0, ⟨tc_T_up up t1, tc_T_up up t2, tc_T_up up t3, tc_T_up up t4, tc_T_up up t5, tc_T_up up t6, tc_T_up up t7, tc_T_up up t8, tc_T_up up t9⟩, hL⟩⟩⟩⟩⟩)))))
theorem i_vc_deliverWriteBack {k : Nat} {u : SX} {v : SY} (I : i_Rel k u v) (hk : k + 5 ≤ 2564) (v1 : Int32) : wpX_deliverWriteBack (fun r u' => wpY_deliverWriteBack (fun r' v' => r' = r ∧ i_Rel (k + 5) u' v') v v1) u v1 := by
  obtain ⟨rfl, hJ⟩ := I
  have hU : i_Rel (k + 5) u u := i_up ⟨rfl, hJ⟩
  obtain ⟨fc, fl, fe, fw, fn, cl, ph, pk, pa, po, qw, qu, cs, cw, cu, rc, ho, hw, hu, wb, bw, bu, lc, lk, la, lo, lv, lt⟩ := u
  obtain ⟨nc, nl, le, ne, rfl, rfl, rfl, rfl, hI⟩ := hJ
  obtain ⟨hD, hP, hQ, hO, hB, hT, hL⟩ := id hI
  obtain ⟨d1, d2, d3, d4, d5, d6⟩ := id hD
  obtain ⟨t1, t2, t3, t4, t5, t6, t7, t8, t9⟩ := id hT
  have hn : nc < 2 ^ 31 := by omega
  have hl : nl < 2 ^ 31 := by omega
  have hne : ne ≤ 64 := by omega
  have up : 1000 + 20 * k ≤ 1000 + 20 * (k + 5) := by omega
  unfold wpX_deliverWriteBack wpY_deliverWriteBack
  rcases tc_ix v1 hl with hb | ⟨a, ha, rfl⟩
  · exact tx_ba1 hb (br_f (by decide) (ty_ba1 hb (br_f (by decide) ⟨rfl, hU⟩)))
  have ha8 : vp_in (nI a) 8 := vp_in_nI (by omega) (by omega)
  refine tx_ba0 ha hl (br_t rfl (⟨ha8, ?_⟩))
  by_cases h0 : wb (nI a).toNatClampNeg = 0
  · exact br_t h0 (ty_ba0 ha hl (br_t rfl (⟨ha8, br_t h0 ⟨rfl, hU⟩⟩)))
  · exact br_f h0 ⟨ha8, nm_e ⟨ha8, ha8, nm_e ⟨ha8, ha8, nm_e ⟨ha8, nm_e (ty_ba0 ha hl (br_t rfl (⟨ha8, br_f h0 ⟨ha8, nm_e ⟨ha8, ha8, nm_e ⟨ha8, ha8, nm_e ⟨ha8, nm_e ⟨rfl, rfl, nc, nl, le, ne, rfl, rfl, rfl, rfl, ⟨hD, hP, hQ, tc_O_u hO (Or.inl rfl), hB, ⟨tc_T_up up t1, tc_T_up up t2, tc_T_up up t3, tc_T_up up t4, tc_T_up up t5, tc_T_u (tc_T_up up t6) (tc_t_up up (t8 _)), tc_T_u (tc_T_up up t7) (tc_t_up up (t9 _)), tc_T_up up t8, tc_T_up up t9⟩, hL⟩⟩⟩⟩⟩⟩⟩)))⟩⟩⟩⟩
end
end
section
section
theorem i_vc_deliverRequest {k : Nat} {u : SX} {v : SY} (I : i_Rel k u v) (hk : k + 5 ≤ 2564) (v1 : Int32) : wpX_deliverRequest (fun r u' => wpY_deliverRequest (fun r' v' => r' = r ∧ i_Rel (k + 5) u' v') v v1) u v1 := by
  obtain ⟨rfl, hJ⟩ := I
  have hU : i_Rel (k + 5) u u := i_up ⟨rfl, hJ⟩
  obtain ⟨fc, fl, fe, fw, fn, cl, ph, pk, pa, po, qw, qu, cs, cw, cu, rc, ho, hw, hu, wb, bw, bu, lc, lk, la, lo, lv, lt⟩ := u
  obtain ⟨nc, nl, le, ne, rfl, rfl, rfl, rfl, hI⟩ := hJ
  obtain ⟨hD, hP, hQ, hO, hB, hT, hL⟩ := id hI
  obtain ⟨d1, d2, d3, d4, d5, d6⟩ := id hD
  obtain ⟨t1, t2, t3, t4, t5, t6, t7, t8, t9⟩ := id hT
  have hn : nc < 2 ^ 31 := by omega
  have hl : nl < 2 ^ 31 := by omega
  have hne : ne ≤ 64 := by omega
  have up : 1000 + 20 * k ≤ 1000 + 20 * (k + 5) := by omega
  unfold wpX_deliverRequest wpY_deliverRequest
  rcases tc_ix v1 hn with hb | ⟨c, hc, rfl⟩
  · exact tx_bc1 hb (br_f (by decide) (ty_bc1 hb (br_f (by decide) ⟨rfl, hU⟩)))
  have hc4 : vp_in (nI c) 4 := vp_in_nI (by omega) (by omega)
  have ec : (nI c).toNatClampNeg = c := nI_clamp (by omega)
  refine tx_bc0 hc hn (br_t rfl (⟨hc4, ?_⟩))
  by_cases h0 : ph (nI c).toNatClampNeg = 10
  · have hz0 : ¬ ph c = 0 := by rw [ec] at h0; rw [h0]; decide
    obtain ⟨hkd, a, ha, ea⟩ := hQ c hc hz0
    rw [← ec] at ea
    have ha8 : vp_in (nI a) 8 := vp_in_nI (by omega) (by omega)
    have hp : vp_in (nI c * 8 + nI a) 32 := tc_pin (by omega) (by omega)
    have eA : (nI a).toNatClampNeg = a := nI_clamp (by omega)
    have hle : 1000 + 20 * k + le ≤ 1000 + 20 * (k + 5) := by omega
    refine br_t h0 ⟨hc4, nm_r ea ⟨ha8, nm_e ?_⟩⟩
    have hz : ∃ z : Int32, ((z = 4 ∧ ¬ cs (nI c * 8 + nI a).toNatClampNeg = 0 ∧ cw (nI c * 8 + nI a).toNatClampNeg = hw (nI a).toNatClampNeg) ∨ (z = 5 ∧ (cs (nI c * 8 + nI a).toNatClampNeg = 0 ∨ ¬ cw (nI c * 8 + nI a).toNatClampNeg = hw (nI a).toNatClampNeg))) ∧ ¬ z = 0 := by
      by_cases q1 : cs (nI c * 8 + nI a).toNatClampNeg = 0
      · exact ⟨5, Or.inr ⟨rfl, Or.inl q1⟩, by decide⟩
      · by_cases q2 : cw (nI c * 8 + nI a).toNatClampNeg = hw (nI a).toNatClampNeg
        · exact ⟨4, Or.inl ⟨rfl, q1, q2⟩, by decide⟩
        · exact ⟨5, Or.inr ⟨rfl, Or.inr q2⟩, by decide⟩
    obtain ⟨z, hz, hzn⟩ := hz
    have hP' : ne + tc_cnt (upd ph (nI c).toNatClampNeg z) nc ≤ 64 := by rw [ec, tc_cnt_eq hz0 hzn]; exact hP
    have hQ' : tc_Q nc nl (upd ph (nI c).toNatClampNeg z) pk pa := by rw [ec]; exact tc_Q_u hQ (Or.inl hz0)
    have hO' := hO a (by omega)
    rw [← eA] at hO'
    by_cases h1 : ho (nI a).toNatClampNeg = -1
    · have h1' : ho (nI a).toNatClampNeg < 0 := by rw [h1]; decide
      refine br_t h1 ⟨hc4, ?_⟩
      by_cases h2 : pk (nI c).toNatClampNeg = 1
      · refine br_t h2 ?_
        unfold wpX_extendLease
        refine ⟨ha8, hc4, tx_lg ⟨ha8, tx_lg ⟨ha8, nm_e ?_⟩⟩⟩
        have hH : tc_T (1000 + 20 * (k + 5)) (upd hu (nI a).toNatClampNeg (tc_mx (hu (nI a).toNatClampNeg) (tc_mx (hw (nI a).toNatClampNeg) (cl (nI c).toNatClampNeg) + nI le))) := tc_T_u (tc_T_up up t7) (tc_t_up hle (tc_t_mx (tc_t_up (Nat.le_add_right _ le) (t7 _)) (tc_t_add le (tc_t_mx (t6 _) (t1 _)))))
        unfold wX_deliverRequest_87
        refine tx_sr hc4 ha8 hp hz ?_
        exact ty_bc0 hc hn (br_t rfl (⟨hc4, br_t h0 ⟨hc4, nm_r ea ⟨ha8, br_t h1' ⟨hc4, br_t h2 ⟨ha8, hc4, ty_lg ⟨ha8, ty_lg ⟨ha8, nm_e (ty_sr hc4 ha8 hp hz ⟨rfl, rfl, nc, nl, le, ne, rfl, rfl, rfl, rfl, ⟨hD, hP', hQ', hO, hB, ⟨tc_T_up up t1, tc_T_u (tc_T_up up t2) (tc_t_up up (t6 _)), tc_T_u (tc_T_up up t3) (hH _), tc_T_up up t4, tc_T_up up t5, tc_T_up up t6, hH, tc_T_up up t8, tc_T_up up t9⟩, hL⟩⟩)⟩⟩⟩⟩⟩⟩⟩))
      · refine br_f h2 ⟨ha8, nm_e ?_⟩
        unfold wX_deliverRequest_87
        refine tx_sr hc4 ha8 hp hz ?_
        exact ty_bc0 hc hn (br_t rfl (⟨hc4, br_t h0 ⟨hc4, nm_r ea ⟨ha8, br_t h1' ⟨hc4, br_f h2 ⟨ha8, nm_e (ty_sr hc4 ha8 hp hz ⟨rfl, rfl, nc, nl, le, ne, rfl, rfl, rfl, rfl, ⟨hD, hP', hQ', tc_O_u hO (Or.inr ⟨c, hc, rfl⟩), hB, ⟨tc_T_up up t1, tc_T_u (tc_T_up up t2) (tc_t_up up (t6 _)), tc_T_u (tc_T_up up t3) (tc_t_up up (t7 _)), tc_T_up up t4, tc_T_up up t5, tc_T_up up t6, tc_T_up up t7, tc_T_up up t8, tc_T_up up t9⟩, hL⟩⟩)⟩⟩⟩⟩⟩))
    · obtain ⟨o, ho1, eo⟩ := hO'.resolve_left h1
      have h1' : ¬ ho (nI a).toNatClampNeg < 0 := by rw [eo]; exact nI_pos (by omega)
      refine br_f h1 ?_
      by_cases h2 : ho (nI a).toNatClampNeg = nI c
      · exact br_t h2 (ty_bc0 hc hn (br_t rfl (⟨hc4, br_t h0 ⟨hc4, nm_r ea ⟨ha8, br_f h1' ⟨ha8, br_t h2 ⟨rfl, hU⟩⟩⟩⟩⟩)))
      · have hq : vp_in (ho (nI a).toNatClampNeg * 8 + nI a) 32 := by rw [eo]; exact tc_pin (by omega) (by omega)
        exact br_f h2 (tx_pair ⟨hq, nm_e (ty_bc0 hc hn (br_t rfl (⟨hc4, br_t h0 ⟨hc4, nm_r ea ⟨ha8, br_f h1' ⟨ha8, br_f h2 ⟨ha8, hq, nm_e ⟨rfl, rfl, nc, nl, le, ne, rfl, rfl, rfl, rfl, ⟨hD, hP, hQ, hO, tc_B_u hB tc_b1, ⟨tc_T_up up t1, tc_T_up up t2, tc_T_up up t3, tc_T_up up t4, tc_T_up up t5, tc_T_up up t6, tc_T_up up t7, tc_T_up up t8, tc_T_up up t9⟩, hL⟩⟩⟩⟩⟩⟩⟩)))⟩)
  · exact br_f h0 (ty_bc0 hc hn (br_t rfl (⟨hc4, br_f h0 ⟨rfl, hU⟩⟩)))
section
variable {nc nl le ne : Nat} {fw : Int32} {cl ph pk pa po qw qu cs cw cu rc ho hw hu wb bw bu lc lk la lo lv lt : Nat → Int32}
theorem tx_hr1 {post : Int32 → Prop} {x1 : Int32} (h1 : vp_in x1 4) (h : ph x1.toNatClampNeg = 4 ∨ ph x1.toNatClampNeg = 5) (hq : post 1) : wpX_hasReply post (nI nc, nI nl, nI le, fw, nI ne, cl, ph, pk, pa, po, qw, qu, cs, cw, cu, rc, ho, hw, hu, wb, bw, bu, lc, lk, la, lo, lv, lt) x1 := by
  unfold wpX_hasReply
  by_cases h4 : ph x1.toNatClampNeg = 4
  · exact ⟨h1, br_t h4 hq⟩
  · exact ⟨h1, br_f h4 ⟨h1, br_t (h.resolve_left h4) hq⟩⟩
theorem tx_hr0 {post : Int32 → Prop} {x1 : Int32} (h1 : vp_in x1 4) (h : ¬ (ph x1.toNatClampNeg = 4 ∨ ph x1.toNatClampNeg = 5)) (hq : post 0) : wpX_hasReply post (nI nc, nI nl, nI le, fw, nI ne, cl, ph, pk, pa, po, qw, qu, cs, cw, cu, rc, ho, hw, hu, wb, bw, bu, lc, lk, la, lo, lv, lt) x1 := by
  unfold wpX_hasReply
  exact ⟨h1, br_f (fun z => h (Or.inl z)) ⟨h1, br_f (fun z => h (Or.inr z)) hq⟩⟩
end
theorem i_vc_deliverReply {k : Nat} {u : SX} {v : SY} (I : i_Rel k u v) (hk : k + 5 ≤ 2564) (v1 : Int32) : wpX_deliverReply (fun r u' => wpY_deliverReply (fun r' v' => r' = r ∧ i_Rel (k + 5) u' v') v v1) u v1 := by
  obtain ⟨rfl, hJ⟩ := I
  have hU : i_Rel (k + 5) u u := i_up ⟨rfl, hJ⟩
  obtain ⟨fc, fl, fe, fw, fn, cl, ph, pk, pa, po, qw, qu, cs, cw, cu, rc, ho, hw, hu, wb, bw, bu, lc, lk, la, lo, lv, lt⟩ := u
  obtain ⟨nc, nl, le, ne, rfl, rfl, rfl, rfl, hI⟩ := hJ
  obtain ⟨hD, hP, hQ, hO, hB, hT, hL⟩ := id hI
  obtain ⟨d1, d2, d3, d4, d5, d6⟩ := id hD
  obtain ⟨t1, t2, t3, t4, t5, t6, t7, t8, t9⟩ := id hT
  have hn : nc < 2 ^ 31 := by omega
  have hl : nl < 2 ^ 31 := by omega
  have hne : ne ≤ 64 := by omega
  have up : 1000 + 20 * k ≤ 1000 + 20 * (k + 5) := by omega
  unfold wpX_deliverReply wpY_deliverReply
  rcases tc_ix v1 hn with hb | ⟨c, hc, rfl⟩
  · exact tx_bc1 hb (br_f (by decide) (ty_bc1 hb (br_f (by decide) ⟨rfl, hU⟩)))
  have hc4 : vp_in (nI c) 4 := vp_in_nI (by omega) (by omega)
  have ec : (nI c).toNatClampNeg = c := nI_clamp (by omega)
  refine tx_bc0 hc hn (br_t rfl (?_))
  by_cases h0 : ph (nI c).toNatClampNeg = 4 ∨ ph (nI c).toNatClampNeg = 5
  · have hz0 : ¬ ph c = 0 := by
      rw [ec] at h0
      rcases h0 with h | h <;> rw [h] <;> decide
    obtain ⟨hkd, a, ha, ea⟩ := hQ c hc hz0
    rw [← ec] at ea hkd
    have hp : vp_in (nI c * 8 + nI a) 32 := tc_pin (by omega) (by omega)
    have en : (nI ne).toNatClampNeg = ne := nI_clamp (by omega)
    have hc1 := tc_cnt_pos hz0 nc hc
    have hvn : vp_in (nI ne) 64 := vp_in_nI (by omega) (by omega)
    have hP' : ne + 1 + tc_cnt (upd ph (nI c).toNatClampNeg 0) nc ≤ 64 := by
      have := tc_cnt_out hz0 (x := 0) rfl nc hc
      rw [ec]; omega
    have hQ' : tc_Q nc nl (upd ph (nI c).toNatClampNeg 0) pk pa := by rw [ec]; exact tc_Q_u hQ (Or.inr rfl)
    refine tx_hr1 hc4 h0 (br_f (by decide) ⟨hc4, nm_e ⟨hc4, nm_r ea (tx_pair ?_)⟩⟩)
    by_cases h2 : pk (nI c).toNatClampNeg = 1
    · skip
      refine br_t h2 ?_
      unfold wX_deliverReply_58
      refine ⟨hp, nm_e ⟨hc4, hp, nm_e ⟨hc4, hp, nm_e ⟨hc4, ?_⟩⟩⟩⟩
      obtain ⟨r, hr⟩ := tc_F1_ex (fun j => tc_V lk la (nI a) j ∧ lt j = (upd cw (nI c * 8 + nI a).toNatClampNeg (qw (nI c).toNatClampNeg)) (nI c * 8 + nI a).toNatClampNeg) lv 0 ne
      obtain ⟨dw, du, tm, vl, hcm⟩ := tc_CM_ex (po (nI c).toNatClampNeg) r ((upd cs (nI c * 8 + nI a).toNatClampNeg 1) (nI c * 8 + nI a).toNatClampNeg) (cl (nI c).toNatClampNeg) (nI c * 8 + nI a).toNatClampNeg (upd cw (nI c * 8 + nI a).toNatClampNeg (qw (nI c).toNatClampNeg)) (upd cu (nI c * 8 + nI a).toNatClampNeg (qu (nI c).toNatClampNeg)) hkd
      have hInv : tc_I (k + 5) nc nl le (ne + 1) (upd cl (nI c).toNatClampNeg tm) (upd ph (nI c).toNatClampNeg 0) pk pa qw qu dw du rc ho hw hu bw bu (upd lk (nI ne).toNatClampNeg (pk (nI c).toNatClampNeg)) (upd lt (nI ne).toNatClampNeg tm) := by
        rw [en]
        exact tc_I_cm hD hP' hQ' hO hB ⟨t1, t2, t3, tc_T_u t4 (t2 _), tc_T_u t5 (t3 _), t6, t7, t8, t9⟩ hL (by omega) (by omega) hcm
      refine tx_cm hc4 hp hvn hne hr hcm ⟨hc4, nm_e ?_⟩
      have YY : wY_deliverReply_33 (fun r' v' => r' = 1 ∧ i_Rel (k + 5) (nI nc, nI nl, nI le, fw, nI ne + 1, upd cl (nI c).toNatClampNeg tm, upd ph (nI c).toNatClampNeg 0, pk, pa, po, qw, qu, upd cs (nI c * 8 + nI a).toNatClampNeg 1, dw, du, rc, ho, hw, hu, wb, bw, bu, upd lc (nI ne).toNatClampNeg (nI c), upd lk (nI ne).toNatClampNeg (pk (nI c).toNatClampNeg), upd la (nI ne).toNatClampNeg (nI a), upd lo (nI ne).toNatClampNeg (po (nI c).toNatClampNeg), upd lv (nI ne).toNatClampNeg vl, upd lt (nI ne).toNatClampNeg tm) v') (nI c) (nI nc) (nI nl) (nI le) fw (nI ne) cl ph pk pa po qw qu cs cw cu rc ho hw hu wb bw bu lc lk la lo lv lt := by
        unfold wY_deliverReply_33
        refine ⟨hc4, nm_r (congrArg (fun z => nI c * 8 + z) ea) ⟨hc4, hp, nm_e ⟨hc4, hp, nm_e ⟨hc4, br_t h2 ?_⟩⟩⟩⟩
        unfold wY_deliverReply_89
        refine ⟨hp, nm_e ⟨hc4, hc4, hc4, ?_⟩⟩
        rw [ea]
        exact ty_cm hc4 hp hvn hne hr hcm ⟨hc4, nm_e ⟨rfl, rfl, nc, nl, le, ne + 1, rfl, rfl, rfl, nI_1 ne, hInv⟩⟩
      by_cases h4 : ph (nI c).toNatClampNeg = 4
      · exact ty_bc0 hc hn (br_t rfl (⟨hc4, br_t h4 YY⟩))
      · exact ty_bc0 hc hn (br_t rfl (⟨hc4, br_f h4 ⟨hc4, br_t (h0.resolve_left h4) YY⟩⟩))
    · skip
      refine br_f h2 ?_
      unfold wX_deliverReply_58
      refine ⟨hp, nm_e ⟨hc4, hp, nm_e ⟨hc4, hp, nm_e ⟨hc4, ?_⟩⟩⟩⟩
      obtain ⟨r, hr⟩ := tc_F1_ex (fun j => tc_V lk la (nI a) j ∧ lt j = (upd cw (nI c * 8 + nI a).toNatClampNeg (qw (nI c).toNatClampNeg)) (nI c * 8 + nI a).toNatClampNeg) lv 0 ne
      obtain ⟨dw, du, tm, vl, hcm⟩ := tc_CM_ex (po (nI c).toNatClampNeg) r ((upd cs (nI c * 8 + nI a).toNatClampNeg 2) (nI c * 8 + nI a).toNatClampNeg) (cl (nI c).toNatClampNeg) (nI c * 8 + nI a).toNatClampNeg (upd cw (nI c * 8 + nI a).toNatClampNeg (qw (nI c).toNatClampNeg)) (upd cu (nI c * 8 + nI a).toNatClampNeg (qu (nI c).toNatClampNeg)) hkd
      have hInv : tc_I (k + 5) nc nl le (ne + 1) (upd cl (nI c).toNatClampNeg tm) (upd ph (nI c).toNatClampNeg 0) pk pa qw qu dw du rc ho hw hu bw bu (upd lk (nI ne).toNatClampNeg (pk (nI c).toNatClampNeg)) (upd lt (nI ne).toNatClampNeg tm) := by
        rw [en]
        exact tc_I_cm hD hP' hQ' hO hB ⟨t1, t2, t3, tc_T_u t4 (t2 _), tc_T_u t5 (t3 _), t6, t7, t8, t9⟩ hL (by omega) (by omega) hcm
      refine tx_cm hc4 hp hvn hne hr hcm ⟨hc4, nm_e ?_⟩
      have YY : wY_deliverReply_33 (fun r' v' => r' = 1 ∧ i_Rel (k + 5) (nI nc, nI nl, nI le, fw, nI ne + 1, upd cl (nI c).toNatClampNeg tm, upd ph (nI c).toNatClampNeg 0, pk, pa, po, qw, qu, upd cs (nI c * 8 + nI a).toNatClampNeg 2, dw, du, rc, ho, hw, hu, wb, bw, bu, upd lc (nI ne).toNatClampNeg (nI c), upd lk (nI ne).toNatClampNeg (pk (nI c).toNatClampNeg), upd la (nI ne).toNatClampNeg (nI a), upd lo (nI ne).toNatClampNeg (po (nI c).toNatClampNeg), upd lv (nI ne).toNatClampNeg vl, upd lt (nI ne).toNatClampNeg tm) v') (nI c) (nI nc) (nI nl) (nI le) fw (nI ne) cl ph pk pa po qw qu cs cw cu rc ho hw hu wb bw bu lc lk la lo lv lt := by
        unfold wY_deliverReply_33
        refine ⟨hc4, nm_r (congrArg (fun z => nI c * 8 + z) ea) ⟨hc4, hp, nm_e ⟨hc4, hp, nm_e ⟨hc4, br_f h2 ?_⟩⟩⟩⟩
        unfold wY_deliverReply_89
        refine ⟨hp, nm_e ⟨hc4, hc4, hc4, ?_⟩⟩
        rw [ea]
        exact ty_cm hc4 hp hvn hne hr hcm ⟨hc4, nm_e ⟨rfl, rfl, nc, nl, le, ne + 1, rfl, rfl, rfl, nI_1 ne, hInv⟩⟩
      by_cases h4 : ph (nI c).toNatClampNeg = 4
      · exact ty_bc0 hc hn (br_t rfl (⟨hc4, br_t h4 YY⟩))
      · exact ty_bc0 hc hn (br_t rfl (⟨hc4, br_f h4 ⟨hc4, br_t (h0.resolve_left h4) YY⟩⟩))
  · exact tx_hr0 hc4 h0 (br_t rfl (ty_bc0 hc hn (br_t rfl (⟨hc4, br_f (fun z => h0 (Or.inl z)) ⟨hc4, br_f (fun z => h0 (Or.inr z)) ⟨rfl, hU⟩⟩⟩))))
end
end
section
section
section
variable {nc nl le ne : Nat} {fw : Int32} {cl ph pk pa po qw qu cs cw cu rc ho hw hu wb bw bu lc lk la lo lv lt : Nat → Int32}
theorem ty_pd1 {post : Int32 → Prop} {x1 x2 z : Int32} (h1 : vp_in x1 4) (h : ph x1.toNatClampNeg = 4 ∨ ph x1.toNatClampNeg = 5) (hq : wY_pending_50 post x1 x2 z 1 (nI nc) (nI nl) (nI le) fw (nI ne) cl ph pk pa po qw qu cs cw cu rc ho hw hu wb bw bu lc lk la lo lv lt) : wY_pending_24 post x1 x2 z (nI nc) (nI nl) (nI le) fw (nI ne) cl ph pk pa po qw qu cs cw cu rc ho hw hu wb bw bu lc lk la lo lv lt := by
  unfold wY_pending_24 wY_pending_45
  by_cases h4 : ph x1.toNatClampNeg = 4
  · exact ⟨h1, br_t h4 hq⟩
  · exact ⟨h1, br_f h4 ⟨h1, br_t (h.resolve_left h4) hq⟩⟩
theorem ty_pd0 {post : Int32 → Prop} {x1 x2 z : Int32} (h1 : vp_in x1 4) (h : ¬ (ph x1.toNatClampNeg = 4 ∨ ph x1.toNatClampNeg = 5)) (hq : wY_pending_50 post x1 x2 z 0 (nI nc) (nI nl) (nI le) fw (nI ne) cl ph pk pa po qw qu cs cw cu rc ho hw hu wb bw bu lc lk la lo lv lt) : wY_pending_24 post x1 x2 z (nI nc) (nI nl) (nI le) fw (nI ne) cl ph pk pa po qw qu cs cw cu rc ho hw hu wb bw bu lc lk la lo lv lt := by
  unfold wY_pending_24 wY_pending_45
  exact ⟨h1, br_f (fun z => h (Or.inl z)) ⟨h1, br_f (fun z => h (Or.inr z)) hq⟩⟩
end
theorem i_vc_pending {k : Nat} {u : SX} {v : SY} (I : i_Rel k u v) (hk : k + 5 ≤ 2564) (v1 : Int32) (v2 : Int32) : wpX_pending (fun r => wpY_pending (fun r' => r' = r ∧ i_Rel (k + 5) u v) v v1 v2) u v1 v2 := by
  obtain ⟨rfl, hJ⟩ := I
  have hU : i_Rel (k + 5) u u := i_up ⟨rfl, hJ⟩
  obtain ⟨fc, fl, fe, fw, fn, cl, ph, pk, pa, po, qw, qu, cs, cw, cu, rc, ho, hw, hu, wb, bw, bu, lc, lk, la, lo, lv, lt⟩ := u
  obtain ⟨nc, nl, le, ne, rfl, rfl, rfl, rfl, hI⟩ := hJ
  obtain ⟨hD, hP, hQ, hO, hB, hT, hL⟩ := id hI
  obtain ⟨d1, d2, d3, d4, d5, d6⟩ := id hD
  obtain ⟨t1, t2, t3, t4, t5, t6, t7, t8, t9⟩ := id hT
  have hn : nc < 2 ^ 31 := by omega
  have hl : nl < 2 ^ 31 := by omega
  have hne : ne ≤ 64 := by omega
  have up : 1000 + 20 * k ≤ 1000 + 20 * (k + 5) := by omega
  unfold wpX_pending wpY_pending
  rcases tc_ix v1 hn with hb | ⟨c, hc, rfl⟩
  · exact tx_bc1 hb (br_f (by decide) (ty_bc1 hb (br_f (by decide) ⟨rfl, hU⟩)))
  have hc4 : vp_in (nI c) 4 := vp_in_nI (by omega) (by omega)
  have ec : (nI c).toNatClampNeg = c := nI_clamp (by omega)
  by_cases p0 : ph (nI c).toNatClampNeg = 0
  · by_cases pr : ph (nI c).toNatClampNeg = 4 ∨ ph (nI c).toNatClampNeg = 5
    · skip
      by_cases e0 : v2 = 0
      · subst e0
        exact tx_bc0 hc hn (br_t rfl (⟨hc4, br_t p0 (tx_hr1 hc4 pr (br_f (by decide) (br_f (by decide) (br_t rfl (⟨hc4, ty_bc0 hc hn (br_t rfl (⟨hc4, br_t p0 (ty_pd1 hc4 pr (br_t rfl (⟨hc4, ⟨rfl, hU⟩⟩)))⟩))⟩)))))⟩))
      by_cases e1 : v2 = 1
      · subst e1
        exact tx_bc0 hc hn (br_t rfl (⟨hc4, br_t p0 (tx_hr1 hc4 pr (br_f (by decide) (br_f (by decide) (br_f (by decide) (br_t rfl (br_f (by decide) (ty_bc0 hc hn (br_t rfl (⟨hc4, br_t p0 (ty_pd1 hc4 pr (br_f (by decide) (br_t rfl (br_f (by decide) (⟨rfl, hU⟩)))))⟩)))))))))⟩))
      by_cases e2 : v2 = 2
      · subst e2
        exact tx_bc0 hc hn (br_t rfl (⟨hc4, br_t p0 (tx_hr1 hc4 pr (br_f (by decide) (br_f (by decide) (br_f (by decide) (br_f (by decide) (br_t rfl (ty_bc0 hc hn (br_t rfl (⟨hc4, br_t p0 (ty_pd1 hc4 pr (br_f (by decide) (br_f (by decide) (br_f (by decide) (br_f (by decide) (br_f (by decide) (br_f (by decide) (⟨rfl, hU⟩))))))))⟩)))))))))⟩))
      by_cases e3 : v2 = 3
      · subst e3
        exact tx_bc0 hc hn (br_t rfl (⟨hc4, br_t p0 (tx_hr1 hc4 pr (br_f (by decide) (br_f (by decide) (br_f (by decide) (br_f (by decide) (br_f (by decide) (br_t rfl (br_f (by decide) (ty_bc0 hc hn (br_t rfl (⟨hc4, br_t p0 (ty_pd1 hc4 pr (br_f (by decide) (br_f (by decide) (br_t rfl (br_f (by decide) (⟨rfl, hU⟩))))))⟩)))))))))))⟩))
      by_cases e4 : v2 = 4
      · subst e4
        exact tx_bc0 hc hn (br_t rfl (⟨hc4, br_t p0 (tx_hr1 hc4 pr (br_f (by decide) (br_f (by decide) (br_f (by decide) (br_f (by decide) (br_f (by decide) (br_f (by decide) (br_t rfl (br_f (by decide) (ty_bc0 hc hn (br_t rfl (⟨hc4, br_t p0 (ty_pd1 hc4 pr (br_f (by decide) (br_f (by decide) (br_f (by decide) (br_t rfl (br_f (by decide) (⟨rfl, hU⟩)))))))⟩))))))))))))⟩))
      by_cases e5 : v2 = 5
      · subst e5
        exact tx_bc0 hc hn (br_t rfl (⟨hc4, br_t p0 (tx_hr1 hc4 pr (br_f (by decide) (br_f (by decide) (br_f (by decide) (br_f (by decide) (br_f (by decide) (br_f (by decide) (br_f (by decide) (br_t rfl (ty_bc0 hc hn (br_t rfl (⟨hc4, br_t p0 (ty_pd1 hc4 pr (br_f (by decide) (br_f (by decide) (br_f (by decide) (br_f (by decide) (br_f (by decide) (br_f (by decide) (⟨rfl, hU⟩))))))))⟩))))))))))))⟩))
      by_cases e6 : v2 = 6
      · subst e6
        exact tx_bc0 hc hn (br_t rfl (⟨hc4, br_t p0 (tx_hr1 hc4 pr (br_f (by decide) (br_f (by decide) (br_f (by decide) (br_f (by decide) (br_f (by decide) (br_f (by decide) (br_f (by decide) (br_f (by decide) (br_t rfl (ty_bc0 hc hn (br_t rfl (⟨hc4, br_t p0 (ty_pd1 hc4 pr (br_f (by decide) (br_f (by decide) (br_f (by decide) (br_f (by decide) (br_f (by decide) (br_f (by decide) (⟨rfl, hU⟩))))))))⟩)))))))))))))⟩))
      by_cases e7 : v2 = 7
      · subst e7
        exact tx_bc0 hc hn (br_t rfl (⟨hc4, br_t p0 (tx_hr1 hc4 pr (br_f (by decide) (br_f (by decide) (br_f (by decide) (br_f (by decide) (br_f (by decide) (br_f (by decide) (br_f (by decide) (br_f (by decide) (br_f (by decide) (br_t rfl (br_f (by decide) ⟨hc4, ty_bc0 hc hn (br_t rfl (⟨hc4, br_t p0 (ty_pd1 hc4 pr (br_f (by decide) (br_f (by decide) (br_f (by decide) (br_f (by decide) (br_t rfl (br_f (by decide) ⟨hc4, ⟨rfl, hU⟩⟩)))))))⟩))⟩))))))))))))⟩))
      by_cases e8 : v2 = 8
      · subst e8
        exact tx_bc0 hc hn (br_t rfl (⟨hc4, br_t p0 (tx_hr1 hc4 pr (br_f (by decide) (br_f (by decide) (br_f (by decide) (br_f (by decide) (br_f (by decide) (br_f (by decide) (br_f (by decide) (br_f (by decide) (br_f (by decide) (br_f (by decide) (br_t rfl (br_f (by decide) ⟨hc4, ty_bc0 hc hn (br_t rfl (⟨hc4, br_t p0 (ty_pd1 hc4 pr (br_f (by decide) (br_f (by decide) (br_f (by decide) (br_f (by decide) (br_f (by decide) (br_t rfl (br_f (by decide) ⟨hc4, ⟨rfl, hU⟩⟩))))))))⟩))⟩)))))))))))))⟩))
      by_cases g1 : v2 < 0
      · exact tx_bc0 hc hn (br_t rfl (⟨hc4, br_t p0 (tx_hr1 hc4 pr (br_t g1 (ty_bc0 hc hn (br_t rfl (⟨hc4, br_t p0 (ty_pd1 hc4 pr (br_f e0 (br_f e1 (br_f e3 (br_f e4 (br_f e7 (br_f e8 (⟨rfl, hU⟩))))))))⟩)))))⟩))
      by_cases g2 : 8 < v2
      · exact tx_bc0 hc hn (br_t rfl (⟨hc4, br_t p0 (tx_hr1 hc4 pr (br_f g1 (br_t g2 (ty_bc0 hc hn (br_t rfl (⟨hc4, br_t p0 (ty_pd1 hc4 pr (br_f e0 (br_f e1 (br_f e3 (br_f e4 (br_f e7 (br_f e8 (⟨rfl, hU⟩))))))))⟩))))))⟩))
      exact tx_bc0 hc hn (br_t rfl (⟨hc4, br_t p0 (tx_hr1 hc4 pr (br_f g1 (br_f g2 (br_f e0 (br_f e1 (br_f e2 (br_f e3 (br_f e4 (br_f e5 (br_f e6 (br_f e7 (br_f e8 (trivial)))))))))))))⟩))
    · skip
      by_cases e0 : v2 = 0
      · subst e0
        exact tx_bc0 hc hn (br_t rfl (⟨hc4, br_t p0 (tx_hr0 hc4 pr (br_f (by decide) (br_f (by decide) (br_t rfl (⟨hc4, ty_bc0 hc hn (br_t rfl (⟨hc4, br_t p0 (ty_pd0 hc4 pr (br_t rfl (⟨hc4, ⟨rfl, hU⟩⟩)))⟩))⟩)))))⟩))
      by_cases e1 : v2 = 1
      · subst e1
        exact tx_bc0 hc hn (br_t rfl (⟨hc4, br_t p0 (tx_hr0 hc4 pr (br_f (by decide) (br_f (by decide) (br_f (by decide) (br_t rfl (br_f (by decide) (ty_bc0 hc hn (br_t rfl (⟨hc4, br_t p0 (ty_pd0 hc4 pr (br_f (by decide) (br_t rfl (br_f (by decide) (⟨rfl, hU⟩)))))⟩)))))))))⟩))
      by_cases e2 : v2 = 2
      · subst e2
        exact tx_bc0 hc hn (br_t rfl (⟨hc4, br_t p0 (tx_hr0 hc4 pr (br_f (by decide) (br_f (by decide) (br_f (by decide) (br_f (by decide) (br_t rfl (ty_bc0 hc hn (br_t rfl (⟨hc4, br_t p0 (ty_pd0 hc4 pr (br_f (by decide) (br_f (by decide) (br_f (by decide) (br_f (by decide) (br_f (by decide) (br_f (by decide) (⟨rfl, hU⟩))))))))⟩)))))))))⟩))
      by_cases e3 : v2 = 3
      · subst e3
        exact tx_bc0 hc hn (br_t rfl (⟨hc4, br_t p0 (tx_hr0 hc4 pr (br_f (by decide) (br_f (by decide) (br_f (by decide) (br_f (by decide) (br_f (by decide) (br_t rfl (br_f (by decide) (ty_bc0 hc hn (br_t rfl (⟨hc4, br_t p0 (ty_pd0 hc4 pr (br_f (by decide) (br_f (by decide) (br_t rfl (br_f (by decide) (⟨rfl, hU⟩))))))⟩)))))))))))⟩))
      by_cases e4 : v2 = 4
      · subst e4
        exact tx_bc0 hc hn (br_t rfl (⟨hc4, br_t p0 (tx_hr0 hc4 pr (br_f (by decide) (br_f (by decide) (br_f (by decide) (br_f (by decide) (br_f (by decide) (br_f (by decide) (br_t rfl (br_f (by decide) (ty_bc0 hc hn (br_t rfl (⟨hc4, br_t p0 (ty_pd0 hc4 pr (br_f (by decide) (br_f (by decide) (br_f (by decide) (br_t rfl (br_f (by decide) (⟨rfl, hU⟩)))))))⟩))))))))))))⟩))
      by_cases e5 : v2 = 5
      · subst e5
        exact tx_bc0 hc hn (br_t rfl (⟨hc4, br_t p0 (tx_hr0 hc4 pr (br_f (by decide) (br_f (by decide) (br_f (by decide) (br_f (by decide) (br_f (by decide) (br_f (by decide) (br_f (by decide) (br_t rfl (ty_bc0 hc hn (br_t rfl (⟨hc4, br_t p0 (ty_pd0 hc4 pr (br_f (by decide) (br_f (by decide) (br_f (by decide) (br_f (by decide) (br_f (by decide) (br_f (by decide) (⟨rfl, hU⟩))))))))⟩))))))))))))⟩))
      by_cases e6 : v2 = 6
      · subst e6
        exact tx_bc0 hc hn (br_t rfl (⟨hc4, br_t p0 (tx_hr0 hc4 pr (br_f (by decide) (br_f (by decide) (br_f (by decide) (br_f (by decide) (br_f (by decide) (br_f (by decide) (br_f (by decide) (br_f (by decide) (br_t rfl (ty_bc0 hc hn (br_t rfl (⟨hc4, br_t p0 (ty_pd0 hc4 pr (br_f (by decide) (br_f (by decide) (br_f (by decide) (br_f (by decide) (br_f (by decide) (br_f (by decide) (⟨rfl, hU⟩))))))))⟩)))))))))))))⟩))
      by_cases e7 : v2 = 7
      · subst e7
        exact tx_bc0 hc hn (br_t rfl (⟨hc4, br_t p0 (tx_hr0 hc4 pr (br_f (by decide) (br_f (by decide) (br_f (by decide) (br_f (by decide) (br_f (by decide) (br_f (by decide) (br_f (by decide) (br_f (by decide) (br_f (by decide) (br_t rfl (br_t rfl (ty_bc0 hc hn (br_t rfl (⟨hc4, br_t p0 (ty_pd0 hc4 pr (br_f (by decide) (br_f (by decide) (br_f (by decide) (br_f (by decide) (br_t rfl (br_t rfl (⟨rfl, hU⟩))))))))⟩)))))))))))))))⟩))
      by_cases e8 : v2 = 8
      · subst e8
        exact tx_bc0 hc hn (br_t rfl (⟨hc4, br_t p0 (tx_hr0 hc4 pr (br_f (by decide) (br_f (by decide) (br_f (by decide) (br_f (by decide) (br_f (by decide) (br_f (by decide) (br_f (by decide) (br_f (by decide) (br_f (by decide) (br_f (by decide) (br_t rfl (br_t rfl (ty_bc0 hc hn (br_t rfl (⟨hc4, br_t p0 (ty_pd0 hc4 pr (br_f (by decide) (br_f (by decide) (br_f (by decide) (br_f (by decide) (br_f (by decide) (br_t rfl (br_t rfl (⟨rfl, hU⟩)))))))))⟩))))))))))))))))⟩))
      by_cases g1 : v2 < 0
      · exact tx_bc0 hc hn (br_t rfl (⟨hc4, br_t p0 (tx_hr0 hc4 pr (br_t g1 (ty_bc0 hc hn (br_t rfl (⟨hc4, br_t p0 (ty_pd0 hc4 pr (br_f e0 (br_f e1 (br_f e3 (br_f e4 (br_f e7 (br_f e8 (⟨rfl, hU⟩))))))))⟩)))))⟩))
      by_cases g2 : 8 < v2
      · exact tx_bc0 hc hn (br_t rfl (⟨hc4, br_t p0 (tx_hr0 hc4 pr (br_f g1 (br_t g2 (ty_bc0 hc hn (br_t rfl (⟨hc4, br_t p0 (ty_pd0 hc4 pr (br_f e0 (br_f e1 (br_f e3 (br_f e4 (br_f e7 (br_f e8 (⟨rfl, hU⟩))))))))⟩))))))⟩))
      exact tx_bc0 hc hn (br_t rfl (⟨hc4, br_t p0 (tx_hr0 hc4 pr (br_f g1 (br_f g2 (br_f e0 (br_f e1 (br_f e2 (br_f e3 (br_f e4 (br_f e5 (br_f e6 (br_f e7 (br_f e8 (trivial)))))))))))))⟩))
  · by_cases pr : ph (nI c).toNatClampNeg = 4 ∨ ph (nI c).toNatClampNeg = 5
    · skip
      by_cases e0 : v2 = 0
      · subst e0
        exact tx_bc0 hc hn (br_t rfl (⟨hc4, br_f p0 (tx_hr1 hc4 pr (br_f (by decide) (br_f (by decide) (br_t rfl (⟨hc4, ty_bc0 hc hn (br_t rfl (⟨hc4, br_f p0 (ty_pd1 hc4 pr (br_t rfl (⟨hc4, ⟨rfl, hU⟩⟩)))⟩))⟩)))))⟩))
      by_cases e1 : v2 = 1
      · subst e1
        exact tx_bc0 hc hn (br_t rfl (⟨hc4, br_f p0 (tx_hr1 hc4 pr (br_f (by decide) (br_f (by decide) (br_f (by decide) (br_t rfl (br_t rfl ⟨hc4, ty_bc0 hc hn (br_t rfl (⟨hc4, br_f p0 (ty_pd1 hc4 pr (br_f (by decide) (br_t rfl (br_t rfl ⟨hc4, ⟨rfl, hU⟩⟩))))⟩))⟩))))))⟩))
      by_cases e2 : v2 = 2
      · subst e2
        exact tx_bc0 hc hn (br_t rfl (⟨hc4, br_f p0 (tx_hr1 hc4 pr (br_f (by decide) (br_f (by decide) (br_f (by decide) (br_f (by decide) (br_t rfl (ty_bc0 hc hn (br_t rfl (⟨hc4, br_f p0 (ty_pd1 hc4 pr (br_f (by decide) (br_f (by decide) (br_f (by decide) (br_f (by decide) (br_f (by decide) (br_f (by decide) (⟨rfl, hU⟩))))))))⟩)))))))))⟩))
      by_cases e3 : v2 = 3
      · subst e3
        exact tx_bc0 hc hn (br_t rfl (⟨hc4, br_f p0 (tx_hr1 hc4 pr (br_f (by decide) (br_f (by decide) (br_f (by decide) (br_f (by decide) (br_f (by decide) (br_t rfl (br_t rfl ⟨hc4, ty_bc0 hc hn (br_t rfl (⟨hc4, br_f p0 (ty_pd1 hc4 pr (br_f (by decide) (br_f (by decide) (br_t rfl (br_t rfl ⟨hc4, ⟨rfl, hU⟩⟩)))))⟩))⟩))))))))⟩))
      by_cases e4 : v2 = 4
      · subst e4
        exact tx_bc0 hc hn (br_t rfl (⟨hc4, br_f p0 (tx_hr1 hc4 pr (br_f (by decide) (br_f (by decide) (br_f (by decide) (br_f (by decide) (br_f (by decide) (br_f (by decide) (br_t rfl (br_t rfl ⟨hc4, ty_bc0 hc hn (br_t rfl (⟨hc4, br_f p0 (ty_pd1 hc4 pr (br_f (by decide) (br_f (by decide) (br_f (by decide) (br_t rfl (br_t rfl ⟨hc4, ⟨rfl, hU⟩⟩))))))⟩))⟩)))))))))⟩))
      by_cases e5 : v2 = 5
      · subst e5
        exact tx_bc0 hc hn (br_t rfl (⟨hc4, br_f p0 (tx_hr1 hc4 pr (br_f (by decide) (br_f (by decide) (br_f (by decide) (br_f (by decide) (br_f (by decide) (br_f (by decide) (br_f (by decide) (br_t rfl (ty_bc0 hc hn (br_t rfl (⟨hc4, br_f p0 (ty_pd1 hc4 pr (br_f (by decide) (br_f (by decide) (br_f (by decide) (br_f (by decide) (br_f (by decide) (br_f (by decide) (⟨rfl, hU⟩))))))))⟩))))))))))))⟩))
      by_cases e6 : v2 = 6
      · subst e6
        exact tx_bc0 hc hn (br_t rfl (⟨hc4, br_f p0 (tx_hr1 hc4 pr (br_f (by decide) (br_f (by decide) (br_f (by decide) (br_f (by decide) (br_f (by decide) (br_f (by decide) (br_f (by decide) (br_f (by decide) (br_t rfl (ty_bc0 hc hn (br_t rfl (⟨hc4, br_f p0 (ty_pd1 hc4 pr (br_f (by decide) (br_f (by decide) (br_f (by decide) (br_f (by decide) (br_f (by decide) (br_f (by decide) (⟨rfl, hU⟩))))))))⟩)))))))))))))⟩))
      by_cases e7 : v2 = 7
      · subst e7
        exact tx_bc0 hc hn (br_t rfl (⟨hc4, br_f p0 (tx_hr1 hc4 pr (br_f (by decide) (br_f (by decide) (br_f (by decide) (br_f (by decide) (br_f (by decide) (br_f (by decide) (br_f (by decide) (br_f (by decide) (br_f (by decide) (br_t rfl (br_f (by decide) ⟨hc4, ty_bc0 hc hn (br_t rfl (⟨hc4, br_f p0 (ty_pd1 hc4 pr (br_f (by decide) (br_f (by decide) (br_f (by decide) (br_f (by decide) (br_t rfl (br_f (by decide) ⟨hc4, ⟨rfl, hU⟩⟩)))))))⟩))⟩))))))))))))⟩))
      by_cases e8 : v2 = 8
      · subst e8
        exact tx_bc0 hc hn (br_t rfl (⟨hc4, br_f p0 (tx_hr1 hc4 pr (br_f (by decide) (br_f (by decide) (br_f (by decide) (br_f (by decide) (br_f (by decide) (br_f (by decide) (br_f (by decide) (br_f (by decide) (br_f (by decide) (br_f (by decide) (br_t rfl (br_f (by decide) ⟨hc4, ty_bc0 hc hn (br_t rfl (⟨hc4, br_f p0 (ty_pd1 hc4 pr (br_f (by decide) (br_f (by decide) (br_f (by decide) (br_f (by decide) (br_f (by decide) (br_t rfl (br_f (by decide) ⟨hc4, ⟨rfl, hU⟩⟩))))))))⟩))⟩)))))))))))))⟩))
      by_cases g1 : v2 < 0
      · exact tx_bc0 hc hn (br_t rfl (⟨hc4, br_f p0 (tx_hr1 hc4 pr (br_t g1 (ty_bc0 hc hn (br_t rfl (⟨hc4, br_f p0 (ty_pd1 hc4 pr (br_f e0 (br_f e1 (br_f e3 (br_f e4 (br_f e7 (br_f e8 (⟨rfl, hU⟩))))))))⟩)))))⟩))
      by_cases g2 : 8 < v2
      · exact tx_bc0 hc hn (br_t rfl (⟨hc4, br_f p0 (tx_hr1 hc4 pr (br_f g1 (br_t g2 (ty_bc0 hc hn (br_t rfl (⟨hc4, br_f p0 (ty_pd1 hc4 pr (br_f e0 (br_f e1 (br_f e3 (br_f e4 (br_f e7 (br_f e8 (⟨rfl, hU⟩))))))))⟩))))))⟩))
      exact tx_bc0 hc hn (br_t rfl (⟨hc4, br_f p0 (tx_hr1 hc4 pr (br_f g1 (br_f g2 (br_f e0 (br_f e1 (br_f e2 (br_f e3 (br_f e4 (br_f e5 (br_f e6 (br_f e7 (br_f e8 (trivial)))))))))))))⟩))
    · skip
      by_cases e0 : v2 = 0
      · subst e0
        exact tx_bc0 hc hn (br_t rfl (⟨hc4, br_f p0 (tx_hr0 hc4 pr (br_f (by decide) (br_f (by decide) (br_t rfl (⟨hc4, ty_bc0 hc hn (br_t rfl (⟨hc4, br_f p0 (ty_pd0 hc4 pr (br_t rfl (⟨hc4, ⟨rfl, hU⟩⟩)))⟩))⟩)))))⟩))
      by_cases e1 : v2 = 1
      · subst e1
        exact tx_bc0 hc hn (br_t rfl (⟨hc4, br_f p0 (tx_hr0 hc4 pr (br_f (by decide) (br_f (by decide) (br_f (by decide) (br_t rfl (br_t rfl ⟨hc4, ty_bc0 hc hn (br_t rfl (⟨hc4, br_f p0 (ty_pd0 hc4 pr (br_f (by decide) (br_t rfl (br_t rfl ⟨hc4, ⟨rfl, hU⟩⟩))))⟩))⟩))))))⟩))
      by_cases e2 : v2 = 2
      · subst e2
        exact tx_bc0 hc hn (br_t rfl (⟨hc4, br_f p0 (tx_hr0 hc4 pr (br_f (by decide) (br_f (by decide) (br_f (by decide) (br_f (by decide) (br_t rfl (ty_bc0 hc hn (br_t rfl (⟨hc4, br_f p0 (ty_pd0 hc4 pr (br_f (by decide) (br_f (by decide) (br_f (by decide) (br_f (by decide) (br_f (by decide) (br_f (by decide) (⟨rfl, hU⟩))))))))⟩)))))))))⟩))
      by_cases e3 : v2 = 3
      · subst e3
        exact tx_bc0 hc hn (br_t rfl (⟨hc4, br_f p0 (tx_hr0 hc4 pr (br_f (by decide) (br_f (by decide) (br_f (by decide) (br_f (by decide) (br_f (by decide) (br_t rfl (br_t rfl ⟨hc4, ty_bc0 hc hn (br_t rfl (⟨hc4, br_f p0 (ty_pd0 hc4 pr (br_f (by decide) (br_f (by decide) (br_t rfl (br_t rfl ⟨hc4, ⟨rfl, hU⟩⟩)))))⟩))⟩))))))))⟩))
      by_cases e4 : v2 = 4
      · subst e4
        exact tx_bc0 hc hn (br_t rfl (⟨hc4, br_f p0 (tx_hr0 hc4 pr (br_f (by decide) (br_f (by decide) (br_f (by decide) (br_f (by decide) (br_f (by decide) (br_f (by decide) (br_t rfl (br_t rfl ⟨hc4, ty_bc0 hc hn (br_t rfl (⟨hc4, br_f p0 (ty_pd0 hc4 pr (br_f (by decide) (br_f (by decide) (br_f (by decide) (br_t rfl (br_t rfl ⟨hc4, ⟨rfl, hU⟩⟩))))))⟩))⟩)))))))))⟩))
      by_cases e5 : v2 = 5
      · subst e5
        exact tx_bc0 hc hn (br_t rfl (⟨hc4, br_f p0 (tx_hr0 hc4 pr (br_f (by decide) (br_f (by decide) (br_f (by decide) (br_f (by decide) (br_f (by decide) (br_f (by decide) (br_f (by decide) (br_t rfl (ty_bc0 hc hn (br_t rfl (⟨hc4, br_f p0 (ty_pd0 hc4 pr (br_f (by decide) (br_f (by decide) (br_f (by decide) (br_f (by decide) (br_f (by decide) (br_f (by decide) (⟨rfl, hU⟩))))))))⟩))))))))))))⟩))
      by_cases e6 : v2 = 6
      · subst e6
        exact tx_bc0 hc hn (br_t rfl (⟨hc4, br_f p0 (tx_hr0 hc4 pr (br_f (by decide) (br_f (by decide) (br_f (by decide) (br_f (by decide) (br_f (by decide) (br_f (by decide) (br_f (by decide) (br_f (by decide) (br_t rfl (ty_bc0 hc hn (br_t rfl (⟨hc4, br_f p0 (ty_pd0 hc4 pr (br_f (by decide) (br_f (by decide) (br_f (by decide) (br_f (by decide) (br_f (by decide) (br_f (by decide) (⟨rfl, hU⟩))))))))⟩)))))))))))))⟩))
      by_cases e7 : v2 = 7
      · subst e7
        exact tx_bc0 hc hn (br_t rfl (⟨hc4, br_f p0 (tx_hr0 hc4 pr (br_f (by decide) (br_f (by decide) (br_f (by decide) (br_f (by decide) (br_f (by decide) (br_f (by decide) (br_f (by decide) (br_f (by decide) (br_f (by decide) (br_t rfl (br_t rfl (ty_bc0 hc hn (br_t rfl (⟨hc4, br_f p0 (ty_pd0 hc4 pr (br_f (by decide) (br_f (by decide) (br_f (by decide) (br_f (by decide) (br_t rfl (br_t rfl (⟨rfl, hU⟩))))))))⟩)))))))))))))))⟩))
      by_cases e8 : v2 = 8
      · subst e8
        exact tx_bc0 hc hn (br_t rfl (⟨hc4, br_f p0 (tx_hr0 hc4 pr (br_f (by decide) (br_f (by decide) (br_f (by decide) (br_f (by decide) (br_f (by decide) (br_f (by decide) (br_f (by decide) (br_f (by decide) (br_f (by decide) (br_f (by decide) (br_t rfl (br_t rfl (ty_bc0 hc hn (br_t rfl (⟨hc4, br_f p0 (ty_pd0 hc4 pr (br_f (by decide) (br_f (by decide) (br_f (by decide) (br_f (by decide) (br_f (by decide) (br_t rfl (br_t rfl (⟨rfl, hU⟩)))))))))⟩))))))))))))))))⟩))
      by_cases g1 : v2 < 0
      · exact tx_bc0 hc hn (br_t rfl (⟨hc4, br_f p0 (tx_hr0 hc4 pr (br_t g1 (ty_bc0 hc hn (br_t rfl (⟨hc4, br_f p0 (ty_pd0 hc4 pr (br_f e0 (br_f e1 (br_f e3 (br_f e4 (br_f e7 (br_f e8 (⟨rfl, hU⟩))))))))⟩)))))⟩))
      by_cases g2 : 8 < v2
      · exact tx_bc0 hc hn (br_t rfl (⟨hc4, br_f p0 (tx_hr0 hc4 pr (br_f g1 (br_t g2 (ty_bc0 hc hn (br_t rfl (⟨hc4, br_f p0 (ty_pd0 hc4 pr (br_f e0 (br_f e1 (br_f e3 (br_f e4 (br_f e7 (br_f e8 (⟨rfl, hU⟩))))))))⟩))))))⟩))
      exact tx_bc0 hc hn (br_t rfl (⟨hc4, br_f p0 (tx_hr0 hc4 pr (br_f g1 (br_f g2 (br_f e0 (br_f e1 (br_f e2 (br_f e3 (br_f e4 (br_f e5 (br_f e6 (br_f e7 (br_f e8 (trivial)))))))))))))⟩))
theorem i_vc_copy {k : Nat} {u : SX} {v : SY} (I : i_Rel k u v) (hk : k + 5 ≤ 2564) (v1 : Int32) (v2 : Int32) (v3 : Int32) : wpX_copy (fun r => wpY_copy (fun r' => r' = r ∧ i_Rel (k + 5) u v) v v1 v2 v3) u v1 v2 v3 := by
  obtain ⟨rfl, hJ⟩ := I
  have hU : i_Rel (k + 5) u u := i_up ⟨rfl, hJ⟩
  obtain ⟨fc, fl, fe, fw, fn, cl, ph, pk, pa, po, qw, qu, cs, cw, cu, rc, ho, hw, hu, wb, bw, bu, lc, lk, la, lo, lv, lt⟩ := u
  obtain ⟨nc, nl, le, ne, rfl, rfl, rfl, rfl, hI⟩ := hJ
  obtain ⟨hD, hP, hQ, hO, hB, hT, hL⟩ := id hI
  obtain ⟨d1, d2, d3, d4, d5, d6⟩ := id hD
  obtain ⟨t1, t2, t3, t4, t5, t6, t7, t8, t9⟩ := id hT
  have hn : nc < 2 ^ 31 := by omega
  have hl : nl < 2 ^ 31 := by omega
  have hne : ne ≤ 64 := by omega
  have up : 1000 + 20 * k ≤ 1000 + 20 * (k + 5) := by omega
  unfold wpX_copy wpY_copy
  rcases tc_ix v1 hn with hb | ⟨c, hc, rfl⟩
  · exact tx_bc1 hb (br_f (by decide) (ty_bc1 hb (br_f (by decide) ⟨rfl, hU⟩)))
  have hc4 : vp_in (nI c) 4 := vp_in_nI (by omega) (by omega)
  have ec : (nI c).toNatClampNeg = c := nI_clamp (by omega)
  rcases tc_ix v2 hl with hb | ⟨a, ha, rfl⟩
  · exact tx_bc0 hc hn (br_t rfl (tx_ba1 hb (br_f (by decide) (ty_bc0 hc hn (br_t rfl (ty_ba1 hb (br_f (by decide) ⟨rfl, hU⟩)))))))
  have ha8 : vp_in (nI a) 8 := vp_in_nI (by omega) (by omega)
  have hp : vp_in (nI c * 8 + nI a) 32 := tc_pin (by omega) (by omega)
  obtain ⟨r, hr⟩ := tc_F1_ex (fun j => tc_V lk la (nI a) j ∧ lt j = cw (nI c * 8 + nI a).toNatClampNeg) lv 0 ne
  by_cases p0 : cs (nI c * 8 + nI a).toNatClampNeg = 0
  · skip
    by_cases e0 : v3 = 0
    · subst e0
      exact tx_bc0 hc hn (br_t rfl (tx_ba0 ha hl (br_t rfl (tx_pair ⟨hp, br_t p0 (br_f (by decide) (br_f (by decide) (br_t rfl (⟨hp, ty_bc0 hc hn (br_t rfl (ty_ba0 ha hl (br_t rfl (nm_e ⟨hp, br_t p0 (br_t rfl (⟨hp, ⟨rfl, hU⟩⟩))⟩))))⟩))))⟩))))
    by_cases e1 : v3 = 1
    · subst e1
      exact tx_bc0 hc hn (br_t rfl (tx_ba0 ha hl (br_t rfl (tx_pair ⟨hp, br_t p0 (br_f (by decide) (br_f (by decide) (br_f (by decide) (br_t rfl (ty_bc0 hc hn (br_t rfl (ty_ba0 ha hl (br_t rfl (nm_e ⟨hp, br_t p0 (br_f (by decide) (br_f (by decide) (br_f (by decide) (br_f (by decide) (⟨rfl, hU⟩)))))⟩)))))))))⟩))))
    by_cases e2 : v3 = 2
    · subst e2
      exact tx_bc0 hc hn (br_t rfl (tx_ba0 ha hl (br_t rfl (tx_pair ⟨hp, br_t p0 (br_f (by decide) (br_f (by decide) (br_f (by decide) (br_f (by decide) (br_t rfl (ty_bc0 hc hn (br_t rfl (ty_ba0 ha hl (br_t rfl (nm_e ⟨hp, br_t p0 (br_f (by decide) (br_f (by decide) (br_f (by decide) (br_f (by decide) (⟨rfl, hU⟩)))))⟩))))))))))⟩))))
    by_cases e3 : v3 = 3
    · subst e3
      exact tx_bc0 hc hn (br_t rfl (tx_ba0 ha hl (br_t rfl (tx_pair ⟨hp, br_t p0 (br_f (by decide) (br_f (by decide) (br_f (by decide) (br_f (by decide) (br_f (by decide) (br_t rfl (ty_bc0 hc hn (br_t rfl (ty_ba0 ha hl (br_t rfl (nm_e ⟨hp, br_t p0 (br_f (by decide) (br_f (by decide) (br_f (by decide) (br_f (by decide) (⟨rfl, hU⟩)))))⟩)))))))))))⟩))))
    by_cases e4 : v3 = 4
    · subst e4
      exact tx_bc0 hc hn (br_t rfl (tx_ba0 ha hl (br_t rfl (tx_pair ⟨hp, br_t p0 (br_f (by decide) (br_f (by decide) (br_f (by decide) (br_f (by decide) (br_f (by decide) (br_f (by decide) (br_t rfl (ty_bc0 hc hn (br_t rfl (ty_ba0 ha hl (br_t rfl (nm_e ⟨hp, br_t p0 (br_f (by decide) (br_f (by decide) (br_f (by decide) (br_f (by decide) (⟨rfl, hU⟩)))))⟩))))))))))))⟩))))
    by_cases e5 : v3 = 5
    · subst e5
      exact tx_bc0 hc hn (br_t rfl (tx_ba0 ha hl (br_t rfl (tx_pair ⟨hp, br_t p0 (br_f (by decide) (br_f (by decide) (br_f (by decide) (br_f (by decide) (br_f (by decide) (br_f (by decide) (br_f (by decide) (br_t rfl (br_f (by decide) (ty_bc0 hc hn (br_t rfl (ty_ba0 ha hl (br_t rfl (nm_e ⟨hp, br_t p0 (br_f (by decide) (br_f (by decide) (br_f (by decide) (br_t rfl (br_f (by decide) (⟨rfl, hU⟩))))))⟩))))))))))))))⟩))))
    by_cases e6 : v3 = 6
    · subst e6
      exact tx_bc0 hc hn (br_t rfl (tx_ba0 ha hl (br_t rfl (tx_pair ⟨hp, br_t p0 (br_f (by decide) (br_f (by decide) (br_f (by decide) (br_f (by decide) (br_f (by decide) (br_f (by decide) (br_f (by decide) (br_f (by decide) (br_t rfl (ty_bc0 hc hn (br_t rfl (ty_ba0 ha hl (br_t rfl (nm_e ⟨hp, br_t p0 (br_f (by decide) (br_f (by decide) (br_f (by decide) (br_f (by decide) (⟨rfl, hU⟩)))))⟩))))))))))))))⟩))))
    by_cases e7 : v3 = 7
    · subst e7
      exact tx_bc0 hc hn (br_t rfl (tx_ba0 ha hl (br_t rfl (tx_pair ⟨hp, br_t p0 (br_f (by decide) (br_f (by decide) (br_f (by decide) (br_f (by decide) (br_f (by decide) (br_f (by decide) (br_f (by decide) (br_f (by decide) (br_f (by decide) (br_t rfl (br_f (by decide) (ty_bc0 hc hn (br_t rfl (ty_ba0 ha hl (br_t rfl (nm_e ⟨hp, br_t p0 (br_f (by decide) (br_t rfl (br_f (by decide) (⟨rfl, hU⟩))))⟩))))))))))))))))⟩))))
    by_cases e8 : v3 = 8
    · subst e8
      exact tx_bc0 hc hn (br_t rfl (tx_ba0 ha hl (br_t rfl (tx_pair ⟨hp, br_t p0 (br_f (by decide) (br_f (by decide) (br_f (by decide) (br_f (by decide) (br_f (by decide) (br_f (by decide) (br_f (by decide) (br_f (by decide) (br_f (by decide) (br_f (by decide) (br_t rfl (br_f (by decide) (ty_bc0 hc hn (br_t rfl (ty_ba0 ha hl (br_t rfl (nm_e ⟨hp, br_t p0 (br_f (by decide) (br_f (by decide) (br_t rfl (br_f (by decide) (⟨rfl, hU⟩)))))⟩)))))))))))))))))⟩))))
    by_cases g1 : v3 < 0
    · exact tx_bc0 hc hn (br_t rfl (tx_ba0 ha hl (br_t rfl (tx_pair ⟨hp, br_t p0 (br_t g1 (ty_bc0 hc hn (br_t rfl (ty_ba0 ha hl (br_t rfl (nm_e ⟨hp, br_t p0 (br_f e0 (br_f e7 (br_f e8 (br_f e5 (⟨rfl, hU⟩)))))⟩))))))⟩))))
    by_cases g2 : 8 < v3
    · exact tx_bc0 hc hn (br_t rfl (tx_ba0 ha hl (br_t rfl (tx_pair ⟨hp, br_t p0 (br_f g1 (br_t g2 (ty_bc0 hc hn (br_t rfl (ty_ba0 ha hl (br_t rfl (nm_e ⟨hp, br_t p0 (br_f e0 (br_f e7 (br_f e8 (br_f e5 (⟨rfl, hU⟩)))))⟩)))))))⟩))))
    exact tx_bc0 hc hn (br_t rfl (tx_ba0 ha hl (br_t rfl (tx_pair ⟨hp, br_t p0 (br_f g1 (br_f g2 (br_f e0 (br_f e1 (br_f e2 (br_f e3 (br_f e4 (br_f e5 (br_f e6 (br_f e7 (br_f e8 (trivial))))))))))))⟩))))
  · skip
    by_cases e0 : v3 = 0
    · subst e0
      exact tx_bc0 hc hn (br_t rfl (tx_ba0 ha hl (br_t rfl (tx_pair ⟨hp, br_f p0 (br_f (by decide) (br_f (by decide) (br_t rfl (⟨hp, ty_bc0 hc hn (br_t rfl (ty_ba0 ha hl (br_t rfl (nm_e ⟨hp, br_f p0 (br_t rfl (⟨hp, ⟨rfl, hU⟩⟩))⟩))))⟩))))⟩))))
    by_cases e1 : v3 = 1
    · subst e1
      exact tx_bc0 hc hn (br_t rfl (tx_ba0 ha hl (br_t rfl (tx_pair ⟨hp, br_f p0 (br_f (by decide) (br_f (by decide) (br_f (by decide) (br_t rfl (ty_bc0 hc hn (br_t rfl (ty_ba0 ha hl (br_t rfl (nm_e ⟨hp, br_f p0 (br_f (by decide) (br_f (by decide) (br_f (by decide) (br_f (by decide) (⟨rfl, hU⟩)))))⟩)))))))))⟩))))
    by_cases e2 : v3 = 2
    · subst e2
      exact tx_bc0 hc hn (br_t rfl (tx_ba0 ha hl (br_t rfl (tx_pair ⟨hp, br_f p0 (br_f (by decide) (br_f (by decide) (br_f (by decide) (br_f (by decide) (br_t rfl (ty_bc0 hc hn (br_t rfl (ty_ba0 ha hl (br_t rfl (nm_e ⟨hp, br_f p0 (br_f (by decide) (br_f (by decide) (br_f (by decide) (br_f (by decide) (⟨rfl, hU⟩)))))⟩))))))))))⟩))))
    by_cases e3 : v3 = 3
    · subst e3
      exact tx_bc0 hc hn (br_t rfl (tx_ba0 ha hl (br_t rfl (tx_pair ⟨hp, br_f p0 (br_f (by decide) (br_f (by decide) (br_f (by decide) (br_f (by decide) (br_f (by decide) (br_t rfl (ty_bc0 hc hn (br_t rfl (ty_ba0 ha hl (br_t rfl (nm_e ⟨hp, br_f p0 (br_f (by decide) (br_f (by decide) (br_f (by decide) (br_f (by decide) (⟨rfl, hU⟩)))))⟩)))))))))))⟩))))
    by_cases e4 : v3 = 4
    · subst e4
      exact tx_bc0 hc hn (br_t rfl (tx_ba0 ha hl (br_t rfl (tx_pair ⟨hp, br_f p0 (br_f (by decide) (br_f (by decide) (br_f (by decide) (br_f (by decide) (br_f (by decide) (br_f (by decide) (br_t rfl (ty_bc0 hc hn (br_t rfl (ty_ba0 ha hl (br_t rfl (nm_e ⟨hp, br_f p0 (br_f (by decide) (br_f (by decide) (br_f (by decide) (br_f (by decide) (⟨rfl, hU⟩)))))⟩))))))))))))⟩))))
    by_cases e5 : v3 = 5
    · subst e5
      exact tx_bc0 hc hn (br_t rfl (tx_ba0 ha hl (br_t rfl (tx_pair ⟨hp, br_f p0 (br_f (by decide) (br_f (by decide) (br_f (by decide) (br_f (by decide) (br_f (by decide) (br_f (by decide) (br_f (by decide) (br_t rfl (br_t rfl ⟨hp, tx_val hr hne (ty_bc0 hc hn (br_t rfl (ty_ba0 ha hl (br_t rfl (nm_e ⟨hp, br_f p0 (br_f (by decide) (br_f (by decide) (br_f (by decide) (br_t rfl (br_t rfl ⟨hp, ty_val hr hne (⟨rfl, hU⟩)⟩)))))⟩)))))⟩)))))))))⟩))))
    by_cases e6 : v3 = 6
    · subst e6
      exact tx_bc0 hc hn (br_t rfl (tx_ba0 ha hl (br_t rfl (tx_pair ⟨hp, br_f p0 (br_f (by decide) (br_f (by decide) (br_f (by decide) (br_f (by decide) (br_f (by decide) (br_f (by decide) (br_f (by decide) (br_f (by decide) (br_t rfl (ty_bc0 hc hn (br_t rfl (ty_ba0 ha hl (br_t rfl (nm_e ⟨hp, br_f p0 (br_f (by decide) (br_f (by decide) (br_f (by decide) (br_f (by decide) (⟨rfl, hU⟩)))))⟩))))))))))))))⟩))))
    by_cases e7 : v3 = 7
    · subst e7
      exact tx_bc0 hc hn (br_t rfl (tx_ba0 ha hl (br_t rfl (tx_pair ⟨hp, br_f p0 (br_f (by decide) (br_f (by decide) (br_f (by decide) (br_f (by decide) (br_f (by decide) (br_f (by decide) (br_f (by decide) (br_f (by decide) (br_f (by decide) (br_t rfl (br_t rfl ⟨hp, ty_bc0 hc hn (br_t rfl (ty_ba0 ha hl (br_t rfl (nm_e ⟨hp, br_f p0 (br_f (by decide) (br_t rfl (br_t rfl ⟨hp, ⟨rfl, hU⟩⟩)))⟩))))⟩)))))))))))⟩))))
    by_cases e8 : v3 = 8
    · subst e8
      exact tx_bc0 hc hn (br_t rfl (tx_ba0 ha hl (br_t rfl (tx_pair ⟨hp, br_f p0 (br_f (by decide) (br_f (by decide) (br_f (by decide) (br_f (by decide) (br_f (by decide) (br_f (by decide) (br_f (by decide) (br_f (by decide) (br_f (by decide) (br_f (by decide) (br_t rfl (br_t rfl ⟨hp, ty_bc0 hc hn (br_t rfl (ty_ba0 ha hl (br_t rfl (nm_e ⟨hp, br_f p0 (br_f (by decide) (br_f (by decide) (br_t rfl (br_t rfl ⟨hp, ⟨rfl, hU⟩⟩))))⟩))))⟩))))))))))))⟩))))
    by_cases g1 : v3 < 0
    · exact tx_bc0 hc hn (br_t rfl (tx_ba0 ha hl (br_t rfl (tx_pair ⟨hp, br_f p0 (br_t g1 (ty_bc0 hc hn (br_t rfl (ty_ba0 ha hl (br_t rfl (nm_e ⟨hp, br_f p0 (br_f e0 (br_f e7 (br_f e8 (br_f e5 (⟨rfl, hU⟩)))))⟩))))))⟩))))
    by_cases g2 : 8 < v3
    · exact tx_bc0 hc hn (br_t rfl (tx_ba0 ha hl (br_t rfl (tx_pair ⟨hp, br_f p0 (br_f g1 (br_t g2 (ty_bc0 hc hn (br_t rfl (ty_ba0 ha hl (br_t rfl (nm_e ⟨hp, br_f p0 (br_f e0 (br_f e7 (br_f e8 (br_f e5 (⟨rfl, hU⟩)))))⟩)))))))⟩))))
    exact tx_bc0 hc hn (br_t rfl (tx_ba0 ha hl (br_t rfl (tx_pair ⟨hp, br_f p0 (br_f g1 (br_f g2 (br_f e0 (br_f e1 (br_f e2 (br_f e3 (br_f e4 (br_f e5 (br_f e6 (br_f e7 (br_f e8 (trivial))))))))))))⟩))))
theorem i_vc_line {k : Nat} {u : SX} {v : SY} (I : i_Rel k u v) (hk : k + 5 ≤ 2564) (v1 : Int32) (v2 : Int32) : wpX_line (fun r => wpY_line (fun r' => r' = r ∧ i_Rel (k + 5) u v) v v1 v2) u v1 v2 := by
  obtain ⟨rfl, hJ⟩ := I
  have hU : i_Rel (k + 5) u u := i_up ⟨rfl, hJ⟩
  obtain ⟨fc, fl, fe, fw, fn, cl, ph, pk, pa, po, qw, qu, cs, cw, cu, rc, ho, hw, hu, wb, bw, bu, lc, lk, la, lo, lv, lt⟩ := u
  obtain ⟨nc, nl, le, ne, rfl, rfl, rfl, rfl, hI⟩ := hJ
  obtain ⟨hD, hP, hQ, hO, hB, hT, hL⟩ := id hI
  obtain ⟨d1, d2, d3, d4, d5, d6⟩ := id hD
  obtain ⟨t1, t2, t3, t4, t5, t6, t7, t8, t9⟩ := id hT
  have hn : nc < 2 ^ 31 := by omega
  have hl : nl < 2 ^ 31 := by omega
  have hne : ne ≤ 64 := by omega
  have up : 1000 + 20 * k ≤ 1000 + 20 * (k + 5) := by omega
  unfold wpX_line wpY_line
  rcases tc_ix v1 hl with hb | ⟨a, ha, rfl⟩
  · exact tx_ba1 hb (br_f (by decide) (ty_ba1 hb (br_f (by decide) ⟨rfl, hU⟩)))
  have ha8 : vp_in (nI a) 8 := vp_in_nI (by omega) (by omega)
  obtain ⟨r, hr⟩ := tc_F1_ex (fun j => tc_V lk la (nI a) j ∧ lt j = hw (nI a).toNatClampNeg) lv 0 ne
  have hg := (tc_gr_ok lk la lt lv (nI a) ne hL).2.2
  by_cases p0 : wb (nI a).toNatClampNeg = 0
  · skip
    by_cases e5 : v2 = 5
    · subst e5
      exact tx_ba0 ha hl (br_t rfl (br_f (by decide) (br_f (by decide) (br_t rfl (⟨ha8, tx_val hr hne (ty_ba0 ha hl (br_t rfl (br_f (by decide) (br_f (by decide) (br_f (by decide) (br_t rfl (⟨ha8, ty_val hr hne ⟨rfl, hU⟩⟩)))))))⟩)))))
    by_cases e6 : v2 = 6
    · subst e6
      exact tx_ba0 ha hl (br_t rfl (br_f (by decide) (br_f (by decide) (br_f (by decide) (br_t rfl (ty_ba0 ha hl (br_t rfl (br_f (by decide) (br_f (by decide) (br_f (by decide) (br_f (by decide) (br_f (by decide) (br_f (by decide) (⟨rfl, hU⟩))))))))))))))
    by_cases e7 : v2 = 7
    · subst e7
      exact tx_ba0 ha hl (br_t rfl (br_f (by decide) (br_f (by decide) (br_f (by decide) (br_f (by decide) (br_t rfl (⟨ha8, ty_ba0 ha hl (br_t rfl (br_f (by decide) (br_t rfl (⟨ha8, ⟨rfl, hU⟩⟩))))⟩)))))))
    by_cases e8 : v2 = 8
    · subst e8
      exact tx_ba0 ha hl (br_t rfl (br_f (by decide) (br_f (by decide) (br_f (by decide) (br_f (by decide) (br_f (by decide) (br_t rfl (⟨ha8, ty_ba0 ha hl (br_t rfl (br_f (by decide) (br_f (by decide) (br_t rfl (⟨ha8, ⟨rfl, hU⟩⟩)))))⟩))))))))
    by_cases e9 : v2 = 9
    · subst e9
      exact tx_ba0 ha hl (br_t rfl (br_f (by decide) (br_f (by decide) (br_f (by decide) (br_f (by decide) (br_f (by decide) (br_f (by decide) (br_t rfl (⟨ha8, ty_ba0 ha hl (br_t rfl (br_t rfl (⟨ha8, ⟨rfl, hU⟩⟩)))⟩)))))))))
    by_cases e10 : v2 = 10
    · subst e10
      exact tx_ba0 ha hl (br_t rfl (br_f (by decide) (br_f (by decide) (br_f (by decide) (br_f (by decide) (br_f (by decide) (br_f (by decide) (br_f (by decide) (br_t rfl (tx_lat hne (ty_ba0 ha hl (br_t rfl (br_f (by decide) (br_f (by decide) (br_f (by decide) (br_f (by decide) (br_t rfl (ty_lat hne (fun n => br_t (Int32.le_refl _) (ty_val hg hne ⟨rfl, hU⟩))))))))))))))))))))
    by_cases e11 : v2 = 11
    · subst e11
      exact tx_ba0 ha hl (br_t rfl (br_f (by decide) (br_f (by decide) (br_f (by decide) (br_f (by decide) (br_f (by decide) (br_f (by decide) (br_f (by decide) (br_f (by decide) (br_t rfl (⟨ha8, br_t p0 (ty_ba0 ha hl (br_t rfl (br_f (by decide) (br_f (by decide) (br_f (by decide) (br_f (by decide) (br_f (by decide) (br_t rfl (⟨ha8, br_t p0 ⟨rfl, hU⟩⟩)))))))))⟩)))))))))))
    by_cases g1 : v2 < 5
    · exact tx_ba0 ha hl (br_t rfl (br_t g1 (ty_ba0 ha hl (br_t rfl (br_f e9 (br_f e7 (br_f e8 (br_f e5 (br_f e10 (br_f e11 (⟨rfl, hU⟩)))))))))))
    by_cases g2 : 11 < v2
    · exact tx_ba0 ha hl (br_t rfl (br_f g1 (br_t g2 (ty_ba0 ha hl (br_t rfl (br_f e9 (br_f e7 (br_f e8 (br_f e5 (br_f e10 (br_f e11 (⟨rfl, hU⟩))))))))))))
    exact tx_ba0 ha hl (br_t rfl (br_f g1 (br_f g2 (br_f e5 (br_f e6 (br_f e7 (br_f e8 (br_f e9 (br_f e10 (br_f e11 (trivial)))))))))))
  · skip
    by_cases e5 : v2 = 5
    · subst e5
      exact tx_ba0 ha hl (br_t rfl (br_f (by decide) (br_f (by decide) (br_t rfl (⟨ha8, tx_val hr hne (ty_ba0 ha hl (br_t rfl (br_f (by decide) (br_f (by decide) (br_f (by decide) (br_t rfl (⟨ha8, ty_val hr hne ⟨rfl, hU⟩⟩)))))))⟩)))))
    by_cases e6 : v2 = 6
    · subst e6
      exact tx_ba0 ha hl (br_t rfl (br_f (by decide) (br_f (by decide) (br_f (by decide) (br_t rfl (ty_ba0 ha hl (br_t rfl (br_f (by decide) (br_f (by decide) (br_f (by decide) (br_f (by decide) (br_f (by decide) (br_f (by decide) (⟨rfl, hU⟩))))))))))))))
    by_cases e7 : v2 = 7
    · subst e7
      exact tx_ba0 ha hl (br_t rfl (br_f (by decide) (br_f (by decide) (br_f (by decide) (br_f (by decide) (br_t rfl (⟨ha8, ty_ba0 ha hl (br_t rfl (br_f (by decide) (br_t rfl (⟨ha8, ⟨rfl, hU⟩⟩))))⟩)))))))
    by_cases e8 : v2 = 8
    · subst e8
      exact tx_ba0 ha hl (br_t rfl (br_f (by decide) (br_f (by decide) (br_f (by decide) (br_f (by decide) (br_f (by decide) (br_t rfl (⟨ha8, ty_ba0 ha hl (br_t rfl (br_f (by decide) (br_f (by decide) (br_t rfl (⟨ha8, ⟨rfl, hU⟩⟩)))))⟩))))))))
    by_cases e9 : v2 = 9
    · subst e9
      exact tx_ba0 ha hl (br_t rfl (br_f (by decide) (br_f (by decide) (br_f (by decide) (br_f (by decide) (br_f (by decide) (br_f (by decide) (br_t rfl (⟨ha8, ty_ba0 ha hl (br_t rfl (br_t rfl (⟨ha8, ⟨rfl, hU⟩⟩)))⟩)))))))))
    by_cases e10 : v2 = 10
    · subst e10
      exact tx_ba0 ha hl (br_t rfl (br_f (by decide) (br_f (by decide) (br_f (by decide) (br_f (by decide) (br_f (by decide) (br_f (by decide) (br_f (by decide) (br_t rfl (tx_lat hne (ty_ba0 ha hl (br_t rfl (br_f (by decide) (br_f (by decide) (br_f (by decide) (br_f (by decide) (br_t rfl (ty_lat hne (fun n => br_t (Int32.le_refl _) (ty_val hg hne ⟨rfl, hU⟩))))))))))))))))))))
    by_cases e11 : v2 = 11
    · subst e11
      exact tx_ba0 ha hl (br_t rfl (br_f (by decide) (br_f (by decide) (br_f (by decide) (br_f (by decide) (br_f (by decide) (br_f (by decide) (br_f (by decide) (br_f (by decide) (br_t rfl (⟨ha8, br_f p0 ⟨ha8, ty_ba0 ha hl (br_t rfl (br_f (by decide) (br_f (by decide) (br_f (by decide) (br_f (by decide) (br_f (by decide) (br_t rfl (⟨ha8, br_f p0 ⟨ha8, ⟨rfl, hU⟩⟩⟩))))))))⟩⟩)))))))))))
    by_cases g1 : v2 < 5
    · exact tx_ba0 ha hl (br_t rfl (br_t g1 (ty_ba0 ha hl (br_t rfl (br_f e9 (br_f e7 (br_f e8 (br_f e5 (br_f e10 (br_f e11 (⟨rfl, hU⟩)))))))))))
    by_cases g2 : 11 < v2
    · exact tx_ba0 ha hl (br_t rfl (br_f g1 (br_t g2 (ty_ba0 ha hl (br_t rfl (br_f e9 (br_f e7 (br_f e8 (br_f e5 (br_f e10 (br_f e11 (⟨rfl, hU⟩))))))))))))
    exact tx_ba0 ha hl (br_t rfl (br_f g1 (br_f g2 (br_f e5 (br_f e6 (br_f e7 (br_f e8 (br_f e9 (br_f e10 (br_f e11 (trivial)))))))))))
theorem i_vc_log {k : Nat} {u : SX} {v : SY} (I : i_Rel k u v) (hk : k + 5 ≤ 2564) (v1 : Int32) (v2 : Int32) : wpX_log (fun r => wpY_log (fun r' => r' = r ∧ i_Rel (k + 5) u v) v v1 v2) u v1 v2 := by
  obtain ⟨rfl, hJ⟩ := I
  have hU : i_Rel (k + 5) u u := i_up ⟨rfl, hJ⟩
  obtain ⟨fc, fl, fe, fw, fn, cl, ph, pk, pa, po, qw, qu, cs, cw, cu, rc, ho, hw, hu, wb, bw, bu, lc, lk, la, lo, lv, lt⟩ := u
  obtain ⟨nc, nl, le, ne, rfl, rfl, rfl, rfl, hI⟩ := hJ
  obtain ⟨hD, hP, hQ, hO, hB, hT, hL⟩ := id hI
  obtain ⟨d1, d2, d3, d4, d5, d6⟩ := id hD
  obtain ⟨t1, t2, t3, t4, t5, t6, t7, t8, t9⟩ := id hT
  have hn : nc < 2 ^ 31 := by omega
  have hl : nl < 2 ^ 31 := by omega
  have hne : ne ≤ 64 := by omega
  have up : 1000 + 20 * k ≤ 1000 + 20 * (k + 5) := by omega
  unfold wpX_log wpY_log
  by_cases h0 : v1 < 0
  · exact br_t h0 (br_t h0 ⟨rfl, hU⟩)
  by_cases h1 : v1 < nI ne
  · have hv : vp_in v1 64 := by
      obtain ⟨i, hi, rfl⟩ := nI_of h0
      rw [nI_ltI hi (by omega)] at h1
      exact vp_in_nI (by omega) (by omega)
    by_cases e1 : v2 = 1
    · subst e1
      exact br_f h0 (br_t h1 (br_f (by decide) (br_f (by decide) (br_t rfl (⟨hv, br_f h0 (br_t h1 (br_f (by decide) (br_t rfl (⟨hv, ⟨rfl, hU⟩⟩))))⟩)))))
    by_cases e2 : v2 = 2
    · subst e2
      exact br_f h0 (br_t h1 (br_f (by decide) (br_f (by decide) (br_f (by decide) (br_t rfl (⟨hv, br_f h0 (br_t h1 (br_t rfl (⟨hv, ⟨rfl, hU⟩⟩)))⟩))))))
    by_cases e3 : v2 = 3
    · subst e3
      exact br_f h0 (br_t h1 (br_f (by decide) (br_f (by decide) (br_f (by decide) (br_f (by decide) (br_t rfl (⟨hv, br_f h0 (br_t h1 (br_f (by decide) (br_f (by decide) (br_t rfl (⟨hv, ⟨rfl, hU⟩⟩)))))⟩)))))))
    by_cases e4 : v2 = 4
    · subst e4
      exact br_f h0 (br_t h1 (br_f (by decide) (br_f (by decide) (br_f (by decide) (br_f (by decide) (br_f (by decide) (br_t rfl (⟨hv, br_f h0 (br_t h1 (br_f (by decide) (br_f (by decide) (br_f (by decide) (br_t rfl (⟨hv, ⟨rfl, hU⟩⟩))))))⟩))))))))
    by_cases e5 : v2 = 5
    · subst e5
      exact br_f h0 (br_t h1 (br_f (by decide) (br_f (by decide) (br_f (by decide) (br_f (by decide) (br_f (by decide) (br_f (by decide) (br_t rfl (⟨hv, br_f h0 (br_t h1 (br_f (by decide) (br_f (by decide) (br_f (by decide) (br_f (by decide) (br_t rfl (⟨hv, ⟨rfl, hU⟩⟩)))))))⟩)))))))))
    by_cases e6 : v2 = 6
    · subst e6
      exact br_f h0 (br_t h1 (br_f (by decide) (br_f (by decide) (br_f (by decide) (br_f (by decide) (br_f (by decide) (br_f (by decide) (br_f (by decide) (br_t rfl (⟨hv, br_f h0 (br_t h1 (br_f (by decide) (br_f (by decide) (br_f (by decide) (br_f (by decide) (br_f (by decide) (br_t rfl (⟨hv, ⟨rfl, hU⟩⟩))))))))⟩))))))))))
    by_cases g1 : v2 < 1
    · exact br_f h0 (br_t h1 (br_t g1 (br_f h0 (br_t h1 (br_f e2 (br_f e1 (br_f e3 (br_f e4 (br_f e5 (br_f e6 (⟨rfl, hU⟩)))))))))))
    by_cases g2 : 6 < v2
    · exact br_f h0 (br_t h1 (br_f g1 (br_t g2 (br_f h0 (br_t h1 (br_f e2 (br_f e1 (br_f e3 (br_f e4 (br_f e5 (br_f e6 (⟨rfl, hU⟩))))))))))))
    exact br_f h0 (br_t h1 (br_f g1 (br_f g2 (br_f e1 (br_f e2 (br_f e3 (br_f e4 (br_f e5 (br_f e6 (trivial))))))))))
  · exact br_f h0 (br_f h1 (br_f h0 (br_f h1 ⟨rfl, hU⟩)))
end
end
section
section
section
variable {nc nl le ne : Nat} {fw : Int32} {cl ph pk pa po qw qu cs cw cu rc ho hw hu wb bw bu lc lk la lo lv lt : Nat → Int32}
theorem tx_or {post : Int32 → Prop} {x r : Int32} (h : tc_F1 (fun i => nI (tc_rk lt i ne) = x) nI (-1) ne r) (hne : ne ≤ 64) (hp : post r) : wpX_ordered post (nI nc, nI nl, nI le, fw, nI ne, cl, ph, pk, pa, po, qw, qu, cs, cw, cu, rc, ho, hw, hu, wb, bw, bu, lc, lk, la, lo, lv, lt) x := by
  have L : ∀ d i : Nat, i + d = ne → (∀ j, j < i → ¬ nI (tc_rk lt j ne) = x) → wX_ordered_2 post x (nI nc) (nI nl) (nI le) fw (nI ne) cl ph pk pa po qw qu cs cw cu rc ho hw hu wb bw bu lc lk la lo lv lt (d + 1) (nI i) := by
    intro d
    induction d with
    | zero =>
      intro i hi hf
      have e : i = ne := by omega
      subst e
      have r0 := tc_F1_miss h hf
      rw [r0] at hp
      exact br_t (Int32.le_refl _) hp
    | succ d ih =>
      intro i hi hf
      have hlt : ¬ nI ne ≤ nI i := nI_ge (by omega) (by omega)
      refine br_f hlt (tx_rk (by omega) hne ?_)
      by_cases hm : nI (tc_rk lt i ne) = x
      · have r0 := tc_F1_hit h (by omega) hm hf
        rw [r0] at hp
        exact br_t hm hp
      · exact br_f hm (nm_r (nI_1 i) (ih (i + 1) (by omega) (tc_not_s hf hm)))
  unfold wpX_ordered
  exact ⟨ne + 1, L ne 0 (by omega) (fun j hj => absurd hj (Nat.not_lt_zero j))⟩
theorem ty_or {post : Int32 → Prop} {x r : Int32} (h : tc_F1 (fun i => nI (tc_rk lt i ne) = x) nI (-1) ne r) (hne : ne ≤ 64) (hp : post r) : ∃ n : Nat, wY_ordered_16 post x (nI nc) (nI nl) (nI le) fw (nI ne) cl ph pk pa po qw qu cs cw cu rc ho hw hu wb bw bu lc lk la lo lv lt n 0 := by
  have L : ∀ d i : Nat, i + d = ne → (∀ j, j < i → ¬ nI (tc_rk lt j ne) = x) → wY_ordered_16 post x (nI nc) (nI nl) (nI le) fw (nI ne) cl ph pk pa po qw qu cs cw cu rc ho hw hu wb bw bu lc lk la lo lv lt (d + 1) (nI i) := by
    intro d
    induction d with
    | zero =>
      intro i hi hf
      have e : i = ne := by omega
      subst e
      have r0 := tc_F1_miss h hf
      rw [r0] at hp
      exact br_t (Int32.le_refl _) hp
    | succ d ih =>
      intro i hi hf
      have hlt : ¬ nI ne ≤ nI i := nI_ge (by omega) (by omega)
      refine br_f hlt (ty_29 (by omega) hne (fun n => br_t (Int32.le_refl _) ?_))
      by_cases hm : nI (tc_rk lt i ne) = x
      · have r0 := tc_F1_hit h (by omega) hm hf
        rw [r0] at hp
        exact br_t hm hp
      · exact br_f hm (nm_r (nI_1 i) (ih (i + 1) (by omega) (tc_not_s hf hm)))
  exact ⟨ne + 1, L ne 0 (by omega) (fun j hj => absurd hj (Nat.not_lt_zero j))⟩
end
theorem i_vc_ordered {k : Nat} {u : SX} {v : SY} (I : i_Rel k u v) (hk : k + 5 ≤ 2564) (v1 : Int32) : wpX_ordered (fun r => wpY_ordered (fun r' => r' = r ∧ i_Rel (k + 5) u v) v v1) u v1 := by
  obtain ⟨rfl, hJ⟩ := I
  have hU : i_Rel (k + 5) u u := i_up ⟨rfl, hJ⟩
  obtain ⟨fc, fl, fe, fw, fn, cl, ph, pk, pa, po, qw, qu, cs, cw, cu, rc, ho, hw, hu, wb, bw, bu, lc, lk, la, lo, lv, lt⟩ := u
  obtain ⟨nc, nl, le, ne, rfl, rfl, rfl, rfl, hI⟩ := hJ
  obtain ⟨hD, hP, hQ, hO, hB, hT, hL⟩ := id hI
  obtain ⟨d1, d2, d3, d4, d5, d6⟩ := id hD
  obtain ⟨t1, t2, t3, t4, t5, t6, t7, t8, t9⟩ := id hT
  have hn : nc < 2 ^ 31 := by omega
  have hl : nl < 2 ^ 31 := by omega
  have hne : ne ≤ 64 := by omega
  have up : 1000 + 20 * k ≤ 1000 + 20 * (k + 5) := by omega
  obtain ⟨r, hr⟩ := tc_F1_ex (fun i => nI (tc_rk lt i ne) = v1) nI (-1) ne
  refine tx_or hr hne ?_
  unfold wpY_ordered
  by_cases h0 : v1 < 0
  · have hm : r = -1 := tc_F1_miss hr (fun j hj e => nI_pos (n := tc_rk lt j ne) (Nat.lt_of_le_of_lt (tc_rk_le lt j ne) (by omega)) (by rw [e]; exact h0))
    exact br_t h0 ⟨hm.symm, hU⟩
  by_cases h1 : v1 < nI ne
  · exact br_f h0 (br_t h1 (ty_or hr hne ⟨rfl, hU⟩))
  · have hm : r = -1 := tc_F1_miss hr (fun j hj e => h1 (by rw [← e]; exact nI_lt (tc_rk_lt lt j ne hj) (by omega)))
    exact br_f h0 (br_f h1 ⟨hm.symm, hU⟩)
theorem tx_cl {post : Int32 → Prop} {p lo hi : Int32} (h : post (tc_cp p lo hi)) : wpX_clamped post p lo hi := by
  unfold wpX_clamped
  exact tc_cpw h
theorem tx_ini {post : SX → Prop} {r1 r2 r3 r4 : Int32} (hq : post (r1, r2, r3, r4, 0, fun _ => 0, fun _ => 0, fun _ => 0, fun _ => 0, fun _ => 0, fun _ => 0, fun _ => 0, fun _ => 0, fun _ => 0, fun _ => 0, fun _ => 0, tc_ini 8, fun _ => 0, fun _ => 0, fun _ => 0, fun _ => 0, fun _ => 0, fun _ => 0, fun _ => 0, fun _ => 0, fun _ => 0, fun _ => 0, fun _ => 0)) : ∃ n : Nat, wX_init_232 post r1 r2 r3 r4 0 n 0 (fun _ => 0) (fun _ => 0) (fun _ => 0) (fun _ => 0) (fun _ => 0) (fun _ => 0) (fun _ => 0) (fun _ => 0) (fun _ => 0) (fun _ => 0) (fun _ => 0) (fun _ => 0) (fun _ => 0) (fun _ => 0) (fun _ => 0) (fun _ => 0) (fun _ => 0) (fun _ => 0) (fun _ => 0) (fun _ => 0) (fun _ => 0) (fun _ => 0) (fun _ => 0) := by
  have L : ∀ d i : Nat, i + d = 8 → wX_init_232 post r1 r2 r3 r4 0 (d + 1) (nI i) (fun _ => 0) (fun _ => 0) (fun _ => 0) (fun _ => 0) (fun _ => 0) (fun _ => 0) (fun _ => 0) (fun _ => 0) (fun _ => 0) (fun _ => 0) (fun _ => 0) (tc_ini i) (fun _ => 0) (fun _ => 0) (fun _ => 0) (fun _ => 0) (fun _ => 0) (fun _ => 0) (fun _ => 0) (fun _ => 0) (fun _ => 0) (fun _ => 0) (fun _ => 0) := by
    intro d
    induction d with
    | zero =>
      intro i hi
      have e : i = 8 := by omega
      subst e
      exact br_t (by decide) hq
    | succ d ih =>
      intro i hi
      have e : (nI i).toNatClampNeg = i := nI_clamp (by omega)
      have hv : vp_in (nI i) 8 := vp_in_nI (by omega) (by omega)
      have hlt : ¬ (8 : Int32) ≤ nI i := nI_ge (b := 8) (by omega) (by omega)
      exact br_f hlt ⟨hv, nm_r (by rw [e]; rfl) (nm_r (nI_1 i) (ih (i + 1) (by omega)))⟩
  exact ⟨9, L 8 0 (by omega)⟩
theorem ty_ini {post : SY → Prop} {r1 r2 r3 r4 : Int32} (hq : post (r1, r2, r3, r4, 0, fun _ => 0, fun _ => 0, fun _ => 0, fun _ => 0, fun _ => 0, fun _ => 0, fun _ => 0, fun _ => 0, fun _ => 0, fun _ => 0, fun _ => 0, tc_ini 8, fun _ => 0, fun _ => 0, fun _ => 0, fun _ => 0, fun _ => 0, fun _ => 0, fun _ => 0, fun _ => 0, fun _ => 0, fun _ => 0, fun _ => 0)) : ∃ n : Nat, wY_init_283 post r1 r2 r3 r4 0 n 0 (fun _ => 0) (fun _ => 0) (fun _ => 0) (fun _ => 0) (fun _ => 0) (fun _ => 0) (fun _ => 0) (fun _ => 0) (fun _ => 0) (fun _ => 0) (fun _ => 0) (fun _ => 0) (fun _ => 0) (fun _ => 0) (fun _ => 0) (fun _ => 0) (fun _ => 0) (fun _ => 0) (fun _ => 0) (fun _ => 0) (fun _ => 0) (fun _ => 0) (fun _ => 0) := by
  have L : ∀ d i : Nat, i + d = 8 → wY_init_283 post r1 r2 r3 r4 0 (d + 1) (nI i) (fun _ => 0) (fun _ => 0) (fun _ => 0) (fun _ => 0) (fun _ => 0) (fun _ => 0) (fun _ => 0) (fun _ => 0) (fun _ => 0) (fun _ => 0) (fun _ => 0) (tc_ini i) (fun _ => 0) (fun _ => 0) (fun _ => 0) (fun _ => 0) (fun _ => 0) (fun _ => 0) (fun _ => 0) (fun _ => 0) (fun _ => 0) (fun _ => 0) (fun _ => 0) := by
    intro d
    induction d with
    | zero =>
      intro i hi
      have e : i = 8 := by omega
      subst e
      exact br_t (by decide) hq
    | succ d ih =>
      intro i hi
      have e : (nI i).toNatClampNeg = i := nI_clamp (by omega)
      have hv : vp_in (nI i) 8 := vp_in_nI (by omega) (by omega)
      have hlt : ¬ (8 : Int32) ≤ nI i := nI_ge (b := 8) (by omega) (by omega)
      exact br_f hlt ⟨hv, nm_r (by rw [e]; rfl) (nm_r (nI_1 i) (ih (i + 1) (by omega)))⟩
  exact ⟨9, L 8 0 (by omega)⟩
theorem i_vc0 (k0 : Int32) (k1 : Int32) (k2 : Int32) (k3 : Int32) : wpX_init (fun u => wpY_init (fun v => i_Rel 4 u v) k0 k1 k2 k3) k0 k1 k2 k3 := by
  unfold wpX_init
  refine tx_cl (tx_cl (tx_cl (tx_cl (tx_ini ?_))))
  unfold wpY_init
  refine tc_cpw (F := fun z => wY_init_201 _ k1 k2 k3 z 0 0 0 0 0 (fun _ => 0) (fun _ => 0) (fun _ => 0) (fun _ => 0) (fun _ => 0) (fun _ => 0) (fun _ => 0) (fun _ => 0) (fun _ => 0) (fun _ => 0) (fun _ => 0) (fun _ => 0) (fun _ => 0) (fun _ => 0) (fun _ => 0) (fun _ => 0) (fun _ => 0) (fun _ => 0) (fun _ => 0) (fun _ => 0) (fun _ => 0) (fun _ => 0) (fun _ => 0)) ?_
  unfold wY_init_201
  refine tc_cpw (F := fun z => wY_init_226 _ k2 k3 z (tc_cp k0 2 4) 0 0 0 0 (fun _ => 0) (fun _ => 0) (fun _ => 0) (fun _ => 0) (fun _ => 0) (fun _ => 0) (fun _ => 0) (fun _ => 0) (fun _ => 0) (fun _ => 0) (fun _ => 0) (fun _ => 0) (fun _ => 0) (fun _ => 0) (fun _ => 0) (fun _ => 0) (fun _ => 0) (fun _ => 0) (fun _ => 0) (fun _ => 0) (fun _ => 0) (fun _ => 0) (fun _ => 0)) ?_
  unfold wY_init_226
  refine tc_cpw (F := fun z => wY_init_251 _ k3 z (tc_cp k0 2 4) (tc_cp k1 1 8) 0 0 0 (fun _ => 0) (fun _ => 0) (fun _ => 0) (fun _ => 0) (fun _ => 0) (fun _ => 0) (fun _ => 0) (fun _ => 0) (fun _ => 0) (fun _ => 0) (fun _ => 0) (fun _ => 0) (fun _ => 0) (fun _ => 0) (fun _ => 0) (fun _ => 0) (fun _ => 0) (fun _ => 0) (fun _ => 0) (fun _ => 0) (fun _ => 0) (fun _ => 0) (fun _ => 0)) ?_
  unfold wY_init_251
  refine tc_cpw (F := fun z => ∃ n : Nat, wY_init_283 _ (tc_cp k0 2 4) (tc_cp k1 1 8) (tc_cp k2 1 16) z 0 n 0 (fun _ => 0) (fun _ => 0) (fun _ => 0) (fun _ => 0) (fun _ => 0) (fun _ => 0) (fun _ => 0) (fun _ => 0) (fun _ => 0) (fun _ => 0) (fun _ => 0) (fun _ => 0) (fun _ => 0) (fun _ => 0) (fun _ => 0) (fun _ => 0) (fun _ => 0) (fun _ => 0) (fun _ => 0) (fun _ => 0) (fun _ => 0) (fun _ => 0) (fun _ => 0)) ?_
  refine ty_ini ?_
  obtain ⟨nc, c1, c2, ec⟩ := tc_cp_r k0 (l := 2) (h := 4) (by omega) (by omega)
  obtain ⟨nl, l1, l2, el⟩ := tc_cp_r k1 (l := 1) (h := 8) (by omega) (by omega)
  obtain ⟨le, b1, b2, eb⟩ := tc_cp_r k2 (l := 1) (h := 16) (by omega) (by omega)
  have t0 := tc_T_0 (1000 + 20 * 4)
  have hcn : 0 + tc_cnt (fun _ => 0) nc ≤ 64 := by rw [tc_cnt_0]; omega
  exact ⟨rfl, nc, nl, le, 0, ec, el, eb, rfl, ⟨c1, c2, l1, l2, b1, b2⟩, hcn, fun c _ h => absurd rfl h, fun a ha => Or.inl (tc_ini_m 8 a ha), fun _ => Or.inl rfl, ⟨t0, t0, t0, t0, t0, t0, t0, t0, t0⟩, fun i hi => absurd hi (Nat.not_lt_zero i)⟩
end
end
section
section
variable {nc nl le ne : Nat} {fw : Int32} {cl ph pk pa po qw qu cs cw cu rc ho hw hu wb bw bu lc lk la lo lv lt : Nat → Int32}
theorem tc_is {k c a : Nat} {kd op : Int32} {post : Int32 → SX → Prop} (hI : tc_I k nc nl le ne cl ph pk pa qw qu cw cu rc ho hw hu bw bu lk lt) (hk : k + 5 ≤ 2564) (hc : c < nc) (ha : a < nl) (hkd : kd = 1 ∨ kd = 2 ∨ kd = 3) (h0 : ph (nI c).toNatClampNeg = 0) (hfree : ne + tc_cnt ph nc < 64)
    (HW : ∀ (r : Int32) (u' : SX), wY_issue_98 (fun r' v' => r' = r ∧ i_Rel (k + 5) u' v') (nI c) kd (nI a) op (nI nc) (nI nl) (nI le) fw (nI ne) cl ph pk pa po qw qu cs cw cu rc ho hw hu wb bw bu lc lk la lo lv lt → post r u') : wX_issue_68 post (nI c) kd (nI a) op (nI nc) (nI nl) (nI le) fw (nI ne) cl ph pk pa po qw qu cs cw cu rc ho hw hu wb bw bu lc lk la lo lv lt := by
  obtain ⟨hD, hP, hQ, hO, hB, hT, hL⟩ := id hI
  obtain ⟨d1, d2, d3, d4, d5, d6⟩ := id hD
  obtain ⟨t1, t2, t3, t4, t5, t6, t7, t8, t9⟩ := id hT
  have hne : ne ≤ 64 := by omega
  have up : 1000 + 20 * k ≤ 1000 + 20 * (k + 5) := by omega
  have hc4 : vp_in (nI c) 4 := vp_in_nI (by omega) (by omega)
  have ec : (nI c).toNatClampNeg = c := nI_clamp (by omega)
  have en : (nI ne).toNatClampNeg = ne := nI_clamp (by omega)
  have hp : vp_in (nI c * 8 + nI a) 32 := tc_pin (by omega) (by omega)
  have hvn : vp_in (nI ne) 64 := vp_in_nI (by omega) (by omega)
  have hU : i_Rel (k + 5) (nI nc, nI nl, nI le, fw, nI ne, cl, ph, pk, pa, po, qw, qu, cs, cw, cu, rc, ho, hw, hu, wb, bw, bu, lc, lk, la, lo, lv, lt) (nI nc, nI nl, nI le, fw, nI ne, cl, ph, pk, pa, po, qw, qu, cs, cw, cu, rc, ho, hw, hu, wb, bw, bu, lc, lk, la, lo, lv, lt) := ⟨rfl, nc, nl, le, ne, rfl, rfl, rfl, rfl, tc_I_up hI⟩
  have h0' : ph c = 0 := by rw [ec] at h0; exact h0
  have hP' : ne + tc_cnt (upd ph (nI c).toNatClampNeg 10) nc ≤ 64 := by rw [ec, tc_cnt_in h0' (by decide) nc hc]; omega
  have hQ' : tc_Q nc nl (upd ph (nI c).toNatClampNeg 10) (upd pk (nI c).toNatClampNeg kd) (upd pa (nI c).toNatClampNeg (nI a)) := by rw [ec]; exact tc_Q_in hQ hkd ha
  unfold wX_issue_68
  by_cases hh : cs (nI c * 8 + nI a).toNatClampNeg = 2 ∨ (kd = 1 ∧ cs (nI c * 8 + nI a).toNatClampNeg = 1 ∧ ¬ cu (nI c * 8 + nI a).toNatClampNeg < cl (nI c).toNatClampNeg)
  · refine tx_hit1 hc4 hp hh (br_f (by decide) ?_)
    obtain ⟨r, hr⟩ := tc_F1_ex (fun j => tc_V lk la (nI a) j ∧ lt j = cw (nI c * 8 + nI a).toNatClampNeg) lv 0 ne
    obtain ⟨dw, du, tm, vl, hcm⟩ := tc_CM_ex op r (cs (nI c * 8 + nI a).toNatClampNeg) (cl (nI c).toNatClampNeg) (nI c * 8 + nI a).toNatClampNeg cw cu hkd
    have hInv : tc_I (k + 5) nc nl le (ne + 1) (upd cl (nI c).toNatClampNeg tm) ph pk pa qw qu dw du rc ho hw hu bw bu (upd lk (nI ne).toNatClampNeg kd) (upd lt (nI ne).toNatClampNeg tm) := by
      rw [en]
      exact tc_I_cm hD (by omega) hQ hO hB hT hL (by omega) (by omega) hcm
    refine tx_cm hc4 hp hvn hne hr hcm (HW 1 (nI nc, nI nl, nI le, fw, nI ne + 1, upd cl (nI c).toNatClampNeg tm, ph, pk, pa, po, qw, qu, cs, dw, du, rc, ho, hw, hu, wb, bw, bu, upd lc (nI ne).toNatClampNeg (nI c), upd lk (nI ne).toNatClampNeg kd, upd la (nI ne).toNatClampNeg (nI a), upd lo (nI ne).toNatClampNeg op, upd lv (nI ne).toNatClampNeg vl, upd lt (nI ne).toNatClampNeg tm) (ty_hit1 hc4 hp hh ?_))
    unfold wY_issue_151
    exact ty_cm hc4 hp hvn hne hr hcm ⟨rfl, rfl, nc, nl, le, ne + 1, rfl, rfl, rfl, nI_1 ne, hInv⟩
  · refine tx_hit0 hc4 hp hh (br_t rfl (tx_pair ⟨hp, ?_⟩))
    by_cases hs : cs (nI c * 8 + nI a).toNatClampNeg = 0
    · refine br_t hs (tx_cc (by omega) d4 ?_)
      by_cases hw' : nI (tc_cnt (fun j => cs (nI c * 8 + nI j).toNatClampNeg) nl) < fw
      · exact br_t hw' (tx_119 hc4 (HW _ _ (ty_hit0 hc4 hp hh (ty_168 (by omega) d4 (fun n => br_t (Int32.le_refl _) ⟨hp, br_t hs (br_t hw' (ty_223 hc4 ⟨rfl, rfl, nc, nl, le, ne, rfl, rfl, rfl, rfl, ⟨hD, hP', hQ', hO, hB, ⟨tc_T_up up t1, tc_T_up up t2, tc_T_up up t3, tc_T_up up t4, tc_T_up up t5, tc_T_up up t6, tc_T_up up t7, tc_T_up up t8, tc_T_up up t9⟩, hL⟩⟩))⟩)))))
      · exact br_f hw' (HW _ _ (ty_hit0 hc4 hp hh (ty_168 (by omega) d4 (fun n => br_t (Int32.le_refl _) ⟨hp, br_t hs (br_f hw' ⟨rfl, hU⟩)⟩))))
    · exact br_f hs (tx_119 hc4 (HW _ _ (ty_hit0 hc4 hp hh (ty_168 (by omega) d4 (fun n => br_t (Int32.le_refl _) ⟨hp, br_f hs (ty_223 hc4 ⟨rfl, rfl, nc, nl, le, ne, rfl, rfl, rfl, rfl, ⟨hD, hP', hQ', hO, hB, ⟨tc_T_up up t1, tc_T_up up t2, tc_T_up up t3, tc_T_up up t4, tc_T_up up t5, tc_T_up up t6, tc_T_up up t7, tc_T_up up t8, tc_T_up up t9⟩, hL⟩⟩)⟩)))))
end
section
theorem i_vc_issue {k : Nat} {u : SX} {v : SY} (I : i_Rel k u v) (hk : k + 5 ≤ 2564) (v1 : Int32) (v2 : Int32) (v3 : Int32) (v4 : Int32) : wpX_issue (fun r u' => wpY_issue (fun r' v' => r' = r ∧ i_Rel (k + 5) u' v') v v1 v2 v3 v4) u v1 v2 v3 v4 := by
  obtain ⟨rfl, hJ⟩ := I
  have hU : i_Rel (k + 5) u u := i_up ⟨rfl, hJ⟩
  obtain ⟨fc, fl, fe, fw, fn, cl, ph, pk, pa, po, qw, qu, cs, cw, cu, rc, ho, hw, hu, wb, bw, bu, lc, lk, la, lo, lv, lt⟩ := u
  obtain ⟨nc, nl, le, ne, rfl, rfl, rfl, rfl, hI⟩ := hJ
  obtain ⟨hD, hP, hQ, hO, hB, hT, hL⟩ := id hI
  obtain ⟨d1, d2, d3, d4, d5, d6⟩ := id hD
  obtain ⟨t1, t2, t3, t4, t5, t6, t7, t8, t9⟩ := id hT
  have hn : nc < 2 ^ 31 := by omega
  have hl : nl < 2 ^ 31 := by omega
  have hne : ne ≤ 64 := by omega
  have up : 1000 + 20 * k ≤ 1000 + 20 * (k + 5) := by omega
  unfold wpX_issue wpY_issue
  rcases tc_ix v1 hn with hb | ⟨c, hc, rfl⟩
  · exact tx_bc1 hb (br_f (by decide) (ty_bc1 hb (br_f (by decide) ⟨rfl, hU⟩)))
  have hc4 : vp_in (nI c) 4 := vp_in_nI (by omega) (by omega)
  by_cases k1 : v2 < 1
  · exact tx_bc0 hc hn (br_t rfl (br_t k1 (ty_bc0 hc hn (br_t rfl (br_t k1 ⟨rfl, hU⟩)))))
  by_cases k3 : 3 < v2
  · exact tx_bc0 hc hn (br_t rfl (br_f k1 (br_t k3 (ty_bc0 hc hn (br_t rfl (br_f k1 (br_t k3 ⟨rfl, hU⟩)))))))
  rcases tc_ix v3 hl with hb | ⟨a, ha, rfl⟩
  · exact tx_bc0 hc hn (br_t rfl (br_f k1 (br_f k3 (tx_ba1 hb (br_f (by decide) (ty_bc0 hc hn (br_t rfl (br_f k1 (br_f k3 (ty_ba1 hb (br_f (by decide) ⟨rfl, hU⟩)))))))))))
  have hkd : v2 = 1 ∨ v2 = 2 ∨ v2 = 3 := by
    obtain ⟨j, hj, rfl⟩ := nI_of2 (x := v2) (M := 3) (n := 3) rfl (fun z => k1 (Int32.lt_trans z (by decide))) (Int32.not_lt.mp k3)
    have h1 : ¬ j < 1 := fun z => k1 (nI_lt (b := 1) z (by omega))
    have h2 : j = 1 ∨ j = 2 ∨ j = 3 := by omega
    rcases h2 with rfl | rfl | rfl
    · exact Or.inl rfl
    · exact Or.inr (Or.inl rfl)
    · exact Or.inr (Or.inr rfl)
  by_cases h0 : ph (nI c).toNatClampNeg = 0
  · refine tx_bc0 hc hn (br_t rfl (br_f k1 (br_f k3 (tx_ba0 ha hl (br_t rfl ⟨hc4, br_t h0 (tx_pc d2 ?_)⟩)))))
    by_cases hf : ne + tc_cnt ph nc < 64
    · have f1 : nI (ne + tc_cnt ph nc) < 64 := nI_lt (b := 64) hf (by omega)
      have f2 : nI ne + nI (tc_cnt ph nc) < 64 := by rw [nI_add]; exact f1
      refine br_t f2 ?_
      by_cases q : v2 = 1
      · exact br_t q (tc_is hI hk hc ha hkd h0 hf (fun r u' h => ty_bc0 hc hn (br_t rfl (br_f k1 (br_f k3 (ty_ba0 ha hl (br_t rfl ⟨hc4, br_t h0 (ty_49 d2 (fun n => br_t (Int32.le_refl _) (br_t f1 (br_t q h))))⟩)))))))
      · exact br_f q (tc_is hI hk hc ha hkd h0 hf (fun r u' h => ty_bc0 hc hn (br_t rfl (br_f k1 (br_f k3 (ty_ba0 ha hl (br_t rfl ⟨hc4, br_t h0 (ty_49 d2 (fun n => br_t (Int32.le_refl _) (br_t f1 (br_f q h))))⟩)))))))
    · have f1 : ¬ nI (ne + tc_cnt ph nc) < 64 := nI_nlt (b := 64) (by omega) (by omega)
      have f2 : ¬ nI ne + nI (tc_cnt ph nc) < 64 := by rw [nI_add]; exact f1
      exact br_f f2 (ty_bc0 hc hn (br_t rfl (br_f k1 (br_f k3 (ty_ba0 ha hl (br_t rfl ⟨hc4, br_t h0 (ty_49 d2 (fun n => br_t (Int32.le_refl _) (br_f f1 ⟨rfl, hU⟩)))⟩))))))
  · exact tx_bc0 hc hn (br_t rfl (br_f k1 (br_f k3 (tx_ba0 ha hl (br_t rfl ⟨hc4, br_f h0 (ty_bc0 hc hn (br_t rfl (br_f k1 (br_f k3 (ty_ba0 ha hl (br_t rfl ⟨hc4, br_f h0 ⟨rfl, hU⟩⟩))))))⟩)))))
end
end
section
theorem tc_end : True := trivial
end
