/-! pure facts: first match, greatest, rank, count, bounded times -/
def tc_V (lk la : Nat → Int32) (adr : Int32) (j : Nat) : Prop := la j = adr ∧ ¬ lk j = 1
/-- r is f at the first j below n with P, or d if there is none -/
def tc_F1 (P : Nat → Prop) (f : Nat → Int32) (d : Int32) (n : Nat) (r : Int32) : Prop :=
  (∃ j, j < n ∧ P j ∧ (∀ i, i < j → ¬ P i) ∧ r = f j) ∨ ((∀ j, j < n → ¬ P j) ∧ r = d)
theorem tc_F1_ex (P : Nat → Prop) (f : Nat → Int32) (d : Int32) (n : Nat) : ∃ r, tc_F1 P f d n r := by
  induction n with
  | zero => exact ⟨d, Or.inr ⟨fun j hj => absurd hj (Nat.not_lt_zero j), rfl⟩⟩
  | succ n ih =>
    obtain ⟨r, h⟩ := ih
    cases h with
    | inl h =>
      obtain ⟨j, hj, hV, hf, e⟩ := h
      exact ⟨r, Or.inl ⟨j, Nat.lt_succ_of_lt hj, hV, hf, e⟩⟩
    | inr h =>
      obtain ⟨hf, e⟩ := h
      by_cases hm : P n
      · exact ⟨f n, Or.inl ⟨n, Nat.lt_succ_self n, hm, hf, rfl⟩⟩
      · refine ⟨r, Or.inr ⟨fun j hj => ?_, e⟩⟩
        by_cases hn : j = n
        · subst hn; exact hm
        · exact hf j (by omega)
theorem tc_F1_hit {P : Nat → Prop} {f : Nat → Int32} {d : Int32} {n : Nat} {r : Int32} (h : tc_F1 P f d n r) {i : Nat} (hi : i < n) (hV : P i) (hf : ∀ j, j < i → ¬ P j) : r = f i := by
  cases h with
  | inl h =>
    obtain ⟨j, hj, hV', hf', e⟩ := h
    by_cases h1 : j < i
    · exact absurd hV' (hf j h1)
    · by_cases h2 : i < j
      · exact absurd hV (hf' i h2)
      · have : j = i := by omega
        subst this; exact e
  | inr h => exact absurd hV (h.1 i hi)
theorem tc_F1_miss {P : Nat → Prop} {f : Nat → Int32} {d : Int32} {n : Nat} {r : Int32} (h : tc_F1 P f d n r) (hf : ∀ j, j < n → ¬ P j) : r = d := by
  cases h with
  | inl h =>
    obtain ⟨j, hj, hV', hf', e⟩ := h
    exact absurd hV' (hf j hj)
  | inr h => exact h.2
theorem tc_not_s {P : Nat → Prop} {i : Nat} (hf : ∀ j, j < i → ¬ P j) (h : ¬ P i) : ∀ j, j < i + 1 → ¬ P j := by
  intro j hj
  by_cases e : j = i
  · subst e; exact h
  · exact hf j (by omega)
def tc_FM (lk la lt lv : Nat → Int32) (adr w : Int32) (n : Nat) (r : Int32) : Prop := tc_F1 (fun j => tc_V lk la adr j ∧ lt j = w) lv 0 n r
/-- the greatest time of a version of the line among the first n entries, and its value -/
def tc_gr (lk la lt : Nat → Int32) (adr : Int32) : Nat → Int32
  | 0 => 0
  | n + 1 => if (la n = adr ∧ ¬ lk n = 1) ∧ tc_gr lk la lt adr n < lt n then lt n else tc_gr lk la lt adr n
def tc_gv (lk la lt lv : Nat → Int32) (adr : Int32) : Nat → Int32
  | 0 => 0
  | n + 1 => if (la n = adr ∧ ¬ lk n = 1) ∧ tc_gr lk la lt adr n < lt n then lv n else tc_gv lk la lt lv adr n
theorem tc_gr_t {lk la lt : Nat → Int32} {adr : Int32} {n : Nat} (h : la n = adr ∧ ¬ lk n = 1) (g : tc_gr lk la lt adr n < lt n) : tc_gr lk la lt adr (n + 1) = lt n := by
  rw [tc_gr, if_pos ⟨h, g⟩]
theorem tc_gr_f {lk la lt : Nat → Int32} {adr : Int32} {n : Nat} (h : ¬ ((la n = adr ∧ ¬ lk n = 1) ∧ tc_gr lk la lt adr n < lt n)) : tc_gr lk la lt adr (n + 1) = tc_gr lk la lt adr n := by
  rw [tc_gr, if_neg h]
theorem tc_gv_t {lk la lt lv : Nat → Int32} {adr : Int32} {n : Nat} (h : la n = adr ∧ ¬ lk n = 1) (g : tc_gr lk la lt adr n < lt n) : tc_gv lk la lt lv adr (n + 1) = lv n := by
  rw [tc_gv, if_pos ⟨h, g⟩]
theorem tc_gv_f {lk la lt lv : Nat → Int32} {adr : Int32} {n : Nat} (h : ¬ ((la n = adr ∧ ¬ lk n = 1) ∧ tc_gr lk la lt adr n < lt n)) : tc_gv lk la lt lv adr (n + 1) = tc_gv lk la lt lv adr n := by
  rw [tc_gv, if_neg h]
theorem tc_gr_ok (lk la lt lv : Nat → Int32) (adr : Int32) : ∀ n : Nat, (∀ i, i < n → ¬ lk i = 1 → ¬ lt i = 0) →
    (∀ j, j < n → tc_V lk la adr j → lt j ≤ tc_gr lk la lt adr n) ∧ (tc_gr lk la lt adr n = 0 ∨ ∃ j, j < n ∧ tc_V lk la adr j ∧ lt j = tc_gr lk la lt adr n) ∧ tc_FM lk la lt lv adr (tc_gr lk la lt adr n) n (tc_gv lk la lt lv adr n) := by
  intro n
  induction n with
  | zero =>
    intro _
    exact ⟨fun j hj => absurd hj (Nat.not_lt_zero j), Or.inl rfl, Or.inr ⟨fun j hj => absurd hj (Nat.not_lt_zero j), rfl⟩⟩
  | succ n ih =>
    intro hz
    obtain ⟨hb, hg, hfm⟩ := ih (fun i hi => hz i (Nat.lt_succ_of_lt hi))
    by_cases hc : (la n = adr ∧ ¬ lk n = 1) ∧ tc_gr lk la lt adr n < lt n
    · rw [tc_gr_t hc.1 hc.2, tc_gv_t hc.1 hc.2]
      refine ⟨fun j hj hV => ?_, Or.inr ⟨n, Nat.lt_succ_self n, hc.1, rfl⟩, Or.inl ⟨n, Nat.lt_succ_self n, ⟨hc.1, rfl⟩, fun i hi hm => ?_, rfl⟩⟩
      · by_cases hn : j = n
        · subst hn; exact Int32.le_refl _
        · exact Int32.le_trans (hb j (by omega) hV) (Int32.le_of_lt hc.2)
      · have h1 := hb i hi hm.1
        rw [hm.2] at h1
        exact absurd hc.2 (Int32.not_lt.mpr h1)
    · rw [tc_gr_f hc, tc_gv_f hc]
      refine ⟨fun j hj hV => ?_, ?_, ?_⟩
      · by_cases hn : j = n
        · subst hn
          exact Int32.not_lt.mp (fun hl => hc ⟨hV, hl⟩)
        · exact hb j (by omega) hV
      · cases hg with
        | inl h => exact Or.inl h
        | inr h =>
          obtain ⟨j, hj, hV, e⟩ := h
          exact Or.inr ⟨j, Nat.lt_succ_of_lt hj, hV, e⟩
      · cases hfm with
        | inl h =>
          obtain ⟨j, hj, hV', hf', e⟩ := h
          exact Or.inl ⟨j, Nat.lt_succ_of_lt hj, hV', hf', e⟩
        | inr h =>
          refine Or.inr ⟨fun j hj hm => ?_, h.2⟩
          by_cases hn : j = n
          · subst hn
            cases hg with
            | inl g0 => exact hz j (Nat.lt_succ_self j) hm.1.2 (hm.2.trans g0)
            | inr g1 =>
              obtain ⟨i, hi, hV, e⟩ := g1
              exact h.1 i hi ⟨hV, e⟩
          · exact h.1 j (by omega) hm
/-- the rank of entry i among the first n -/
def tc_rk (lt : Nat → Int32) (i : Nat) : Nat → Nat
  | 0 => 0
  | n + 1 => tc_rk lt i n + (if lt n < lt i ∨ (lt n = lt i ∧ n < i) then 1 else 0)
theorem tc_rk_t {lt : Nat → Int32} {i n : Nat} (h : lt n < lt i ∨ (lt n = lt i ∧ n < i)) : tc_rk lt i (n + 1) = tc_rk lt i n + 1 := by
  rw [tc_rk, if_pos h]
theorem tc_rk_f {lt : Nat → Int32} {i n : Nat} (h : ¬ (lt n < lt i ∨ (lt n = lt i ∧ n < i))) : tc_rk lt i (n + 1) = tc_rk lt i n := by
  rw [tc_rk, if_neg h]; exact Nat.add_zero _
theorem tc_rk_le (lt : Nat → Int32) (i n : Nat) : tc_rk lt i n ≤ n := by
  induction n with
  | zero => exact Nat.le_refl _
  | succ n ih =>
    by_cases h : lt n < lt i ∨ (lt n = lt i ∧ n < i)
    · rw [tc_rk_t h]; omega
    · rw [tc_rk_f h]; omega
theorem tc_rk_lt (lt : Nat → Int32) (i n : Nat) : i < n → tc_rk lt i n < n := by
  induction n with
  | zero => intro h; omega
  | succ n ih =>
    intro hi
    by_cases h : lt n < lt i ∨ (lt n = lt i ∧ n < i)
    · by_cases hn : i = n
      · subst hn
        cases h with
        | inl h => exact absurd h Int32.lt_irrefl
        | inr h => omega
      · rw [tc_rk_t h]
        have := ih (by omega)
        omega
    · rw [tc_rk_f h]
      have := tc_rk_le lt i n
      omega
/-- how many of the first n cells are not 0 -/
def tc_cnt (f : Nat → Int32) : Nat → Nat
  | 0 => 0
  | n + 1 => tc_cnt f n + (if f n = 0 then 0 else 1)
theorem tc_cnt_z {f : Nat → Int32} {n : Nat} (h : f n = 0) : tc_cnt f (n + 1) = tc_cnt f n := by
  rw [tc_cnt, if_pos h]; exact Nat.add_zero _
theorem tc_cnt_s {f : Nat → Int32} {n : Nat} (h : ¬ f n = 0) : tc_cnt f (n + 1) = tc_cnt f n + 1 := by
  rw [tc_cnt, if_neg h]
theorem tc_cnt_le (f : Nat → Int32) (n : Nat) : tc_cnt f n ≤ n := by
  induction n with
  | zero => exact Nat.le_refl _
  | succ n ih =>
    by_cases h : f n = 0
    · rw [tc_cnt_z h]; omega
    · rw [tc_cnt_s h]; omega
theorem tc_cnt_0 (n : Nat) : tc_cnt (fun _ => 0) n = 0 := by
  induction n with
  | zero => rfl
  | succ n ih => rw [tc_cnt_z rfl]; exact ih
theorem tc_us {f : Nat → Int32} {k : Nat} {x : Int32} : upd f k x k = x := if_pos rfl
theorem tc_un {f : Nat → Int32} {k j : Nat} {x : Int32} (h : j ≠ k) : upd f k x j = f j := if_neg h
theorem tc_cnt_un {f : Nat → Int32} {c : Nat} {x : Int32} (n : Nat) : n ≤ c → tc_cnt (upd f c x) n = tc_cnt f n := by
  induction n with
  | zero => intro _; rfl
  | succ n ih =>
    intro h
    have hn : upd f c x n = f n := tc_un (by omega)
    have i := ih (by omega)
    by_cases h0 : f n = 0
    · rw [tc_cnt_z h0, tc_cnt_z (hn.trans h0), i]
    · rw [tc_cnt_s h0, tc_cnt_s (by rw [hn]; exact h0), i]
theorem tc_cnt_pos {f : Nat → Int32} {c : Nat} (h : ¬ f c = 0) (n : Nat) : c < n → 1 ≤ tc_cnt f n := by
  induction n with
  | zero => intro h; omega
  | succ n ih =>
    intro hc
    by_cases hn : c = n
    · subst hn; rw [tc_cnt_s h]; omega
    · have i := ih (by omega)
      by_cases h0 : f n = 0
      · rw [tc_cnt_z h0]; exact i
      · rw [tc_cnt_s h0]; omega
theorem tc_cnt_in {f : Nat → Int32} {c : Nat} {x : Int32} (h : f c = 0) (hx : ¬ x = 0) (n : Nat) : c < n → tc_cnt (upd f c x) n = tc_cnt f n + 1 := by
  induction n with
  | zero => intro h; omega
  | succ n ih =>
    intro hc
    by_cases hn : c = n
    · subst hn
      rw [tc_cnt_z h, tc_cnt_s (by rw [tc_us]; exact hx), tc_cnt_un c (Nat.le_refl _)]
    · have i := ih (by omega)
      have hu : upd f c x n = f n := tc_un (by omega)
      by_cases h0 : f n = 0
      · rw [tc_cnt_z h0, tc_cnt_z (hu.trans h0), i]
      · rw [tc_cnt_s h0, tc_cnt_s (by rw [hu]; exact h0), i]
theorem tc_cnt_out {f : Nat → Int32} {c : Nat} {x : Int32} (h : ¬ f c = 0) (hx : x = 0) (n : Nat) : c < n → tc_cnt (upd f c x) n + 1 = tc_cnt f n := by
  induction n with
  | zero => intro h; omega
  | succ n ih =>
    intro hc
    by_cases hn : c = n
    · subst hn
      rw [tc_cnt_s h, tc_cnt_z (by rw [tc_us]; exact hx), tc_cnt_un c (Nat.le_refl _)]
    · have i := ih (by omega)
      have hu : upd f c x n = f n := tc_un (by omega)
      by_cases h0 : f n = 0
      · rw [tc_cnt_z h0, tc_cnt_z (hu.trans h0), i]
      · rw [tc_cnt_s h0, tc_cnt_s (by rw [hu]; exact h0), ← i]
theorem tc_cnt_eq {f : Nat → Int32} {c : Nat} {x : Int32} (h : ¬ f c = 0) (hx : ¬ x = 0) (n : Nat) : tc_cnt (upd f c x) n = tc_cnt f n := by
  induction n with
  | zero => rfl
  | succ n ih =>
    by_cases hn : n = c
    · subst hn
      rw [tc_cnt_s h, tc_cnt_s (by rw [tc_us]; exact hx), ih]
    · have hu : upd f c x n = f n := tc_un hn
      by_cases h0 : f n = 0
      · rw [tc_cnt_z h0, tc_cnt_z (hu.trans h0), ih]
      · rw [tc_cnt_s h0, tc_cnt_s (by rw [hu]; exact h0), ih]
/-- a time of at most B -/
def tc_t (B : Nat) (x : Int32) : Prop := ∃ t : Nat, t ≤ B ∧ x = nI t
def tc_T (B : Nat) (f : Nat → Int32) : Prop := ∀ i : Nat, tc_t B (f i)
theorem tc_t_up {B C : Nat} {x : Int32} (h : B ≤ C) (t : tc_t B x) : tc_t C x := by
  obtain ⟨n, hn, e⟩ := t
  exact ⟨n, by omega, e⟩
theorem tc_T_up {B C : Nat} {f : Nat → Int32} (h : B ≤ C) (t : tc_T B f) : tc_T C f := fun i => tc_t_up h (t i)
theorem tc_T_u {B : Nat} {f : Nat → Int32} {c : Nat} {x : Int32} (t : tc_T B f) (hx : tc_t B x) : tc_T B (upd f c x) := by
  intro i
  by_cases h : i = c
  · subst h; rw [tc_us]; exact hx
  · rw [tc_un h]; exact t i
theorem tc_t_add {B : Nat} {x : Int32} (n : Nat) (t : tc_t B x) : tc_t (B + n) (x + nI n) := by
  obtain ⟨m, hm, e⟩ := t
  exact ⟨m + n, by omega, by rw [e, nI_add]⟩
theorem tc_t_1 {B : Nat} {x : Int32} (t : tc_t B x) : tc_t (B + 1) (x + 1) := by
  obtain ⟨m, hm, e⟩ := t
  exact ⟨m + 1, by omega, by rw [e, nI_1]⟩
theorem tc_T_0 (B : Nat) : tc_T B (fun _ => 0) := fun _ => ⟨0, Nat.zero_le _, rfl⟩
/-- the larger of two -/
def tc_mx (x y : Int32) : Int32 := if x ≤ y then y else x
theorem tc_mx_t {x y : Int32} (h : x ≤ y) : tc_mx x y = y := if_pos h
theorem tc_mx_f {x y : Int32} (h : ¬ x ≤ y) : tc_mx x y = x := if_neg h
theorem tc_t_mx {B : Nat} {x y : Int32} (hx : tc_t B x) (hy : tc_t B y) : tc_t B (tc_mx x y) := by
  by_cases h : x ≤ y
  · rw [tc_mx_t h]; exact hy
  · rw [tc_mx_f h]; exact hx
theorem tc_mx_0 {B : Nat} {x y : Int32} (hB : B + 1 < 2 ^ 31) (hx : tc_t B x) (hy : tc_t B y) : ¬ tc_mx x (y + 1) = 0 := by
  obtain ⟨s, hs, rfl⟩ := hx
  obtain ⟨t, ht, rfl⟩ := hy
  rw [nI_1]
  by_cases h : nI s ≤ nI (t + 1)
  · rw [tc_mx_t h]; exact nI_ne0 (by omega) (by omega)
  · rw [tc_mx_f h]
    rw [nI_leI (by omega) (by omega)] at h
    exact nI_ne0 (by omega) (by omega)
theorem tc_mx_gr {lk la lt : Nat → Int32} {adr : Int32} {n : Nat} (h : la n = adr ∧ ¬ lk n = 1) : tc_mx (tc_gr lk la lt adr n) (lt n) = tc_gr lk la lt adr (n + 1) := by
  by_cases g : tc_gr lk la lt adr n < lt n
  · rw [tc_gr_t h g, tc_mx_t (Int32.le_of_lt g)]
  · rw [tc_gr_f (fun z => g z.2)]
    by_cases e : tc_gr lk la lt adr n ≤ lt n
    · rw [tc_mx_t e]
      exact Int32.le_antisymm (Int32.not_lt.mp g) e
    · rw [tc_mx_f e]
/-- clamping -/
def tc_cp (p lo hi : Int32) : Int32 := if lo ≤ p then (if p ≤ hi then p else hi) else lo
theorem tc_cpw {p lo hi : Int32} {F : Int32 → Prop} (h : F (tc_cp p lo hi)) : (lo ≤ p → ((p ≤ hi → F p) ∧ (¬ p ≤ hi → F hi))) ∧ (¬ lo ≤ p → F lo) := by
  unfold tc_cp at h
  by_cases h1 : lo ≤ p
  · rw [if_pos h1] at h
    by_cases h2 : p ≤ hi
    · rw [if_pos h2] at h; exact br_t h1 (br_t h2 h)
    · rw [if_neg h2] at h; exact br_t h1 (br_f h2 h)
  · rw [if_neg h1] at h; exact br_f h1 h
theorem tc_cp_r (p : Int32) {l h : Nat} (hl : l ≤ h) (hh : h < 2 ^ 31) : ∃ j : Nat, l ≤ j ∧ j ≤ h ∧ tc_cp p (nI l) (nI h) = nI j := by
  unfold tc_cp
  by_cases h1 : nI l ≤ p
  · rw [if_pos h1]
    by_cases h2 : p ≤ nI h
    · rw [if_pos h2]
      obtain ⟨j, hj, rfl⟩ := nI_of (x := p) (Int32.not_lt.mpr (Int32.le_trans (nI_pos' (n := l) (by omega)) h1))
      rw [nI_leI (by omega) hj] at h1
      rw [nI_leI hj hh] at h2
      exact ⟨j, h1, h2, rfl⟩
    · rw [if_neg h2]; exact ⟨h, hl, Nat.le_refl _, rfl⟩
  · rw [if_neg h1]; exact ⟨l, Nat.le_refl _, hl, rfl⟩
/-- the owners as the constructor's loop leaves them -/
def tc_ini : Nat → (Nat → Int32)
  | 0 => fun _ => 0
  | i + 1 => upd (tc_ini i) i (-1)
theorem tc_ini_m (i a : Nat) : a < i → tc_ini i a = -1 := by
  induction i with
  | zero => intro h; omega
  | succ i ih =>
    intro h
    show upd (tc_ini i) i (-1) a = -1
    by_cases e : a = i
    · subst e; exact tc_us
    · rw [tc_un e]; exact ih (by omega)
theorem tc_ix (x : Int32) {n : Nat} (hn : n < 2 ^ 31) : (x < 0 ∨ nI n ≤ x) ∨ ∃ j : Nat, j < n ∧ x = nI j := by
  by_cases h : x < 0
  · exact Or.inl (Or.inl h)
  · obtain ⟨j, hj, rfl⟩ := nI_of h
    by_cases h2 : nI n ≤ nI j
    · exact Or.inl (Or.inr h2)
    · rw [nI_leI hn hj] at h2
      exact Or.inr ⟨j, by omega, rfl⟩
