/-! the labels of parts: one sweep over the seams, and what it leaves -/
def nup (f : Nat → Nat) (a v : Nat) : Nat → Nat := fun j => if j = a then v else f j
def psum (f : Nat → Nat) : Nat → Nat
  | 0 => 0
  | k + 1 => psum f k + f k
def psw (g : Nat → Nat) (a b : Nat) : Nat → Nat := nup (nup g a (min (g a) (g b))) b (min (g a) (g b))
def plp (c n : Nat) (B : Nat → Int32) (f : Nat → Nat) : Nat → Nat → Nat
  | 0 => f
  | k + 1 => if opn c n B (k / 2) (k % 2) = true then psw (plp c n B f k) (k / 2) (oft c (k / 2) (k % 2)) else plp c n B f k
def pch (c n : Nat) (B : Nat → Int32) (f : Nat → Nat) : Nat → Int32
  | 0 => 0
  | k + 1 => if opn c n B (k / 2) (k % 2) = true then (if ¬ pch c n B f k = 0 ∨ ¬ plp c n B f k (k / 2) = plp c n B f k (oft c (k / 2) (k % 2)) then 1 else 0) else pch c n B f k
theorem psum_le {f g : Nat → Nat} (h : ∀ j, g j ≤ f j) : ∀ n, psum g n ≤ psum f n := by
  intro n
  induction n with
  | zero => exact Nat.le_refl _
  | succ n ih =>
    have := h n
    simp only [psum]
    omega
theorem psum_lt {f g : Nat → Nat} (h : ∀ j, g j ≤ f j) {i : Nat} (hi : g i < f i) : ∀ n, i < n → psum g n < psum f n := by
  intro n
  induction n with
  | zero => intro h0; exact absurd h0 (Nat.not_lt_zero _)
  | succ n ih =>
    intro hn
    have h1 := h n
    simp only [psum]
    by_cases e : i = n
    · subst e
      have := psum_le h i
      omega
    · have := ih (by omega)
      omega
theorem psw_le (g : Nat → Nat) (a b j : Nat) : psw g a b j ≤ g j := by
  unfold psw nup
  by_cases h1 : j = b
  · subst h1; rw [if_pos rfl]; exact Nat.min_le_right _ _
  · rw [if_neg h1]
    by_cases h2 : j = a
    · subst h2; rw [if_pos rfl]; exact Nat.min_le_left _ _
    · rw [if_neg h2]; exact Nat.le_refl _
theorem psw_id {g : Nat → Nat} {a b : Nat} (h : g a = g b) : psw g a b = g := by
  funext j
  unfold psw nup
  rw [h, Nat.min_self]
  by_cases h1 : j = b
  · rw [if_pos h1, h1]
  · rw [if_neg h1]
    by_cases h2 : j = a
    · rw [if_pos h2, h2, h]
    · rw [if_neg h2]
theorem psw_lt {g : Nat → Nat} {a b n : Nat} (h : ¬ g a = g b) (ha : a < n) (hb : b < n) : psum (psw g a b) n < psum g n := by
  rcases Nat.lt_or_ge (g a) (g b) with h1 | h1
  · refine psum_lt (psw_le g a b) (i := b) ?_ n hb
    unfold psw nup
    rw [if_pos rfl, Nat.min_eq_left (by omega)]
    exact h1
  · have hab : a ≠ b := fun e => h (by rw [e])
    refine psum_lt (psw_le g a b) (i := a) ?_ n ha
    unfold psw nup
    rw [if_neg hab, if_pos rfl, Nat.min_eq_right h1]
    omega
theorem plp_le (c n : Nat) (B : Nat → Int32) (f : Nat → Nat) (k j : Nat) : plp c n B f k j ≤ f j := by
  induction k with
  | zero => exact Nat.le_refl _
  | succ k ih =>
    simp only [plp]
    by_cases h : opn c n B (k / 2) (k % 2) = true
    · rw [if_pos h]; exact Nat.le_trans (psw_le _ _ _ _) ih
    · rw [if_neg h]; exact ih
theorem plp_sum (c n : Nat) (B : Nat → Int32) (f : Nat → Nat) (k : Nat) : psum (plp c n B f k) n ≤ psum f n := psum_le (fun j => plp_le c n B f k j) n
/-- no change: the labels are as before, and alike over each open pair; a change: their sum is less -/
theorem pch_spec {c r n : Nat} {B : Nat → Int32} {f : Nat → Nat} (hn : n = c * r) (hc : 1 ≤ c) : ∀ k, k ≤ 2 * n → (pch c n B f k = 0 → plp c n B f k = f ∧ ∀ i, i < k → opn c n B (i / 2) (i % 2) = true → f (i / 2) = f (oft c (i / 2) (i % 2))) ∧ (¬ pch c n B f k = 0 → psum (plp c n B f k) n < psum f n) := by
  intro k
  induction k with
  | zero => exact fun _ => ⟨fun _ => ⟨rfl, fun i hi => absurd hi (Nat.not_lt_zero _)⟩, fun h => absurd rfl h⟩
  | succ k ih =>
    intro hk
    obtain ⟨i1, i2⟩ := ih (by omega)
    simp only [plp, pch]
    by_cases h : opn c n B (k / 2) (k % 2) = true
    · rw [if_pos h, if_pos h]
      have hq : k / 2 < n := by omega
      have hp := (oft_lt hn hc hq (opn_x h).1).1
      by_cases h1 : ¬ pch c n B f k = 0 ∨ ¬ plp c n B f k (k / 2) = plp c n B f k (oft c (k / 2) (k % 2))
      · rw [if_pos h1]
        refine ⟨fun e => absurd e (by decide), fun _ => ?_⟩
        by_cases h2 : plp c n B f k (k / 2) = plp c n B f k (oft c (k / 2) (k % 2))
        · rw [psw_id h2]
          exact i2 (by rcases h1 with h1 | h1; exact h1; exact absurd h2 h1)
        · exact Nat.lt_of_lt_of_le (psw_lt h2 hq hp) (plp_sum c n B f k)
      · rw [if_neg h1]
        have h3 : pch c n B f k = 0 := Decidable.byContradiction fun q => h1 (Or.inl q)
        have h4 : plp c n B f k (k / 2) = plp c n B f k (oft c (k / 2) (k % 2)) := Decidable.byContradiction fun q => h1 (Or.inr q)
        refine ⟨fun _ => ?_, fun e => absurd rfl e⟩
        obtain ⟨j1, j2⟩ := i1 h3
        rw [psw_id h4]
        refine ⟨j1, fun i hi ho => ?_⟩
        by_cases e : i = k
        · subst e; rw [j1] at h4; exact h4
        · exact j2 i (by omega) ho
    · rw [if_neg h, if_neg h]
      refine ⟨fun e => ?_, i2⟩
      obtain ⟨j1, j2⟩ := i1 e
      refine ⟨j1, fun i hi ho => ?_⟩
      by_cases e2 : i = k
      · subst e2; exact absurd ho h
      · exact j2 i (by omega) ho
