/-- each label is joined to its place by open pairs -/
def conn (c n : Nat) (B : Nat → Int32) (L : Nat → Nat) : Prop := ∀ R : Nat → Nat → Prop, (∀ a, R a a) → (∀ a b, R a b → R b a) → (∀ a b d, R a b → R b d → R a d) → (∀ i, i < 2 * n → opn c n B (i / 2) (i % 2) = true → R (i / 2) (oft c (i / 2) (i % 2))) → ∀ j, R j (L j)
theorem conn_id (c n : Nat) (B : Nat → Int32) : conn c n B (fun j => j) := fun _ h _ _ _ j => h j
theorem conn_plp {c n : Nat} {B : Nat → Int32} {f : Nat → Nat} (hf : conn c n B f) : ∀ k, k ≤ 2 * n → conn c n B (plp c n B f k) := by
  intro k
  induction k with
  | zero => intro _; exact hf
  | succ k ih =>
    intro hk R h1 h2 h3 h4 j
    have hg := ih (by omega) R h1 h2 h3 h4
    simp only [plp]
    by_cases h : opn c n B (k / 2) (k % 2) = true
    · rw [if_pos h]
      have hab := h4 k (by omega) h
      have key : ∀ z, (z = k / 2 ∨ z = oft c (k / 2) (k % 2)) → R z (min (plp c n B f k (k / 2)) (plp c n B f k (oft c (k / 2) (k % 2)))) := by
        intro z hz
        rcases Nat.le_total (plp c n B f k (k / 2)) (plp c n B f k (oft c (k / 2) (k % 2))) with hm | hm
        · rw [Nat.min_eq_left hm]
          rcases hz with rfl | rfl
          · exact hg _
          · exact h3 _ _ _ (h2 _ _ hab) (hg _)
        · rw [Nat.min_eq_right hm]
          rcases hz with rfl | rfl
          · exact h3 _ _ _ hab (hg _)
          · exact hg _
      unfold psw nup
      by_cases e1 : j = oft c (k / 2) (k % 2)
      · rw [if_pos e1]; exact key j (Or.inr e1)
      · rw [if_neg e1]
        by_cases e2 : j = k / 2
        · rw [if_pos e2]; exact key j (Or.inl e2)
        · rw [if_neg e2]; exact hg j
    · rw [if_neg h]; exact hg j
def lbl (n : Nat) (L : Nat → Nat) (h : Nat → Int32) : Nat → Int32 := fun j => if j < n then nI (L j) else h j
theorem lbl_lt {n : Nat} (L : Nat → Nat) (h : Nat → Int32) {j : Nat} (hj : j < n) : lbl n L h j = nI (L j) := if_pos hj
theorem lbl_up {n : Nat} (L : Nat → Nat) (h : Nat → Int32) {j v : Nat} (hj : j < n) : upd (lbl n L h) j (nI v) = lbl n (nup L j v) h := by
  funext k
  unfold upd lbl nup
  by_cases e : k = j
  · subst e; simp [hj]
  · simp [e]
theorem lbl_s (L : Nat → Nat) (h : Nat → Int32) (i : Nat) : upd (lbl i L h) i (nI (L i)) = lbl (i + 1) L h := by
  funext k
  unfold upd lbl
  by_cases e : k = i
  · subst e; simp
  · by_cases e2 : k < i
    · rw [if_neg e, if_pos e2, if_pos (by omega)]
    · rw [if_neg e, if_neg e2, if_neg (by omega)]
theorem lbl_0 (L : Nat → Nat) (h : Nat → Int32) : lbl 0 L h = h := by
  funext k
  exact if_neg (Nat.not_lt_zero _)
theorem nI_min {x y : Nat} (hx : x < 2 ^ 31) (hy : y < 2 ^ 31) : (if nI y < nI x then nI y else nI x) = nI (min x y) := by
  by_cases h : y < x
  · rw [if_pos ((nI_ltI hy hx).mpr h), Nat.min_eq_right (by omega)]
  · rw [if_neg (fun z => h ((nI_ltI hy hx).mp z)), Nat.min_eq_left (by omega)]
def pcnt (L : Nat → Nat) : Nat → Nat
  | 0 => 0
  | k + 1 => pcnt L k + (if L k = k then 1 else 0)
theorem pcnt_s (L : Nat → Nat) (k : Nat) : pcnt L (k + 1) = pcnt L k + (if L k = k then 1 else 0) := rfl
