/-! the digest: a number for each told number, in order -/
def dg (s : Int64) (f : Nat → Int32) : Nat → Int64
  | 0 => s
  | k + 1 => dg s f k * 31 + (f k).toInt64
def dgr (s : Int64) (F : Nat → Nat → Int32) (m : Nat) : Nat → Int64
  | 0 => s
  | i + 1 => dg (dgr s F m i) (F i) m
def dtk (s : Int64) (G : Nat → Nat → Int32) (n : Nat → Nat) (F : Nat → Nat → Nat → Int32) : Nat → Int64
  | 0 => s
  | t + 1 => dgr (dg (dtk s G n F t) (G t) 9) (F t) 10 (n t)
theorem dg_congr {s s' : Int64} {f g : Nat → Int32} (hs : s = s') : ∀ m, (∀ k, k < m → f k = g k) → dg s f m = dg s' g m := by
  intro m
  induction m with
  | zero => intro _; exact hs
  | succ m ih =>
    intro h
    simp only [dg]
    rw [ih (fun k hk => h k (by omega)), h m (by omega)]
theorem dgr_congr {s s' : Int64} {F G : Nat → Nat → Int32} (hs : s = s') (m : Nat) : ∀ i, (∀ j, j < i → ∀ k, k < m → F j k = G j k) → dgr s F m i = dgr s' G m i := by
  intro i
  induction i with
  | zero => intro _; exact hs
  | succ i ih =>
    intro h
    simp only [dgr]
    exact dg_congr (ih (fun j hj => h j (by omega))) m (h i (by omega))
theorem dtk_congr {s s' : Int64} {G G' : Nat → Nat → Int32} {n n' : Nat → Nat} {F F' : Nat → Nat → Nat → Int32} (hs : s = s') : ∀ t, (∀ j, j < t → n j = n' j ∧ (∀ k, k < 9 → G j k = G' j k) ∧ ∀ q, q < n j → ∀ k, k < 10 → F j q k = F' j q k) → dtk s G n F t = dtk s' G' n' F' t := by
  intro t
  induction t with
  | zero => intro _; exact hs
  | succ t ih =>
    intro h
    simp only [dtk]
    obtain ⟨h1, h2, h3⟩ := h t (by omega)
    rw [← h1]
    exact dgr_congr (dg_congr (ih (fun j hj => h j (by omega))) 9 h2) 10 _ h3
