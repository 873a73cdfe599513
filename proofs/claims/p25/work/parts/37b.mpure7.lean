theorem bk_out {f v : Nat → Int32} {q j : Nat} (h : ¬ (6 * q ≤ j ∧ j < 6 * q + 6)) : bk f q v j = f j := if_neg h
theorem fsh_out {c r n : Nat} {B f : Nat → Int32} (hn : n = c * r) (hc : 1 ≤ c) {j : Nat} (hj : 6 * n ≤ j) : ∀ k, k ≤ 2 * n → fsh c n B f k j = f j := by
  intro k
  induction k with
  | zero => intro _; rfl
  | succ k ih =>
    intro hk
    by_cases h : opn c n B (k / 2) (k % 2) = true
    · have hq : k / 2 < n := by omega
      have hp := (oft_lt hn hc hq (opn_x h).1).1
      rw [fsh_o _ _ _ _ h, bk_out (by omega), bk_out (by omega)]
      exact ih (by omega)
    · rw [fsh_n _ _ _ _ (by simpa using h)]
      exact ih (by omega)
theorem nif_out {c r n d : Nat} {B f : Nat → Int32} (hn : n = c * r) (hc : 1 ≤ c) {j : Nat} (hj : 6 * n ≤ j) : nif c n d B f j = f j := by
  unfold nif
  rw [fsh_out hn hc hj _ (Nat.le_refl _)]
  unfold fpk
  rw [if_neg (by omega)]
theorem ngf_out {c r n d : Nat} {B f : Nat → Int32} (hn : n = c * r) (hc : 1 ≤ c) {j : Nat} (hj : 6 * n ≤ j) (k : Nat) : ngf c n d B f k j = f j := by
  induction k with
  | zero => rfl
  | succ k ih => exact (nif_out hn hc hj).trans ih
theorem cpy_eq {f g : Nat → Int32} {n : Nat} (h : ∀ j, n ≤ j → g j = f j) : va_cpy f g 0 0 n = f := by
  funext j
  unfold va_cpy
  by_cases hj : 0 ≤ j ∧ j < 0 + n
  · rw [if_pos hj]
    congr 1
    omega
  · rw [if_neg hj]
    exact h j (by omega)
/-- the kept row laid back over what k nights made of it -/
theorem cpy_ngf {c r n d : Nat} {B f : Nat → Int32} (hn : n = c * r) (hc : 1 ≤ c) (k : Nat) : va_cpy f (ngf c n d B f k) 0 0 (6 * n) = f := cpy_eq fun _ hj => ngf_out hn hc hj k
theorem MdAt.new {S : fb_Sh} {o nt : Nat} {cf rf : Nat → Nat} (h : MdAt S o nt cf rf) (hn : nt ≤ 6) (q k n : Nat) : MdAt (fb_new S (o + 30) q k n) o nt cf rf := by
  have e1 : ∀ x, x ≠ o + 30 → sa (fb_new S (o + 30) q k n) x = sa S x := fun x hx => va_up_ne _ _ hx
  have e2 : ∀ x, x ≠ o + 30 → sk (fb_new S (o + 30) q k n) x = sk S x := fun x hx => va_up_ne _ _ hx
  have e3 : ∀ x, x ≠ o + 30 → sn (fb_new S (o + 30) q k n) x = sn S x := fun x hx => va_up_ne _ _ hx
  have e4 : ∀ x, x ≠ o + 30 → sp (fb_new S (o + 30) q k n) x = sp S x := fun x hx => va_up_ne _ _ hx
  have e5 : ∀ x, x ∈ sR S → x ∈ sR (fb_new S (o + 30) q k n) := fun x hx => List.mem_append_left _ hx
  unfold MdAt at h ⊢
  rw [e1 (o + 1) (by omega), e1 (o + 2) (by omega), e1 (o + 3) (by omega), e1 (o + 4) (by omega), e1 (o + 5) (by omega), e1 (o + 6) (by omega), e1 (o + 7) (by omega)]
  rw [e2 o (by omega), e2 (o + 1) (by omega), e2 (o + 2) (by omega), e2 (o + 3) (by omega), e2 (o + 4) (by omega), e2 (o + 5) (by omega), e2 (o + 6) (by omega), e2 (o + 7) (by omega)]
  rw [e3 (o + 1) (by omega), e3 (o + 2) (by omega), e3 (o + 3) (by omega), e3 (o + 4) (by omega), e3 (o + 5) (by omega), e3 (o + 6) (by omega), e3 (o + 7) (by omega), e4 o (by omega), e4 (o + 5) (by omega), e4 (o + 6) (by omega)]
  obtain ⟨⟨a1, a2⟩, b, ⟨c1, c2⟩, ⟨d1, d2⟩, ⟨f1, f2⟩, ⟨g1, g2⟩, ⟨h1, h2⟩, ⟨i1, i2⟩, ⟨j1, j2⟩, k0⟩ := h
  refine ⟨⟨e5 _ a1, a2⟩, b, ⟨e5 _ c1, c2⟩, ⟨e5 _ d1, d2⟩, ⟨e5 _ f1, f2⟩, ⟨e5 _ g1, g2⟩, ⟨e5 _ h1, h2⟩, ⟨e5 _ i1, i2⟩, ⟨e5 _ j1, j2⟩, fun t ht => ?_⟩
  rw [e1 (o + 10 + t) (by omega), e1 (o + 20 + t) (by omega), e2 (o + 10 + t) (by omega), e2 (o + 20 + t) (by omega), e3 (o + 10 + t) (by omega), e3 (o + 20 + t) (by omega)]
  obtain ⟨⟨p1, p2, p3⟩, ⟨q1, q2, q3⟩⟩ := k0 t ht
  exact ⟨⟨p1, e5 _ p2, p3⟩, ⟨q1, e5 _ q2, q3⟩⟩
