/-! nights: bounds, and a night that changes nothing -/
def BX (X : fb_V) : Prop := ∀ q, q < 36 → Bd (X q) 300
theorem BX.tz {X : fb_V} (h : BX X) : TZ X := fun q hq => (h q hq).tz
theorem pkX_B {d : Nat} (hd : d ≤ 9) {X : fb_V} (h : BX X) : BX (pkX (nI d) X 36) := fun q hq => by
  unfold pkX
  rw [if_pos hq]
  exact (PKB hd (h q hq)).1
theorem pkS_B {d : Nat} (hd : d ≤ 9) {X : fb_V} (h : BX X) : ∀ n, n ≤ 36 → ∃ t, t ≤ 300 * n ∧ pkS (nI d) X n = nI t ∧ (t = 0 → ∀ q, q < n → pkv (nI d) (X q) 6 = X q)
  | 0, _ => ⟨0, Nat.le_refl _, rfl, fun _ q hq => absurd hq (Nat.not_lt_zero _)⟩
  | n + 1, hn => by
    obtain ⟨t, h1, h2, h3⟩ := pkS_B hd h n (by omega)
    obtain ⟨-, u, g1, g2, g3⟩ := PKB hd (h n (by omega))
    refine ⟨t + u, by omega, ?_, fun h0 q hq => ?_⟩
    · show pkS (nI d) X n + pkl (nI d) (X n) 6 = _
      rw [h2, g2, nI_add]
    · by_cases e : q = n
      · rw [e]; exact g3 (by omega)
      · exact h3 (by omega) q (by omega)
theorem shs_B {c r n : Nat} {B : Nat → Int32} {X : fb_V} (hn : n = c * r) (hc : 1 ≤ c) (h36 : n ≤ 36) (h : BX X) : ∀ k, k ≤ 2 * n → BX (shs c n B X k).1 ∧ ∃ t, t ≤ 40 * k ∧ (shs c n B X k).2 = nI t ∧ (t = 0 → ∀ q, q < 36 → (shs c n B X k).1 q = X q)
  | 0, _ => ⟨h, 0, Nat.le_refl _, rfl, fun _ _ _ => rfl⟩
  | k + 1, hk => by
    obtain ⟨b1, t, b2, b3, b4⟩ := shs_B (B := B) hn hc h36 h k (by omega)
    show BX (if opn c n B (k / 2) (k % 2) = true then _ else _ : fb_V × Int32).1 ∧ ∃ t, t ≤ 40 * (k + 1) ∧ (if opn c n B (k / 2) (k % 2) = true then _ else _ : fb_V × Int32).2 = nI t ∧ (t = 0 → ∀ q, q < 36 → (if opn c n B (k / 2) (k % 2) = true then _ else _ : fb_V × Int32).1 q = X q)
    by_cases ho : opn c n B (k / 2) (k % 2) = true
    · rw [if_pos ho]
      have h1 := oft_lt hn hc (show k / 2 < n by omega) (opn_x ho).1
      have e1 := b1 (k / 2) (by omega)
      have e2 := b1 (oft c (k / 2) (k % 2)) (by omega)
      obtain ⟨g1, g2, u, g3, g4, g5⟩ := HHB e1 e2
      refine ⟨fun q hq => ?_, t + u, by omega, ?_, fun h0 q hq => ?_⟩
      · show Bd (va_up (va_up (shs c n B X k).1 _ _) _ _ q) 300
        by_cases x1 : q = oft c (k / 2) (k % 2)
        · rw [x1, va_up_self]; exact g2
        · rw [va_up_ne _ _ x1]
          by_cases x2 : q = k / 2
          · rw [x2, va_up_self]; exact g1
          · rw [va_up_ne _ _ x2]; exact b1 q hq
      · show (shs c n B X k).2 + _ = _
        rw [b3, g4, nI_add]
      · obtain ⟨g6, g7⟩ := g5 (by omega)
        show va_up (va_up (shs c n B X k).1 _ _) _ _ q = X q
        rw [g6, g7]
        by_cases x1 : q = oft c (k / 2) (k % 2)
        · rw [x1, va_up_self]; exact b4 (by omega) _ (by omega)
        · rw [va_up_ne _ _ x1]
          by_cases x2 : q = k / 2
          · rw [x2, va_up_self]; exact b4 (by omega) _ (by omega)
          · rw [va_up_ne _ _ x2]; exact b4 (by omega) q hq
    · rw [if_neg ho]
      exact ⟨b1, t, by omega, b3, b4⟩
theorem ngs_B {c r n d : Nat} {B : Nat → Int32} {X : fb_V} (hn : n = c * r) (hc : 1 ≤ c) (h36 : n ≤ 36) (hd : d ≤ 9) (h : BX X) : ∀ z, BX (ngs c n d B X z)
  | 0 => h
  | z + 1 => (shs_B hn hc h36 (pkX_B hd (ngs_B hn hc h36 hd h z)) (2 * n) (Nat.le_refl _)).1
/-- what no night changes, no night after it does -/
theorem NF_B {c r n d : Nat} {B : Nat → Int32} {X : fb_V} (hn : n = c * r) (hc : 1 ≤ c) (h36 : n ≤ 36) (hd : d ≤ 9) (h : BX X) (z : Nat) : NF c n d B X z := fun i hi h1 h2 => by
  have hB := ngs_B (B := B) (d := d) hn hc h36 hd h i
  obtain ⟨t, t1, t2, t3⟩ := pkS_B hd hB 36 (Nat.le_refl _)
  have t0 : t = 0 := (nI_eq (by omega) (by decide)).mp (t2.symm.trans (h1.trans nI_0.symm))
  have hX (q : Nat) (hq : q < 36) : pkX (nI d) (ngs c n d B X i) 36 q = ngs c n d B X i q := by
    unfold pkX
    rw [if_pos hq]
    exact t3 t0 q hq
  obtain ⟨-, u, u1, u2, u3⟩ := shs_B (B := B) hn hc h36 (pkX_B hd hB) (2 * n) (Nat.le_refl _)
  have u0 : u = 0 := (nI_eq (by omega) (by decide)).mp (u2.symm.trans (h2.trans nI_0.symm))
  have hS (q : Nat) (hq : q < 36) : ngs c n d B X (i + 1) q = ngs c n d B X i q := (u3 u0 q hq).trans (hX q hq)
  have all : ∀ k, (∀ q, q < 36 → ngs c n d B X (i + 1 + k) q = ngs c n d B X i q) ∧ ngl c n d B X (i + 1 + k) = ngl c n d B X (i + 1) := by
    intro k
    induction k with
    | zero => exact ⟨hS, rfl⟩
    | succ k ih =>
      have e1 : ∀ q, q < 36 → ngs c n d B X (i + 1 + k + 1) q = ngs c n d B X i q := fun q hq => by
        have := (shs_cg (B := B) (C := B) hn hc h36 (fun _ _ => rfl) (pkX_cg (d := nI d) ih.1) (2 * n) (Nat.le_refl _)).1 q hq
        exact this.trans (hS q hq)
      refine ⟨e1, ?_⟩
      show ngl c n d B X (i + 1 + k) + pkS (nI d) (ngs c n d B X (i + 1 + k)) 36 = _
      rw [pkS_x ih.1, h1, ih.2]
      exact Int32.add_zero _
  obtain ⟨a1, a2⟩ := all (z - (i + 1))
  rw [show i + 1 + (z - (i + 1)) = z by omega] at a1 a2
  exact ⟨a2.symm, fun q hq => (hS q hq).trans (a1 q hq).symm⟩
/-! the reference's nights over a row are the nights of its squares -/
def FZ (f : Nat → Int32) (n : Nat) : Prop := ∀ k, 6 * n ≤ k → f k = 0
theorem FZ_mx {f : Nat → Int32} {n q : Nat} (h : FZ f n) (hq : n ≤ q) : mx f q = fun _ => 0 := by
  funext k
  unfold mx
  split
  · exact h _ (by omega)
  · rfl
theorem pkv_z0 (d : Int32) : pkv d (fun _ => 0) 6 = fun _ => 0 := by
  funext j
  unfold pkv
  split
  · unfold pkn
    split
    · rfl
    · rw [Int32.zero_mul]; rfl
  · rfl
theorem pkl_z0 (d : Int32) : ∀ n, pkl d (fun _ => 0) n = 0
  | 0 => rfl
  | n + 1 => by
    show pkl d (fun _ => 0) n + pkn d (fun _ => 0) n = 0
    rw [pkl_z0 d n]
    unfold pkn
    split
    · rfl
    · rw [Int32.zero_mul]; rfl
theorem pq_pkn (d : Int32) (f : Nat → Int32) (q : Nat) {k : Nat} (h : k < 6) : pq d f (6 * q + k) = pkn d (mx f q) k := by
  unfold pq pkn
  rw [show (6 * q + k) % 6 = k by omega, mx_k f q h]
theorem fpk_mx (d : Int32) {f : Nat → Int32} {n : Nat} (h : FZ f n) (q : Nat) : mx (fpk d f (6 * n)) q = pkv d (mx f q) 6 := by
  by_cases hq : q < n
  · funext k
    show (if k < 6 then fpk d f (6 * n) (6 * q + k) else 0) = (if k < 6 then mx f q k + -pkn d (mx f q) k else mx f q k)
    by_cases hk : k < 6
    · rw [if_pos hk, if_pos hk, mx_k f q hk]
      unfold fpk
      rw [if_pos (by omega), pq_pkn d f q hk, Int32.sub_eq_add_neg]
    · rw [if_neg hk, if_neg hk]
      exact (mx_tz f q k (by omega)).symm
  · rw [FZ_mx h (by omega), pkv_z0]
    refine FZ_mx (n := n) (fun k hk => ?_) (by omega)
    unfold fpk
    rw [if_neg (by omega)]
    exact h k hk
theorem FZ_fpk {d : Int32} {f : Nat → Int32} {n : Nat} (h : FZ f n) : FZ (fpk d f (6 * n)) n := fun k hk => by
  unfold fpk
  rw [if_neg (by omega)]
  exact h k hk
