/-! a night's sums -/
def gsum (f : Nat → Int32) : Nat → Int32
  | 0 => 0
  | n + 1 => gsum f n + f n
theorem gsum_cg {f g : Nat → Int32} : ∀ n, (∀ q, q < n → f q = g q) → gsum f n = gsum g n
  | 0, _ => rfl
  | n + 1, h => by
    show gsum f n + f n = gsum g n + g n
    rw [gsum_cg n (fun q hq => h q (by omega)), h n (by omega)]
theorem gsum_up {f g : Nat → Int32} {i : Nat} : ∀ n, i < n → (∀ j, j < n → j ≠ i → g j = f j) → gsum g n = gsum f n + (g i - f i)
  | 0, hi, _ => absurd hi (Nat.not_lt_zero _)
  | n + 1, hi, h => by
    show gsum g n + g n = gsum f n + f n + _
    by_cases e : i = n
    · subst e
      rw [gsum_cg i (fun j hj => h j (by omega) (by omega))]
      exact al1 _ _ _
    · rw [gsum_up n (by omega) (fun j hj hne => h j (by omega) hne), h n (by omega) (fun z => e z.symm)]
      exact al2 _ _ _
theorem gsum_2 {f g : Nat → Int32} {a b : Nat} (n : Nat) (ha : a < n) (hb : b < n) (hne : a ≠ b) (h : ∀ j, j < n → j ≠ a → j ≠ b → g j = f j) (he : g a + g b = f a + f b) : gsum g n = gsum f n := by
  have h1 := gsum_up (f := f) (g := fun j => if j = a then g a else f j) (i := a) n ha (fun j _ hj => if_neg hj)
  have h2 := gsum_up (f := fun j => if j = a then g a else f j) (g := g) (i := b) n hb (fun j hj hjb => by
    by_cases e : j = a
    · rw [if_pos e, e]
    · rw [if_neg e]
      exact h j hj e hjb)
  rw [if_pos rfl] at h1
  rw [if_neg (Ne.symm hne)] at h2
  rw [h2, h1]
  grind
theorem gsum_sub (f g : Nat → Int32) : ∀ n, gsum (fun q => f q - g q) n = gsum f n - gsum g n
  | 0 => by show (0 : Int32) = 0 - 0; decide
  | n + 1 => by
    show gsum (fun q => f q - g q) n + (f n - g n) = gsum f n + f n - (gsum g n + g n)
    rw [gsum_sub f g n]
    grind
theorem fsum_gs (X : fb_V) : ∀ n, fsum X n = gsum (fun q => s6 (X q)) n
  | 0 => rfl
  | n + 1 => by
    show fsum X n + s6 (X n) = gsum (fun q => s6 (X q)) n + s6 (X n)
    rw [fsum_gs X n]
theorem hfs (x y : Nat → Int32) (j : Nat) : hff x y j + hss x y j = x j + y j := by
  unfold hff hss
  by_cases h : hdf x y ≤ 0
  · rw [if_pos h, if_pos h]
    unfold mva mvb
    by_cases h2 : j < 2
    · rw [if_pos h2, if_pos h2]; grind
    · rw [if_neg h2, if_neg h2]
  · rw [if_neg h, if_neg h]
    unfold mva mvb
    by_cases h2 : j < 2
    · rw [if_pos h2, if_pos h2]; grind
    · rw [if_neg h2, if_neg h2]
theorem hf2 (x y : Nat → Int32) {j : Nat} (hj : 2 ≤ j) : hff x y j = x j ∧ hss x y j = y j := by
  unfold hff hss
  by_cases h : hdf x y ≤ 0
  · rw [if_pos h, if_pos h]
    unfold mva mvb
    exact ⟨if_neg (by omega), if_neg (by omega)⟩
  · rw [if_neg h, if_neg h]
    unfold mva mvb
    exact ⟨if_neg (by omega), if_neg (by omega)⟩
theorem hf6 (x y : Nat → Int32) : s6 (hff x y) + s6 (hss x y) = s6 x + s6 y := by
  have h0 := hfs x y 0
  have h1 := hfs x y 1
  have h2 := hfs x y 2
  have h3 := hfs x y 3
  have h4 := hfs x y 4
  have h5 := hfs x y 5
  unfold s6
  grind
theorem shs_sum {c r n : Nat} {B : Nat → Int32} {X : fb_V} (hn : n = c * r) (hc : 1 ≤ c) (f : (Nat → Int32) → Int32) (hf : ∀ x y, f (hff x y) + f (hss x y) = f x + f y) (m : Nat) (hm : n ≤ m) : ∀ k, k ≤ 2 * n → gsum (fun q => f ((shs c n B X k).1 q)) m = gsum (fun q => f (X q)) m
  | 0, _ => rfl
  | k + 1, hk => by
    rw [← shs_sum (B := B) (X := X) hn hc f hf m hm k (by omega)]
    show gsum (fun q => f ((if opn c n B (k / 2) (k % 2) = true then _ else _ : fb_V × Int32).1 q)) m = _
    by_cases ho : opn c n B (k / 2) (k % 2) = true
    · rw [if_pos ho]
      have h1 := oft_lt hn hc (show k / 2 < n by omega) (opn_x ho).1
      refine gsum_2 m (a := k / 2) (b := oft c (k / 2) (k % 2)) (by omega) (by omega) (by omega) (fun j hj ha hb => ?_) ?_
      · show f (va_up (va_up _ _ _) _ _ j) = _
        rw [va_up_ne _ _ hb, va_up_ne _ _ ha]
      · show f (va_up (va_up _ _ _) _ _ (k / 2)) + f (va_up (va_up _ _ _) _ _ (oft c (k / 2) (k % 2))) = _
        rw [va_up_ne _ _ (show k / 2 ≠ oft c (k / 2) (k % 2) by omega), va_up_self, va_up_self]
        exact hf _ _
    · rw [if_neg ho]
theorem shs_ge2 {c n : Nat} {B : Nat → Int32} {X : fb_V} {j : Nat} (hj : 2 ≤ j) : ∀ k q, (shs c n B X k).1 q j = X q j
  | 0, _ => rfl
  | k + 1, q => by
    rw [← shs_ge2 (c := c) (n := n) (B := B) (X := X) hj k q]
    show (if opn c n B (k / 2) (k % 2) = true then _ else _ : fb_V × Int32).1 q j = _
    by_cases ho : opn c n B (k / 2) (k % 2) = true
    · rw [if_pos ho]
      show (va_up (va_up _ _ _) _ _ : fb_V) q j = _
      by_cases e : q = oft c (k / 2) (k % 2)
      · rw [e, va_up_self]
        exact (hf2 _ _ hj).2
      · rw [va_up_ne _ _ e]
        by_cases e2 : q = k / 2
        · rw [e2, va_up_self]
          exact (hf2 _ _ hj).1
        · rw [va_up_ne _ _ e2]
    · rw [if_neg ho]
theorem shs_keep {c n : Nat} {B : Nat → Int32} {X : fb_V} {q : Nat} (h : ∀ i, i < 2 * n → opn c n B (i / 2) (i % 2) = true → i / 2 ≠ q ∧ oft c (i / 2) (i % 2) ≠ q) : ∀ k, k ≤ 2 * n → (shs c n B X k).1 q = X q
  | 0, _ => rfl
  | k + 1, hk => by
    rw [← shs_keep (X := X) h k (by omega)]
    show (if opn c n B (k / 2) (k % 2) = true then _ else _ : fb_V × Int32).1 q = _
    by_cases ho : opn c n B (k / 2) (k % 2) = true
    · rw [if_pos ho]
      have h1 := h k (by omega) ho
      show va_up (va_up _ _ _) _ _ q = _
      rw [va_up_ne _ _ (Ne.symm h1.2), va_up_ne _ _ (Ne.symm h1.1)]
    · rw [if_neg ho]
theorem shs_beyond {c r n : Nat} {B : Nat → Int32} {X : fb_V} (hn : n = c * r) (hc : 1 ≤ c) {q : Nat} (hq : n ≤ q) (k : Nat) (hk : k ≤ 2 * n) : (shs c n B X k).1 q = X q :=
  shs_keep (fun i hi ho => by
    have := oft_lt hn hc (show i / 2 < n by omega) (opn_x ho).1
    omega) k hk
/-- a square that no open seam touches -/
def Tc (c n : Nat) (B : Nat → Int32) (q m : Nat) : Prop := ob c n B q 0 ≠ 1 ∧ ob c n B q 1 ≠ 1 ∧ ∀ z, z < m → (z + 1 = q → ob c n B z 0 ≠ 1) ∧ (z + c = q → ob c n B z 1 ≠ 1)
theorem Tc.keep {c n : Nat} {B : Nat → Int32} {X : fb_V} {q : Nat} (h : Tc c n B q n) (k : Nat) (hk : k ≤ 2 * n) : (shs c n B X k).1 q = X q :=
  shs_keep (fun i hi ho => by
    have hob : ob c n B (i / 2) (i % 2) = 1 := if_pos ho
    obtain ⟨h1, h2, h3⟩ := h
    have h4 := h3 (i / 2) (by omega)
    rcases Nat.mod_two_eq_zero_or_one i with e | e
    · rw [e] at hob ⊢
      refine ⟨fun z => h1 (by rw [← z]; exact hob), fun z => h4.1 ?_ hob⟩
      exact z
    · rw [e] at hob ⊢
      refine ⟨fun z => h2 (by rw [← z]; exact hob), fun z => h4.2 ?_ hob⟩
      exact z) k hk
theorem Tc.s {c n : Nat} {B : Nat → Int32} {q m : Nat} (h : Tc c n B q m) (h1 : m + 1 = q → ob c n B m 0 ≠ 1) (h2 : m + c = q → ob c n B m 1 ≠ 1) : Tc c n B q (m + 1) :=
  ⟨h.1, h.2.1, fun z hz => by
    by_cases e : z = m
    · rw [e]; exact ⟨h1, h2⟩
    · exact h.2.2 z (by omega)⟩
/-! pricking -/
theorem pkl_s6 (d : Int32) (v : Nat → Int32) : s6 (pkv d v 6) = s6 v - pkl d v 6 := by
  have h (j : Nat) (hj : j < 6) : pkv d v 6 j = v j + -pkn d v j := if_pos hj
  have e : pkl d v 6 = 0 + pkn d v 0 + pkn d v 1 + pkn d v 2 + pkn d v 3 + pkn d v 4 + pkn d v 5 := rfl
  unfold s6
  rw [e, h 0 (by decide), h 1 (by decide), h 2 (by decide), h 3 (by decide), h 4 (by decide), h 5 (by decide)]
  grind
theorem pk_fsum (d : Int32) (X : fb_V) : ∀ m, m ≤ 36 → fsum (pkX d X 36) m = fsum X m - pkS d X m
  | 0, _ => by show (0 : Int32) = 0 - 0; decide
  | m + 1, hm => by
    show fsum (pkX d X 36) m + s6 (pkX d X 36 m) = fsum X m + s6 (X m) - (pkS d X m + pkl d (X m) 6)
    rw [pk_fsum d X m (by omega), show pkX d X 36 m = pkv d (X m) 6 from if_pos (by omega), pkl_s6]
    grind
theorem ngt_fsum {c r n d : Nat} {B : Nat → Int32} {X : fb_V} (hn : n = c * r) (hc : 1 ≤ c) (h36 : n ≤ 36) : fsum (ngt c n d B X) 36 = fsum X 36 - pkS (nI d) X 36 := by
  rw [← pk_fsum (nI d) X 36 (Nat.le_refl _), fsum_gs, fsum_gs]
  exact shs_sum hn hc s6 hf6 36 h36 (2 * n) (Nat.le_refl _)
theorem ngl_1 (c n d : Nat) (B : Nat → Int32) (X : fb_V) : ngl c n d B X 1 = pkS (nI d) X 36 := by
  show 0 + pkS (nI d) X 36 = _
  exact Int32.zero_add _
theorem pk_law (d : Int32) (v : Nat → Int32) (k : Nat) : v k + -pkn d v k = v k - v k * (if 0 < 2 * nI k - d then 2 * nI k - d else 0) / 30 := by
  unfold pkn
  by_cases h : 2 * nI k - d ≤ 0
  · rw [if_pos h, if_neg (Int32.not_lt.mpr h), Int32.mul_zero, show (0 : Int32) / 30 = 0 from by decide]
    grind
  · rw [if_neg h, if_pos (Int32.not_le.mp h)]
    grind
theorem ngt_2 {c n d : Nat} {B : Nat → Int32} {X : fb_V} {q j : Nat} (hq : q < 36) (h2 : 2 ≤ j) (h6 : j < 6) : ngt c n d B X q j = X q j - X q j * (if 0 < 2 * nI j - nI d then 2 * nI j - nI d else 0) / 30 := by
  rw [← pk_law]
  unfold ngt
  rw [shs_ge2 h2]
  unfold pkX
  rw [if_pos hq]
  exact if_pos h6
theorem ngt_t0 {c n d : Nat} {B : Nat → Int32} {X : fb_V} {q : Nat} (hd : d ≤ 9) (hq : q < 36) (h : Tc c n B q n) : ngt c n d B X q 0 = X q 0 ∧ ngt c n d B X q 1 = X q 1 - X q 1 * (if 0 < 2 - nI d then 2 - nI d else 0) / 30 := by
  have e : ngt c n d B X q = pkv (nI d) (X q) 6 := by
    unfold ngt
    rw [h.keep _ (Nat.le_refl _)]
    exact if_pos hq
  rw [e]
  refine ⟨?_, ?_⟩
  · show (if 0 < 6 then X q 0 + -pkn (nI d) (X q) 0 else _) = _
    rw [if_pos (by decide), pkn_0 hd]
    grind
  · show (if 1 < 6 then X q 1 + -pkn (nI d) (X q) 1 else _) = _
    rw [if_pos (by decide), pk_law]
    rfl
theorem ngt_g0 {c r n d : Nat} {B : Nat → Int32} {X : fb_V} (hn : n = c * r) (hc : 1 ≤ c) (h36 : n ≤ 36) (hd : d ≤ 9) : gsum (fun q => ngt c n d B X q 0) n = gsum (fun q => X q 0) n := by
  refine (shs_sum hn hc (fun v => v 0) (fun x y => hfs x y 0) n (Nat.le_refl _) (2 * n) (Nat.le_refl _)).trans (gsum_cg n (fun q hq => ?_))
  show pkX (nI d) X 36 q 0 = X q 0
  unfold pkX
  rw [if_pos (by omega)]
  show (if 0 < 6 then X q 0 + -pkn (nI d) (X q) 0 else _) = _
  rw [if_pos (by decide), pkn_0 hd]
  grind
theorem ngt_g1 {c r n d : Nat} {B : Nat → Int32} {X : fb_V} (hn : n = c * r) (hc : 1 ≤ c) (h36 : n ≤ 36) (hd : d ≤ 9) (h1 : 1 < d) : gsum (fun q => ngt c n d B X q 1) n = gsum (fun q => X q 1) n := by
  refine (shs_sum hn hc (fun v => v 1) (fun x y => hfs x y 1) n (Nat.le_refl _) (2 * n) (Nat.le_refl _)).trans (gsum_cg n (fun q hq => ?_))
  show pkX (nI d) X 36 q 1 = X q 1
  unfold pkX
  rw [if_pos (by omega)]
  show (if 1 < 6 then X q 1 + -pkn (nI d) (X q) 1 else _) = _
  have e : pkn (nI d) (X q) 1 = 0 := if_pos ((pk2 (k := 1) (by decide) hd).2 (fun z => by
    rw [show (2 : Int32) * nI 1 = nI 2 from rfl] at z
    have h9 : d < 2 := (nI_ltI (a := d) (b := 2) (by omega) (by decide)).mp z
    omega))
  rw [if_pos (by decide), e]
  grind
theorem ngt_z {c r n d : Nat} {B : Nat → Int32} {X : fb_V} (hn : n = c * r) (hc : 1 ≤ c) {q : Nat} (h1 : n ≤ q) (hq : q < 36) (h : X q = fun _ => 0) : ngt c n d B X q = fun _ => 0 := by
  unfold ngt
  rw [shs_beyond hn hc h1 _ (Nat.le_refl _)]
  unfold pkX
  rw [if_pos hq, h, pkv_z0]
/-! the coldest, and how long a tick lasts -/
theorem wm_900 (v : Nat → Int32) : ¬ 900 < wm v := by
  unfold wm mn
  by_cases h : (900 : Int32) < wsum v 6
  · rw [if_pos h]
    decide
  · rw [if_neg h]
    exact h
theorem cld_min (X : fb_V) : ∀ n q, q < n → wm (X (cld X n)) ≤ wm (X q)
  | 0, _, h => absurd h (Nat.not_lt_zero _)
  | n + 1, q, hq => by
    show wm (X (if wm (X (cld X n)) ≤ wm (X n) then cld X n else n)) ≤ wm (X q)
    by_cases h : wm (X (cld X n)) ≤ wm (X n)
    · rw [if_pos h]
      by_cases e : q = n
      · rw [e]; exact h
      · exact cld_min X n q (by omega)
    · rw [if_neg h]
      by_cases e : q = n
      · rw [e]; exact Int32.le_refl _
      · exact Int32.le_trans (Int32.le_of_lt (Int32.not_le.mp h)) (cld_min X n q (by omega))
theorem ngs_1 (c n d : Nat) (B : Nat → Int32) (X : fb_V) : ∀ k, ngs c n d B X (k + 1) = ngs c n d B (ngt c n d B X) k
  | 0 => rfl
  | k + 1 => by
    show ngt c n d B (ngs c n d B X (k + 1)) = ngt c n d B (ngs c n d B (ngt c n d B X) k)
    rw [ngs_1 c n d B X k]
def LsP (W : Nat → Int32) (v : Int32) : Prop := ∃ k, k ≤ 200 ∧ (∀ j, j < k → ¬ W j < nI 40) ∧ (k < 200 → W k < nI 40) ∧ v = (if W k < nI 40 then nI k else -1)
theorem ls_1 {W W' : Nat → Int32} {v v' : Int32} (h : LsP W v) (h' : LsP W' v') (e : ∀ j, W' j = W (j + 1)) (h1 : ¬ v ≤ 1) (h2 : ¬ 200 ≤ v) : v' = v - 1 := by
  obtain ⟨k, k1, k2, k3, k4⟩ := h
  obtain ⟨z, z1, z2, z3, z4⟩ := h'
  by_cases hW : W k < nI 40
  · rw [if_pos hW] at k4
    have g1 : 1 < k := by
      rcases Nat.lt_or_ge 1 k with h | h
      · exact h
      · exact absurd (by rw [k4]; exact nI_le (a := k) (b := 1) h (by omega)) h1
    have g2 : k < 200 := by
      rcases Nat.lt_or_ge k 200 with h | h
      · exact h
      · exact absurd (by rw [k4]; exact nI_le (a := 200) (b := k) h (by omega)) h2
    have hz : z + 1 = k := by
      rcases Nat.lt_trichotomy (z + 1) k with h | h | h
      · have := z3 (by omega)
        rw [e z] at this
        exact absurd this (k2 _ h)
      · exact h
      · have := z2 (k - 1) (by omega)
        rw [e, show k - 1 + 1 = k by omega] at this
        exact absurd hW this
    have hz3 := z3 (by omega)
    rw [if_pos hz3] at z4
    rw [z4, k4, ← hz, ← nI_add, show nI 1 = (1 : Int32) from rfl]
    grind
  · rw [if_neg hW] at k4
    exact absurd (by rw [k4]; decide) h1
theorem ls_2 {W : Nat → Int32} {v : Int32} (h : LsP W v) (h1 : v = 1) : W 1 < nI 40 := by
  obtain ⟨k, k1, k2, k3, k4⟩ := h
  by_cases hW : W k < nI 40
  · rw [if_pos hW] at k4
    have : k = 1 := (nI_eq (by omega) (by decide)).mp (k4.symm.trans h1)
    rw [this] at hW
    exact hW
  · rw [if_neg hW] at k4
    exact absurd (k4.symm.trans h1) (by decide)
theorem ls_3 {W : Nat → Int32} {v : Int32} (h : LsP W v) (h1 : v = 0) : W 0 < nI 40 := by
  obtain ⟨k, k1, k2, k3, k4⟩ := h
  by_cases hW : W k < nI 40
  · rw [if_pos hW] at k4
    have : k = 0 := (nI_eq (by omega) (by decide)).mp (k4.symm.trans h1)
    rw [this] at hW
    exact hW
  · rw [if_neg hW] at k4
    exact absurd (k4.symm.trans h1) (by decide)
/-! bounds -/
theorem Bd.at_ {v : Nat → Int32} {N : Nat} (h : Bd v N) {k : Nat} (hk : k < 6) : ∃ a, a ≤ N ∧ v k = nI a := by
  obtain ⟨f, e, h2⟩ := h
  have := sm_le f hk
  exact ⟨f k, by omega, by rw [e, nv_k f hk]⟩
theorem Bd.s6 {v : Nat → Int32} {N : Nat} (h : Bd v N) : ∃ a, a ≤ N ∧ s6 v = nI a := by
  obtain ⟨f, e, h2⟩ := h
  exact ⟨sm f, h2, by rw [e, s6_nv]⟩
theorem csum_B {V : fb_V} {b N : Nat} : ∀ n, (∀ i, i < n → Bd (V (b + 2 * i)) N) → ∃ a, a ≤ n * N ∧ csum V b n = nI a
  | 0, _ => ⟨0, Nat.zero_le _, rfl⟩
  | n + 1, h => by
    obtain ⟨a, a1, a2⟩ := csum_B n (fun i hi => h i (by omega))
    obtain ⟨u, u1, u2⟩ := (h n (by omega)).s6
    refine ⟨a + u, by rw [Nat.add_mul]; omega, ?_⟩
    show csum V b n + _ = _
    rw [a2, u2, nI_add]
theorem fsum_B {X : fb_V} {N : Nat} : ∀ n, (∀ i, i < n → Bd (X i) N) → ∃ a, a ≤ n * N ∧ fsum X n = nI a
  | 0, _ => ⟨0, Nat.zero_le _, rfl⟩
  | n + 1, h => by
    obtain ⟨a, a1, a2⟩ := fsum_B n (fun i hi => h i (by omega))
    obtain ⟨u, u1, u2⟩ := (h n (by omega)).s6
    refine ⟨a + u, by rw [Nat.add_mul]; omega, ?_⟩
    show fsum X n + _ = _
    rw [a2, u2, nI_add]
theorem tsum_B {V : fb_V} : ∀ n, (∀ t, t < n → BX (tv V (300 + 72 * t))) → ∃ a, a ≤ n * 10800 ∧ tsum V n = nI a
  | 0, _ => ⟨0, Nat.zero_le _, rfl⟩
  | n + 1, h => by
    obtain ⟨a, a1, a2⟩ := tsum_B n (fun i hi => h i (by omega))
    obtain ⟨u, u1, u2⟩ := fsum_B 36 (h n (by omega))
    refine ⟨a + u, by rw [Nat.add_mul]; omega, ?_⟩
    show tsum V n + _ = _
    rw [a2, u2, nI_add]
theorem Iv.totB {a1 : Nat} {S : fb_Sh} {V I : fb_V} {ns nt N F : Nat} {rho cf rf df : Nat → Nat} (h : Iv a1 S V I ns nt rho cf rf df N F) (hN : N ≤ 600000) : ∃ T, T ≤ 4000000 ∧ tot V I ns nt = nI T := by
  obtain ⟨-, -, -, ⟨⟨-, y6, hy, ey⟩, hs, hc, ht, -⟩, g5, g6⟩ := h
  obtain ⟨a, a1, a2⟩ := csum_B (V := V) (b := 200) (N := 3000) ns (fun i hi => (hs i hi).2.1.Bd)
  obtain ⟨b, b1, b2⟩ := csum_B (V := V) (b := 100) (N := N) 5 (fun i hi => (hc i hi).2)
  obtain ⟨u, u1, u2⟩ := tsum_B (V := V) nt (fun t h9 => (ht t h9).2.1)
  refine ⟨a + b + u + y6, ?_, ?_⟩
  · have : ns * 3000 ≤ 4 * 3000 := Nat.mul_le_mul_right _ g5
    have : nt * 10800 ≤ 3 * 10800 := Nat.mul_le_mul_right _ g6
    omega
  · unfold tot
    rw [a2, b2, u2, ey, nI_add, nI_add, nI_add]
theorem fsum_more {X : fb_V} {n : Nat} : ∀ m, (∀ q, n ≤ q → q < m → X q = fun _ => 0) → n ≤ m → fsum X m = fsum X n
  | 0, _, hm => by rw [show n = 0 by omega]
  | m + 1, h, hm => by
    by_cases e : n = m + 1
    · rw [e]
    · show fsum X m + s6 (X m) = _
      rw [fsum_more m (fun q h1 h2 => h q h1 (by omega)) (by omega), h m (by omega) (by omega), s6_z0]
      exact Int32.add_zero _
theorem wsm_more {X : fb_V} {n : Nat} : ∀ m, (∀ q, n ≤ q → q < m → X q = fun _ => 0) → n ≤ m → wsm X m = wsm X n
  | 0, _, hm => by rw [show n = 0 by omega]
  | m + 1, h, hm => by
    by_cases e : n = m + 1
    · rw [e]
    · show wsm X m + wm (X m) = _
      rw [wsm_more m (fun q h1 h2 => h q h1 (by omega)) (by omega), h m (by omega) (by omega), wm_z0]
      exact Int32.add_zero _
