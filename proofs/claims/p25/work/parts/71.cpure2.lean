/-! sweeping, blowing, the best wind, nights of all ticks: the component's own numbers -/
theorem swa_ch (a b : Nat → Int32) (k : Nat) : chv (swa a b k) k (-swn a b k) = swa a b (k + 1) := by
  funext j
  by_cases h : j = k
  · subst h
    simp only [chv, upd, if_true, swa]
    rw [if_neg (Nat.lt_irrefl _), if_pos (Nat.lt_succ_self _), Int32.sub_eq_add_neg]
  · simp only [chv, upd, if_neg h]
    exact (swa_n a b h).symm
theorem swb_ch (a b : Nat → Int32) (k : Nat) : chv (swb a b k) k (swn a b k) = swb a b (k + 1) := by
  funext j
  by_cases h : j = k
  · subst h
    simp only [chv, upd, if_true, swb]
    rw [if_neg (Nat.lt_irrefl _), if_pos (Nat.lt_succ_self _)]
  · simp only [chv, upd, if_neg h]
    exact (swb_n a b h).symm
theorem swa_i (a b : Nat → Int32) (k : Nat) : swa a b k k = a k := by simp [swa]
theorem swb_i (a b : Nat → Int32) (k : Nat) : swb a b k k = b k := by simp [swb]
/-- the chambers while a sack is blown: the sizes below k are done, of the size k the chambers below c -/
def bcV (V : fb_V) (x tt : Nat → Int32) (k c : Nat) : fb_V := fun h => if 100 ≤ h ∧ h < 110 ∧ h % 2 = 0 then (fun j => if j < 6 ∧ (j < k ∨ (j = k ∧ (h - 100) / 2 < c)) then V h j + brn (x j) (tt j) (nI ((h - 100) / 2)) else V h j) else V h
theorem bcV_00 (V : fb_V) (x tt : Nat → Int32) : bcV V x tt 0 0 = V := by
  funext h j
  unfold bcV
  by_cases c : 100 ≤ h ∧ h < 110 ∧ h % 2 = 0
  · rw [if_pos c]; exact if_neg (by omega)
  · rw [if_neg c]
theorem bcV_5 (V : fb_V) (x tt : Nat → Int32) (k : Nat) : bcV V x tt k 5 = bcV V x tt (k + 1) 0 := by
  funext h j
  unfold bcV
  by_cases c : 100 ≤ h ∧ h < 110 ∧ h % 2 = 0
  · rw [if_pos c, if_pos c]
    by_cases h2 : j < 6 ∧ (j < k ∨ (j = k ∧ (h - 100) / 2 < 5))
    · rw [if_pos h2, if_pos (by omega)]
    · rw [if_neg h2, if_neg (by omega)]
  · rw [if_neg c, if_neg c]
theorem bcV_s (V : fb_V) (x tt : Nat → Int32) {k c : Nat} (hk : k < 6) (hc : c < 5) : va_up (bcV V x tt k c) (100 + 2 * c) (chv (bcV V x tt k c (100 + 2 * c)) k (brn (x k) (tt k) (nI c))) = bcV V x tt k (c + 1) := by
  funext h j
  by_cases e : h = 100 + 2 * c
  · subst e
    have c1 : 100 ≤ 100 + 2 * c ∧ 100 + 2 * c < 110 ∧ (100 + 2 * c) % 2 = 0 := by omega
    have c3 : (100 + 2 * c - 100) / 2 = c := by omega
    rw [va_up_self]
    by_cases ej : j = k
    · subst ej
      simp only [chv, upd, if_true, bcV, if_pos c1, c3]
      rw [if_neg (show ¬ (j < 6 ∧ (j < j ∨ (True ∧ c < c))) by omega), if_pos (show j < 6 ∧ (j < j ∨ (True ∧ c < c + 1)) from ⟨hk, Or.inr ⟨trivial, Nat.lt_succ_self c⟩⟩)]
    · simp only [chv, upd, if_neg ej, bcV, if_pos c1, c3]
      by_cases h2 : j < 6 ∧ (j < k ∨ (j = k ∧ c < c))
      · rw [if_pos h2, if_pos (show j < 6 ∧ (j < k ∨ (j = k ∧ c < c + 1)) by omega)]
      · rw [if_neg h2, if_neg (show ¬ (j < 6 ∧ (j < k ∨ (j = k ∧ c < c + 1))) by omega)]
  · rw [va_up_ne _ _ e]
    unfold bcV
    by_cases c2 : 100 ≤ h ∧ h < 110 ∧ h % 2 = 0
    · rw [if_pos c2, if_pos c2]
      by_cases h2 : j < 6 ∧ (j < k ∨ (j = k ∧ (h - 100) / 2 < c))
      · rw [if_pos h2, if_pos (by omega)]
      · rw [if_neg h2, if_neg (by omega)]
    · rw [if_neg c2, if_neg c2]
theorem bcV_out (V : fb_V) (x tt : Nat → Int32) (k c : Nat) {h : Nat} (ho : ¬ (100 ≤ h ∧ h < 110)) : bcV V x tt k c h = V h := if_neg (fun z => ho ⟨z.1, z.2.1⟩)
/-- the memory while the sack i is blown -/
def blV (V : fb_V) (i : Nat) (x tt : Nat → Int32) (k c : Nat) : fb_V := va_up (bcV V x tt k c) (200 + 2 * i) (cpn k (fun j => brn (x j) (tt j) (-1)) x)
theorem blV_h (V : fb_V) (i : Nat) (x tt : Nat → Int32) (k c : Nat) : blV V i x tt k c (200 + 2 * i) = cpn k (fun j => brn (x j) (tt j) (-1)) x := va_up_self _ _ _
theorem blV_c (V : fb_V) {i : Nat} (hi : i < 12) (x tt : Nat → Int32) (k : Nat) {c q : Nat} (hq : q < 5) : blV V i x tt k c (100 + 2 * q) = bcV V x tt k c (100 + 2 * q) := va_up_ne _ _ (by omega)
theorem blV_0 (V : fb_V) (i : Nat) (tt : Nat → Int32) : blV V i (V (200 + 2 * i)) tt 0 0 = V := by
  unfold blV
  rw [bcV_00, cpn_0]
  exact up_id _ _ _ rfl
theorem blV_s (V : fb_V) {i : Nat} (hi : i < 12) (x tt : Nat → Int32) {k c : Nat} (hk : k < 6) (hc : c < 5) : va_up (blV V i x tt k c) (100 + 2 * c) (chv (blV V i x tt k c (100 + 2 * c)) k (brn (x k) (tt k) (nI c))) = blV V i x tt k (c + 1) := by
  rw [blV_c V hi x tt k hc]
  unfold blV
  rw [up_sw _ _ _ (show 200 + 2 * i ≠ 100 + 2 * c by omega), bcV_s V x tt hk hc]
theorem blV_n (V : fb_V) (i : Nat) (x tt : Nat → Int32) (k : Nat) : va_up (blV V i x tt k 5) (200 + 2 * i) (chv (blV V i x tt k 5 (200 + 2 * i)) k (brn (x k) (tt k) (-1) - x k)) = blV V i x tt (k + 1) 0 := by
  rw [blV_h]
  unfold blV
  rw [up_up, bcV_5]
  congr 1
  have e := cpn_s k (fun j => brn (x j) (tt j) (-1)) x
  rw [show cpn k (fun j => brn (x j) (tt j) (-1)) x k = x k from if_neg (Nat.lt_irrefl _)] at e
  exact e
/-- the best wind, as the class looks for it -/
def cbw (v : Nat → Int32) (dm p : Int32) (z : Nat) : Nat → Int32 × Int32 × Int32
  | 0 => (-1, 0, 1)
  | n + 1 => if brn (v z) (fl dm (nI z) (nI (n + 1))) p * (cbw v dm p z n).2.2 ≤ (cbw v dm p z n).2.1 * bsum v dm (nI (n + 1)) p 6 then cbw v dm p z n else (nI (n + 1), brn (v z) (fl dm (nI z) (nI (n + 1))) p, bsum v dm (nI (n + 1)) p 6)
/-- the nights of the ticks below t -/
def psV (V I : fb_V) (cf rf df : Nat → Nat) (z : Nat) : Nat → fb_V
  | 0 => V
  | t + 1 => stv (psV V I cf rf df z t) (300 + 72 * t) (ngs (cf t) (cf t * rf t) (df t) (I (30 + 4 * t + 2)) (tv V (300 + 72 * t)) z)
def psL (V I : fb_V) (cf rf df : Nat → Nat) (z : Nat) : Nat → Int32
  | 0 => 0
  | t + 1 => psL V I cf rf df z t + ngl (cf t) (cf t * rf t) (df t) (I (30 + 4 * t + 2)) (tv V (300 + 72 * t)) z
theorem psV_out (V I : fb_V) (cf rf df : Nat → Nat) (z t : Nat) {h : Nat} (ho : h < 300 ∨ 300 + 72 * t ≤ h) : psV V I cf rf df z t h = V h := by
  induction t with
  | zero => rfl
  | succ t ih =>
    show stv (psV V I cf rf df z t) (300 + 72 * t) _ h = _
    rw [stv_out _ _ _ (by omega)]
    exact ih (by omega)
