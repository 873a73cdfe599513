/-- the reference's blowing: of the sack i, the sizes below k done, and of the size k the chambers below c -/
def blx (I : fb_V) (o i : Nat) : Nat → Int32 := fun k => I (o + 1) (6 * i + k)
def blt (I : fb_V) (o i : Nat) : Nat → Int32 := fun k => flm (I o 4) (nI k) (I (o + 2) i)
def blC (x tt f : Nat → Int32) (k c : Nat) : Nat → Int32 := fun j => if j < 30 ∧ (j % 6 < k ∨ (j % 6 = k ∧ j / 6 < c)) then f j + brn (x (j % 6)) (tt (j % 6)) (nI (j / 6)) else f j
def blH (x tt f : Nat → Int32) (i k : Nat) : Nat → Int32 := fun j => if 6 * i ≤ j ∧ j < 6 * i + k then brn (x (j - 6 * i)) (tt (j - 6 * i)) (-1) else f j
def bly (x tt : Nat → Int32) (y0 : Int32) : Nat → Int32
  | 0 => y0
  | k + 1 => bly x tt y0 k + brn (x k) (tt k) 5
def bli (x tt : Nat → Int32) (s0 : Int32) (k : Nat) : Nat → Int32
  | 0 => s0
  | c + 1 => bli x tt s0 k c + brn (x k) (tt k) (nI c)
def bls (x tt : Nat → Int32) : Nat → Int32
  | 0 => 0
  | k + 1 => bli x tt (bls x tt k) k 5
theorem blC_00 (x tt f : Nat → Int32) : blC x tt f 0 0 = f := by
  funext j; unfold blC; rw [if_neg (by omega)]
theorem blC_5 (x tt f : Nat → Int32) (k : Nat) : blC x tt f k 5 = blC x tt f (k + 1) 0 := by
  funext j; unfold blC
  by_cases h : j < 30 ∧ (j % 6 < k ∨ (j % 6 = k ∧ j / 6 < 5))
  · rw [if_pos h, if_pos (by omega)]
  · rw [if_neg h, if_neg (by omega)]
theorem blC_i (x tt f : Nat → Int32) {k c : Nat} (hk : k < 6) : blC x tt f k c (6 * c + k) = f (6 * c + k) := by
  unfold blC; rw [if_neg (by omega)]
theorem blC_s (x tt f : Nat → Int32) {k c : Nat} (hk : k < 6) (hc : c < 5) : upd (blC x tt f k c) (6 * c + k) (f (6 * c + k) + brn (x k) (tt k) (nI c)) = blC x tt f k (c + 1) := by
  funext j
  by_cases h : j = 6 * c + k
  · subst h
    simp only [upd, if_true, blC]
    rw [if_pos (by omega), show (6 * c + k) % 6 = k by omega, show (6 * c + k) / 6 = c by omega]
  · simp only [upd, if_neg h, blC]
    by_cases h2 : j < 30 ∧ (j % 6 < k ∨ (j % 6 = k ∧ j / 6 < c))
    · rw [if_pos h2, if_pos (by omega)]
    · rw [if_neg h2, if_neg (by omega)]
theorem blH_0 (x tt f : Nat → Int32) (i : Nat) : blH x tt f i 0 = f := by
  funext j; unfold blH; rw [if_neg (by omega)]
theorem blH_i (x tt f : Nat → Int32) (i k : Nat) : blH x tt f i k (6 * i + k) = f (6 * i + k) := by
  unfold blH; rw [if_neg (by omega)]
theorem blH_s (x tt f : Nat → Int32) (i k : Nat) : upd (blH x tt f i k) (6 * i + k) (brn (x k) (tt k) (-1)) = blH x tt f i (k + 1) := by
  funext j
  by_cases h : j = 6 * i + k
  · subst h
    simp only [upd, if_true, blH]
    rw [if_pos (by omega), show 6 * i + k - 6 * i = k by omega]
  · simp only [upd, if_neg h, blH]
    by_cases h2 : 6 * i ≤ j ∧ j < 6 * i + k
    · rw [if_pos h2, if_pos (by omega)]
    · rw [if_neg h2, if_neg (by omega)]
def swn (a b : Nat → Int32) (k : Nat) : Int32 := mn (a k) (500 - b k)
def swa (a b : Nat → Int32) (n : Nat) : Nat → Int32 := fun k => if k < n then a k - swn a b k else a k
def swb (a b : Nat → Int32) (n : Nat) : Nat → Int32 := fun k => if k < n then b k + swn a b k else b k
def sws (a b : Nat → Int32) : Nat → Int32
  | 0 => 0
  | k + 1 => sws a b k + swn a b k
theorem swa_0 (a b : Nat → Int32) : swa a b 0 = a := by funext k; simp [swa]
theorem swb_0 (a b : Nat → Int32) : swb a b 0 = b := by funext k; simp [swb]
theorem bk_at (f v : Nat → Int32) (q : Nat) {k : Nat} (h : k < 6) : bk f q v (6 * q + k) = v k := by
  unfold bk; rw [if_pos (by omega)]; congr 1; omega
theorem bk_u (f : Nat → Int32) (q : Nat) {v w : Nat → Int32} {k : Nat} (h : k < 6) {z : Int32} (hz : w k = z) (hw : ∀ j, j ≠ k → w j = v j) : upd (bk f q v) (6 * q + k) z = bk f q w := by
  funext j
  by_cases hj : j = 6 * q + k
  · subst hj; rw [bk_at f w q h]; simp [upd, hz]
  · simp only [upd, if_neg hj, bk]
    by_cases h2 : 6 * q ≤ j ∧ j < 6 * q + 6
    · rw [if_pos h2, if_pos h2, hw _ (by omega)]
    · rw [if_neg h2, if_neg h2]
/-- the best wind, as the reference looks for it: of n strengths -/
def bsm (v : Nat → Int32) (st dm p : Int32) : Nat → Int32
  | 0 => 0
  | k + 1 => bsm v st dm p k + brn (v k) (flm st (nI k) dm) p
def bim (v : Nat → Int32) (st dm p : Int32) (z n : Nat) : Int32 := if z < n then brn (v z) (flm st (nI z) dm) p else 0
def bwm (v : Nat → Int32) (dm p : Int32) (z : Nat) : Nat → Int32 × Int32 × Int32
  | 0 => (-1, 0, 1)
  | n + 1 => if (bwm v dm p z n).2.1 * bsm v (nI (n + 1)) dm p 6 < bim v (nI (n + 1)) dm p z 6 * (bwm v dm p z n).2.2 then (nI (n + 1), bim v (nI (n + 1)) dm p z 6, bsm v (nI (n + 1)) dm p 6) else bwm v dm p z n
