/-! one tick becomes another -/
def nb (x : Int32) : Int32 := vp_nar .boolean x
def bcX (V : fb_V) (b e n : Nat) : fb_V := fun q => if q < n then cpn 6 (V (e + 2 * q)) (V (b + 2 * q)) else V (b + 2 * q)
theorem bcX_0 (V : fb_V) (b e : Nat) : bcX V b e 0 = fun q => V (b + 2 * q) := by funext q; simp [bcX]
theorem bcX_i (V : fb_V) (b e i : Nat) : bcX V b e i i = V (b + 2 * i) := by simp [bcX]
theorem bcX_s (V : fb_V) (b e i : Nat) : va_up (bcX V b e i) i (cpn 6 (V (e + 2 * i)) (V (b + 2 * i))) = bcX V b e (i + 1) := by
  funext q
  by_cases h : q = i
  · subst h; rw [va_up_self]; unfold bcX; rw [if_pos (by omega)]
  · rw [va_up_ne _ _ h]
    unfold bcX
    by_cases h2 : q < i
    · rw [if_pos h2, if_pos (by omega)]
    · rw [if_neg h2, if_neg (by omega)]
def cpb (i : Nat) (a b : Nat → Int32) : Nat → Int32 := fun k => if k < i then nb (a k) else b k
theorem cpb_0 (a b : Nat → Int32) : cpb 0 a b = b := by funext k; simp [cpb]
theorem cpb_u (i : Nat) (a b : Nat → Int32) : upd (cpb i a b) i (nb (a i)) = cpb (i + 1) a b := by
  funext k
  by_cases h : k = i
  · subst h; simp [upd, cpb]
  · simp only [upd, cpb, if_neg h]
    by_cases h2 : k < i
    · rw [if_pos h2, if_pos (by omega)]
    · rw [if_neg h2, if_neg (by omega)]
