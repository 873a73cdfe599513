
theorem blK0 (I : fb_V) (o : Nat) : t0 I o = va_up (va_up (va_up (t0 I o) (o + 1) (I (o + 1))) (o + 3) (I (o + 3))) o (upd (t0 I o o) 11 (I o 11)) := by
  have e1 : va_up (t0 I o) (o + 1) (I (o + 1)) = t0 I o := up_id _ _ _ (t0_ne I (show o + 1 ≠ o by omega)).symm
  have e3 : va_up (t0 I o) (o + 3) (I (o + 3)) = t0 I o := up_id _ _ _ (t0_ne I (show o + 3 ≠ o by omega)).symm
  rw [e1, e3]
  refine (up_id _ _ _ ?_).symm
  funext j
  by_cases h : j = 11
  · subst h; simp [upd, t0, va_up]
  · simp [upd, h]
theorem blK3 (J : fb_V) (o : Nat) (a b g : Nat → Int32) {j : Nat} {v : Int32} {b' : Nat → Int32} (h : upd b j v = b') : va_up (va_up (va_up (va_up J (o + 1) a) (o + 3) b) o g) (o + 3) (upd ((va_up (va_up (va_up J (o + 1) a) (o + 3) b) o g) (o + 3)) j v) = va_up (va_up (va_up J (o + 1) a) (o + 3) b') o g := by
  rw [va_up_ne _ _ (show o + 3 ≠ o by omega), va_up_self, h, up_sw _ _ _ (show o ≠ o + 3 by omega), up_up]
theorem blK1 (J : fb_V) (o : Nat) (a b g : Nat → Int32) {j : Nat} {v : Int32} {a' : Nat → Int32} (h : upd a j v = a') : va_up (va_up (va_up (va_up J (o + 1) a) (o + 3) b) o g) (o + 1) (upd ((va_up (va_up (va_up J (o + 1) a) (o + 3) b) o g) (o + 1)) j v) = va_up (va_up (va_up J (o + 1) a') (o + 3) b) o g := by
  rw [va_up_ne _ _ (show o + 1 ≠ o by omega), va_up_ne _ _ (show o + 1 ≠ o + 3 by omega), va_up_self, h, up_sw _ _ _ (show o ≠ o + 1 by omega), up_sw _ _ _ (show o + 3 ≠ o + 1 by omega), up_up]
theorem upd_upd (f : Nat → Int32) (j : Nat) (v w : Int32) : upd (upd f j v) j w = upd f j w := by
  funext k
  by_cases h : k = j
  · simp [upd, h]
  · simp [upd, h]
theorem blK0s (J : fb_V) (o : Nat) (g : Nat → Int32) (v w z : Int32) (h : w = z) : va_up (va_up J o (upd g 11 v)) o (upd ((va_up J o (upd g 11 v)) o) 11 w) = va_up J o (upd g 11 z) := by
  rw [up_up, va_up_self, upd_upd, h]

theorem swK0 (I : fb_V) (o : Nat) : t0 I o = va_up (va_up (t0 I o) (o + 3) (I (o + 3))) (o + 1) (I (o + 1)) := by
  rw [up_id (t0 I o) (o + 3) _ (t0_ne I (show o + 3 ≠ o by omega)).symm, up_id (t0 I o) (o + 1) _ (t0_ne I (show o + 1 ≠ o by omega)).symm]
theorem swa_n (a b : Nat → Int32) {k j : Nat} (h : j ≠ k) : swa a b (k + 1) j = swa a b k j := by
  simp only [swa]
  by_cases h2 : j < k
  · rw [if_pos h2, if_pos (by omega)]
  · rw [if_neg h2, if_neg (by omega)]
theorem swb_n (a b : Nat → Int32) {k j : Nat} (h : j ≠ k) : swb a b (k + 1) j = swb a b k j := by
  simp only [swb]
  by_cases h2 : j < k
  · rw [if_pos h2, if_pos (by omega)]
  · rw [if_neg h2, if_neg (by omega)]
