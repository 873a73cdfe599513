/-- six numbers written into a flat row -/
def bk (f : Nat → Int32) (q : Nat) (v : Nat → Int32) : Nat → Int32 := fun j => if 6 * q ≤ j ∧ j < 6 * q + 6 then v (j - 6 * q) else f j
def tz (v : Nat → Int32) : Prop := ∀ k, 6 ≤ k → v k = 0
theorem mx_tz (f : Nat → Int32) (q : Nat) : tz (mx f q) := fun k h => if_neg (by omega)
theorem mx_bk_e {f v : Nat → Int32} {q : Nat} (h : tz v) : mx (bk f q v) q = v := by
  funext k
  by_cases hk : k < 6
  · rw [mx_k _ _ hk]
    unfold bk
    rw [if_pos (by omega)]
    congr 1
    omega
  · rw [h k (by omega)]
    exact if_neg hk
theorem mx_bk_n {f v : Nat → Int32} {q p : Nat} (h : p ≠ q) : mx (bk f q v) p = mx f p := by
  funext k
  by_cases hk : k < 6
  · rw [mx_k _ _ hk, mx_k _ _ hk]
    unfold bk
    rw [if_neg (by omega)]
  · exact (if_neg hk).trans (if_neg hk).symm
theorem bk_id {f v : Nat → Int32} {q : Nat} (h : v = mx f q) : bk f q v = f := by
  subst h
  funext j
  unfold bk
  by_cases hj : 6 * q ≤ j ∧ j < 6 * q + 6
  · rw [if_pos hj, mx_k _ _ (by omega)]
    congr 1
    omega
  · rw [if_neg hj]
def mvI (I : fb_V) (a at_ b th : Nat) (m : Int32) (i : Nat) : fb_V := va_up (va_up I a (bk (I a) at_ (mva (mx (I a) at_) m i))) b (bk ((va_up I a (bk (I a) at_ (mva (mx (I a) at_) m i))) b) th (mvb (mx (I a) at_) (mx (I b) th) m i))
theorem mvI_0 (I : fb_V) {a at_ b th : Nat} (m : Int32) : mvI I a at_ b th m 0 = I := by
  unfold mvI
  rw [mva_0, mvb_0, bk_id rfl]
  rw [up_id I a _ rfl, bk_id rfl, up_id I b _ rfl]
theorem mvI_a (I : fb_V) {a at_ b th : Nat} (hd : a ≠ b ∨ at_ ≠ th) (m : Int32) {i : Nat} (hi : i < 6) : mvI I a at_ b th m i a (6 * at_ + i) = I a (6 * at_ + i) := by
  unfold mvI
  by_cases hab : a = b
  · subst hab
    have ht : at_ ≠ th := by omega
    rw [va_up_self, va_up_self]
    unfold bk
    rw [if_neg (by omega), if_pos (by omega), show 6 * at_ + i - 6 * at_ = i by omega, mva_i, mx_k _ _ hi]
  · rw [va_up_ne _ _ hab, va_up_self]
    unfold bk
    rw [if_pos (by omega), show 6 * at_ + i - 6 * at_ = i by omega, mva_i, mx_k _ _ hi]
theorem mvI_s (I : fb_V) {a at_ b th : Nat} (hd : a ≠ b ∨ at_ ≠ th) (m : Int32) {i : Nat} (hi : i < 6) (J : fb_V) (hJ : J = va_up (mvI I a at_ b th m i) a (upd (mvI I a at_ b th m i a) (6 * at_ + i) (I a (6 * at_ + i) - mvn (mx (I a) at_) m i))) : va_up J b (upd (J b) (6 * th + i) (J b (6 * th + i) + mvn (mx (I a) at_) m i)) = mvI I a at_ b th m (i + 1) := by
  subst hJ
  have e1 : ∀ k, mva (mx (I a) at_) m (i + 1) k = if k = i then I a (6 * at_ + i) - mvn (mx (I a) at_) m i else mva (mx (I a) at_) m i k := by
    intro k
    by_cases h : k = i
    · subst h; rw [if_pos rfl]; simp only [mva]; rw [if_pos (by omega), mx_k _ _ hi, Int32.sub_eq_add_neg]
    · rw [if_neg h]; simp only [mva]
      by_cases h2 : k < i
      · rw [if_pos h2, if_pos (by omega)]
      · rw [if_neg h2, if_neg (by omega)]
  have e2 : ∀ k, mvb (mx (I a) at_) (mx (I b) th) m (i + 1) k = if k = i then I b (6 * th + i) + mvn (mx (I a) at_) m i else mvb (mx (I a) at_) (mx (I b) th) m i k := by
    intro k
    by_cases h : k = i
    · subst h; rw [if_pos rfl]; simp only [mvb]; rw [if_pos (by omega), mx_k _ _ hi]
    · rw [if_neg h]; simp only [mvb]
      by_cases h2 : k < i
      · rw [if_pos h2, if_pos (by omega)]
      · rw [if_neg h2, if_neg (by omega)]
  have e3 : mvb (mx (I a) at_) (mx (I b) th) m i i = I b (6 * th + i) := by
    simp only [mvb]; rw [if_neg (by omega), mx_k _ _ hi]
  obtain ⟨A1, hA1⟩ : ∃ z, z = mva (mx (I a) at_) m (i + 1) := ⟨_, rfl⟩
  obtain ⟨B1, hB1⟩ : ∃ z, z = mvb (mx (I a) at_) (mx (I b) th) m (i + 1) := ⟨_, rfl⟩
  rw [← hA1] at e1
  rw [← hB1] at e2
  have gI : mvI I a at_ b th m (i + 1) = va_up (va_up I a (bk (I a) at_ A1)) b (bk ((va_up I a (bk (I a) at_ A1)) b) th B1) := by unfold mvI; rw [hA1, hB1]
  rw [gI]
  unfold mvI
  generalize mva (mx (I a) at_) m i = A0 at *
  generalize hB0 : mvb (mx (I a) at_) (mx (I b) th) m i = B0 at *
  generalize mvn (mx (I a) at_) m i = g at *
  clear gI hA1 hB1 hB0
  funext r j
  by_cases hab : a = b
  · subst hab
    by_cases hr : r = a
    · subst hr
      simp only [va_up_self, upd, bk]
      grind
    · simp only [va_up_ne _ _ hr]
  · by_cases hr : r = a
    · subst hr
      simp only [va_up_self, va_up_ne _ _ hab, upd, bk]
      grind
    · by_cases hb : r = b
      · subst hb
        simp only [va_up_self, va_up_ne _ _ hr, upd, bk]
        grind
      · simp only [va_up_ne _ _ hr, va_up_ne _ _ hb]
