/-! numbers of a heap -/
def HeapAt (S : fb_Sh) (h : Nat) : Prop := h ∈ sR S ∧ sk S h = 0 ∧ sp S h 0 = some (sa S (h + 1)) ∧ h + 1 ∈ sR S ∧ sk S (h + 1) = 12 ∧ sn S (h + 1) = 6
theorem fb_in {x : Int32} {n : Nat} (hn : n < 2 ^ 31) (h0 : ¬ x < 0) (h1 : ¬ nI n ≤ x) : vp_in x n := by
  rcases pk_ix x hn with h | h | ⟨j, hj, rfl⟩
  · exact absurd h h0
  · exact absurd h h1
  · exact vp_in_nI hj hn
theorem fb_inS {S : fb_Sh} {r : Nat} {x : Int32} {n : Nat} (e : sn S r = n) (h : vp_in x n) : vp_in x (sn S r) := by rw [e]; exact h
def of6 (v : Nat → Int32) (p : Int32) : Int32 := if p < 0 then 0 else if nI 6 ≤ p then 0 else v p.toNatClampNeg
theorem of6_n (v : Nat → Int32) {k : Nat} (h : k < 6) : of6 v (nI k) = v k := by
  unfold of6
  rw [if_neg (nI_pos (by omega)), if_neg (nI_ge h (by omega)), nI_clamp (by omega)]
theorem of6_m1 (v : Nat → Int32) : of6 v (-1) = 0 := by
  unfold of6
  rw [if_pos (by decide)]
def chv (v : Nat → Int32) (k : Nat) (d : Int32) : Nat → Int32 := upd v k (v k + d)
theorem s6_ch (v : Nat → Int32) {k : Nat} (h : k < 6) (d : Int32) : s6 (chv v k d) = s6 v + d := by
  rcases (show k = 0 ∨ k = 1 ∨ k = 2 ∨ k = 3 ∨ k = 4 ∨ k = 5 by omega) with rfl | rfl | rfl | rfl | rfl | rfl <;> simp [s6, chv, upd] <;> ac_rfl
theorem sT_ch (V : fb_V) (q : Nat) {k : Nat} (h : k < 6) (d : Int32) : va_up (sT V) q (sT V q + d) = sT (va_up V q (chv (V q) k d)) := by
  funext x
  by_cases hx : x = q
  · subst hx
    rw [va_up_self]
    simp only [sT, va_up_self]
    exact (s6_ch _ h d).symm
  · rw [va_up_ne _ _ hx]
    simp only [sT, va_up_ne _ _ hx]
theorem ch_w {S : fb_Sh} {V I : fb_V} {q k : Nat} {d : Int32} (h : k < 6) : ((S, va_up V q (upd (V q) k (V q k + d)), va_up (sT V) q (sT V q + d), I) : fb_W) = (S, va_up V q (chv (V q) k d), sT (va_up V q (chv (V q) k d)), I) := by
  rw [sT_ch V q h d]
  rfl
theorem up_up {α : Type} (f : Nat → α) (k : Nat) (v w : α) : va_up (va_up f k v) k w = va_up f k w := bx_uu f k v w
theorem up_id {α : Type} (f : Nat → α) (k : Nat) (v : α) (h : v = f k) : va_up f k v = f := by
  funext x
  by_cases hx : x = k
  · subst hx; rw [va_up_self, h]
  · rw [va_up_ne _ _ hx]
theorem up_sw {α : Type} (f : Nat → α) {k j : Nat} (v w : α) (h : k ≠ j) : va_up (va_up f k v) j w = va_up (va_up f j w) k v := by
  funext x
  by_cases h1 : x = k
  · subst h1; rw [va_up_ne _ _ h, va_up_self, va_up_self]
  · by_cases h2 : x = j
    · subst h2; rw [va_up_self, va_up_ne _ _ h1, va_up_self]
    · rw [va_up_ne _ _ h2, va_up_ne _ _ h1, va_up_ne _ _ h1, va_up_ne _ _ h2]
def cpn (i : Nat) (a b : Nat → Int32) : Nat → Int32 := fun k => if k < i then a k else b k
theorem cpn_0 (a b : Nat → Int32) : cpn 0 a b = b := by funext k; simp [cpn]
theorem cpn_s (i : Nat) (a b : Nat → Int32) : chv (cpn i a b) i (a i - cpn i a b i) = cpn (i + 1) a b := by
  funext k
  by_cases h : k = i
  · subst h; simp [chv, upd, cpn]; rw [Int32.add_comm, Int32.sub_add_cancel]
  · simp only [chv, upd, cpn, if_neg h]
    by_cases h2 : k < i
    · rw [if_pos h2, if_pos (by omega)]
    · rw [if_neg h2, if_neg (by omega)]
def mn (x y : Int32) : Int32 := if y < x then y else x
def mvm (a : Nat → Int32) (many : Int32) : Nat → Int32
  | 0 => 0
  | k + 1 => mvm a many k + mn (a k) (many - mvm a many k)
def mvn (a : Nat → Int32) (many : Int32) (k : Nat) : Int32 := mn (a k) (many - mvm a many k)
def mva (a : Nat → Int32) (many : Int32) (n : Nat) : Nat → Int32 := fun j => if j < n then a j + -mvn a many j else a j
def mvb (a b : Nat → Int32) (many : Int32) (n : Nat) : Nat → Int32 := fun j => if j < n then b j + mvn a many j else b j
theorem mva_s (a : Nat → Int32) (m : Int32) (i : Nat) : chv (mva a m i) i (-mvn a m i) = mva a m (i + 1) := by
  funext k
  by_cases h : k = i
  · subst h; simp [chv, upd, mva]
  · simp only [chv, upd, mva, if_neg h]
    by_cases h2 : k < i
    · rw [if_pos h2, if_pos (by omega)]
    · rw [if_neg h2, if_neg (by omega)]
theorem mvb_s (a b : Nat → Int32) (m : Int32) (i : Nat) : chv (mvb a b m i) i (mvn a m i) = mvb a b m (i + 1) := by
  funext k
  by_cases h : k = i
  · subst h; simp [chv, upd, mvb]
  · simp only [chv, upd, mvb, if_neg h]
    by_cases h2 : k < i
    · rw [if_pos h2, if_pos (by omega)]
    · rw [if_neg h2, if_neg (by omega)]
theorem mva_i (a : Nat → Int32) (m : Int32) (i : Nat) : mva a m i i = a i := by simp [mva]
theorem mva_0 (a : Nat → Int32) (m : Int32) : mva a m 0 = a := by funext k; simp [mva]
theorem mvb_0 (a b : Nat → Int32) (m : Int32) : mvb a b m 0 = b := by funext k; simp [mvb]
def wsum (v : Nat → Int32) : Nat → Int32
  | 0 => 0
  | k + 1 => wsum v k + (6 - nI k) * v k
def wm (v : Nat → Int32) : Int32 := mn (wsum v 6) 900
def mf (v : Nat → Int32) : Nat → Int32
  | 0 => -1
  | k + 1 => if v k ≤ of6 v (mf v k) then mf v k else nI k
def pur (v : Nat → Int32) : Int32 := if s6 v ≤ 0 then 0 else 100 * of6 v (mf v 6) / s6 v
def pkn (d : Int32) (v : Nat → Int32) (j : Nat) : Int32 := if 2 * nI j - d ≤ 0 then 0 else v j * (2 * nI j - d) / 30
def pkl (d : Int32) (v : Nat → Int32) : Nat → Int32
  | 0 => 0
  | k + 1 => pkl d v k + pkn d v k
def pkv (d : Int32) (v : Nat → Int32) (n : Nat) : Nat → Int32 := fun j => if j < n then v j + -pkn d v j else v j
theorem pkv_0 (d : Int32) (v : Nat → Int32) : pkv d v 0 = v := by funext k; simp [pkv]
theorem pkv_i (d : Int32) (v : Nat → Int32) (i : Nat) : pkv d v i i = v i := by simp [pkv]
theorem pkv_s (d : Int32) (v : Nat → Int32) (i : Nat) : chv (pkv d v i) i (-pkn d v i) = pkv d v (i + 1) := by
  funext k
  by_cases h : k = i
  · subst h; simp [chv, upd, pkv]
  · simp only [chv, upd, pkv, if_neg h]
    by_cases h2 : k < i
    · rw [if_pos h2, if_pos (by omega)]
    · rw [if_neg h2, if_neg (by omega)]
theorem pkv_z (d : Int32) (v : Nat → Int32) (i : Nat) (h : pkn d v i = 0) : pkv d v i = pkv d v (i + 1) := by
  rw [← pkv_s, h]
  funext k
  by_cases hk : k = i
  · subst hk; simp [chv, upd]
  · simp [chv, upd, hk]
