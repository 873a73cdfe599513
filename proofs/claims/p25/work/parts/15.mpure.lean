/-! numbers of the reference -/
theorem mn_c (x z : Int32) : mn x z = mn z x := by
  unfold mn
  by_cases h1 : z < x
  · rw [if_pos h1, if_neg (Int32.lt_asymm h1)]
  · rw [if_neg h1]
    by_cases h2 : x < z
    · rw [if_pos h2]
    · rw [if_neg h2]
      exact Int32.le_antisymm (Int32.not_lt.mp h1) (Int32.not_lt.mp h2)
/-- the reference's object o, its arrays; nt ticks of cf t columns and rf t rows -/
def MdAt (S : fb_Sh) (o nt : Nat) (cf rf : Nat → Nat) : Prop :=
  (o ∈ sR S ∧ sk S o = 4) ∧
  (sp S o 2 = some (sa S (o + 1)) ∧ sp S o 3 = some (sa S (o + 2)) ∧ sp S o 5 = some (sa S (o + 3)) ∧ sp S o 7 = some (sa S (o + 4)) ∧ sp S o 8 = some (sa S (o + 5)) ∧ sp S o 9 = some (sa S (o + 6)) ∧ sp S o 13 = some (sa S (o + 7))) ∧
  ((o + 1) ∈ sR S ∧ sk S (o + 1) = 6 ∧ sn S (o + 1) = 72) ∧ ((o + 2) ∈ sR S ∧ sk S (o + 2) = 6 ∧ sn S (o + 2) = 12) ∧ ((o + 3) ∈ sR S ∧ sk S (o + 3) = 6 ∧ sn S (o + 3) = 30) ∧ ((o + 4) ∈ sR S ∧ sk S (o + 4) = 6 ∧ sn S (o + 4) = 18) ∧
  ((o + 5) ∈ sR S ∧ sk S (o + 5) = 10 ∧ sn S (o + 5) = 6) ∧ ((o + 6) ∈ sR S ∧ sk S (o + 6) = 11 ∧ sn S (o + 6) = 6) ∧ ((o + 7) ∈ sR S ∧ sk S (o + 7) = 6 ∧ sn S (o + 7) = 36) ∧
  ∀ t, t < nt → (sp S (o + 5) t = some (sa S (o + 10 + t)) ∧ (o + 10 + t) ∈ sR S ∧ sk S (o + 10 + t) = 6 ∧ sn S (o + 10 + t) = 6 * (cf t * rf t)) ∧ (sp S (o + 6) t = some (sa S (o + 20 + t)) ∧ (o + 20 + t) ∈ sR S ∧ sk S (o + 20 + t) = 7 ∧ sn S (o + 20 + t) = 2 * (cf t * rf t))
/-- its numbers: ns sacks, nt ticks, their tables, dampness -/
def MF (I : fb_V) (o ns nt : Nat) (cf rf df : Nat → Nat) : Prop :=
  I o 1 = nI ns ∧ I o 6 = nI nt ∧ ns ≤ 12 ∧ nt ≤ 6 ∧ (∀ t, t < nt → I (o + 4) (3 * t) = nI (cf t) ∧ I (o + 4) (3 * t + 1) = nI (rf t) ∧ I (o + 4) (3 * t + 2) = nI (df t) ∧ 1 ≤ cf t ∧ cf t ≤ 6 ∧ 1 ≤ rf t ∧ rf t ≤ 6 ∧ 1 ≤ df t ∧ df t ≤ 9) ∧ ∀ i, i < ns → ∃ dm, dm ≤ 9 ∧ I (o + 2) i = nI dm
theorem MF.cr {I : fb_V} {o ns nt : Nat} {cf rf df : Nat → Nat} (h : MF I o ns nt cf rf df) {t : Nat} (ht : t < nt) : 1 ≤ cf t * rf t ∧ cf t * rf t ≤ 36 := by
  obtain ⟨-, -, -, -, h, -⟩ := h
  obtain ⟨-, -, -, h1, h2, h3, h4, -, -⟩ := h t ht
  exact ⟨Nat.mul_pos h1 h3, Nat.mul_le_mul h2 h4⟩
/-- what MF speaks of stays where another cell is written -/
theorem MF.up {I : fb_V} {o ns nt : Nat} {cf rf df : Nat → Nat} (h : MF I o ns nt cf rf df) {r : Nat} (f : Nat → Int32) (h0 : r ≠ o) (h2 : r ≠ o + 2) (h4 : r ≠ o + 4) : MF (va_up I r f) o ns nt cf rf df := by
  unfold MF at h ⊢
  rw [va_up_ne _ _ (Ne.symm h0), va_up_ne _ _ (Ne.symm h2), va_up_ne _ _ (Ne.symm h4)]
  exact h
theorem MF.fld {I : fb_V} {o ns nt : Nat} {cf rf df : Nat → Nat} (h : MF I o ns nt cf rf df) (j : Nat) (v : Int32) (h1 : j ≠ 1) (h6 : j ≠ 6) : MF (va_up I o (upd (I o) j v)) o ns nt cf rf df := by
  unfold MF at h ⊢
  rw [va_up_self, va_up_ne _ _ (show o + 2 ≠ o by omega), va_up_ne _ _ (show o + 4 ≠ o by omega)]
  simp only [upd, if_neg (Ne.symm h1), if_neg (Ne.symm h6)]
  exact h
def isN (v lo hi : Int32) : Int32 := if v < lo then 0 else if hi < v then 0 else 1
theorem isN_1 {v lo hi : Int32} (h1 : ¬ v < lo) (h2 : ¬ hi < v) : isN v lo hi = 1 := by unfold isN; rw [if_neg h1, if_neg h2]
theorem isN_0 {v lo hi : Int32} (h : v < lo ∨ hi < v) : isN v lo hi = 0 := by
  unfold isN
  by_cases h1 : v < lo
  · rw [if_pos h1]
  · rw [if_neg h1]
    rcases h with h | h
    · exact absurd h h1
    · rw [if_pos h]
/-- outside of 0 .. n-1, as the reference asks it -/
theorem isN_out {v : Int32} {n : Nat} (hn : n < 2 ^ 31) (h : v < 0 ∨ nI n ≤ v) : isN v 0 (nI n - 1) = 0 := by
  refine isN_0 ?_
  rcases h with h | h
  · exact Or.inl h
  · by_cases h0 : v < 0
    · exact Or.inl h0
    · right
      obtain ⟨j, hj, rfl⟩ := nI_of h0
      have h3 := (nI_leI hn hj).mp h
      cases n with
      | zero => exact Int32.lt_of_lt_of_le (show nI 0 - 1 < nI 0 by decide) h
      | succ n => rw [nI_pred]; exact nI_lt (by omega) hj
theorem isN_in {i n : Nat} (hn : n < 2 ^ 31) (h : i < n) : isN (nI i) 0 (nI n - 1) = 1 := by
  refine isN_1 (nI_pos (by omega)) ?_
  cases n with
  | zero => omega
  | succ n => rw [nI_pred]; exact nI_nlt (by omega) (by omega)
theorem isN_k {i lo hi : Nat} (hh : hi < 2 ^ 31) (h1 : lo ≤ i) (h2 : i ≤ hi) : isN (nI i) (nI lo) (nI hi) = 1 := isN_1 (nI_nlt h1 (by omega)) (nI_nlt h2 hh)
/-- six numbers of a flat row -/
def mx (f : Nat → Int32) : fb_V := fun q k => if k < 6 then f (6 * q + k) else 0
theorem mx_k (f : Nat → Int32) (q : Nat) {k : Nat} (h : k < 6) : mx f q k = f (6 * q + k) := if_pos h
def asm (f : Nat → Int32) (q : Nat) : Nat → Int32
  | 0 => 0
  | k + 1 => asm f q k + f (6 * q + k)
theorem asm_6 (f : Nat → Int32) (q : Nat) : asm f q 6 = s6 (mx f q) := by
  simp [asm, s6, mx]
def t0 (I : fb_V) (o : Nat) : fb_V := va_up I o (upd (I o) 0 0)
def tf (I : fb_V) (o : Nat) (n : Int32) : fb_V := va_up I o (upd (I o) 0 n)
theorem tf_t0 (I : fb_V) (o : Nat) (n : Int32) : tf (t0 I o) o n = tf I o n := by
  unfold tf t0
  rw [up_up, va_up_self]
  congr 1
  funext j
  by_cases h : j = 0
  · subst h; simp [upd]
  · simp [upd, h]
theorem MF.t0 {I : fb_V} {o ns nt : Nat} {cf rf df : Nat → Nat} (h : MF I o ns nt cf rf df) : MF (t0 I o) o ns nt cf rf df := MF.fld h 0 0 (by decide) (by decide)
theorem t0_ne (I : fb_V) {o r : Nat} (h : r ≠ o) : t0 I o r = I r := va_up_ne _ _ h
theorem t0_f (I : fb_V) (o : Nat) {j : Nat} (h : j ≠ 0) : t0 I o o j = I o j := by
  unfold t0
  rw [va_up_self]
  simp [upd, h]
def flm (p q dm : Int32) : Int32 := mn 4 (p * 12 / ((q + 1) * (4 + dm)))
theorem fl_w {q : Nat} {dm : Nat} (hq : q < 6) (hd : dm ≤ 9) : ¬ (nI q + 1) * (4 + nI dm) = 0 ∧ ¬ (nI q + 1) * (4 + nI dm) ≤ 0 := by
  rw [nI_1, show (4 : Int32) + nI dm = nI (4 + dm) from nI_add 4 dm, pk_mul]
  have h1 : 1 ≤ (q + 1) * (4 + dm) := Nat.mul_pos (by omega) (by omega)
  have h2 : (q + 1) * (4 + dm) ≤ 6 * 13 := Nat.mul_le_mul (by omega) (by omega)
  exact ⟨nI_ne0 (by omega) (by omega), nI_nle (by omega) (by omega)⟩
theorem flm_fl (p : Int32) {q dm : Nat} (hq : q < 6) (hd : dm ≤ 9) : flm p (nI q) (nI dm) = fl (nI dm) (nI q) p := by
  unfold flm fl
  rw [if_neg (fl_w hq hd).2, mn_c]
