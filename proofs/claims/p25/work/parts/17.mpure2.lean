def othM (c n q d : Nat) : Int32 := if ofx c n q d = true then nI (oft c q d) else -1
theorem othM_n {c n q d : Nat} : othM c n q d = -1 ↔ ofx c n q d = false ∨ nI (oft c q d) = -1 := by
  unfold othM
  cases h : ofx c n q d with
  | true => rw [if_pos rfl]; exact ⟨fun z => Or.inr z, fun z => z.elim (fun h => absurd h (by decide)) id⟩
  | false => rw [if_neg (by decide)]; exact ⟨fun _ => Or.inl rfl, fun _ => rfl⟩
theorem nI_m1 {n : Nat} (h : n < 2 ^ 31) : ¬ nI n = -1 := fun z => nI_pos h (by rw [z]; decide)
theorem othM_t {c n q d : Nat} (h : ofx c n q d = true) : othM c n q d = nI (oft c q d) := if_pos h
theorem othM_f {c n q d : Nat} (h : ofx c n q d = false) : othM c n q d = -1 := if_neg (by rw [h]; decide)
theorem othM_d {c n q d : Nat} (hd : d < 2) : oth c n q (nI d) = othM c n q d := oth_d hd
/-- the reference asks the last column by q % c = c - 1 -/
theorem ofx_c {c n q : Nat} (hc : 1 ≤ c) : (nI (q % c) = nI c - 1) ∨ q % c + 1 < c := by
  have h := Nat.mod_lt q (show 0 < c by omega)
  by_cases h2 : q % c + 1 < c
  · exact Or.inr h2
  · left
    cases c with
    | zero => omega
    | succ c => rw [nI_pred, show q % (c + 1) = c by omega]
theorem ofx_cn {c q : Nat} (hc : 1 ≤ c) (hc6 : c ≤ 6) (h2 : q % c + 1 < c) : ¬ nI (q % c) = nI c - 1 := by
  cases c with
  | zero => omega
  | succ c =>
    rw [nI_pred]
    exact fun z => by have := (nI_eq (by omega) (by omega)).mp z; omega
def asf (f : Nat → Int32) : Nat → Int32
  | 0 => 0
  | k + 1 => asf f k + f k
/-- the reference's most frequent size -/
def mfm (f : Nat → Int32) (q : Nat) : Nat → Nat
  | 0 => 0
  | k + 1 => if f (6 * q + k) ≤ f (6 * q + mfm f q k) then mfm f q k else k
theorem mfm_1 (f : Nat → Int32) (q : Nat) : mfm f q 1 = 0 := by
  show (if _ then 0 else 0) = 0
  split <;> rfl
theorem mfm_lt (f : Nat → Int32) (q k : Nat) : mfm f q k ≤ k - 1 := by
  induction k with
  | zero => exact Nat.le_refl 0
  | succ k ih =>
    show (if f (6 * q + k) ≤ f (6 * q + mfm f q k) then mfm f q k else k) ≤ _
    split <;> omega
def pq (d : Int32) (f : Nat → Int32) (j : Nat) : Int32 := if 2 * nI (j % 6) - d ≤ 0 then 0 else f j * (2 * nI (j % 6) - d) / 30
def fpk (d : Int32) (f : Nat → Int32) (k : Nat) : Nat → Int32 := fun j => if j < k then f j - pq d f j else f j
def fpl (d : Int32) (f : Nat → Int32) : Nat → Int32
  | 0 => 0
  | k + 1 => fpl d f k + pq d f k
theorem fpk_0 (d : Int32) (f : Nat → Int32) : fpk d f 0 = f := by funext j; simp [fpk]
theorem fpk_i (d : Int32) (f : Nat → Int32) (i : Nat) : fpk d f i i = f i := by simp [fpk]
theorem fpk_s (d : Int32) (f : Nat → Int32) (i : Nat) : upd (fpk d f i) i (f i - pq d f i) = fpk d f (i + 1) := by
  funext k
  by_cases h : k = i
  · subst h; simp [upd, fpk]
  · simp only [upd, fpk, if_neg h]
    by_cases h2 : k < i
    · rw [if_pos h2, if_pos (by omega)]
    · rw [if_neg h2, if_neg (by omega)]
theorem fpk_z (d : Int32) (f : Nat → Int32) (i : Nat) (h : pq d f i = 0) : fpk d f i = fpk d f (i + 1) := by
  rw [← fpk_s, h]
  funext k
  by_cases hk : k = i
  · subst hk; simp [upd, fpk]
  · simp [upd, hk]
def fsh (c n : Nat) (B f : Nat → Int32) : Nat → Nat → Int32
  | 0 => f
  | k + 1 => if opn c n B (k / 2) (k % 2) = true then bk (bk (fsh c n B f k) (k / 2) (hff (mx (fsh c n B f k) (k / 2)) (mx (fsh c n B f k) (oft c (k / 2) (k % 2))))) (oft c (k / 2) (k % 2)) (hss (mx (fsh c n B f k) (k / 2)) (mx (fsh c n B f k) (oft c (k / 2) (k % 2)))) else fsh c n B f k
theorem fsh_o (c n : Nat) (B f : Nat → Int32) {k : Nat} (h : opn c n B (k / 2) (k % 2) = true) : fsh c n B f (k + 1) = bk (bk (fsh c n B f k) (k / 2) (hff (mx (fsh c n B f k) (k / 2)) (mx (fsh c n B f k) (oft c (k / 2) (k % 2))))) (oft c (k / 2) (k % 2)) (hss (mx (fsh c n B f k) (k / 2)) (mx (fsh c n B f k) (oft c (k / 2) (k % 2)))) := if_pos h
theorem fsh_n (c n : Nat) (B f : Nat → Int32) {k : Nat} (h : opn c n B (k / 2) (k % 2) = false) : fsh c n B f (k + 1) = fsh c n B f k := if_neg (by rw [h]; decide)
theorem bk_sw (f v w : Nat → Int32) {q p : Nat} (h : q ≠ p) : bk (bk f q v) p w = bk (bk f p w) q v := by
  funext j
  unfold bk
  by_cases h1 : 6 * q ≤ j ∧ j < 6 * q + 6
  · rw [if_pos h1, if_pos h1, if_neg (by omega)]
  · rw [if_neg h1, if_neg h1]
/-- two rows of one array, the one into the other: the array behind it -/
theorem mvI_self (I : fb_V) (a at_ th : Nat) (m : Int32) (i : Nat) : mvI I a at_ a th m i = va_up I a (bk (bk (I a) at_ (mva (mx (I a) at_) m i)) th (mvb (mx (I a) at_) (mx (I a) th) m i)) := by
  unfold mvI
  rw [up_up, va_up_self]
