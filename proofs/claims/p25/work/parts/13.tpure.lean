/-! numbers of a sack and of a tick -/
def SackAt (S : fb_Sh) (q h : Nat) : Prop := q ∈ sR S ∧ sk S q = 1 ∧ sp S q 0 = some (sa S h) ∧ HeapAt S h
def sckT (v : Nat → Int32) (dm p0 : Int32) : Int32 := if 6 ≤ p0 then (if p0 = 6 then s6 v else dm) else of6 v p0
def fl (dm p0 p1 : Int32) : Int32 := if (p0 + 1) * (4 + dm) ≤ 0 then 4 else mn (p1 * 12 / ((p0 + 1) * (4 + dm))) 4
def brn (x to p2 : Int32) : Int32 := if p2 = to then x * 6 / 10 else if p2 = to + 1 then x / 4 else if p2 = to - 1 then x - x * 6 / 10 - x / 4 else 0
def bsum (v : Nat → Int32) (dm p1 p2 : Int32) : Nat → Int32
  | 0 => 0
  | k + 1 => bsum v dm p1 p2 k + brn (v k) (fl dm (nI k) p1) p2
def TickAt (S : fb_Sh) (t b : Nat) : Prop := t ∈ sR S ∧ sk S t = 2 ∧ sp S t 4 = some (sa S (t + 1)) ∧ sp S t 5 = some (sa S (t + 2)) ∧ sp S t 6 = some (sa S (t + 3)) ∧ (t + 1) ∈ sR S ∧ sk S (t + 1) = 8 ∧ sn S (t + 1) = 36 ∧ (t + 2) ∈ sR S ∧ sk S (t + 2) = 7 ∧ sn S (t + 2) = 72 ∧ (t + 3) ∈ sR S ∧ sk S (t + 3) = 6 ∧ sn S (t + 3) = 36 ∧ ∀ q, q < 36 → sp S (t + 1) q = some (sa S (b + 2 * q)) ∧ HeapAt S (b + 2 * q)
/-- a tick's numbers: c columns, r rows, density d -/
def TF (I : fb_V) (t c r d : Nat) : Prop := I t 0 = nI c ∧ I t 1 = nI r ∧ I t 2 = nI d ∧ I t 3 = nI (c * r) ∧ 1 ≤ c ∧ c ≤ 6 ∧ 1 ≤ r ∧ r ≤ 6 ∧ 1 ≤ d ∧ d ≤ 9
theorem TF.le {I : fb_V} {t c r d : Nat} (h : TF I t c r d) : 1 ≤ c * r ∧ c * r ≤ 36 := by
  obtain ⟨-, -, -, -, h1, h2, h3, h4, -, -⟩ := h
  exact ⟨Nat.mul_pos h1 h3, Nat.mul_le_mul h2 h4⟩
def stv (V : fb_V) (b : Nat) (X : fb_V) : fb_V := fun h => if b ≤ h ∧ h < b + 72 ∧ (h - b) % 2 = 0 then X ((h - b) / 2) else V h
def tv (V : fb_V) (b : Nat) : fb_V := fun q => V (b + 2 * q)
theorem stv_at (V : fb_V) (b : Nat) (X : fb_V) {q : Nat} (h : q < 36) : stv V b X (b + 2 * q) = X q := by
  unfold stv
  rw [if_pos (by omega), show (b + 2 * q - b) / 2 = q by omega]
theorem stv_out (V : fb_V) (b : Nat) (X : fb_V) {h : Nat} (ho : h < b ∨ b + 72 ≤ h) : stv V b X h = V h := by
  unfold stv
  rw [if_neg (by omega)]
theorem stv_up (V : fb_V) (b : Nat) (X : fb_V) {q : Nat} (h : q < 36) (v : Nat → Int32) : va_up (stv V b X) (b + 2 * q) v = stv V b (va_up X q v) := by
  funext x
  by_cases hx : x = b + 2 * q
  · subst hx
    rw [va_up_self, stv_at V b _ h, va_up_self]
  · rw [va_up_ne _ _ hx]
    unfold stv
    by_cases hc : b ≤ x ∧ x < b + 72 ∧ (x - b) % 2 = 0
    · rw [if_pos hc, if_pos hc, va_up_ne _ _ (by omega)]
    · rw [if_neg hc, if_neg hc]
theorem stv_ext (V : fb_V) (b : Nat) {X Y : fb_V} (h : ∀ q, q < 36 → X q = Y q) : stv V b X = stv V b Y := by
  funext x
  unfold stv
  by_cases hc : b ≤ x ∧ x < b + 72 ∧ (x - b) % 2 = 0
  · rw [if_pos hc, if_pos hc, h _ (by omega)]
  · rw [if_neg hc, if_neg hc]
theorem stv_id (V : fb_V) (b : Nat) {X : fb_V} (h : ∀ q, q < 36 → X q = V (b + 2 * q)) : stv V b X = V := by
  funext x
  unfold stv
  by_cases hc : b ≤ x ∧ x < b + 72 ∧ (x - b) % 2 = 0
  · rw [if_pos hc, h _ (by omega)]
    congr 1
    omega
  · rw [if_neg hc]
theorem stv_stv (V : fb_V) (b : Nat) (X Y : fb_V) : stv (stv V b X) b Y = stv V b Y := by
  funext x
  unfold stv
  by_cases hc : b ≤ x ∧ x < b + 72 ∧ (x - b) % 2 = 0
  · rw [if_pos hc, if_pos hc]
  · rw [if_neg hc, if_neg hc, if_neg hc]
theorem tv_stv (V : fb_V) (b : Nat) (X : fb_V) {q : Nat} (h : q < 36) : tv (stv V b X) b q = X q := stv_at V b X h
def pkX (d : Int32) (X : fb_V) (n : Nat) : fb_V := fun q => if q < n then pkv d (X q) 6 else X q
def pkS (d : Int32) (X : fb_V) : Nat → Int32
  | 0 => 0
  | k + 1 => pkS d X k + pkl d (X k) 6
theorem pkX_0 (d : Int32) (X : fb_V) : pkX d X 0 = X := by funext k; simp [pkX]
theorem pkX_i (d : Int32) (X : fb_V) (i : Nat) : pkX d X i i = X i := by simp [pkX]
theorem pkX_s (d : Int32) (X : fb_V) (i : Nat) : va_up (pkX d X i) i (pkv d (X i) 6) = pkX d X (i + 1) := by
  funext k
  by_cases h : k = i
  · subst h; rw [va_up_self]; simp [pkX]
  · rw [va_up_ne _ _ h]
    simp only [pkX]
    by_cases h2 : k < i
    · rw [if_pos h2, if_pos (by omega)]
    · rw [if_neg h2, if_neg (by omega)]
def ofx (c n q d : Nat) : Bool := if d = 0 then decide (q % c + 1 < c) else decide (q + c < n)
def oft (c q d : Nat) : Nat := if d = 0 then q + 1 else q + c
theorem oft_lt {c r n q d : Nat} (hn : n = c * r) (hc : 1 ≤ c) (hq : q < n) (h : ofx c n q d = true) : oft c q d < n ∧ q < oft c q d := by
  unfold ofx at h
  unfold oft
  by_cases h0 : d = 0
  · rw [if_pos h0] at h ⊢
    have h := of_decide_eq_true h
    have e := Nat.div_add_mod q c
    have h2 : q / c < r := Nat.div_lt_of_lt_mul (by rw [← hn]; exact hq)
    have h3 : c * (q / c + 1) ≤ c * r := Nat.mul_le_mul_left c h2
    rw [Nat.mul_add, Nat.mul_one] at h3
    omega
  · rw [if_neg h0] at h ⊢
    have h := of_decide_eq_true h
    omega
def opn (c n : Nat) (B : Nat → Int32) (q d : Nat) : Bool := ofx c n q d && decide (B (2 * q + d) = 0)
theorem opn_x {c n : Nat} {B : Nat → Int32} {q d : Nat} (h : opn c n B q d = true) : ofx c n q d = true ∧ B (2 * q + d) = 0 := by
  unfold opn at h
  rw [Bool.and_eq_true, decide_eq_true_eq] at h
  exact h
def ob (c n : Nat) (B : Nat → Int32) (q d : Nat) : Int32 := if opn c n B q d = true then 1 else 0
theorem ob_0 {c n : Nat} {B : Nat → Int32} {q d : Nat} (h : ob c n B q d = 0) : opn c n B q d = false := by
  unfold ob at h
  cases e : opn c n B q d with
  | false => rfl
  | true => rw [if_pos e] at h; exact absurd h (by decide)
theorem ob_1 {c n : Nat} {B : Nat → Int32} {q d : Nat} (h : ¬ ob c n B q d = 0) : opn c n B q d = true := by
  unfold ob at h
  cases e : opn c n B q d with
  | false => rw [if_neg (by rw [e]; decide)] at h; exact absurd rfl h
  | true => rfl
/-- the other square of a pair, as the class tells it, by any direction -/
def oth (c n q : Nat) (p : Int32) : Int32 := if p = 0 then (if ofx c n q 0 = true then nI (oft c q 0) else -1) else if p = 1 then (if ofx c n q 1 = true then nI (oft c q 1) else -1) else -1
theorem oth_d {c n q d : Nat} (hd : d < 2) : oth c n q (nI d) = if ofx c n q d = true then nI (oft c q d) else -1 := by
  rcases (show d = 0 ∨ d = 1 by omega) with rfl | rfl
  · exact if_pos rfl
  · exact (if_neg (by decide)).trans (if_pos rfl)
/-- open pairs among the first k, in the order of shifting -/
def opc (c n : Nat) (B : Nat → Int32) : Nat → Int32
  | 0 => 0
  | k + 1 => opc c n B k + ob c n B (k / 2) (k % 2)
theorem opc_s (c n : Nat) (B : Nat → Int32) (q : Nat) {d : Nat} (hd : d < 2) : opc c n B (2 * q + (d + 1)) = opc c n B (2 * q + d) + ob c n B q d := by
  show opc c n B (2 * q + d) + ob c n B ((2 * q + d) / 2) ((2 * q + d) % 2) = _
  rw [show (2 * q + d) / 2 = q by omega, show (2 * q + d) % 2 = d by omega]
def hdf (x y : Nat → Int32) : Int32 := s6 x - s6 y
def hrr (x y : Nat → Int32) : Int32 := if hdf x y ≤ 0 then mvm y (-hdf x y / 8) 2 else mvm x (hdf x y / 8) 2
def hff (x y : Nat → Int32) : Nat → Int32 := if hdf x y ≤ 0 then mvb y x (-hdf x y / 8) 2 else mva x (hdf x y / 8) 2
def hss (x y : Nat → Int32) : Nat → Int32 := if hdf x y ≤ 0 then mva y (-hdf x y / 8) 2 else mvb x y (hdf x y / 8) 2
def shs (c n : Nat) (B : Nat → Int32) (X : fb_V) : Nat → fb_V × Int32
  | 0 => (X, 0)
  | k + 1 => if opn c n B (k / 2) (k % 2) = true then (va_up (va_up (shs c n B X k).1 (k / 2) (hff ((shs c n B X k).1 (k / 2)) ((shs c n B X k).1 (oft c (k / 2) (k % 2))))) (oft c (k / 2) (k % 2)) (hss ((shs c n B X k).1 (k / 2)) ((shs c n B X k).1 (oft c (k / 2) (k % 2)))), (shs c n B X k).2 + hrr ((shs c n B X k).1 (k / 2)) ((shs c n B X k).1 (oft c (k / 2) (k % 2)))) else shs c n B X k
theorem shs_o (c n : Nat) (B : Nat → Int32) (X : fb_V) (q : Nat) {d : Nat} (hd : d < 2) (ho : opn c n B q d = true) : shs c n B X (2 * q + (d + 1)) = (va_up (va_up (shs c n B X (2 * q + d)).1 q (hff ((shs c n B X (2 * q + d)).1 q) ((shs c n B X (2 * q + d)).1 (oft c q d)))) (oft c q d) (hss ((shs c n B X (2 * q + d)).1 q) ((shs c n B X (2 * q + d)).1 (oft c q d))), (shs c n B X (2 * q + d)).2 + hrr ((shs c n B X (2 * q + d)).1 q) ((shs c n B X (2 * q + d)).1 (oft c q d))) := by
  obtain ⟨k, hk⟩ : ∃ k, k = 2 * q + d := ⟨_, rfl⟩
  rw [show 2 * q + (d + 1) = k + 1 by omega, ← hk]
  show (if opn c n B (k / 2) (k % 2) = true then _ else _) = _
  rw [show k / 2 = q by omega, show k % 2 = d by omega, if_pos ho]
theorem shs_n (c n : Nat) (B : Nat → Int32) (X : fb_V) (q : Nat) {d : Nat} (hd : d < 2) (ho : opn c n B q d = false) : shs c n B X (2 * q + (d + 1)) = shs c n B X (2 * q + d) := by
  obtain ⟨k, hk⟩ : ∃ k, k = 2 * q + d := ⟨_, rfl⟩
  rw [show 2 * q + (d + 1) = k + 1 by omega, ← hk]
  show (if opn c n B (k / 2) (k % 2) = true then _ else _) = _
  rw [show k / 2 = q by omega, show k % 2 = d by omega, if_neg (by rw [ho]; decide)]
/-- a night: pricking, then shifting; what was lost -/
def ngt (c n d : Nat) (B : Nat → Int32) (X : fb_V) : fb_V := (shs c n B (pkX (nI d) X 36) (2 * n)).1
def ngs (c n d : Nat) (B : Nat → Int32) (X : fb_V) : Nat → fb_V
  | 0 => X
  | k + 1 => ngt c n d B (ngs c n d B X k)
def ngl (c n d : Nat) (B : Nat → Int32) (X : fb_V) : Nat → Int32
  | 0 => 0
  | k + 1 => ngl c n d B X k + pkS (nI d) (ngs c n d B X k) 36
def fsum (X : fb_V) : Nat → Int32
  | 0 => 0
  | k + 1 => fsum X k + s6 (X k)
def wsm (X : fb_V) : Nat → Int32
  | 0 => 0
  | k + 1 => wsm X k + wm (X k)
/-- the coldest of the first k squares -/
def cld (X : fb_V) : Nat → Nat
  | 0 => 0
  | k + 1 => if wm (X (cld X k)) ≤ wm (X k) then cld X k else k
theorem cld_lt (X : fb_V) (k : Nat) : cld X k ≤ k - 1 := by
  induction k with
  | zero => exact Nat.le_refl 0
  | succ k ih =>
    show (if wm (X (cld X k)) ≤ wm (X k) then cld X k else k) ≤ _
    split <;> omega
theorem cld_1 (X : fb_V) : cld X 1 = 0 := by
  show (if wm (X 0) ≤ wm (X 0) then 0 else 0) = 0
  split <;> rfl
/-- the parts: each square's label, and how many labels there are -/
def rel (P : Nat → Int32) (f s : Nat) (n : Nat) : Nat → Int32 := fun j => if j < n ∧ P j = P s then P f else P j
def prt (c n : Nat) (B P0 : Nat → Int32) : Nat → (Nat → Int32) × Int32
  | 0 => (P0, nI n)
  | k + 1 => if opn c n B (k / 2) (k % 2) = true ∧ ¬ (prt c n B P0 k).1 (k / 2) = (prt c n B P0 k).1 (oft c (k / 2) (k % 2)) then (rel (prt c n B P0 k).1 (k / 2) (oft c (k / 2) (k % 2)) 36, (prt c n B P0 k).2 + (-1)) else prt c n B P0 k
theorem prt_j (c n : Nat) (B P0 : Nat → Int32) (q : Nat) {d : Nat} (hd : d < 2) (ho : opn c n B q d = true) (hj : ¬ (prt c n B P0 (2 * q + d)).1 q = (prt c n B P0 (2 * q + d)).1 (oft c q d)) : prt c n B P0 (2 * q + (d + 1)) = (rel (prt c n B P0 (2 * q + d)).1 q (oft c q d) 36, (prt c n B P0 (2 * q + d)).2 + (-1)) := by
  obtain ⟨k, hk⟩ : ∃ k, k = 2 * q + d := ⟨_, rfl⟩
  rw [← hk] at hj
  rw [show 2 * q + (d + 1) = k + 1 by omega, ← hk]
  show (if _ then _ else _) = _
  rw [show k / 2 = q by omega, show k % 2 = d by omega, if_pos ⟨ho, hj⟩]
theorem prt_n (c n : Nat) (B P0 : Nat → Int32) (q : Nat) {d : Nat} (hd : d < 2) (h : opn c n B q d = false ∨ (prt c n B P0 (2 * q + d)).1 q = (prt c n B P0 (2 * q + d)).1 (oft c q d)) : prt c n B P0 (2 * q + (d + 1)) = prt c n B P0 (2 * q + d) := by
  obtain ⟨k, hk⟩ : ∃ k, k = 2 * q + d := ⟨_, rfl⟩
  rw [← hk] at h
  rw [show 2 * q + (d + 1) = k + 1 by omega, ← hk]
  show (if _ then _ else _) = _
  rw [show k / 2 = q by omega, show k % 2 = d by omega]
  refine if_neg (fun z => ?_)
  rcases h with h | h
  · rw [h] at z; exact absurd z.1 (by decide)
  · exact z.2 h
theorem ofx_0 {c n q : Nat} (h : q % c + 1 < c) : ofx c n q 0 = true := by unfold ofx; rw [if_pos rfl]; exact decide_eq_true h
theorem ofx_0n {c n q : Nat} (h : ¬ q % c + 1 < c) : ¬ ofx c n q 0 = true := by unfold ofx; rw [if_pos rfl]; exact fun z => h (of_decide_eq_true z)
theorem ofx_1 {c n q : Nat} (h : q + c < n) : ofx c n q 1 = true := by unfold ofx; rw [if_neg (by decide)]; exact decide_eq_true h
theorem ofx_1n {c n q : Nat} (h : ¬ q + c < n) : ¬ ofx c n q 1 = true := by unfold ofx; rw [if_neg (by decide)]; exact fun z => h (of_decide_eq_true z)
theorem w_eq {S : fb_Sh} {V V' I : fb_V} (h : V = V') : ((S, V, sT V, I) : fb_W) = (S, V', sT V', I) := by rw [h]
theorem w_eqI {S : fb_Sh} {V I I' : fb_V} (h : I = I') : ((S, V, sT V, I) : fb_W) = (S, V, sT V, I') := by rw [h]
theorem TickAt.hp {S : fb_Sh} {t b q : Nat} (h : TickAt S t b) (hq : q < 36) : HeapAt S (b + 2 * q) := (h.2.2.2.2.2.2.2.2.2.2.2.2.2.2 q hq).2
theorem rel_s (P : Nat → Int32) (f s i : Nat) : rel P f s (i + 1) = if P i = P s then upd (rel P f s i) i (P f) else rel P f s i := by
  funext j
  by_cases h : P i = P s
  · rw [if_pos h]
    by_cases hj : j = i
    · subst hj; simp [rel, upd, h]
    · simp only [rel, upd, if_neg hj]
      by_cases h2 : j < i
      · simp [h2, show j < i + 1 by omega]
      · simp [h2, show ¬ j < i + 1 by omega]
  · rw [if_neg h]
    by_cases hj : j = i
    · subst hj; simp [rel, h]
    · simp only [rel]
      by_cases h2 : j < i
      · simp [h2, show j < i + 1 by omega]
      · simp [h2, show ¬ j < i + 1 by omega]
theorem rel_0 (P : Nat → Int32) (f s : Nat) : rel P f s 0 = P := by funext j; simp [rel]
theorem rel_i (P : Nat → Int32) (f s i : Nat) : rel P f s i i = P i := by simp [rel]
theorem pkS_x {d : Int32} {X Y : fb_V} {n : Nat} (h : ∀ q, q < n → X q = Y q) : pkS d X n = pkS d Y n := by
  induction n with
  | zero => rfl
  | succ n ih =>
    show pkS d X n + pkl d (X n) 6 = pkS d Y n + pkl d (Y n) 6
    rw [ih (fun q hq => h q (by omega)), h n (by omega)]
theorem cpn_u (i : Nat) (a b : Nat → Int32) : upd (cpn i a b) i (a i) = cpn (i + 1) a b := by
  funext k
  by_cases h : k = i
  · subst h; simp [upd, cpn]
  · simp only [upd, cpn, if_neg h]
    by_cases h2 : k < i
    · rw [if_pos h2, if_pos (by omega)]
    · rw [if_neg h2, if_neg (by omega)]
theorem TF.up3 {I : fb_V} {t c r d : Nat} (h : TF I t c r d) (x : Nat → Int32) : TF (va_up I (t + 3) x) t c r d := by
  unfold TF at h ⊢
  rw [va_up_ne _ _ (show t ≠ t + 3 by omega)]
  exact h
theorem TF.up2 {I : fb_V} {t c r d : Nat} (h : TF I t c r d) (x : Nat → Int32) : TF (va_up I (t + 2) x) t c r d := by
  unfold TF at h ⊢
  rw [va_up_ne _ _ (show t ≠ t + 2 by omega)]
  exact h
