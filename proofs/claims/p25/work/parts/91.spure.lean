/-! the law's own tick and rows: its shape, its numbers -/
def asu (v : Nat → Int32) : Nat → Int32
  | 0 => 0
  | k + 1 => asu v k + v k
theorem asu_6 (v : Nat → Int32) : asu v 6 = s6 v := by
  show 0 + v 0 + v 1 + v 2 + v 3 + v 4 + v 5 = _
  rw [Int32.zero_add]
  rfl
/-- the law's tick at o, with n squares: their array at o + 9, its rows behind it, their seams at o + 49, their rows behind it -/
def LtAt (S : fb_Sh) (o n : Nat) : Prop := (o ∈ sR S ∧ sk S o = 14) ∧ PA S o 3 (o + 9) ∧ PA S o 4 (o + 49) ∧ RA S (o + 9) 10 n ∧ RA S (o + 49) 11 n ∧ ∀ q, q < n → (PA S (o + 9) q (o + 10 + q) ∧ RA S (o + 10 + q) 6 6) ∧ PA S (o + 49) q (o + 50 + q) ∧ RA S (o + 50 + q) 7 2
def LF (I : fb_V) (o c r d : Nat) : Prop := I o 0 = nI c ∧ I o 1 = nI r ∧ I o 2 = nI d ∧ 1 ≤ c ∧ c ≤ 6 ∧ 1 ≤ r ∧ r ≤ 6 ∧ 1 ≤ d ∧ d ≤ 9
theorem LF.le {I : fb_V} {o c r d : Nat} (h : LF I o c r d) : 1 ≤ c * r ∧ c * r ≤ 36 := by
  obtain ⟨-, -, -, h1, h2, h3, h4, -⟩ := h
  exact ⟨Nat.mul_le_mul h1 h3, Nat.mul_le_mul h2 h4⟩
theorem LF.row {I J : fb_V} {o c r d : Nat} (h : LF I o c r d) (e : J o = I o) : LF J o c r d := by
  unfold LF at h ⊢
  rw [e]
  exact h
theorem LtAt.ext {P : Nat → Prop} {S S' : fb_Sh} (hE : Ext P S S') {o n : Nat} (hn : n ≤ 36) (hP : ∀ x, o ≤ x → x < o + 100 → ¬ P x) (h : LtAt S o n) : LtAt S' o n := by
  obtain ⟨h1, h2, h3, h4, h5, h6⟩ := h
  have g (x : Nat) (hx : o ≤ x) (hx2 : x < o + 100) := hP x hx hx2
  refine ⟨RS.ext hE (g _ (by omega) (by omega)) h1, h2.ext hE (g _ (by omega) (by omega)) (g _ (by omega) (by omega)), h3.ext hE (g _ (by omega) (by omega)) (g _ (by omega) (by omega)), h4.ext hE (g _ (by omega) (by omega)), h5.ext hE (g _ (by omega) (by omega)), fun q hq => ?_⟩
  obtain ⟨⟨a1, a2⟩, a3, a4⟩ := h6 q hq
  exact ⟨⟨a1.ext hE (g _ (by omega) (by omega)) (g _ (by omega) (by omega)), a2.ext hE (g _ (by omega) (by omega))⟩, a3.ext hE (g _ (by omega) (by omega)) (g _ (by omega) (by omega)), a4.ext hE (g _ (by omega) (by omega))⟩
theorem tw (x : Int32) : x + x = 2 * x := by
  rw [show (2 : Int32) = 1 + 1 from by decide, Int32.add_mul, Int32.one_mul]
theorem pk2 {k d : Nat} (hk : k < 6) (hd : d ≤ 9) : (nI d < 2 * nI k → ¬ 2 * nI k - nI d ≤ 0) ∧ (¬ nI d < 2 * nI k → 2 * nI k - nI d ≤ 0) := by
  have h : ∀ k, k < 6 → ∀ d, d < 10 → ((nI d < 2 * nI k → ¬ 2 * nI k - nI d ≤ 0) ∧ (¬ nI d < 2 * nI k → 2 * nI k - nI d ≤ 0)) := by decide +kernel
  exact h k hk d (by omega)
theorem pkn_0 {d : Nat} (hd : d ≤ 9) (v : Nat → Int32) : pkn (nI d) v 0 = 0 := if_pos ((pk2 (k := 0) (by decide) hd).2 (by
  have h : ∀ d, d < 10 → ¬ nI d < 2 * nI 0 := by decide +kernel
  exact h d (by omega)))
theorem pkv_1 {d : Nat} (hd : d ≤ 9) (v : Nat → Int32) : pkv (nI d) v 1 = v := by
  rw [← pkv_z (nI d) v 0 (pkn_0 hd v), pkv_0]
theorem pkl_1 {d : Nat} (hd : d ≤ 9) (v : Nat → Int32) : pkl (nI d) v 1 = 0 := by
  show 0 + pkn (nI d) v 0 = 0
  rw [pkn_0 hd v]
  rfl
/-- feathers on their way from the row a to the row b: the sizes below k are done -/
def tk2 (I : fb_V) (a b : Nat) (A B : Nat → Int32) (m : Int32) (k : Nat) : fb_V := va_up (va_up I a (mva A m k)) b (mvb A B m k)
theorem tk2_a (I : fb_V) {a b : Nat} (hne : a ≠ b) (A B : Nat → Int32) (m : Int32) (k : Nat) : tk2 I a b A B m k a = mva A m k := by
  unfold tk2
  rw [va_up_ne _ _ hne, va_up_self]
theorem tk2_b (I : fb_V) (a b : Nat) (A B : Nat → Int32) (m : Int32) (k : Nat) : tk2 I a b A B m k b = mvb A B m k := va_up_self _ _ _
theorem tk2_0 (I : fb_V) {a b : Nat} (m : Int32) {A B : Nat → Int32} (ha : I a = A) (hb : I b = B) : tk2 I a b A B m 0 = I := by
  unfold tk2
  rw [mva_0, mvb_0, up_id _ _ _ ha.symm, up_id _ _ _ hb.symm]
theorem pkv_u (d : Int32) (v : Nat → Int32) (k : Nat) : upd (pkv d v k) k (v k - pkn d v k) = pkv d v (k + 1) := by
  rw [← pkv_s, Int32.sub_eq_add_neg]
  unfold chv
  rw [pkv_i]
theorem mva_u (a : Nat → Int32) (m : Int32) (k : Nat) : upd (mva a m k) k (a k - mvn a m k) = mva a m (k + 1) := by
  rw [← mva_s, Int32.sub_eq_add_neg]
  unfold chv
  rw [mva_i]
theorem mvb_i (a b : Nat → Int32) (m : Int32) (k : Nat) : mvb a b m k k = b k := if_neg (Nat.lt_irrefl _)
theorem mvb_u (a b : Nat → Int32) (m : Int32) (k : Nat) : upd (mvb a b m k) k (b k + mvn a m k) = mvb a b m (k + 1) := by
  rw [← mvb_s]
  unfold chv
  rw [mvb_i]
theorem tk2_s1 (I : fb_V) {a b : Nat} (hne : a ≠ b) (A B : Nat → Int32) (m : Int32) (k : Nat) : va_up (tk2 I a b A B m k) a (upd (mva A m k) k (A k - mvn A m k)) = va_up (va_up I b (mvb A B m k)) a (mva A m (k + 1)) := by
  unfold tk2
  rw [up_sw _ _ _ hne, up_up, mva_u]
theorem tk2_s2 (I : fb_V) {a b : Nat} (hne : a ≠ b) (A B : Nat → Int32) (m : Int32) (k : Nat) : va_up (va_up (va_up I b (mvb A B m k)) a (mva A m (k + 1))) b (upd (mvb A B m k) k (B k + mvn A m k)) = tk2 I a b A B m (k + 1) := by
  unfold tk2
  rw [up_sw _ _ _ (Ne.symm hne), up_up, mvb_u]
theorem mvn_0 (a : Nat → Int32) (m : Int32) : mn m (a 0) = mvn a m 0 := by
  rw [mn_c]
  show mn (a 0) m = mn (a 0) (m - 0)
  rw [Int32.sub_zero]
theorem mvn_1 (a : Nat → Int32) (m : Int32) : mn (m - mvn a m 0) (a 1) = mvn a m 1 := by
  rw [mn_c]
  show mn (a 1) (m - mvn a m 0) = mn (a 1) (m - (0 + mvn a m 0))
  rw [Int32.zero_add]
theorem mvm_s (a : Nat → Int32) (m : Int32) (k : Nat) : m - mvm a m k - mvn a m k = m - mvm a m (k + 1) := Int32.sub_sub _ _ _
/-- the two squares of a pair, as the law shifts between them -/
theorem hff_ge {x y : Nat → Int32} (hx : Bd x 300) (hy : Bd y 300) (h : ¬ s6 x < s6 y) : hff x y = mva x ((s6 x - s6 y) / 8) 2 ∧ hss x y = mvb x y ((s6 x - s6 y) / 8) 2 := by
  by_cases c : hdf x y ≤ 0
  · obtain ⟨-, -, t, ht, e1, e2⟩ := HHB hx hy
    obtain ⟨f, rfl, hf⟩ := hx
    obtain ⟨g, rfl, hg⟩ := hy
    rw [s6_nv, s6_nv] at h ⊢
    have hle : sm g ≤ sm f := Nat.le_of_not_lt fun z => h (nI_lt z (by omega))
    have hd : hdf (nv f) (nv g) = nI (sm f - sm g) := by
      unfold hdf
      rw [s6_nv, s6_nv, pk_sub hle]
    rw [hd] at c
    have e0 : sm f - sm g = 0 := by
      rcases Nat.eq_zero_or_pos (sm f - sm g) with z | z
      · exact z
      · exact absurd c (nI_nle z (by omega))
    have hr : hrr (nv f) (nv g) = 0 := by
      unfold hrr
      rw [hd, e0, if_pos (by decide)]
      rw [show -nI 0 / 8 = nI 0 from by decide, mvm_nv (by omega) (by omega) 2 (by omega)]
      have := mvN_le g 0 2
      rw [show mvN g 0 2 = 0 by omega]
      rfl
    have ht0 : t = 0 := by
      rw [hr] at e1
      exact ((nI_eq (a := 0) (b := t) (by decide) (by omega)).mp e1).symm
    obtain ⟨e3, e4⟩ := e2 ht0
    rw [e3, e4, pk_sub hle, e0, show nI 0 / 8 = nI 0 from by decide, mva_nv (by omega) (by omega) (by omega), mvb_nv (by omega) (by omega) (by omega)]
    have z (j : Nat) : mvt f 0 j = 0 := by unfold mvt; omega
    refine ⟨nv_ext fun k _ => ?_, nv_ext fun k _ => ?_⟩
    · unfold mvaN
      rw [z]
      split <;> rfl
    · unfold mvbN
      rw [z]
      split <;> rfl
  · unfold hff hss
    rw [if_neg c, if_neg c]
    exact ⟨rfl, rfl⟩
theorem hff_lt {x y : Nat → Int32} (hx : Bd x 300) (hy : Bd y 300) (h : s6 x < s6 y) : hff x y = mvb y x ((s6 y - s6 x) / 8) 2 ∧ hss x y = mva y ((s6 y - s6 x) / 8) 2 := by
  have c : hdf x y ≤ 0 := by
    obtain ⟨f, rfl, hf⟩ := hx
    obtain ⟨g, rfl, hg⟩ := hy
    rw [s6_nv, s6_nv] at h
    have hle : sm f < sm g := (nI_ltI (by omega) (by omega)).mp h
    unfold hdf
    rw [s6_nv, s6_nv]
    exact Int32.le_of_lt (pk_sneg (by omega) hle)
  unfold hff hss
  rw [if_pos c, if_pos c, show -hdf x y = s6 y - s6 x from Int32.neg_sub]
  exact ⟨rfl, rfl⟩
/-- the rows of a sack that is blown: the chambers 0 to 4, the sack, the yard -/
def plc (r : Nat) : Int32 := if r < 5 then nI r else if r = 5 then -1 else 5
def gq (x tt : Nat → Int32) (k r : Nat) : Nat → Int32 := fun j => if j < k then brn (x j) (tt j) (plc r) else 0
theorem gq_0 (x tt : Nat → Int32) : gq x tt 0 = fun _ _ => 0 := by
  funext r j
  exact if_neg (Nat.not_lt_zero _)
theorem gq_k (x tt : Nat → Int32) (k r : Nat) : gq x tt k r k = 0 := if_neg (Nat.lt_irrefl _)
theorem gq_u (x tt : Nat → Int32) (k r : Nat) {v : Int32} (h : v = brn (x k) (tt k) (plc r)) : upd (gq x tt k r) k v = gq x tt (k + 1) r := by
  funext j
  unfold upd gq
  by_cases e : j = k
  · subst e
    rw [if_pos rfl, if_pos (Nat.lt_succ_self _), h]
  · rw [if_neg e]
    by_cases c : j < k
    · rw [if_pos c, if_pos (by omega)]
    · rw [if_neg c, if_neg (by omega)]
theorem gq_n (x tt : Nat → Int32) (k r : Nat) (h : brn (x k) (tt k) (plc r) = 0) : gq x tt (k + 1) r = gq x tt k r := by
  rw [← gq_u x tt k r h.symm]
  funext j
  unfold upd
  by_cases e : j = k
  · subst e
    rw [if_pos rfl, gq_k]
  · rw [if_neg e]
theorem brn_at (x : Int32) (c : Nat) (hc : c < 5) (r : Nat) (hr : r < 7) : brn x (nI c) (plc r) = if r = c then x * 6 / 10 else if r = (if c = 4 then 6 else c + 1) then x / 4 else if r = (if c = 0 then 5 else c - 1) then x - x * 6 / 10 - x / 4 else 0 := by
  have h : ∀ c, c < 5 → ∀ r, r < 7 → ((plc r = nI c ↔ r = c) ∧ (plc r = nI c + 1 ↔ r = (if c = 4 then 6 else c + 1)) ∧ (plc r = nI c - 1 ↔ r = (if c = 0 then 5 else c - 1))) := by decide +kernel
  obtain ⟨h1, h2, h3⟩ := h c hc r hr
  unfold brn
  by_cases c1 : r = c
  · rw [if_pos (h1.mpr c1), if_pos c1]
  · rw [if_neg (fun z => c1 (h1.mp z)), if_neg c1]
    by_cases c2 : r = (if c = 4 then 6 else c + 1)
    · rw [if_pos (h2.mpr c2), if_pos c2]
    · rw [if_neg (fun z => c2 (h2.mp z)), if_neg c2]
      by_cases c3 : r = (if c = 0 then 5 else c - 1)
      · rw [if_pos (h3.mpr c3), if_pos c3]
      · rw [if_neg (fun z => c3 (h3.mp z)), if_neg c3]
