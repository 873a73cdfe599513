/-! counts as natural numbers -/
def nv (f : Nat → Nat) : Nat → Int32 := fun k => if k < 6 then nI (f k) else 0
def sm (f : Nat → Nat) : Nat := f 0 + f 1 + f 2 + f 3 + f 4 + f 5
def Bd (v : Nat → Int32) (N : Nat) : Prop := ∃ f, v = nv f ∧ sm f ≤ N
theorem nv_k (f : Nat → Nat) {k : Nat} (h : k < 6) : nv f k = nI (f k) := if_pos h
theorem nv_o (f : Nat → Nat) {k : Nat} (h : 6 ≤ k) : nv f k = 0 := if_neg (by omega)
theorem nv_tz (f : Nat → Nat) : tz (nv f) := fun k h => nv_o f h
theorem Bd.tz {v : Nat → Int32} {N : Nat} (h : Bd v N) : tz v := by obtain ⟨f, rfl, -⟩ := h; exact nv_tz f
theorem Bd.le {v : Nat → Int32} {N M : Nat} (h : Bd v N) (hM : N ≤ M) : Bd v M := by obtain ⟨f, h1, h2⟩ := h; exact ⟨f, h1, by omega⟩
theorem nv_0 : nv (fun _ => 0) = fun _ => 0 := by funext k; unfold nv; split <;> rfl
theorem Bd_0 (N : Nat) : Bd (fun _ => 0) N := ⟨fun _ => 0, nv_0.symm, Nat.zero_le _⟩
theorem s6_nv (f : Nat → Nat) : s6 (nv f) = nI (sm f) := by
  unfold s6 sm
  rw [nv_k f (by decide), nv_k f (by decide), nv_k f (by decide), nv_k f (by decide), nv_k f (by decide), nv_k f (by decide), nI_add, nI_add, nI_add, nI_add, nI_add]
theorem sm_le (f : Nat → Nat) {k : Nat} (h : k < 6) : f k ≤ sm f := by
  unfold sm
  match k, h with
  | 0, _ => omega
  | 1, _ => omega
  | 2, _ => omega
  | 3, _ => omega
  | 4, _ => omega
  | 5, _ => omega
  | k + 6, h => omega
theorem nv_ext {f g : Nat → Nat} (h : ∀ k, k < 6 → f k = g k) : nv f = nv g := by
  funext k
  by_cases hk : k < 6
  · rw [nv_k f hk, nv_k g hk, h k hk]
  · rw [nv_o f (by omega), nv_o g (by omega)]
theorem mn_nI {a b : Nat} (ha : a < 2 ^ 31) (hb : b < 2 ^ 31) : mn (nI a) (nI b) = nI (min a b) := nI_min ha hb
def mvN (a : Nat → Nat) (m : Nat) : Nat → Nat
  | 0 => 0
  | k + 1 => mvN a m k + min (a k) (m - mvN a m k)
theorem mvN_le (a : Nat → Nat) (m : Nat) : ∀ k, mvN a m k ≤ m
  | 0 => Nat.zero_le _
  | k + 1 => by
    have h := mvN_le a m k
    have h2 := Nat.min_le_right (a k) (m - mvN a m k)
    show mvN a m k + min (a k) (m - mvN a m k) ≤ m
    omega
theorem mvN_ps (a : Nat → Nat) (m : Nat) : ∀ k, mvN a m k = min m (psum a k)
  | 0 => (Nat.min_zero m).symm
  | k + 1 => by
    show mvN a m k + min (a k) (m - mvN a m k) = min m (psum a k + a k)
    rw [mvN_ps a m k]
    simp only [Nat.min_def]
    repeat' split
    all_goals omega
theorem psum_6 (a : Nat → Nat) : psum a 6 = sm a := by
  show 0 + a 0 + a 1 + a 2 + a 3 + a 4 + a 5 = _
  unfold sm
  omega
theorem psum_lt6 (a : Nat → Nat) {k : Nat} (h : k < 6) : psum a k + a k ≤ sm a := by
  unfold sm
  match k, h with
  | 0, _ => show 0 + a 0 ≤ _; omega
  | 1, _ => show 0 + a 0 + a 1 ≤ _; omega
  | 2, _ => show 0 + a 0 + a 1 + a 2 ≤ _; omega
  | 3, _ => show 0 + a 0 + a 1 + a 2 + a 3 ≤ _; omega
  | 4, _ => show 0 + a 0 + a 1 + a 2 + a 3 + a 4 ≤ _; omega
  | 5, _ => show 0 + a 0 + a 1 + a 2 + a 3 + a 4 + a 5 ≤ _; omega
  | k + 6, h => omega
def mvt (a : Nat → Nat) (m j : Nat) : Nat := min (a j) (m - mvN a m j)
theorem mvm_nv {a : Nat → Nat} {m : Nat} (ha : sm a < 2 ^ 30) (hm : m < 2 ^ 30) : ∀ n, n ≤ 6 → mvm (nv a) (nI m) n = nI (mvN a m n)
  | 0, _ => rfl
  | n + 1, h => by
    have h1 := mvN_le a m n
    have h2 := sm_le a (show n < 6 by omega)
    show mvm (nv a) (nI m) n + mn (nv a n) (nI m - mvm (nv a) (nI m) n) = nI (mvN a m n + min (a n) (m - mvN a m n))
    rw [mvm_nv ha hm n (by omega), nv_k a (by omega), pk_sub h1, mn_nI (by omega) (by omega), nI_add]
theorem mvn_nv {a : Nat → Nat} {m : Nat} (ha : sm a < 2 ^ 30) (hm : m < 2 ^ 30) {k : Nat} (hk : k < 6) : mvn (nv a) (nI m) k = nI (mvt a m k) := by
  have h1 := mvN_le a m k
  have h2 := sm_le a hk
  unfold mvn mvt
  rw [mvm_nv ha hm k (by omega), nv_k a hk, pk_sub h1, mn_nI (by omega) (by omega)]
def mvaN (a : Nat → Nat) (m n : Nat) : Nat → Nat := fun j => if j < n then a j - mvt a m j else a j
def mvbN (a b : Nat → Nat) (m n : Nat) : Nat → Nat := fun j => if j < n then b j + mvt a m j else b j
theorem mva_nv {a : Nat → Nat} {m : Nat} (ha : sm a < 2 ^ 30) (hm : m < 2 ^ 30) {n : Nat} (hn : n ≤ 6) : mva (nv a) (nI m) n = nv (mvaN a m n) := by
  funext j
  unfold mva mvaN
  by_cases hj : j < n
  · have h3 : mvt a m j ≤ a j := Nat.min_le_left _ _
    rw [if_pos hj, mvn_nv ha hm (by omega), nv_k a (by omega), nv_k _ (by omega), if_pos hj, ← Int32.sub_eq_add_neg, pk_sub h3]
  · rw [if_neg hj]
    by_cases h6 : j < 6
    · rw [nv_k a h6, nv_k _ h6, if_neg hj]
    · rw [nv_o a (by omega), nv_o _ (by omega)]
theorem mvb_nv {a b : Nat → Nat} {m : Nat} (ha : sm a < 2 ^ 30) (hm : m < 2 ^ 30) {n : Nat} (hn : n ≤ 6) : mvb (nv a) (nv b) (nI m) n = nv (mvbN a b m n) := by
  funext j
  unfold mvb mvbN
  by_cases hj : j < n
  · rw [if_pos hj, mvn_nv ha hm (by omega), nv_k b (by omega), nv_k _ (by omega), if_pos hj, nI_add]
  · rw [if_neg hj]
    by_cases h6 : j < 6
    · rw [nv_k b h6, nv_k _ h6, if_neg hj]
    · rw [nv_o b (by omega), nv_o _ (by omega)]
theorem sm_mva6 (a : Nat → Nat) (m : Nat) : sm (mvaN a m 6) + mvN a m 6 = sm a := by
  have h (j : Nat) : mvt a m j ≤ a j := Nat.min_le_left _ _
  have e : mvN a m 6 = 0 + mvt a m 0 + mvt a m 1 + mvt a m 2 + mvt a m 3 + mvt a m 4 + mvt a m 5 := rfl
  rw [e]
  show (a 0 - mvt a m 0) + (a 1 - mvt a m 1) + (a 2 - mvt a m 2) + (a 3 - mvt a m 3) + (a 4 - mvt a m 4) + (a 5 - mvt a m 5) + _ = a 0 + a 1 + a 2 + a 3 + a 4 + a 5
  have := h 0; have := h 1; have := h 2; have := h 3; have := h 4; have := h 5
  omega
theorem sm_mvb6 (a b : Nat → Nat) (m : Nat) : sm (mvbN a b m 6) = sm b + mvN a m 6 := by
  have e : mvN a m 6 = 0 + mvt a m 0 + mvt a m 1 + mvt a m 2 + mvt a m 3 + mvt a m 4 + mvt a m 5 := rfl
  rw [e]
  show (b 0 + mvt a m 0) + (b 1 + mvt a m 1) + (b 2 + mvt a m 2) + (b 3 + mvt a m 3) + (b 4 + mvt a m 4) + (b 5 + mvt a m 5) = b 0 + b 1 + b 2 + b 3 + b 4 + b 5 + _
  omega
theorem sm_mva2 (a : Nat → Nat) (m : Nat) : sm (mvaN a m 2) + mvN a m 2 = sm a := by
  have h (j : Nat) : mvt a m j ≤ a j := Nat.min_le_left _ _
  have e : mvN a m 2 = 0 + mvt a m 0 + mvt a m 1 := rfl
  rw [e]
  show (a 0 - mvt a m 0) + (a 1 - mvt a m 1) + a 2 + a 3 + a 4 + a 5 + _ = a 0 + a 1 + a 2 + a 3 + a 4 + a 5
  have := h 0; have := h 1
  omega
theorem sm_mvb2 (a b : Nat → Nat) (m : Nat) : sm (mvbN a b m 2) = sm b + mvN a m 2 := by
  have e : mvN a m 2 = 0 + mvt a m 0 + mvt a m 1 := rfl
  rw [e]
  show (b 0 + mvt a m 0) + (b 1 + mvt a m 1) + b 2 + b 3 + b 4 + b 5 = b 0 + b 1 + b 2 + b 3 + b 4 + b 5 + _
  omega
theorem mvt_cap (a : Nat → Nat) (m : Nat) {j : Nat} (hj : j < 6) : mvt a m j = mvt a (min m (sm a)) j := by
  have h := psum_lt6 a hj
  unfold mvt
  rw [mvN_ps, mvN_ps]
  simp only [Nat.min_def]
  repeat' split
  all_goals omega
/-- a move by hand, as the two sides tell it: of a as many as m, but all of a -/
theorem mv_cap {a : Nat → Nat} {m : Nat} (ha : sm a < 2 ^ 30) (hm : m < 2 ^ 30) : mvm (nv a) (nI m) 6 = nI (min m (sm a)) ∧ mva (nv a) (nI m) 6 = mva (nv a) (nI (min m (sm a))) 6 ∧ ∀ b, mvb (nv a) (nv b) (nI m) 6 = mvb (nv a) (nv b) (nI (min m (sm a))) 6 := by
  have h2 : min m (sm a) < 2 ^ 30 := by have := Nat.min_le_left m (sm a); omega
  refine ⟨?_, ?_, fun b => ?_⟩
  · rw [mvm_nv ha hm 6 (Nat.le_refl _), mvN_ps, psum_6]
  · rw [mva_nv ha hm (Nat.le_refl _), mva_nv ha h2 (Nat.le_refl _)]
    exact nv_ext fun k hk => by unfold mvaN; rw [mvt_cap a m hk]
  · rw [mvb_nv ha hm (Nat.le_refl _), mvb_nv ha h2 (Nat.le_refl _)]
    exact nv_ext fun k hk => by unfold mvbN; rw [mvt_cap a m hk]
/-! pricking -/
def pN (d : Nat) (f : Nat → Nat) (j : Nat) : Nat := if 2 * j ≤ d then 0 else f j * (2 * j - d) / 30
theorem pN_le (d : Nat) (f : Nat → Nat) {j : Nat} (hj : j < 6) : pN d f j ≤ f j := by
  unfold pN
  split
  · exact Nat.zero_le _
  · have h : f j * (2 * j - d) ≤ f j * 30 := Nat.mul_le_mul_left _ (by omega)
    exact Nat.div_le_of_le_mul (by rw [Nat.mul_comm 30 (f j)]; exact h)
theorem pkn_nv {d : Nat} (hd : d ≤ 9) {f : Nat → Nat} (hf : sm f ≤ 300) {j : Nat} (hj : j < 6) : pkn (nI d) (nv f) j = nI (pN d f j) := by
  have h1 := sm_le f hj
  have h2 : f j * (2 * j - d) ≤ 300 * 10 := Nat.mul_le_mul (by omega) (by omega)
  unfold pkn pN
  rw [show (2 : Int32) = nI 2 from rfl, pk_mul]
  by_cases h : 2 * j ≤ d
  · rw [if_pos h, if_pos]
    · rfl
    · by_cases e : 2 * j = d
      · rw [e, pk_sub (Nat.le_refl _), Nat.sub_self]
        exact Int32.le_refl 0
      · exact Int32.le_of_lt (pk_sneg (by omega) (by omega))
  · rw [if_neg h, pk_sub (by omega), if_neg (nI_nle (by omega) (by omega)), nv_k f hj, pk_mul, show (30 : Int32) = nI 30 from rfl, pk_div (by omega) (by decide) (by decide)]
def pvN (d : Nat) (f : Nat → Nat) : Nat → Nat := fun j => f j - pN d f j
theorem pkv_nv {d : Nat} (hd : d ≤ 9) {f : Nat → Nat} (hf : sm f ≤ 300) : pkv (nI d) (nv f) 6 = nv (pvN d f) := by
  funext j
  unfold pkv pvN
  by_cases hj : j < 6
  · rw [if_pos hj, pkn_nv hd hf hj, nv_k f hj, nv_k _ hj, ← Int32.sub_eq_add_neg, pk_sub (pN_le d f hj)]
  · rw [if_neg hj, nv_o f (by omega), nv_o _ (by omega)]
theorem pkl_nv {d : Nat} (hd : d ≤ 9) {f : Nat → Nat} (hf : sm f ≤ 300) : ∀ n, n ≤ 6 → pkl (nI d) (nv f) n = nI (psum (pN d f) n)
  | 0, _ => rfl
  | n + 1, h => by
    show pkl (nI d) (nv f) n + pkn (nI d) (nv f) n = nI (psum (pN d f) n + pN d f n)
    rw [pkl_nv hd hf n (by omega), pkn_nv hd hf (by omega), nI_add]
theorem PKB {d : Nat} (hd : d ≤ 9) {x : Nat → Int32} (hx : Bd x 300) : Bd (pkv (nI d) x 6) 300 ∧ ∃ t, t ≤ 300 ∧ pkl (nI d) x 6 = nI t ∧ (t = 0 → pkv (nI d) x 6 = x) := by
  obtain ⟨f, rfl, hf⟩ := hx
  have p0 := pN_le d f (show 0 < 6 by decide)
  have p1 := pN_le d f (show 1 < 6 by decide)
  have p2 := pN_le d f (show 2 < 6 by decide)
  have p3 := pN_le d f (show 3 < 6 by decide)
  have p4 := pN_le d f (show 4 < 6 by decide)
  have p5 := pN_le d f (show 5 < 6 by decide)
  have e : sm (pN d f) = pN d f 0 + pN d f 1 + pN d f 2 + pN d f 3 + pN d f 4 + pN d f 5 := rfl
  have e2 : sm f = f 0 + f 1 + f 2 + f 3 + f 4 + f 5 := rfl
  refine ⟨⟨pvN d f, pkv_nv hd hf, ?_⟩, sm (pN d f), by omega, by rw [pkl_nv hd hf 6 (Nat.le_refl _), psum_6], fun h => ?_⟩
  · show (f 0 - _) + (f 1 - _) + (f 2 - _) + (f 3 - _) + (f 4 - _) + (f 5 - _) ≤ 300
    omega
  · rw [pkv_nv hd hf]
    refine nv_ext fun k hk => ?_
    have := sm_le (pN d f) hk
    unfold pvN
    omega
/-! a shift between two squares -/
theorem HHB {x y : Nat → Int32} (hx : Bd x 300) (hy : Bd y 300) : Bd (hff x y) 300 ∧ Bd (hss x y) 300 ∧ ∃ t, t ≤ 40 ∧ hrr x y = nI t ∧ (t = 0 → hff x y = x ∧ hss x y = y) := by
  obtain ⟨a, rfl, ha⟩ := hx
  obtain ⟨b, rfl, hb⟩ := hy
  have z2 {c : Nat → Nat} {m : Nat} (h : mvN c m 2 = 0) : ∀ j, j < 2 → mvt c m j = 0 := fun j hj => by
    have e : mvN c m 2 = 0 + mvt c m 0 + mvt c m 1 := rfl
    rcases (show j = 0 ∨ j = 1 by omega) with rfl | rfl <;> omega
  unfold hff hss hrr hdf
  rw [s6_nv, s6_nv]
  by_cases h : sm a ≤ sm b
  · have c : nI (sm a) - nI (sm b) ≤ 0 := by
      by_cases e : sm a = sm b
      · rw [e, pk_sub (Nat.le_refl _), Nat.sub_self]
        exact Int32.le_refl 0
      · exact Int32.le_of_lt (pk_sneg (by omega) (by omega))
    have e8 : -(nI (sm a) - nI (sm b)) / 8 = nI ((sm b - sm a) / 8) := by
      rw [Int32.neg_sub, pk_sub h, show (8 : Int32) = nI 8 from rfl, pk_div (by omega) (by decide) (by decide)]
    rw [if_pos c, if_pos c, if_pos c, e8]
    obtain ⟨m, hm⟩ : ∃ m, m = (sm b - sm a) / 8 := ⟨_, rfl⟩
    rw [← hm]
    have k1 := mvN_le b m 2
    have k2 := sm_mva2 b m
    have k3 := sm_mvb2 b a m
    rw [mvb_nv (by omega) (by omega) (by decide), mva_nv (by omega) (by omega) (by decide), mvm_nv (by omega) (by omega) 2 (by decide)]
    refine ⟨⟨_, rfl, by omega⟩, ⟨_, rfl, by omega⟩, _, by omega, rfl, fun h0 => ⟨nv_ext fun j _ => ?_, nv_ext fun j _ => ?_⟩⟩
    · unfold mvbN
      split
      · rename_i hj; rw [z2 h0 j hj, Nat.add_zero]
      · rfl
    · unfold mvaN
      split
      · rename_i hj; rw [z2 h0 j hj, Nat.sub_zero]
      · rfl
  · have c : ¬ nI (sm a) - nI (sm b) ≤ 0 := by
      rw [pk_sub (by omega)]
      exact nI_nle (by omega) (by omega)
    have e8 : (nI (sm a) - nI (sm b)) / 8 = nI ((sm a - sm b) / 8) := by
      rw [pk_sub (by omega), show (8 : Int32) = nI 8 from rfl, pk_div (by omega) (by decide) (by decide)]
    rw [if_neg c, if_neg c, if_neg c, e8]
    obtain ⟨m, hm⟩ : ∃ m, m = (sm a - sm b) / 8 := ⟨_, rfl⟩
    rw [← hm]
    have k1 := mvN_le a m 2
    have k2 := sm_mva2 a m
    have k3 := sm_mvb2 a b m
    rw [mvb_nv (by omega) (by omega) (by decide), mva_nv (by omega) (by omega) (by decide), mvm_nv (by omega) (by omega) 2 (by decide)]
    refine ⟨⟨_, rfl, by omega⟩, ⟨_, rfl, by omega⟩, _, by omega, rfl, fun h0 => ⟨nv_ext fun j _ => ?_, nv_ext fun j _ => ?_⟩⟩
    · unfold mvaN
      split
      · rename_i hj; rw [z2 h0 j hj, Nat.sub_zero]
      · rfl
    · unfold mvbN
      split
      · rename_i hj; rw [z2 h0 j hj, Nat.add_zero]
      · rfl
