/-! out of the proof of the other claim: numbers of sacks, of moves, of nights -/
def Bk (v : Nat → Int32) (N : Nat) : Prop := ∃ f, v = nv f ∧ ∀ k, k < 6 → f k ≤ N
theorem Bk.Bd {v : Nat → Int32} {N : Nat} (h : Bk v N) : Bd v (6 * N) := by
  obtain ⟨f, h1, h2⟩ := h
  refine ⟨f, h1, ?_⟩
  have a0 := h2 0 (by decide)
  have a1 := h2 1 (by decide)
  have a2 := h2 2 (by decide)
  have a3 := h2 3 (by decide)
  have a4 := h2 4 (by decide)
  have a5 := h2 5 (by decide)
  unfold sm
  omega
theorem Bk_0 (N : Nat) : Bk (fun _ => 0) N := ⟨fun _ => 0, nv_0.symm, fun _ _ => Nat.zero_le _⟩
theorem MVE {A B : Nat → Int32} {N m : Nat} (hA : Bd A N) (hN : N < 2 ^ 29) (hB : Bd B 300) (hm : m ≤ 300) : mvm A (mn (nI m) (300 - s6 B)) 6 = mn (nI m) (mn (s6 A) (300 - s6 B)) ∧ mva A (mn (nI m) (300 - s6 B)) 6 = mva A (mn (nI m) (mn (s6 A) (300 - s6 B))) 6 ∧ mvb A B (mn (nI m) (300 - s6 B)) 6 = mvb A B (mn (nI m) (mn (s6 A) (300 - s6 B))) 6 ∧ Bd (mva A (mn (nI m) (mn (s6 A) (300 - s6 B))) 6) N ∧ Bd (mvb A B (mn (nI m) (mn (s6 A) (300 - s6 B))) 6) 300 := by
  obtain ⟨a, rfl, ha⟩ := hA
  obtain ⟨b, rfl, hb⟩ := hB
  have e1 : (300 : Int32) - s6 (nv b) = nI (300 - sm b) := by rw [s6_nv, show (300 : Int32) = nI 300 from rfl, pk_sub hb]
  have e2 : mn (nI m) (300 - s6 (nv b)) = nI (min m (300 - sm b)) := by rw [e1, mn_nI (by omega) (by omega)]
  have e3 : mn (nI m) (mn (s6 (nv a)) (300 - s6 (nv b))) = nI (min (min m (300 - sm b)) (sm a)) := by
    have := Nat.min_le_left (sm a) (300 - sm b)
    rw [e1, s6_nv, mn_nI (by omega) (by omega), mn_nI (by omega) (by omega)]
    congr 1
    simp only [Nat.min_def]
    repeat' split
    all_goals omega
  have b0 := Nat.min_le_left m (300 - sm b)
  have b1 := Nat.min_le_left (min m (300 - sm b)) (sm a)
  have b2 := Nat.min_le_right m (300 - sm b)
  obtain ⟨c1, c2, c3⟩ := mv_cap (a := a) (m := min m (300 - sm b)) (by omega) (by omega)
  rw [e2, e3]
  obtain ⟨k, hk⟩ : ∃ k, k = min (min m (300 - sm b)) (sm a) := ⟨_, rfl⟩
  rw [← hk] at c1 c2 c3 b1 ⊢
  refine ⟨c1, c2, c3 b, ?_, ?_⟩
  · rw [mva_nv (by omega) (by omega) (Nat.le_refl _)]
    have := sm_mva6 a k
    exact ⟨_, rfl, by omega⟩
  · rw [mvb_nv (by omega) (by omega) (Nat.le_refl _)]
    have := sm_mvb6 a b k
    have := mvN_le a k 6
    exact ⟨_, rfl, by omega⟩
def swN (a b : Nat → Nat) (k : Nat) : Nat := min (a k) (500 - b k)
theorem SWE {A B : Nat → Int32} {N : Nat} (hA : Bd A N) (hN : N < 2 ^ 29) (hB : Bk B 500) : Bd (swa A B 6) N ∧ Bk (swb A B 6) 500 := by
  obtain ⟨a, rfl, ha⟩ := hA
  obtain ⟨b, rfl, hb⟩ := hB
  have en (k : Nat) (hk : k < 6) : swn (nv a) (nv b) k = nI (swN a b k) := by
    have h1 := sm_le a hk
    have h2 := hb k hk
    unfold swn swN
    rw [nv_k a hk, nv_k b hk, show (500 : Int32) = nI 500 from rfl, pk_sub h2, mn_nI (by omega) (by omega)]
  have l1 (k : Nat) : swN a b k ≤ a k := Nat.min_le_left _ _
  have l2 (k : Nat) : swN a b k ≤ 500 - b k := Nat.min_le_right _ _
  refine ⟨⟨fun k => a k - swN a b k, ?_, ?_⟩, ⟨fun k => b k + swN a b k, ?_, fun k hk => ?_⟩⟩
  · funext k
    unfold swa
    by_cases hk : k < 6
    · rw [if_pos hk, en k hk, nv_k a hk, nv_k _ hk, pk_sub (l1 k)]
    · rw [if_neg hk, nv_o a (by omega), nv_o _ (by omega)]
  · show (a 0 - _) + (a 1 - _) + (a 2 - _) + (a 3 - _) + (a 4 - _) + (a 5 - _) ≤ N
    have e2 : sm a = a 0 + a 1 + a 2 + a 3 + a 4 + a 5 := rfl
    omega
  · funext k
    unfold swb
    by_cases hk : k < 6
    · rw [if_pos hk, en k hk, nv_k b hk, nv_k _ hk, nI_add]
    · rw [if_neg hk, nv_o b (by omega), nv_o _ (by omega)]
  · show b k + swN a b k ≤ 500
    have := l2 k
    have := hb k hk
    omega
theorem dry_nI {dm n : Nat} (hd : dm ≤ 9) (hn : n ≤ 9) : (if 0 < nI dm - nI n then nI dm - nI n else 0) = nI (dm - n) := by
  by_cases h : n < dm
  · rw [pk_sub (by omega), if_pos (show (0 : Int32) < nI (dm - n) from by rw [← nI_0]; exact nI_lt (by omega) (by omega))]
  · rw [if_neg]
    · rw [show dm - n = 0 by omega]; rfl
    · by_cases e : dm = n
      · rw [e, pk_sub (Nat.le_refl _), Nat.sub_self]; decide
      · exact Int32.not_lt.mpr (Int32.le_of_lt (pk_sneg (by omega) (by omega)))
theorem psV_in (V I : fb_V) (cf rf df : Nat → Nat) (z : Nat) : ∀ m t q, t < m → q < 36 → psV V I cf rf df z m (300 + 72 * t + 2 * q) = ngs (cf t) (cf t * rf t) (df t) (I (30 + 4 * t + 2)) (tv V (300 + 72 * t)) z q
  | 0, _, _, ht, _ => absurd ht (Nat.not_lt_zero _)
  | m + 1, t, q, ht, hq => by
    show stv (psV V I cf rf df z m) (300 + 72 * m) _ (300 + 72 * t + 2 * q) = _
    by_cases e : t = m
    · subst e
      exact stv_at _ _ _ hq
    · rw [stv_out _ _ _ (by omega)]
      exact psV_in V I cf rf df z m t q (by omega) hq
theorem add4 (a b c d : Int32) : a + b + (c + d) = a + c + (b + d) := by rw [Int32.add_assoc, ← Int32.add_assoc b, Int32.add_comm b c, Int32.add_assoc c, ← Int32.add_assoc a]
theorem brn_nI {a : Nat} (ha : a ≤ 500) (to p : Int32) : ∃ b, b ≤ a ∧ brn (nI a) to p = nI b := by
  have d1 : nI a * 6 / 10 = nI (a * 6 / 10) := by rw [show (6 : Int32) = nI 6 from rfl, pk_mul, show (10 : Int32) = nI 10 from rfl, pk_div (by omega) (by decide) (by decide)]
  have d2 : nI a / 4 = nI (a / 4) := by rw [show (4 : Int32) = nI 4 from rfl, pk_div (by omega) (by decide) (by decide)]
  unfold brn
  rw [d1, d2]
  by_cases c1 : p = to
  · rw [if_pos c1]; exact ⟨_, by omega, rfl⟩
  · rw [if_neg c1]
    by_cases c2 : p = to + 1
    · rw [if_pos c2]; exact ⟨_, by omega, rfl⟩
    · rw [if_neg c2]
      by_cases c3 : p = to - 1
      · rw [if_pos c3, pk_sub (by omega), pk_sub (by omega)]; exact ⟨_, by omega, rfl⟩
      · rw [if_neg c3]; exact ⟨0, Nat.zero_le _, rfl⟩
theorem brn_F {x : Nat → Int32} (hx : Bk x 500) (tt : Nat → Int32) (p : Int32) : ∃ b : Nat → Nat, (∀ k, k < 6 → b k ≤ 500 ∧ brn (x k) (tt k) p = nI (b k)) := by
  obtain ⟨f, rfl, hf⟩ := hx
  refine ⟨fun k => if h : k < 6 then (brn_nI (hf k h) (tt k) p).choose else 0, fun k hk => ?_⟩
  have h := (brn_nI (hf k hk) (tt k) p).choose_spec
  have h2 := hf k hk
  rw [nv_k f hk]
  simp only [dif_pos hk]
  exact ⟨by omega, h.2⟩
theorem bls_cg {x u tt uu : Nat → Int32} (hx : ∀ k, k < 6 → x k = u k) (ht : ∀ k, k < 6 → tt k = uu k) : ∀ k, k ≤ 6 → bls x tt k = bls u uu k
  | 0, _ => rfl
  | k + 1, hk => by
    have g : ∀ s c, bli x tt s k c = bli u uu s k c := by
      intro s c
      induction c with
      | zero => rfl
      | succ c ih =>
        show bli x tt s k c + brn (x k) (tt k) (nI c) = bli u uu s k c + brn (u k) (uu k) (nI c)
        rw [ih, hx k (by omega), ht k (by omega)]
    show bli x tt (bls x tt k) k 5 = bli u uu (bls u uu k) k 5
    rw [bls_cg hx ht k (by omega), g]
theorem bly_cg {x u tt uu : Nat → Int32} (hx : ∀ k, k < 6 → x k = u k) (ht : ∀ k, k < 6 → tt k = uu k) {y0 y1 : Int32} (hy : y0 = y1) : ∀ k, k ≤ 6 → bly x tt y0 k = bly u uu y1 k
  | 0, _ => hy
  | k + 1, hk => by
    show bly x tt y0 k + brn (x k) (tt k) 5 = bly u uu y1 k + brn (u k) (uu k) 5
    rw [bly_cg hx ht hy k (by omega), hx k (by omega), ht k (by omega)]
/-- a chamber behind a blowing, on both sides -/
theorem bcV_60 (V : fb_V) (x tt : Nat → Int32) {c : Nat} (hc : c < 5) : bcV V x tt 6 0 (100 + 2 * c) = fun j => if j < 6 then V (100 + 2 * c) j + brn (x j) (tt j) (nI c) else V (100 + 2 * c) j := by
  unfold bcV
  rw [if_pos (by omega), show (100 + 2 * c - 100) / 2 = c by omega]
  funext j
  by_cases hj : j < 6
  · rw [if_pos hj, if_pos ⟨hj, Or.inl hj⟩]
  · rw [if_neg hj, if_neg (fun z => hj z.1)]
/-- the first of its kind is one alone -/
theorem an_first {W U : Nat → Int32} {w v v' : Int32} (hW : ∀ z, W z = U z) (h : ∃ k, k ≤ 200 ∧ (∀ j, j < k → ¬ W j < w) ∧ (k < 200 → W k < w) ∧ v = (if W k < w then nI k else -1)) (h' : ∃ k, k ≤ 200 ∧ (∀ j, j < k → ¬ U j < w) ∧ (k < 200 → U k < w) ∧ v' = (if U k < w then nI k else -1)) : v = v' := by
  obtain ⟨k, a1, a2, a3, a4⟩ := h
  obtain ⟨l, b1, b2, b3, b4⟩ := h'
  have e : k = l := by
    rcases Nat.lt_trichotomy k l with h | h | h
    · exact absurd (hW k ▸ a3 (by omega)) (b2 k h)
    · exact h
    · exact absurd (by rw [hW l]; exact b3 (by omega)) (a2 l h)
  subst e
  rw [a4, b4, hW k]
