/-! the number of parts: by labels joined one by one, and by least labels -/
abbrev fo (P : Nat → Int32) (j : Nat) : Prop := ∀ i, i < j → ¬ P i = P j
def cn (P : Nat → Int32) : Nat → Nat
  | 0 => 0
  | k + 1 => cn P k + (if fo P k then 1 else 0)
theorem least {p : Nat → Prop} : ∀ {f : Nat}, p f → ∃ a, a ≤ f ∧ p a ∧ ∀ i, i < a → ¬ p i := by
  intro f
  induction f using Nat.strongRecOn with
  | _ f ih =>
    intro hf
    by_cases h : ∃ i, i < f ∧ p i
    · obtain ⟨i, h1, h2⟩ := h
      obtain ⟨a, a1, a2, a3⟩ := ih i h1 h2
      exact ⟨a, by omega, a2, a3⟩
    · exact ⟨f, Nat.le_refl _, hf, fun i hi hp => h ⟨i, hi, hp⟩⟩
theorem cn_drop {P P' : Nat → Int32} {n m : Nat} (hm : m < n) (h : ∀ j, j < n → (fo P' j ↔ fo P j ∧ j ≠ m)) (hf : fo P m) : cn P' n + 1 = cn P n := by
  have lo : ∀ k, k ≤ m → cn P' k = cn P k := by
    intro k
    induction k with
    | zero => intro _; rfl
    | succ k ih =>
      intro hk
      show cn P' k + (if fo P' k then 1 else 0) = cn P k + (if fo P k then 1 else 0)
      rw [ih (by omega)]
      have := h k (by omega)
      by_cases c : fo P k
      · rw [if_pos c, if_pos (this.mpr ⟨c, by omega⟩)]
      · rw [if_neg c, if_neg (fun z => c (this.mp z).1)]
  have hi : ∀ k, k < n - m → cn P' (m + 1 + k) + 1 = cn P (m + 1 + k) := by
    intro k
    induction k with
    | zero =>
      intro _
      show cn P' m + (if fo P' m then 1 else 0) + 1 = cn P m + (if fo P m then 1 else 0)
      rw [lo m (Nat.le_refl _), if_pos hf, if_neg (fun z => ((h m hm).mp z).2 rfl)]
    | succ k ih =>
      intro hk
      show cn P' (m + 1 + k) + (if fo P' (m + 1 + k) then 1 else 0) + 1 = cn P (m + 1 + k) + (if fo P (m + 1 + k) then 1 else 0)
      have := h (m + 1 + k) (by omega)
      have ih := ih (by omega)
      by_cases c : fo P (m + 1 + k)
      · rw [if_pos c, if_pos (this.mpr ⟨c, by omega⟩)]; omega
      · rw [if_neg c, if_neg (fun z => c (this.mp z).1)]; omega
  have := hi (n - m - 1) (by omega)
  rw [show m + 1 + (n - m - 1) = n by omega] at this
  exact this
theorem cn_merge {P P' : Nat → Int32} {n f s : Nat} (hf : f < n) (hs : s < n) (hne : ¬ P f = P s) (hP : ∀ j, j < n → P' j = if P j = P s then P f else P j) : cn P' n + 1 = cn P n := by
  obtain ⟨a, a1, a2, a3⟩ := least (p := fun i => P i = P f) (f := f) rfl
  obtain ⟨b, b1, b2, b3⟩ := least (p := fun i => P i = P s) (f := s) rfl
  have hab : a ≠ b := fun e => hne (by rw [← a2, e, b2])
  have pa : P' a = P f := by rw [hP a (by omega), if_neg (by rw [a2]; exact hne), a2]
  have pb : P' b = P f := by rw [hP b (by omega), if_pos b2]
  have ofo (j : Nat) (hj : j < n) (h : fo P' j) : fo P j := fun i hi e => h i hi (by rw [hP i (by omega), hP j hj, e])
  have fa : fo P a := fun i hi e => a3 i hi (e.trans a2)
  have fb : fo P b := fun i hi e => b3 i hi (e.trans b2)
  have key (j : Nat) (hj : j < n) (h1 : fo P j) (i : Nat) (hi : i < j) (e : P' i = P' j) : (P j = P s ∧ j = b ∧ a < b) ∨ (P j = P f ∧ j = a ∧ b < a) := by
    rw [hP i (by omega), hP j hj] at e
    by_cases c : P j = P s
    · rw [if_pos c] at e
      have jb : j = b := by
        rcases Nat.lt_trichotomy j b with h | h | h
        · exact absurd c (b3 j h)
        · exact h
        · exact absurd (b2.trans c.symm) (h1 b h)
      by_cases ci : P i = P s
      · exact absurd (ci.trans c.symm) (h1 i hi)
      · rw [if_neg ci] at e
        have : a ≤ i := by
          rcases Nat.lt_or_ge i a with h | h
          · exact absurd e (a3 i h)
          · exact h
        exact Or.inl ⟨c, jb, by omega⟩
    · rw [if_neg c] at e
      by_cases ci : P i = P s
      · rw [if_pos ci] at e
        have ja : j = a := by
          rcases Nat.lt_trichotomy j a with h | h | h
          · exact absurd e.symm (a3 j h)
          · exact h
          · exact absurd (a2.trans e) (h1 a h)
        have : b ≤ i := by
          rcases Nat.lt_or_ge i b with h | h
          · exact absurd ci (b3 i h)
          · exact h
        exact Or.inr ⟨e.symm, ja, by omega⟩
      · rw [if_neg ci] at e
        exact absurd e (h1 i hi)
  rcases Nat.lt_or_ge a b with hlt | hge
  · refine cn_drop (m := b) (by omega) (fun j hj => ⟨fun h => ⟨ofo j hj h, fun e => ?_⟩, fun ⟨h1, h2⟩ i hi e => ?_⟩) fb
    · rw [e] at h
      exact h a hlt (pa.trans pb.symm)
    · rcases key j hj h1 i hi e with ⟨-, k2, -⟩ | ⟨-, -, k3⟩
      · exact h2 k2
      · omega
  · refine cn_drop (m := a) (by omega) (fun j hj => ⟨fun h => ⟨ofo j hj h, fun e => ?_⟩, fun ⟨h1, h2⟩ i hi e => ?_⟩) fa
    · rw [e] at h
      exact h b (by omega) (pb.trans pa.symm)
    · rcases key j hj h1 i hi e with ⟨-, -, k3⟩ | ⟨-, k2, -⟩
      · omega
      · exact h2 k2
def eqv (R : Nat → Nat → Prop) : Prop := (∀ a, R a a) ∧ (∀ a b, R a b → R b a) ∧ ∀ a b d, R a b → R b d → R a d
theorem prt_inv {c r n : Nat} {B P0 : Nat → Int32} (hn : n = c * r) (hc : 1 ≤ c) (h36 : n ≤ 36) (h0 : ∀ j, j < 36 → P0 j = nI j) : ∀ k, k ≤ 2 * n → (prt c n B P0 k).2 = nI (cn (prt c n B P0 k).1 n) ∧ (∀ i, i < k → opn c n B (i / 2) (i % 2) = true → (prt c n B P0 k).1 (i / 2) = (prt c n B P0 k).1 (oft c (i / 2) (i % 2))) ∧ ∀ R, eqv R → (∀ i, i < 2 * n → opn c n B (i / 2) (i % 2) = true → R (i / 2) (oft c (i / 2) (i % 2))) → ∀ i j, i < n → j < n → (prt c n B P0 k).1 i = (prt c n B P0 k).1 j → R i j
  | 0, _ => by
    have e : ∀ m, m ≤ n → cn P0 m = m := by
      intro m
      induction m with
      | zero => intro _; rfl
      | succ m ih =>
        intro hm
        show cn P0 m + (if fo P0 m then 1 else 0) = m + 1
        rw [ih (by omega), if_pos]
        intro i hi z
        rw [h0 i (by omega), h0 m (by omega)] at z
        have := (nI_eq (by omega) (by omega)).mp z
        omega
    refine ⟨?_, fun i hi => absurd hi (Nat.not_lt_zero _), fun R hR _ i j hi hj z => ?_⟩
    · show nI n = nI (cn P0 n)
      rw [e n (Nat.le_refl _)]
    · have z : P0 i = P0 j := z
      rw [h0 i (by omega), h0 j (by omega)] at z
      rw [(nI_eq (by omega) (by omega)).mp z]
      exact hR.1 j
  | k + 1, hk => by
    obtain ⟨i1, i2, i3⟩ := prt_inv (B := B) hn hc h36 h0 k (by omega)
    obtain ⟨P, hP⟩ : ∃ P, P = (prt c n B P0 k).1 := ⟨_, rfl⟩
    rw [← hP] at i1 i2 i3
    by_cases ho : opn c n B (k / 2) (k % 2) = true
    · have hl := oft_lt hn hc (show k / 2 < n by omega) (opn_x ho).1
      by_cases he : P (k / 2) = P (oft c (k / 2) (k % 2))
      · have e : prt c n B P0 (k + 1) = prt c n B P0 k := by
          show (if opn c n B (k / 2) (k % 2) = true ∧ ¬ (prt c n B P0 k).1 (k / 2) = (prt c n B P0 k).1 (oft c (k / 2) (k % 2)) then _ else _) = _
          rw [← hP, if_neg (fun z => z.2 he)]
        rw [e, ← hP]
        refine ⟨i1, fun i hi hoi => ?_, i3⟩
        by_cases ei : i = k
        · rw [ei]; exact he
        · exact i2 i (by omega) hoi
      · have e : prt c n B P0 (k + 1) = (rel P (k / 2) (oft c (k / 2) (k % 2)) 36, (prt c n B P0 k).2 + (-1)) := by
          show (if opn c n B (k / 2) (k % 2) = true ∧ ¬ (prt c n B P0 k).1 (k / 2) = (prt c n B P0 k).1 (oft c (k / 2) (k % 2)) then _ else _) = _
          rw [← hP, if_pos ⟨ho, he⟩]
        have er (j : Nat) (hj : j < 36) : rel P (k / 2) (oft c (k / 2) (k % 2)) 36 j = if P j = P (oft c (k / 2) (k % 2)) then P (k / 2) else P j := by
          unfold rel
          by_cases z : P j = P (oft c (k / 2) (k % 2))
          · rw [if_pos z, if_pos ⟨hj, z⟩]
          · rw [if_neg z, if_neg (fun w => z w.2)]
        have hm := cn_merge (P' := rel P (k / 2) (oft c (k / 2) (k % 2)) 36) (show k / 2 < n by omega) hl.1 he (fun j hj => er j (by omega))
        rw [e]
        refine ⟨?_, fun i hi hoi => ?_, fun R hR hRo i j hi hj z => ?_⟩
        · show (prt c n B P0 k).2 + (-1) = nI (cn (rel P (k / 2) (oft c (k / 2) (k % 2)) 36) n)
          rw [i1, ← hm, pk_m1]
        · have hli := oft_lt hn hc (show i / 2 < n by omega) (opn_x hoi).1
          show rel P (k / 2) (oft c (k / 2) (k % 2)) 36 (i / 2) = rel P (k / 2) (oft c (k / 2) (k % 2)) 36 (oft c (i / 2) (i % 2))
          rw [er _ (by omega), er _ (by omega)]
          by_cases ei : i = k
          · rw [ei, if_neg he, if_pos rfl]
          · rw [i2 i (by omega) hoi]
        · have z : rel P (k / 2) (oft c (k / 2) (k % 2)) 36 i = rel P (k / 2) (oft c (k / 2) (k % 2)) 36 j := z
          rw [er i (by omega), er j (by omega)] at z
          have i3 := i3 R hR hRo
          have ro := hRo k (by omega) ho
          by_cases c1 : P i = P (oft c (k / 2) (k % 2))
          · rw [if_pos c1] at z
            have r1 := i3 i _ hi hl.1 c1
            by_cases c2 : P j = P (oft c (k / 2) (k % 2))
            · exact i3 i j hi hj (c1.trans c2.symm)
            · rw [if_neg c2] at z
              exact hR.2.2 _ _ _ r1 (hR.2.2 _ _ _ (hR.2.1 _ _ ro) (i3 _ j (by omega) hj z))
          · rw [if_neg c1] at z
            by_cases c2 : P j = P (oft c (k / 2) (k % 2))
            · rw [if_pos c2] at z
              exact hR.2.2 _ _ _ (i3 i _ hi (by omega) z) (hR.2.2 _ _ _ ro (i3 _ j hl.1 hj c2.symm))
            · rw [if_neg c2] at z
              exact i3 i j hi hj z
    · have e : prt c n B P0 (k + 1) = prt c n B P0 k := by
        show (if opn c n B (k / 2) (k % 2) = true ∧ ¬ (prt c n B P0 k).1 (k / 2) = (prt c n B P0 k).1 (oft c (k / 2) (k % 2)) then _ else _) = _
        rw [if_neg (fun z => ho z.1)]
      rw [e, ← hP]
      refine ⟨i1, fun i hi hoi => ?_, i3⟩
      by_cases ei : i = k
      · rw [ei] at hoi; exact absurd hoi ho
      · exact i2 i (by omega) hoi
theorem cpt_pts {c r n : Nat} {B C : Nat → Int32} {p p' : Int32} (hn : n = c * r) (hc : 1 ≤ c) (h36 : n ≤ 36) (hB : ∀ k, k < 2 * n → B k = C k) (h : cpt c n B p) (h' : pts c n C p') : p = p' := by
  obtain ⟨P0, rfl⟩ := h
  obtain ⟨L, l1, l2, l3, rfl⟩ := h'
  have ho (i : Nat) (hi : i < 2 * n) : opn c n B (i / 2) (i % 2) = opn c n C (i / 2) (i % 2) := opn_cg (by rw [show 2 * (i / 2) + i % 2 = i by omega]; exact hB i hi)
  obtain ⟨i1, i2, i3⟩ := prt_inv (B := B) (P0 := cpn 36 (fun j => nI j) P0) hn hc h36 (fun j hj => if_pos hj) (2 * n) (Nat.le_refl _)
  obtain ⟨P, hP⟩ : ∃ P, P = (prt c n B (cpn 36 (fun j => nI j) P0) (2 * n)).1 := ⟨_, rfl⟩
  rw [← hP] at i1 i2 i3
  rw [i1]
  have k1 (i j : Nat) (hi : i < n) (hj : j < n) (e : P i = P j) : L i = L j :=
    i3 (fun a b => L a = L b) ⟨fun _ => rfl, fun _ _ h => h.symm, fun _ _ _ h g => h.trans g⟩ (fun i hi h => l3 i hi (by rw [← ho i hi]; exact h)) i j hi hj e
  have k2 (j : Nat) : (j < n ∧ L j < n ∧ P j = P (L j)) ∨ j = L j :=
    l2 (fun a b => (a < n ∧ b < n ∧ P a = P b) ∨ a = b) (fun _ => Or.inr rfl) (fun a b h => h.elim (fun h => Or.inl ⟨h.2.1, h.1, h.2.2.symm⟩) (fun h => Or.inr h.symm))
      (fun a b d h g => by
        rcases h with h | h
        · rcases g with g | g
          · exact Or.inl ⟨h.1, g.2.1, h.2.2.trans g.2.2⟩
          · rw [← g]; exact Or.inl h
        · rw [h]; exact g)
      (fun i hi h => Or.inl ⟨by omega, (oft_lt hn hc (show i / 2 < n by omega) (opn_x h).1).1, i2 i hi (by rw [ho i hi]; exact h)⟩) j
  have e : ∀ m, m ≤ n → cn P m = pcnt L m := by
    intro m
    induction m with
    | zero => intro _; rfl
    | succ m ih =>
      intro hm
      show cn P m + (if fo P m then 1 else 0) = pcnt L m + (if L m = m then 1 else 0)
      rw [ih (by omega)]
      by_cases c : L m = m
      · rw [if_pos c, if_pos]
        intro i hi z
        have h1 := k1 i m (by omega) (by omega) z
        have h2 := l1 i
        omega
      · rw [if_neg c, if_neg]
        intro z
        have h2 := l1 m
        rcases k2 m with h | h
        · exact z (L m) (by omega) h.2.2.symm
        · exact c h.symm
  rw [e n (Nat.le_refl _)]
