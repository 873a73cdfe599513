/-! the component's shape grows -/
theorem Ext.sp1 {P : Nat → Prop} {S S' : fb_Sh} (hE : Ext P S S') {r j : Nat} {v : Option Nat} (hr : ¬ P r) (h : sp S r j = v) : sp S' r j = v := by
  rw [(hE r hr).2.2.2.2]
  exact h
theorem RS.ext {P : Nat → Prop} {S S' : fb_Sh} (hE : Ext P S S') {r k : Nat} (hr : ¬ P r) (h : r ∈ sR S ∧ sk S r = k) : r ∈ sR S' ∧ sk S' r = k := by
  obtain ⟨a1, a2, a3, a4, a5⟩ := hE r hr
  exact ⟨a1.mpr h.1, a3.trans h.2⟩
theorem CpAt.ext {P : Nat → Prop} {S S' : fb_Sh} (hE : Ext P S S') {a1 ns nt es na : Nat} (hP : ∀ x, P x → 5 < x ∧ x ≠ es ∧ ¬ (100 ≤ x ∧ x < 110) ∧ ¬ (54 ≤ x ∧ x < 58) ∧ ¬ (732 ≤ x ∧ x < 804) ∧ (∀ i, i < ns → x ≠ 10 + i ∧ x ≠ 200 + 2 * i ∧ x ≠ 200 + 2 * i + 1) ∧ ∀ t, t < nt → ¬ (30 + 4 * t ≤ x ∧ x < 30 + 4 * t + 4) ∧ ¬ (300 + 72 * t ≤ x ∧ x < 300 + 72 * t + 72)) (h : CpAt S a1 ns nt es na) : CpAt S' a1 ns nt es na := by
  obtain ⟨h0, ⟨p0, p1, p2, p3⟩, g1, g2, ⟨r3, hc⟩, htr, l1, hs, l2, ht⟩ := h
  have n (x : Nat) (hx : x ≤ 5) : ¬ P x := fun z => by have := (hP x z).1; omega
  have ne : ¬ P es := fun z => (hP es z).2.1 rfl
  have nc (x : Nat) (h1 : 100 ≤ x) (h2 : x < 110) : ¬ P x := fun z => (hP x z).2.2.1 ⟨h1, h2⟩
  have nt4 (x : Nat) (h1 : 54 ≤ x) (h2 : x < 54 + 4) : ¬ P x := fun z => (hP x z).2.2.2.1 ⟨h1, h2⟩
  have nt7 (x : Nat) (h1 : 732 ≤ x) (h2 : x < 732 + 72) : ¬ P x := fun z => (hP x z).2.2.2.2.1 ⟨h1, h2⟩
  refine ⟨RS.ext hE (n 0 (by decide)) h0, ⟨p0.ext hE (n 0 (by decide)) (n 1 (by decide)), p1.ext hE (n 0 (by decide)) (n 2 (by decide)), p2.ext hE (n 0 (by decide)) (n 3 (by decide)), p3.ext hE (n 0 (by decide)) (nt4 54 (by decide) (by decide))⟩, RS.ext hE (n 1 (by decide)) g1, RS.ext hE (n 2 (by decide)) g2, ⟨r3.ext hE (n 3 (by decide)), fun c hc5 => ⟨(hc c hc5).1.ext hE (n 3 (by decide)) (nc _ (by omega) (by omega)), (hc c hc5).2.ext hE (nc _ (by omega) (by omega)) (nc _ (by omega) (by omega))⟩⟩, htr.ext hE nt4 nt7, ?_, fun i hi => ?_, ?_, fun t hlt => ?_⟩
  · rcases l1 with l1 | l1
    · exact Or.inl ⟨l1.1, hE.sp1 (n 1 (by decide)) l1.2⟩
    · exact Or.inr ⟨l1.1, ⟨RS.ext hE (n 1 (by decide)) l1.2.1.1, l1.2.1.2.1.ext hE (n 1 (by decide)) ne, l1.2.1.2.2.ext hE ne⟩, l1.2.2⟩
  · have q (x : Nat) (hx : x = 10 + i ∨ x = 200 + 2 * i ∨ x = 200 + 2 * i + 1) : ¬ P x := fun z => by
      obtain ⟨b1, b2, b3⟩ := (hP x z).2.2.2.2.2.1 i hi
      omega
    exact ⟨(hs i hi).1.ext hE ne (q _ (Or.inl rfl)), (hs i hi).2.ext hE (q _ (Or.inl rfl)) (q _ (Or.inr (Or.inl rfl))) (q _ (Or.inr (Or.inr rfl)))⟩
  · rcases l2 with l2 | l2
    · exact Or.inl ⟨l2.1, hE.sp1 (n 2 (by decide)) l2.2⟩
    · exact Or.inr ⟨l2.1, RS.ext hE (n 2 (by decide)) l2.2.1, l2.2.2.1.ext hE (n 2 (by decide)) (n 5 (by decide)), l2.2.2.2.ext hE (n 5 (by decide))⟩
  · have q (x : Nat) := fun z => (hP x z).2.2.2.2.2.2 t hlt
    exact ⟨(ht t hlt).1.ext hE (n 5 (by decide)) (fun z => (q _ z).1 ⟨Nat.le_refl _, by omega⟩), (ht t hlt).2.ext hE (fun x h1 h2 z => (q x z).1 ⟨h1, h2⟩) (fun x h1 h2 z => (q x z).2 ⟨h1, h2⟩)⟩
theorem CpAt.l1add {S S2 : fb_Sh} {a1 ns nt es na es2 na2 : Nat} (h : CpAt S a1 ns nt es na) (hns : ns < 12) (hnt : nt ≤ 6) (he : es2 = 4 ∨ es2 = 6) (hs2 : SackAt S (10 + ns) (200 + 2 * ns)) (hL : LsN S S2 1 es2 na2 ns (10 + ns)) (hp : ∀ i, i < ns → PA S2 es2 i (10 + i)) (hna : ns + 1 ≤ na2) (hna2 : na2 ≤ 15) : CpAt S2 a1 (ns + 1) nt es2 na2 := by
  obtain ⟨h0, ⟨p0, p1, p2, p3⟩, g1, g2, ⟨r3, hc⟩, htr, l1, hs, l2, ht⟩ := h
  obtain ⟨k1, k2, hE, k0⟩ := hL
  have nn (x : Nat) (hx : x ≠ 1) (hx2 : x = 0 ∨ x = 2 ∨ x = 3 ∨ x = 5 ∨ 6 < x) : ¬ (x = 1 ∨ x = es2) := by omega
  refine ⟨RS.ext hE (nn _ (by omega) (by omega)) h0, ⟨?_, p1.ext hE (nn _ (by omega) (by omega)) (nn _ (by omega) (by omega)), p2.ext hE (nn _ (by omega) (by omega)) (nn _ (by omega) (by omega)), p3.ext hE (nn _ (by omega) (by omega)) (nn _ (by omega) (by omega))⟩, k1.1, RS.ext hE (nn _ (by omega) (by omega)) g2, ⟨r3.ext hE (nn _ (by omega) (by omega)), fun c hc5 => ⟨(hc c hc5).1.ext hE (nn _ (by omega) (by omega)) (nn _ (by omega) (by omega)), (hc c hc5).2.ext hE (nn _ (by omega) (by omega)) (nn _ (by omega) (by omega))⟩⟩, htr.ext hE (fun x h1 h2 => nn _ (by omega) (by omega)) (fun x h1 h2 => nn _ (by omega) (by omega)), Or.inr ⟨by omega, k1, hna, hna2⟩, fun i hi => ?_, ?_, fun t hlt => ⟨(ht t hlt).1.ext hE (nn _ (by omega) (by omega)) (nn _ (by omega) (by omega)), (ht t hlt).2.ext hE (fun x h1 h2 => nn _ (by omega) (by omega)) (fun x h1 h2 => nn _ (by omega) (by omega))⟩⟩
  · unfold PA at p0 ⊢
    rw [(hE 0 (nn _ (by omega) (by omega))).2.2.2.2, k0]
    exact p0
  · by_cases e : i = ns
    · subst e
      exact ⟨k2, hs2.ext hE (nn _ (by omega) (by omega)) (nn _ (by omega) (by omega)) (nn _ (by omega) (by omega))⟩
    · exact ⟨hp i (by omega), (hs i (by omega)).2.ext hE (nn _ (by omega) (by omega)) (nn _ (by omega) (by omega)) (nn _ (by omega) (by omega))⟩
  · rcases l2 with l2 | l2
    · exact Or.inl ⟨l2.1, hE.sp1 (nn _ (by omega) (by omega)) l2.2⟩
    · exact Or.inr ⟨l2.1, RS.ext hE (nn _ (by omega) (by omega)) l2.2.1, l2.2.2.1.ext hE (nn _ (by omega) (by omega)) (nn _ (by omega) (by omega)), l2.2.2.2.ext hE (nn _ (by omega) (by omega))⟩
theorem CpAt.l2add {S S2 : fb_Sh} {a1 ns nt es na : Nat} (h : CpAt S a1 ns nt es na) (hns : ns ≤ 12) (hnt : nt < 6) (he : es = 4 ∨ es = 6) (ht2 : TickAt S (30 + 4 * nt) (300 + 72 * nt)) (hL : LsN S S2 2 5 10 nt (30 + 4 * nt)) (hp : ∀ t, t < nt → PA S2 5 t (30 + 4 * t)) : CpAt S2 a1 ns (nt + 1) es na := by
  obtain ⟨h0, ⟨p0, p1, p2, p3⟩, g1, g2, ⟨r3, hc⟩, htr, l1, hs, l2, ht⟩ := h
  obtain ⟨k1, k2, hE, k0⟩ := hL
  have nn (x : Nat) (hx : x ≠ 2) (hx2 : x ≠ 5) : ¬ (x = 2 ∨ x = 5) := by omega
  refine ⟨RS.ext hE (nn _ (by omega) (by omega)) h0, ⟨p0.ext hE (nn _ (by omega) (by omega)) (nn _ (by omega) (by omega)), ?_, p2.ext hE (nn _ (by omega) (by omega)) (nn _ (by omega) (by omega)), p3.ext hE (nn _ (by omega) (by omega)) (nn _ (by omega) (by omega))⟩, RS.ext hE (nn _ (by omega) (by omega)) g1, k1.1, ⟨r3.ext hE (nn _ (by omega) (by omega)), fun c hc5 => ⟨(hc c hc5).1.ext hE (nn _ (by omega) (by omega)) (nn _ (by omega) (by omega)), (hc c hc5).2.ext hE (nn _ (by omega) (by omega)) (nn _ (by omega) (by omega))⟩⟩, htr.ext hE (fun x h1 h2 => nn _ (by omega) (by omega)) (fun x h1 h2 => nn _ (by omega) (by omega)), ?_, fun i hi => ⟨(hs i hi).1.ext hE (nn _ (by omega) (by omega)) (nn _ (by omega) (by omega)), (hs i hi).2.ext hE (nn _ (by omega) (by omega)) (nn _ (by omega) (by omega)) (nn _ (by omega) (by omega))⟩, Or.inr ⟨by omega, k1⟩, fun t hlt => ?_⟩
  · unfold PA at p1 ⊢
    rw [(hE 0 (nn _ (by omega) (by omega))).2.2.2.2, k0]
    exact p1
  · rcases l1 with l1 | l1
    · exact Or.inl ⟨l1.1, hE.sp1 (nn _ (by omega) (by omega)) l1.2⟩
    · exact Or.inr ⟨l1.1, ⟨RS.ext hE (nn _ (by omega) (by omega)) l1.2.1.1, l1.2.1.2.1.ext hE (nn _ (by omega) (by omega)) (nn _ (by omega) (by omega)), l1.2.1.2.2.ext hE (nn _ (by omega) (by omega))⟩, l1.2.2⟩
  · by_cases e : t = nt
    · subst e
      exact ⟨k2, ht2.ext hE (fun x h1 h2 => nn _ (by omega) (by omega)) (fun x h1 h2 => nn _ (by omega) (by omega))⟩
    · exact ⟨hp t (by omega), (ht t (by omega)).2.ext hE (fun x h1 h2 => nn _ (by omega) (by omega)) (fun x h1 h2 => nn _ (by omega) (by omega))⟩
/-- the numbers of a new tick -/
def itk (I : fb_V) (nt c rr d : Nat) : fb_V := va_up (va_up (va_up I (30 + 4 * nt) (upd (upd (upd (upd (fun _ => 0) 0 (nI c)) 1 (nI rr)) 2 (nI d)) 3 (nI (c * rr)))) (30 + 4 * nt + 2) (fun _ => 0)) (30 + 4 * nt + 3) (fun _ => 0)
theorem itk_e (I : fb_V) (nt c rr d : Nat) : va_up (va_up (va_up (va_up I (30 + 4 * nt) (fun _ => 0)) (30 + 4 * nt) (upd (upd (upd (upd ((va_up I (30 + 4 * nt) (fun _ => 0)) (30 + 4 * nt)) 0 (nI c)) 1 (nI rr)) 2 (nI d)) 3 (nI (c * rr)))) (30 + 4 * nt + 2) (fun _ => 0)) (30 + 4 * nt + 3) (fun _ => 0) = itk I nt c rr d := by
  rw [up_up, va_up_self]
  rfl
theorem itk_out (I : fb_V) (nt c rr d : Nat) {x : Nat} (h : x < 30 + 4 * nt ∨ 30 + 4 * nt + 4 ≤ x) : itk I nt c rr d x = I x := by
  unfold itk
  rw [va_up_ne _ _ (by omega), va_up_ne _ _ (by omega), va_up_ne _ _ (by omega)]
theorem itk_2 (I : fb_V) (nt c rr d : Nat) : itk I nt c rr d 2 = I 2 := itk_out I nt c rr d (Or.inl (by omega))
