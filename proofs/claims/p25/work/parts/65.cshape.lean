/-! the component's shape and numbers: object 0; its lists 1 and 2, their rows es and 5; the chambers' row 3, chambers from 100 on; sacks 10 + i, their heaps 200 + 2 i; ticks 30 + 4 t, their heaps from 300 + 72 t on; the trial 54, 732 -/
def CpAt (S : fb_Sh) (a1 ns nt es na : Nat) : Prop :=
  (0 ∈ sR S ∧ sk S 0 = 3) ∧ (PA S 0 0 1 ∧ PA S 0 1 2 ∧ PA S 0 2 3 ∧ PA S 0 3 54) ∧ (1 ∈ sR S ∧ sk S 1 = 5) ∧ (2 ∈ sR S ∧ sk S 2 = 5) ∧
  (RA S 3 8 5 ∧ ∀ c, c < 5 → PA S 3 c (100 + 2 * c) ∧ HeapAt S (100 + 2 * c)) ∧ TickAt S 54 732 ∧
  ((ns = 0 ∧ sp S 1 1 = some a1) ∨ (0 < ns ∧ LsAt S 1 es na ∧ ns ≤ na ∧ na ≤ 15)) ∧ (∀ i, i < ns → PA S es i (10 + i) ∧ SackAt S (10 + i) (200 + 2 * i)) ∧
  ((nt = 0 ∧ sp S 2 1 = some a1) ∨ (0 < nt ∧ LsAt S 2 5 10)) ∧ ∀ t, t < nt → PA S 5 t (30 + 4 * t) ∧ TickAt S (30 + 4 * t) (300 + 72 * t)
def CF (I : fb_V) (ns nt : Nat) (cf rf df : Nat → Nat) : Prop := I 1 2 = nI ns ∧ I 2 2 = nI nt ∧ ns ≤ 12 ∧ nt ≤ 6 ∧ ∀ t, t < nt → TF I (30 + 4 * t) (cf t) (rf t) (df t)
theorem CpAt.l1 {S : fb_Sh} {a1 ns nt es na i : Nat} (h : CpAt S a1 ns nt es na) (hi : i < ns) : LsAt S 1 es na ∧ ns ≤ na ∧ na < 2 ^ 31 := by
  rcases h.2.2.2.2.2.2.1 with h | h
  · omega
  · exact ⟨h.2.1, h.2.2.1, by omega⟩
theorem CpAt.l2 {S : fb_Sh} {a1 ns nt es na t : Nat} (h : CpAt S a1 ns nt es na) (ht : t < nt) : LsAt S 2 5 10 := by
  rcases h.2.2.2.2.2.2.2.2.1 with h | h
  · omega
  · exact h.2
theorem CpAt.hp {S : fb_Sh} {a1 ns nt es na c : Nat} (h : CpAt S a1 ns nt es na) (hc : c < 5) : HeapAt S (100 + 2 * c) := (h.2.2.2.2.1.2 c hc).2
theorem CpAt.sk {S : fb_Sh} {a1 ns nt es na i : Nat} (h : CpAt S a1 ns nt es na) (hi : i < ns) : SackAt S (10 + i) (200 + 2 * i) := (h.2.2.2.2.2.2.2.1 i hi).2
theorem CpAt.tk {S : fb_Sh} {a1 ns nt es na t : Nat} (h : CpAt S a1 ns nt es na) (ht : t < nt) : TickAt S (30 + 4 * t) (300 + 72 * t) := (h.2.2.2.2.2.2.2.2.2 t ht).2
theorem CpAt.tr {S : fb_Sh} {a1 ns nt es na : Nat} (h : CpAt S a1 ns nt es na) : TickAt S 54 732 := h.2.2.2.2.2.1
