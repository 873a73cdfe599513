/-! facts of a shape that go on: a role of a kind and a length, a pointer, a role that isn't there yet -/
def RA (S : fb_Sh) (r k n : Nat) : Prop := r ∈ sR S ∧ sk S r = k ∧ sn S r = n
def PA (S : fb_Sh) (r j t : Nat) : Prop := sp S r j = some (sa S t)
theorem RA.ext {P : Nat → Prop} {S S' : fb_Sh} (hE : Ext P S S') {r k n : Nat} (hr : ¬ P r) (h : RA S r k n) : RA S' r k n := by
  obtain ⟨a1, a2, a3, a4, a5⟩ := hE r hr
  exact ⟨a1.mpr h.1, a3.trans h.2.1, a4.trans h.2.2⟩
theorem PA.ext {P : Nat → Prop} {S S' : fb_Sh} (hE : Ext P S S') {r j t : Nat} (hr : ¬ P r) (ht : ¬ P t) (h : PA S r j t) : PA S' r j t := by
  obtain ⟨a1, a2, a3, a4, a5⟩ := hE r hr
  obtain ⟨b1, b2, b3, b4, b5⟩ := hE t ht
  unfold PA
  rw [a5, b2]
  exact h
theorem NA.ext {P : Nat → Prop} {S S' : fb_Sh} (hE : Ext P S S') {r : Nat} (hr : ¬ P r) (h : r ∉ sR S) : r ∉ sR S' := fun z => h ((hE r hr).1.mp z)
theorem AA.ext {P : Nat → Prop} {S S' : fb_Sh} (hE : Ext P S S') {r : Nat} (hr : ¬ P r) : sa S' r = sa S r := (hE r hr).2.1
theorem RA.new (S : fb_Sh) (r q k n : Nat) : RA (fb_new S r q k n) r k n := ⟨nw_r S r q k n, nw_k S r q k n, nw_l S r q k n⟩
theorem RA.setp {S : fb_Sh} {r k n : Nat} (h : RA S r k n) (x j : Nat) (v : Option Nat) : RA (fb_setp S x j v) r k n := h
theorem PA.setp {S : fb_Sh} {r j t : Nat} (h : PA S r j t) {x i : Nat} (v : Option Nat) (hx : r ≠ x ∨ j ≠ i) : PA (fb_setp S x i v) r j t := by
  show sp (fb_setp S x i v) r j = some (sa S t)
  by_cases e : r = x
  · subst e
    rw [st_p, va_up_ne _ _ (hx.resolve_left (fun z => z rfl))]
    exact h
  · rw [st_pne S i v e]
    exact h
theorem PA.put (S : fb_Sh) (r j t : Nat) : PA (fb_setp S r j (some (sa S t))) r j t := by
  show sp (fb_setp S r j (some (sa S t))) r j = some (sa S t)
  rw [st_p, va_up_self]
/-- a heap made: its object at h, its row at h + 1, both there for the first time; its row is hung into it -/
def mkH (S : fb_Sh) (h q q' : Nat) : fb_Sh := fb_setp (fb_new (fb_new S h q 0 0) (h + 1) q' 12 6) h 0 (some q')
theorem mkH_ok (S : fb_Sh) (h q q' : Nat) : HeapAt (mkH S h q q') h ∧ sa (mkH S h q q') h = q ∧ Ext (fun x => x = h ∨ x = h + 1) S (mkH S h q q') := by
  have n1 : h ≠ h + 1 := by omega
  have c1 : h ∈ sR (fb_new (fb_new S h q 0 0) (h + 1) q' 12 6) := nw_R _ (h + 1) q' 12 6 (nw_r S h q 0 0)
  have c2 : sk (fb_new (fb_new S h q 0 0) (h + 1) q' 12 6) h = 0 := (nw_kne (fb_new S h q 0 0) q' 12 6 n1).trans (nw_k S h q 0 0)
  have c3 : sp (fb_setp (fb_new (fb_new S h q 0 0) (h + 1) q' 12 6) h 0 (some q')) h 0 = some (sa (fb_new (fb_new S h q 0 0) (h + 1) q' 12 6) (h + 1)) := by
    rw [st_p, va_up_self, nw_a]
  have c4 : sa (fb_new (fb_new S h q 0 0) (h + 1) q' 12 6) h = q := (nw_ane (fb_new S h q 0 0) q' 12 6 n1).trans (nw_a S h q 0 0)
  have c5 := RA.new (fb_new S h q 0 0) (h + 1) q' 12 6
  exact ⟨⟨c1, c2, c3, c5.1, c5.2.1, c5.2.2⟩, c4, ((Ext.new (P := fun x => x = h ∨ x = h + 1) S q 0 0 (Or.inl rfl)).trans (Ext.new (fb_new S h q 0 0) q' 12 6 (Or.inr rfl))).trans (Ext.setp (fb_new (fb_new S h q 0 0) (h + 1) q' 12 6) 0 (some q') (Or.inl rfl))⟩
/-- a sack made -/
def mkS (S : fb_Sh) (r h q q1 q2 : Nat) : fb_Sh := fb_setp (mkH (fb_new S r q 1 0) h q1 q2) r 0 (some q1)
theorem mkS_ok (S : fb_Sh) {r h : Nat} (q q1 q2 : Nat) (h1 : r ≠ h) (h2 : r ≠ h + 1) : SackAt (mkS S r h q q1 q2) r h ∧ sa (mkS S r h q q1 q2) r = q ∧ Ext (fun x => x = r ∨ x = h ∨ x = h + 1) S (mkS S r h q q1 q2) := by
  obtain ⟨a1, a2, a3⟩ := mkH_ok (fb_new S r q 1 0) h q1 q2
  obtain ⟨b1, b2, b3, b4, b5⟩ := a3 r (by omega)
  refine ⟨⟨b1.mpr (nw_r S r q 1 0), b3.trans (nw_k S r q 1 0), ?_, a1.ext (P := fun x => x = r) (Ext.setp (mkH (fb_new S r q 1 0) h q1 q2) 0 (some q1) rfl) (fun e => h1 e.symm) (fun e => h2 e.symm)⟩, b2.trans (nw_a S r q 1 0), ?_⟩
  · show sp (fb_setp (mkH (fb_new S r q 1 0) h q1 q2) r 0 (some q1)) r 0 = some (sa (mkH (fb_new S r q 1 0) h q1 q2) h)
    rw [st_p, va_up_self, a2]
  · exact ((Ext.new (P := fun x => x = r ∨ x = h ∨ x = h + 1) S q 1 0 (Or.inl rfl)).trans (a3.mono (fun x hx => Or.inr hx))).trans (Ext.setp (mkH (fb_new S r q 1 0) h q1 q2) 0 (some q1) (Or.inl rfl))
/-- the rows of heaps below n are empty -/
def zV (V : fb_V) (b n : Nat) : fb_V := fun h => if b ≤ h ∧ h < b + 2 * n ∧ (h - b) % 2 = 0 then fun _ => 0 else V h
theorem zV_0 (V : fb_V) (b : Nat) : zV V b 0 = V := by funext h; unfold zV; rw [if_neg (by omega)]
theorem zV_s (V : fb_V) (b i : Nat) : va_up (zV V b i) (b + 2 * i) (fun _ => 0) = zV V b (i + 1) := by
  funext h
  by_cases e : h = b + 2 * i
  · subst e; rw [va_up_self]; unfold zV; rw [if_pos (by omega)]
  · rw [va_up_ne _ _ e]
    unfold zV
    by_cases c : b ≤ h ∧ h < b + 2 * i ∧ (h - b) % 2 = 0
    · rw [if_pos c, if_pos (by omega)]
    · rw [if_neg c, if_neg (by omega)]
theorem zV_at (V : fb_V) (b n : Nat) {q : Nat} (h : q < n) : zV V b n (b + 2 * q) = fun _ => 0 := by unfold zV; rw [if_pos (by omega)]
theorem zV_out (V : fb_V) (b n : Nat) {h : Nat} (ho : h < b ∨ b + 2 * n ≤ h) : zV V b n h = V h := by unfold zV; rw [if_neg (by omega)]
/-- n heaps hang in the array a, from b on; the others aren't there yet -/
def HsAt (S : fb_Sh) (a b i n : Nat) : Prop := RA S a 8 n ∧ (∀ q, q < i → PA S a q (b + 2 * q) ∧ HeapAt S (b + 2 * q)) ∧ ∀ q, i ≤ q → q < n → b + 2 * q ∉ sR S ∧ b + 2 * q + 1 ∉ sR S
def mkHs (S : fb_Sh) (a b i q q' : Nat) : fb_Sh := fb_setp (mkH S (b + 2 * i) q q') a i (some q)
theorem mkHs_ok {S : fb_Sh} {a b i n : Nat} (q q' : Nat) (ha : a < b ∨ b + 2 * n ≤ a) (hi : i < n) (h : HsAt S a b i n) : HsAt (mkHs S a b i q q') a b (i + 1) n ∧ Ext (fun x => x = b + 2 * i ∨ x = b + 2 * i + 1 ∨ x = a) S (mkHs S a b i q q') := by
  obtain ⟨m1, m2, m3⟩ := mkH_ok S (b + 2 * i) q q'
  obtain ⟨h1, h2, h3⟩ := h
  have eS : Ext (fun x => x = a) (mkH S (b + 2 * i) q q') (mkHs S a b i q q') := Ext.setp (mkH S (b + 2 * i) q q') i (some q) rfl
  refine ⟨⟨(h1.ext m3 (by omega)).setp _ _ _, fun z hz => ?_, fun z z1 z2 => ?_⟩, ?_⟩
  · by_cases e : z = i
    · subst e
      refine ⟨?_, m1.ext eS (by omega) (by omega)⟩
      show sp (fb_setp (mkH S (b + 2 * z) q q') a z (some q)) a z = some (sa (mkH S (b + 2 * z) q q') (b + 2 * z))
      rw [st_p, va_up_self, m2]
    · obtain ⟨g1, g2⟩ := h2 z (by omega)
      exact ⟨(g1.ext m3 (by omega) (by omega)).setp _ (Or.inr e), (g2.ext m3 (by omega) (by omega)).ext eS (by omega) (by omega)⟩
  · obtain ⟨g1, g2⟩ := h3 z (by omega) z2
    exact ⟨NA.ext eS (by omega) (NA.ext m3 (by omega) g1), NA.ext eS (by omega) (NA.ext m3 (by omega) g2)⟩
  · exact (m3.mono (fun x hx => by omega)).trans (Ext.setp (mkH S (b + 2 * i) q q') i (some q) (Or.inr (Or.inr rfl)))
theorem HsAt.ext {P : Nat → Prop} {S S' : fb_Sh} (hE : Ext P S S') {a b i n : Nat} (ha : ¬ P a) (hb : ∀ x, b ≤ x → x < b + 2 * n → ¬ P x) (hi : i ≤ n) (h : HsAt S a b i n) : HsAt S' a b i n := by
  obtain ⟨h1, h2, h3⟩ := h
  refine ⟨h1.ext hE ha, fun q hq => ?_, fun q q1 q2 => ?_⟩
  · obtain ⟨g1, g2⟩ := h2 q hq
    exact ⟨g1.ext hE ha (hb _ (by omega) (by omega)), g2.ext hE (hb _ (by omega) (by omega)) (hb _ (by omega) (by omega))⟩
  · obtain ⟨g1, g2⟩ := h3 q q1 q2
    exact ⟨NA.ext hE (hb _ (by omega) (by omega)) g1, NA.ext hE (hb _ (by omega) (by omega)) g2⟩
/-- an array made, and hung into an object -/
def mkA (S : fb_Sh) (o j r q k n : Nat) : fb_Sh := fb_setp (fb_new S r q k n) o j (some q)
theorem mkA_ok (S : fb_Sh) {o r : Nat} (j q k n : Nat) (h : r ≠ o) : RA (mkA S o j r q k n) r k n ∧ PA (mkA S o j r q k n) o j r ∧ Ext (fun x => x = o ∨ x = r) S (mkA S o j r q k n) ∧ (∀ K N, RA S o K N → RA (mkA S o j r q k n) o K N) ∧ (∀ i t, i ≠ j → t ≠ r → PA S o i t → PA (mkA S o j r q k n) o i t) ∧ sa (mkA S o j r q k n) o = sa S o ∧ sa (mkA S o j r q k n) r = q := by
  have e1 : Ext (fun x => x = r) S (fb_new S r q k n) := Ext.new S q k n rfl
  refine ⟨RA.new S r q k n, ?_, ?_, fun K N h1 => (h1.ext e1 (fun e => h e.symm)).setp _ _ _, fun i t hi ht h1 => (h1.ext e1 (fun e => h e.symm) ht).setp _ (Or.inr hi), nw_ane S q k n (fun e => h e.symm), nw_a S r q k n⟩
  · show sp (fb_setp (fb_new S r q k n) o j (some q)) o j = some (sa (fb_new S r q k n) r)
    rw [st_p, va_up_self, nw_a]
  · exact (Ext.new (P := fun x => x = o ∨ x = r) S q k n (Or.inr rfl)).trans (Ext.setp (fb_new S r q k n) j (some q) (Or.inl rfl))
