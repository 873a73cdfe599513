/-! the shape of a list that has grown -/
theorem g0_ok {S : fb_Sh} {r e : Nat} (q : Nat) (h1 : r ∈ sR S) (h2 : sk S r = 5) (he : e ∉ sR S) : LsAt (fb_setp (fb_new S e q 9 10) r 1 (some q)) r e 10 ∧ sa (fb_setp (fb_new S e q 9 10) r 1 (some q)) e = q ∧ Ext (fun z => z = r ∨ z = e) S (fb_setp (fb_new S e q 9 10) r 1 (some q)) := by
  have ne : r ≠ e := ne_in h1 he
  have e1 : Ext (fun x => x = e) S (fb_new S e q 9 10) := Ext.new S q 9 10 rfl
  obtain ⟨r1, r2, r3⟩ := RA.ext (r := r) (k := 5) (n := sn S r) e1 ne ⟨h1, h2, rfl⟩
  refine ⟨⟨⟨r1, r2⟩, ?_, RA.new S e q 9 10⟩, nw_a S e q 9 10, (e1.mono (fun x hx => Or.inr hx)).trans (Ext.setp (fb_new S e q 9 10) 1 (some q) (Or.inl rfl))⟩
  show sp (fb_setp (fb_new S e q 9 10) r 1 (some q)) r 1 = some (sa (fb_new S e q 9 10) e)
  rw [st_p, va_up_self, nw_a]
theorem g1_ok {S : fb_Sh} {r e : Nat} (q : Nat) (f : Nat → Option Nat) (h1 : r ∈ sR S) (h2 : sk S r = 5) (he : e ∉ sR S) : LsAt (fb_setp (fb_setps (fb_new S e q 9 15) e f) r 1 (some q)) r e 15 ∧ sa (fb_setp (fb_setps (fb_new S e q 9 15) e f) r 1 (some q)) e = q ∧ Ext (fun z => z = r ∨ z = e) S (fb_setp (fb_setps (fb_new S e q 9 15) e f) r 1 (some q)) ∧ sp (fb_setp (fb_setps (fb_new S e q 9 15) e f) r 1 (some q)) e = f := by
  have ne : r ≠ e := ne_in h1 he
  have e1 : Ext (fun x => x = e) S (fb_new S e q 9 15) := Ext.new S q 9 15 rfl
  have e2 : Ext (fun x => x = e) (fb_new S e q 9 15) (fb_setps (fb_new S e q 9 15) e f) := fun x hx => ⟨Iff.rfl, rfl, rfl, rfl, va_up_ne _ _ hx⟩
  obtain ⟨r1, r2, r3⟩ := RA.ext (r := r) (k := 5) (n := sn S r) e1 ne ⟨h1, h2, rfl⟩
  refine ⟨⟨⟨r1, r2⟩, ?_, RA.new S e q 9 15⟩, nw_a S e q 9 15, ((e1.trans e2).mono (fun x hx => Or.inr hx)).trans (Ext.setp (fb_setps (fb_new S e q 9 15) e f) 1 (some q) (Or.inl rfl)), ?_⟩
  · show sp (fb_setp (fb_setps (fb_new S e q 9 15) e f) r 1 (some q)) r 1 = some (sa (fb_new S e q 9 15) e)
    rw [st_p, va_up_self, nw_a]
  · rw [st_pne _ _ _ (fun z => ne z.symm)]
    exact va_up_self _ _ _
/-- an element laid into a list's row -/
theorem LsAt.put {S : fb_Sh} {r e na n x : Nat} (h : LsAt S r e na) (hn : r ≠ e) : LsN S (fb_setp S e n (some (sa S x))) r e na n x := ⟨⟨h.1, h.2.1.setp _ (Or.inl hn), h.2.2⟩, PA.put S e n x, Ext.setp S n _ (Or.inr rfl), rfl⟩
theorem LsAt.ne {S : fb_Sh} {r e na : Nat} (h : LsAt S r e na) : r ≠ e := fun z => by
  have h1 := h.1.2
  rw [z, h.2.2.2.1] at h1
  exact absurd h1 (by decide)
