/-! lists: their shape, a cast, a copied row of references -/
def LsAt (S : fb_Sh) (r e na : Nat) : Prop := (r ∈ sR S ∧ sk S r = 5) ∧ PA S r 1 e ∧ RA S e 9 na
def fb_setps (S : fb_Sh) (r : Nat) (f : Nat → Option Nat) : fb_Sh := (sR S, sa S, sk S, sn S, va_up (sp S) r f)
theorem va_Mi.uniq {C : String} {m1 m2 : Nat} {U : State} (h1 : va_Mi C m1 U) (h2 : va_Mi C m2 U) : m1 = m2 := by
  obtain ⟨c, k, a1, a2, a3⟩ := h1
  obtain ⟨c', k', b1, b2, b3⟩ := h2
  cases a1.symm.trans b1
  cases a2.symm.trans b2
  exact Option.some.inj (a3.symm.trans b3)
section FBL
variable {p : Program} {l : Launch} {e : Env} {R : Room} {s : State} {m : MethodId} {args : Array Value} {below : List Frame} {meth : Method} {c : Code} {H : Heap} {locs : List Loc} {cells slots : Nat} {Q : State → Prop}
variable {cc : ByteArray} {own : String} {pc : Nat} {ls : Array Slot} {rest : List Value} {D : va_G} {A : Nat → Prop} {y : Nat → ClassId} {S : fb_Sh} {V : fb_V} {T : fb_T} {I : fb_V} {r : Nat} {w : fb_W} {a0 : Nat × Nat}
theorem fb_castS (hx : p.tables.exec = Jvm.exec) (hb : c.code = cc) {index : Nat} {q : vw_C} (hown : s.vm.findClass own = some m.cls) (hlink : (Cond.classLink own index q.1).before args s = true) (hM : fb_M D y A s w H locs) (hr : r ∈ sR w.1) {ci : Nat} {fs : List Value} (he : fb_g y w r = .inr (ci, fs)) (hc : vwCl[ci]? = some q) (hdg : decode cc pc = .ok (.checkcast index, 3))
    (kk : W p l e R s m args below meth c H locs cells slots Q (F0 m (pc + 3) ls (.ref (sa w.1 r) :: rest))) : W p l e R s m args below meth c H locs cells slots Q (F0 m pc ls (.ref (sa w.1 r) :: rest)) := by
  obtain ⟨k0, h1, h2⟩ := fb_map_get (ad := sa w.1) (g := fb_g y w) hr
  rw [he] at h2
  exact va_castS hx hb hown hlink (hM.2.2.2.1.1 ci _ hc).2 (va_recv hM.2.2.2.1 hM.1 hc h2) hdg kk
/-- ArrayList's empty row: it is read, and told from others -/
theorem fb_geta0 (hx : p.tables.exec = Jvm.exec) (hb : c.code = cc) {index : Nat} (hown : s.vm.findClass own = some m.cls) (hlink : (Cond.fieldLink own index RJx4a65c "DEFAULTCAPACITY_EMPTY_ELEMENTDATA" "[Ljava/lang/Object;").before args s = true) (hM : fb_M D y A s w H locs) (hE : fb_E a0 A s) (hdg : decode cc pc = .ok (.getstatic index, 3))
    (kk : W p l e R s m args below meth c H locs cells slots Q (F0 m (pc + 3) ls (.ref a0.1 :: rest))) : W p l e R s m args below meth c H locs cells slots Q (F0 m pc ls rest) :=
  va_gets hx hb hE.2.2.2.1 hM.2.2.1 hown hlink (fun _ h => h) hdg kk
theorem fb_lena0 (hx : p.tables.exec = Jvm.exec) (hb : c.code = cc) (hM : fb_M D y A s w H locs) (hE : fb_E a0 A s) (hdg : decode cc pc = .ok (.arraylength, 1))
    (kk : W p l e R s m args below meth c H locs cells slots Q (F0 m (pc + 1) ls (.int 0 :: rest))) : W p l e R s m args below meth c H locs cells slots Q (F0 m pc ls (.ref a0.1 :: rest)) := by
  obtain ⟨-, -, -, hA, cell, h1, h2, h3, h4⟩ := hE.2.kept hM.2.2.1.2.1
  exact W.alen hx hb h1 h2 (n := 0) (by rw [h4]; rfl) rfl rfl hdg kk
/-- the first n references of a row of objects (sacks), laid into another row -/
theorem fb_copyq (hx : p.tables.exec = Jvm.exec) (hb : c.code = cc) (hml : c.maxLocals = ls.size) {index : Nat} (hown : s.vm.findClass own = some m.cls) (hlink : (Cond.methodLink own index arraycopyName).before args s = true) (hnat : (Cond.native arraycopyName).before args s = true) (hstat : (Cond.static arraycopyName).before args s = true) (hini : (Cond.initialized "java/lang/System").before args s = true)
    (hM : fb_M D y A s (S, V, T, I) H locs) (hE : fb_E a0 A s) {r1 n0 n1 : Nat} (hr : RA S r 9 n0) (hr1 : RA S r1 9 n1) {n : Nat} (h4 : n ≤ n0) (h5 : n ≤ n1) (hel : ∀ i, i < n → ∃ x, x ∈ sR S ∧ sk S x = 1 ∧ sp S r i = some (sa S x)) {v : Int32} (hv : v.toNatClampNeg = n) (hv0 : ¬ v < 0)
    (hframes : 1 ≤ R.frames) (hlocals : (rest.map fun v => v.category).sum + (nativeFrameWords "java/lang/System" "arraycopy" 5 + 11) ≤ R.locals) (hdg : decode cc pc = .ok (.invokestatic index, 3))
    (kk : ∀ (H1 : Heap) (locs1 : List Loc), fb_M D y A s (fb_setps S r1 (va_cpy (sp S r) (sp S r1) 0 0 n), V, T, I) H1 locs1 → W p l e R s m args below meth c H1 locs1 cells slots Q (F0 m (pc + 3) ls rest)) : W p l e R s m args below meth c H locs cells slots Q (F0 m pc ls (.int v :: .int 0 :: .ref (sa S r1) :: .int 0 :: .ref (sa S r) :: rest)) := by
  obtain ⟨hr, hk, hl⟩ := hr
  obtain ⟨hr1, hk1, hl1⟩ := hr1
  subst hl hl1
  obtain ⟨k0, h1, h2⟩ := fb_map_get (ad := sa S) (g := fb_g y (S, V, T, I)) hr
  obtain ⟨k1, g1, g2⟩ := fb_map_get (ad := sa S) (g := fb_g y (S, V, T, I)) hr1
  rw [ce9 hk] at h2
  rw [ce9 hk1] at g2
  refine va_copyq hx hb hml hown hlink hnat hstat hini hM.2.2.2.1 hM.1 hM.2.1 hM.2.2.1 k0 k1 3 3 (C := RX1) h2 g2 rfl rfl (by decide) (by decide) hv0 (by rw [hv]; show 0 + _ ≤ _; omega) (by rw [hv]; show 0 + _ ≤ _; omega) (fun i hi y9 hy => ?_) (vb_asgC hE.1.2.2.1) hframes hlocals hdg fun H1 locs1 a1 a2 a3 => ?_
  · rw [hv] at hi
    obtain ⟨x, x1, x2, x3⟩ := hel i hi
    have hy2 : sp S r (0 + i) = some y9 := hy
    rw [Nat.zero_add, x3] at hy2
    cases hy2
    obtain ⟨kx, -, hx2⟩ := fb_map_get (ad := sa S) (g := fb_g y (S, V, T, I)) x1
    rw [ce1 x2] at hx2
    exact va_recv hM.2.2.2.1 hM.1 (q := (RX1, TX1, 2)) rfl hx2
  · rw [hv] at a1 a2
    have e : (fb_wd y (S, V, T, I)).set k1 (sa S r1, .inl (y 3, sn S r1, .inr (.inr (.inr (.inr (va_cpy (sp S r) (sp S r1) 0 0 n)))))) = fb_wd y (fb_setps S r1 (va_cpy (sp S r) (sp S r1) 0 0 n), V, T, I) := by
      refine fb_map_set hM.2.1 g1 (g' := fb_g y (fb_setps S r1 (va_cpy (sp S r) (sp S r1) 0 0 n), V, T, I)) fun q => ?_
      by_cases hq : q = r1
      · subst hq
        rw [va_up_self, ce9 (S := fb_setps S q (va_cpy (sp S r) (sp S q) 0 0 n)) hk1]
        show _ = Sum.inl (y 3, sn S q, Sum.inr (Sum.inr (Sum.inr (Sum.inr (va_up (sp S) q (va_cpy (sp S r) (sp S q) 0 0 n) q)))))
        rw [va_up_self]
      · rw [va_up_ne _ _ hq]; simp only [fb_g, fb_cell, fb_setps, sk, sn, sp, va_up_ne _ _ hq]
    have e2 : va_cpy (sp S r) (sp S r1) (Int32.toNatClampNeg 0) (Int32.toNatClampNeg 0) n = va_cpy (sp S r) (sp S r1) 0 0 n := rfl
    rw [e2] at a1 a2
    exact kk H1 locs1 ⟨by rw [← e]; exact a1, by rw [← e]; exact a2, a3, hM.2.2.2⟩
/-- modCount, by the name of the class that brings it -/
theorem fb_put5 {args : Array Value} {Ts : List Cond} {ref : String} (hx : p.tables.exec = Jvm.exec) (hb : c.code = cc) (hown : s.vm.findClass own = some m.cls) (hts : ∀ x ∈ Ts, x.before args s = true) (hin : ∀ x ∈ wsJx4a65c0, x ∈ Ts) (hM : fb_M D y A s (S, V, T, I) H locs) (hr : r ∈ sR S) (hk : sk S r = 5) {index : Nat} (hlink : (Cond.fieldLink own index ref "modCount" "I").before args s = true) (hsame : ∀ x, s.fieldFound? "java/util/AbstractList" "modCount" "I" = some x → s.fieldFound? ref "modCount" "I" = some x) {v : Int32} (hdg : decode cc pc = .ok (.putfield index, 3))
    (kk : ∀ (H1 : Heap) (locs1 : List Loc), fb_M D y A s (S, V, T, va_up I r (upd (I r) 0 v)) H1 locs1 → W p l e R s m args below meth c H1 locs1 cells slots Q (F0 m (pc + 3) ls rest)) : W p l e R s m args below meth c H locs cells slots Q (F0 m pc ls (.int v :: .ref (sa S r) :: rest)) := by
  obtain ⟨k0, h1, h2⟩ := fb_map_get (ad := sa S) (g := fb_g y (S, V, T, I)) hr
  rw [ce5 hk] at h2
  refine va_put hx hb hts hin tyJx4a65c tyJx4a65c_ok nmJx4a65c hown hM.2.2.2.1 hM.1 hM.2.1 hM.2.2.1 k0 h2 (C := RJx4a65c) (T := TJx4a65c) (N := 3) rfl 0 (by decide) hlink hsame rfl (ty := .int) (v := .int v) (by decide +kernel) rfl rfl (Nat.le_of_ble_eq_true rfl) hdg fun H1 locs1 a1 a2 a3 => ?_
  have e : (fb_wd y (S, V, T, I)).set k0 (sa S r, .inr (0, [.int v, va_rf (sp S r 1), .int (I r 2)])) = fb_wd y (S, V, T, va_up I r (upd (I r) 0 v)) := by
    refine fb_map_set hM.2.1 h1 (up_I (j := 0) (v := v) ?_)
    rw [ce5 hk]
    simp [va_up, upd]
  exact kk H1 locs1 ⟨by rw [← e]; exact a1, by rw [← e]; exact a2, a3, hM.2.2.2⟩
theorem fb_get5 {args : Array Value} {Ts : List Cond} {ref : String} (hx : p.tables.exec = Jvm.exec) (hb : c.code = cc) (hown : s.vm.findClass own = some m.cls) (hts : ∀ x ∈ Ts, x.before args s = true) (hin : ∀ x ∈ wsJx4a65c0, x ∈ Ts) (hM : fb_M D y A s (S, V, T, I) H locs) (hr : r ∈ sR S) (hk : sk S r = 5) {index : Nat} (hlink : (Cond.fieldLink own index ref "modCount" "I").before args s = true) (hsame : ∀ x, s.fieldFound? "java/util/AbstractList" "modCount" "I" = some x → s.fieldFound? ref "modCount" "I" = some x) (hdg : decode cc pc = .ok (.getfield index, 3))
    (kk : W p l e R s m args below meth c H locs cells slots Q (F0 m (pc + 3) ls (.int (I r 0) :: rest))) : W p l e R s m args below meth c H locs cells slots Q (F0 m pc ls (.ref (sa S r) :: rest)) := by
  obtain ⟨k0, h1, h2⟩ := fb_map_get (ad := sa S) (g := fb_g y (S, V, T, I)) hr
  rw [ce5 hk] at h2
  exact va_get hx hb hts hin hown hM.2.2.2.1 hM.1 k0 h2 (C := RJx4a65c) (T := TJx4a65c) (N := 3) rfl 0 (by decide) hlink hsame rfl hdg kk
end FBL
theorem fb_clsO {D : va_G} {A : Nat → Prop} {y : Nat → ClassId} {s : State} {w : fb_W} {H : Heap} {locs : List Loc} {r n : Nat} (hM : fb_M D y A s w H locs) (hr : RA w.1 r 9 n) : ∃ cell : Cell, H[sa w.1 r]? = some cell ∧ cell.vm.isStatics = false ∧ s.vm.findClass "[Ljava/lang/Object;" = some cell.cls := by
  obtain ⟨S, V, T, I⟩ := w
  obtain ⟨k0, h1, h2⟩ := fb_map_get (ad := sa S) (g := fb_g y (S, V, T, I)) hr.1
  rw [ce9 hr.2.1] at h2
  exact ⟨_, hM.1 k0 _ h2, rfl, va_nmO (hM.2.2.2.1.2 3 _ rfl).2 rfl⟩
def LsN (S S2 : fb_Sh) (r e na n x : Nat) : Prop := LsAt S2 r e na ∧ PA S2 e n x ∧ Ext (fun z => z = r ∨ z = e) S S2 ∧ sa S2 r = sa S r
