/-! a role let go wherever it stands; the reference's shape with one tick more -/
theorem fb_nd {A : Nat → Prop} {R : List Nat} {ad : Nat → Nat} {g : Nat → va_E} (hD : va_D A (fb_map R ad g)) : R.Nodup := by
  rw [List.Nodup, List.pairwise_iff_getElem]
  intro i j hi hj hij e
  have := hD.1 i j (ad R[i], g R[i]) (ad R[j], g R[j]) (by simp [fb_map, hi]) (by simp [fb_map, hj]) (by rw [e])
  omega
theorem fb_sub_D {A : Nat → Prop} {R R' : List Nat} {ad : Nat → Nat} {g : Nat → va_E} (hD : va_D A (fb_map R ad g)) (hs : ∀ x, x ∈ R' → x ∈ R) (hn : R'.Nodup) : va_D A (fb_map R' ad g) := by
  have key : ∀ (i : Nat) (u : Nat × va_E), (fb_map R' ad g)[i]? = some u → ∃ a, R'[i]? = some a ∧ u = (ad a, g a) := by
    intro i u h
    simp only [fb_map, List.getElem?_map] at h
    cases hr : R'[i]? with
    | none => rw [hr] at h; cases h
    | some a => rw [hr] at h; exact ⟨a, rfl, (Option.some.inj h).symm⟩
  refine ⟨fun i j u v hi hj e => ?_, fun k q hq => ?_⟩
  · obtain ⟨a, ha, rfl⟩ := key i u hi
    obtain ⟨b, hb, rfl⟩ := key j v hj
    have e2 := fb_inj hD (hs _ (List.mem_of_getElem? ha)) (hs _ (List.mem_of_getElem? hb)) e
    subst e2
    obtain ⟨li, hi2⟩ := List.getElem?_eq_some_iff.mp ha
    obtain ⟨lj, hj2⟩ := List.getElem?_eq_some_iff.mp hb
    rw [List.Nodup, List.pairwise_iff_getElem] at hn
    rcases Nat.lt_trichotomy i j with h | h | h
    · exact absurd (hi2.trans hj2.symm) (hn i j li lj h)
    · exact h
    · exact absurd (hj2.trans hi2.symm) (hn j i lj li h)
  · obtain ⟨a, ha, rfl⟩ := key k q hq
    obtain ⟨k2, -, h2⟩ := fb_map_get (ad := ad) (g := g) (hs _ (List.mem_of_getElem? ha))
    exact hD.2 k2 _ h2
def fb_del (S : fb_Sh) (r : Nat) : fb_Sh := ((sR S).filter (fun x => x ≠ r), sa S, sk S, sn S, sp S)
theorem fb_del_M {D : va_G} {y : Nat → ClassId} {A : Nat → Prop} {s : State} {S : fb_Sh} {V : fb_V} {T : fb_T} {I : fb_V} {H : Heap} {locs : List Loc} (r : Nat) (hM : fb_M D y A s (S, V, T, I) H locs) : fb_M D y A s (fb_del S r, V, T, I) H locs := by
  have hs : ∀ x, x ∈ (sR S).filter (fun x => x ≠ r) → x ∈ sR S := fun x h => (List.mem_filter.mp h).1
  refine ⟨fun k q hq => ?_, fb_sub_D (g := fb_g y (S, V, T, I)) hM.2.1 hs ((fb_nd (g := fb_g y (S, V, T, I)) hM.2.1).filter _), hM.2.2⟩
  have hq2 : (fb_map ((sR S).filter (fun x => x ≠ r)) (sa S) (fb_g y (S, V, T, I)))[k]? = some q := hq
  simp only [fb_map, List.getElem?_map] at hq2
  cases hr : ((sR S).filter (fun x => x ≠ r))[k]? with
  | none => rw [hr] at hq2; cases hq2
  | some a =>
    rw [hr] at hq2
    obtain ⟨k2, -, h2⟩ := fb_map_get (ad := sa S) (g := fb_g y (S, V, T, I)) (hs _ (List.mem_of_getElem? hr))
    rw [← Option.some.inj hq2]
    exact hM.1 k2 _ h2
theorem fb_del_ext (S : fb_Sh) (r : Nat) : Ext (fun x => x = r) S (fb_del S r) := fun x hx => ⟨⟨fun h => (List.mem_filter.mp h).1, fun h => List.mem_filter.mpr ⟨h, decide_eq_true hx⟩⟩, rfl, rfl, rfl, rfl⟩
theorem fb_del_na (S : fb_Sh) (r : Nat) : r ∉ sR (fb_del S r) := fun h => of_decide_eq_true (List.mem_filter.mp h).2 rfl
theorem MdAt.set5 {S : fb_Sh} {o nt : Nat} {cf rf : Nat → Nat} (h : MdAt S o nt cf rf) (v : Option Nat) : MdAt (fb_setp S (o + 5) nt v) o nt cf rf := by
  unfold MdAt at h ⊢
  rw [st_pne S (r := o + 5) nt v (show o ≠ o + 5 by omega), st_pne S (r := o + 5) nt v (show o + 6 ≠ o + 5 by omega), st_p]
  refine ⟨h.1, h.2.1, h.2.2.1, h.2.2.2.1, h.2.2.2.2.1, h.2.2.2.2.2.1, h.2.2.2.2.2.2.1, h.2.2.2.2.2.2.2.1, h.2.2.2.2.2.2.2.2.1, fun t ht => ?_⟩
  rw [va_up_ne _ _ (show t ≠ nt by omega)]
  exact h.2.2.2.2.2.2.2.2.2 t ht
theorem MdAt.set6 {S : fb_Sh} {o nt : Nat} {cf rf : Nat → Nat} (h : MdAt S o nt cf rf) (v : Option Nat) : MdAt (fb_setp S (o + 6) nt v) o nt cf rf := by
  unfold MdAt at h ⊢
  rw [st_pne S (r := o + 6) nt v (show o ≠ o + 6 by omega), st_pne S (r := o + 6) nt v (show o + 5 ≠ o + 6 by omega), st_p]
  refine ⟨h.1, h.2.1, h.2.2.1, h.2.2.2.1, h.2.2.2.2.1, h.2.2.2.2.2.1, h.2.2.2.2.2.2.1, h.2.2.2.2.2.2.2.1, h.2.2.2.2.2.2.2.2.1, fun t ht => ?_⟩
  rw [va_up_ne _ _ (show t ≠ nt by omega)]
  exact h.2.2.2.2.2.2.2.2.2 t ht
theorem MdAt.succ {S : fb_Sh} {o nt c r : Nat} {cf rf : Nat → Nat} (h : MdAt S o nt cf rf) (a1 : RA S (o + 10 + nt) 6 (6 * (c * r))) (a2 : RA S (o + 20 + nt) 7 (2 * (c * r))) (p1 : PA S (o + 5) nt (o + 10 + nt)) (p2 : PA S (o + 6) nt (o + 20 + nt)) : MdAt S o (nt + 1) (va_up cf nt c) (va_up rf nt r) := by
  refine ⟨h.1, h.2.1, h.2.2.1, h.2.2.2.1, h.2.2.2.2.1, h.2.2.2.2.2.1, h.2.2.2.2.2.2.1, h.2.2.2.2.2.2.2.1, h.2.2.2.2.2.2.2.2.1, fun t ht => ?_⟩
  by_cases e : t = nt
  · subst e
    rw [va_up_self, va_up_self]
    exact ⟨⟨p1, a1⟩, p2, a2⟩
  · rw [va_up_ne _ _ e, va_up_ne _ _ e]
    exact h.2.2.2.2.2.2.2.2.2 t (by omega)
section FBX2
variable {p : Program} {l : Launch} {e : Env} {R : Room} {s : State} {m : MethodId} {args : Array Value} {below : List Frame} {meth : Method} {c : Code} {H : Heap} {locs : List Loc} {cells slots : Nat} {Q : State → Prop}
variable {cc : ByteArray} {own : String} {pc : Nat} {ls : Array Slot} {rest : List Value} {D : va_G} {A : Nat → Prop} {y : Nat → ClassId} {S : fb_Sh} {V : fb_V} {T : fb_T} {I : fb_V} {r : Nat}
/-- a whole row laid into another one from dp on -/
theorem fb_copyd (hx : p.tables.exec = Jvm.exec) (hb : c.code = cc) (hml : c.maxLocals = ls.size) {index : Nat} (hown : s.vm.findClass own = some m.cls) (hlink : (Cond.methodLink own index arraycopyName).before args s = true) (hnat : (Cond.native arraycopyName).before args s = true) (hstat : (Cond.static arraycopyName).before args s = true) (hini : (Cond.initialized "java/lang/System").before args s = true)
    (hM : fb_M D y A s (S, V, T, I) H locs) {r1 n1 : Nat} (hr : r ∈ sR S) (hk : sk S r = 6) (hr1 : r1 ∈ sR S) (hk1 : sk S r1 = 6) (hne : r1 ≠ r) (hn1 : sn S r1 = n1) {n d : Nat} (hn : sn S r = n) {v dp : Int32} (hd : dp.toNatClampNeg = d) (hd0 : ¬ dp < 0) (h5 : d + n ≤ n1) (hv : v.toNatClampNeg = n) (hv0 : ¬ v < 0)
    (hframes : 1 ≤ R.frames) (hlocals : (rest.map fun v => v.category).sum + (nativeFrameWords "java/lang/System" "arraycopy" 5 + 11) ≤ R.locals) (hdg : decode cc pc = .ok (.invokestatic index, 3))
    (kk : ∀ (H1 : Heap) (locs1 : List Loc), fb_M D y A s (S, V, T, va_up I r1 (va_cpy (I r) (I r1) 0 d n)) H1 locs1 → W p l e R s m args below meth c H1 locs1 cells slots Q (F0 m (pc + 3) ls rest)) : W p l e R s m args below meth c H locs cells slots Q (F0 m pc ls (.int v :: .int dp :: .ref (sa S r1) :: .int 0 :: .ref (sa S r) :: rest)) := by
  subst hn hn1
  obtain ⟨k0, h1, h2⟩ := fb_map_get (ad := sa S) (g := fb_g y (S, V, T, I)) hr
  obtain ⟨k1, g1, g2⟩ := fb_map_get (ad := sa S) (g := fb_g y (S, V, T, I)) hr1
  rw [ce6 hk] at h2
  rw [ce6 hk1] at g2
  refine va_copyi hx hb hml hown hlink hnat hstat hini hM.2.2.2.1 hM.1 hM.2.1 hM.2.2.1 k0 k1 0 0 h2 g2 rfl rfl rfl (by decide) hd0 hv0 (by rw [hv]; show 0 + _ ≤ _; omega) (by rw [hv, hd]; exact h5) (fun _ _ => rfl) hframes hlocals hdg fun H1 locs1 a1 a2 a3 => ?_
  rw [hv, hd] at a1 a2
  have e : (fb_wd y (S, V, T, I)).set k1 (sa S r1, .inl (y 0, sn S r1, .inl (va_cpy (I r) (I r1) 0 d (sn S r)))) = fb_wd y (S, V, T, va_up I r1 (va_cpy (I r) (I r1) 0 d (sn S r))) := by
    refine fb_map_set hM.2.1 g1 fun q => ?_
    by_cases hq : q = r1
    · subst hq; rw [va_up_self, ce6 hk1, va_up_self]
    · rw [va_up_ne _ _ hq]; simp only [fb_g, fb_cell, va_up_ne _ _ hq]
  have e2 : va_cpy (I r) (I r1) (Int32.toNatClampNeg 0) d (sn S r) = va_cpy (I r) (I r1) 0 d (sn S r) := rfl
  rw [e2] at a1 a2
  exact kk H1 locs1 ⟨by rw [← e]; exact a1, by rw [← e]; exact a2, a3, hM.2.2.2⟩
end FBX2
/-- the table of ticks with one more -/
def tbl (f : Nat → Int32) (nt c r d : Nat) : Nat → Int32 := fun j => if j = 3 * nt then nI c else if j = 3 * nt + 1 then nI r else if j = 3 * nt + 2 then nI d else f j
theorem tbl_cpy (f g : Nat → Int32) (nt c r d : Nat) : va_cpy (upd (upd (upd g 0 (nI c)) 1 (nI r)) 2 (nI d)) f 0 (3 * nt) 3 = tbl f nt c r d := by
  funext j
  unfold va_cpy tbl
  by_cases h : 3 * nt ≤ j ∧ j < 3 * nt + 3
  · rw [if_pos h]
    rcases (show j = 3 * nt ∨ j = 3 * nt + 1 ∨ j = 3 * nt + 2 by omega) with e | e | e
    · rw [if_pos e, show 0 + (j - 3 * nt) = 0 by omega]; rfl
    · rw [if_neg (by omega), if_pos e, show 0 + (j - 3 * nt) = 1 by omega]; rfl
    · rw [if_neg (by omega), if_neg (by omega), if_pos e, show 0 + (j - 3 * nt) = 2 by omega]; rfl
  · rw [if_neg h, if_neg (by omega), if_neg (by omega), if_neg (by omega)]
def tkI (I : fb_V) (o nt c r d : Nat) : fb_V := va_up (va_up (va_up (va_up (t0 I o) (o + 4) (tbl (I (o + 4)) nt c r d)) (o + 10 + nt) (fun _ => 0)) (o + 20 + nt) (fun _ => 0)) o (upd (t0 I o o) 6 (nI (nt + 1)))
theorem mf_succ {I : fb_V} {o ns nt c r d : Nat} {cf rf df : Nat → Nat} (h : MF I o ns nt cf rf df) (hn : nt < 6) (hc : 1 ≤ c ∧ c ≤ 6) (hr : 1 ≤ r ∧ r ≤ 6) (hd : 1 ≤ d ∧ d ≤ 9) : MF (tkI I o nt c r d) o ns (nt + 1) (va_up cf nt c) (va_up rf nt r) (va_up df nt d) := by
  obtain ⟨h1, h2, h3, h4, h5, h6⟩ := h
  have e0 : tkI I o nt c r d o = upd (t0 I o o) 6 (nI (nt + 1)) := va_up_self _ _ _
  have e4 : tkI I o nt c r d (o + 4) = tbl (I (o + 4)) nt c r d := by
    unfold tkI
    rw [va_up_ne _ _ (show o + 4 ≠ o by omega), va_up_ne _ _ (show o + 4 ≠ o + 20 + nt by omega), va_up_ne _ _ (show o + 4 ≠ o + 10 + nt by omega), va_up_self]
  have e2 : tkI I o nt c r d (o + 2) = I (o + 2) := by
    unfold tkI
    rw [va_up_ne _ _ (show o + 2 ≠ o by omega), va_up_ne _ _ (show o + 2 ≠ o + 20 + nt by omega), va_up_ne _ _ (show o + 2 ≠ o + 10 + nt by omega), va_up_ne _ _ (show o + 2 ≠ o + 4 by omega), t0_ne I (show o + 2 ≠ o by omega)]
  refine ⟨?_, ?_, h3, by omega, fun t ht => ?_, fun i hi => ?_⟩
  · rw [e0]; simp only [upd]; rw [if_neg (by decide), t0_f I o (show 1 ≠ 0 by decide)]; exact h1
  · rw [e0]; simp only [upd, if_true]
  · rw [e4]
    by_cases e : t = nt
    · subst e
      rw [va_up_self, va_up_self, va_up_self]
      unfold tbl
      rw [if_pos rfl, if_neg (by omega), if_pos rfl, if_neg (by omega), if_neg (by omega), if_pos rfl]
      exact ⟨rfl, rfl, rfl, hc.1, hc.2, hr.1, hr.2, hd.1, hd.2⟩
    · rw [va_up_ne _ _ e, va_up_ne _ _ e, va_up_ne _ _ e]
      unfold tbl
      rw [if_neg (by omega), if_neg (by omega), if_neg (by omega), if_neg (by omega), if_neg (by omega), if_neg (by omega), if_neg (by omega), if_neg (by omega), if_neg (by omega)]
      exact h5 t (by omega)
  · rw [e2]; exact h6 i hi
