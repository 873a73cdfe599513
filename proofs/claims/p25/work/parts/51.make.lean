/-! made objects and arrays: the role r of what is made stands in no other world; what is written into their pointers -/
def fb_put1 (S : fb_Sh) (r q k n : Nat) : fb_Sh := fb_new S r q k n
theorem nw_R (S : fb_Sh) (r q k n : Nat) {x : Nat} (h : x ∈ sR S) : x ∈ sR (fb_new S r q k n) := List.mem_append_left _ h
theorem nw_r (S : fb_Sh) (r q k n : Nat) : r ∈ sR (fb_new S r q k n) := List.mem_append_right _ (List.mem_singleton.mpr rfl)
theorem nw_n (S : fb_Sh) {r : Nat} (q k n : Nat) {x : Nat} (h : x ∉ sR S) (hx : x ≠ r) : x ∉ sR (fb_new S r q k n) := fun z => by
  rcases List.mem_append.mp z with z | z
  · exact h z
  · exact hx (List.mem_singleton.mp z)
theorem nw_a (S : fb_Sh) (r q k n : Nat) : sa (fb_new S r q k n) r = q := va_up_self _ _ _
theorem nw_k (S : fb_Sh) (r q k n : Nat) : sk (fb_new S r q k n) r = k := va_up_self _ _ _
theorem nw_l (S : fb_Sh) (r q k n : Nat) : sn (fb_new S r q k n) r = n := va_up_self _ _ _
theorem nw_p (S : fb_Sh) (r q k n : Nat) : sp (fb_new S r q k n) r = fun _ => none := va_up_self _ _ _
theorem nw_ane (S : fb_Sh) {r : Nat} (q k n : Nat) {x : Nat} (h : x ≠ r) : sa (fb_new S r q k n) x = sa S x := va_up_ne _ _ h
theorem nw_kne (S : fb_Sh) {r : Nat} (q k n : Nat) {x : Nat} (h : x ≠ r) : sk (fb_new S r q k n) x = sk S x := va_up_ne _ _ h
theorem nw_lne (S : fb_Sh) {r : Nat} (q k n : Nat) {x : Nat} (h : x ≠ r) : sn (fb_new S r q k n) x = sn S x := va_up_ne _ _ h
theorem nw_pne (S : fb_Sh) {r : Nat} (q k n : Nat) {x : Nat} (h : x ≠ r) : sp (fb_new S r q k n) x = sp S x := va_up_ne _ _ h
theorem st_p (S : fb_Sh) (r j : Nat) (v : Option Nat) : sp (fb_setp S r j v) r = va_up (sp S r) j v := va_up_self _ _ _
theorem st_pne (S : fb_Sh) {r : Nat} (j : Nat) (v : Option Nat) {x : Nat} (h : x ≠ r) : sp (fb_setp S r j v) x = sp S x := va_up_ne _ _ h
section NWG
variable {y : Nat → ClassId} {S : fb_Sh} {V V' : fb_V} {T T' : fb_T} {I I' : fb_V} {r q k n : Nat}
theorem nw_g (hr : r ∉ sR S) (hV : ∀ h, h + 1 ∈ sR S → V' h = V h) (hT : ∀ x, x ∈ sR S → T' x = T x) (hI : ∀ x, x ∈ sR S → I' x = I x) : ∀ x, x ∈ sR S → fb_g y (fb_new S r q k n, V', T', I') x = fb_g y (S, V, T, I) x := by
  intro x hx
  have h : x ≠ r := fun e => hr (by rw [← e]; exact hx)
  have e : fb_row V' x = fb_row V x := by
    cases x with
    | zero => rfl
    | succ h9 => exact hV h9 hx
  show fb_cell y (fb_new S r q k n) V' T' I' x = fb_cell y S V T I x
  unfold fb_cell
  rw [nw_kne S q k n h, nw_lne S q k n h, nw_pne S q k n h, hT x hx, hI x hx, e]
end NWG
section FBN
variable {p : Program} {l : Launch} {e : Env} {R : Room} {s : State} {m : MethodId} {args : Array Value} {below : List Frame} {meth : Method} {c : Code} {H : Heap} {locs : List Loc} {cells slots : Nat} {Q : State → Prop}
variable {cc : ByteArray} {nL : Nat} {Ts : List Cond} {own : String} {pc : Nat} {ls : Array Slot} {rest : List Value} {D : va_G} {A : Nat → Prop} {y : Nat → ClassId} {S : fb_Sh} {V : fb_V} {T : fb_T} {I : fb_V} {w : fb_W}
/-- an object of the class ci -/
theorem fb_newo (hx : p.tables.exec = Jvm.exec) (hb : c.code = cc) {C : String} {TT : u_T} {N ci index : Nat} (hown : s.vm.findClass own = some m.cls) (hts : ∀ x ∈ Ts, x.before args s = true) (hin : ∀ x ∈ u_ws C TT N, x ∈ Ts) (ty : Nat → FieldType) (hty : ∀ k, k < N → parseFieldDescriptor (TT k).2.2.1 = some (ty k)) (hcl : (Cond.classLink own index C).before args s = true) (hinst : (Cond.instantiable C N).before args s = true) (hini : (Cond.initialized C).before args s = true)
    (hM : fb_M D y A s w H locs) (hc : vwCl[ci]? = some (C, TT, N)) {fs : List Value} (hfs : ∀ j, j < N → defaultValue (ty j) = vp_V fs j) (hcells : cells + 1 ≤ R.cells) (hslots : slots + N ≤ R.slots) (hdg : decode cc pc = .ok (.new index, 3)) (r : Nat) (k n : Nat) (hr : r ∉ sR w.1) {V' : fb_V} {T' : fb_T} {I' : fb_V} (hg : ∀ q, (∀ x, x ∈ sR w.1 → fb_g y (fb_new w.1 r q k n, V', T', I') x = fb_g y w x) ∧ fb_g y (fb_new w.1 r q k n, V', T', I') r = .inr (ci, fs))
    (kk : ∀ (q : Nat) (H1 : Heap), fb_M D y A s (fb_new w.1 r q k n, V', T', I') H1 locs → W p l e R s m args below meth c H1 locs (cells + 1) (slots + N) Q (F0 m (pc + 3) ls (.ref q :: rest))) : W p l e R s m args below meth c H locs cells slots Q (F0 m pc ls rest) := by
  refine va_new hx hb hts hin ty hty hown hcl hinst hini hM.2.2.2.1 hM.1 hM.2.1 hM.2.2.1 hM.2.2.2.2.1 hc hfs hcells hslots hdg fun q H1 a1 a2 a3 => ?_
  have e : fb_wd y w ++ [(q, .inr (ci, fs))] = fb_wd y (fb_new w.1 r q k n, V', T', I') :=
    fb_map_push (nw_a w.1 r q k n) (hg q).2 (fun x hx => nw_ane w.1 q k n (fun e => hr (by rw [← e]; exact hx))) (hg q).1
  rw [e] at a1 a2
  exact kk q H1 ⟨a1, a2, a3, hM.2.2.2⟩
theorem K_fix {tys : List (ClassId × FieldType)} {cA cB : ClassId} {ty : FieldType} (t0 : Nat) (ht : tys[t0]? = some (cB, ty)) (hK : va_K D vwCl (tys ++ [(cA, ty)]) s) : cA = cB := by
  have h1 := (hK.2 tys.length (cA, ty) (by simp)).2
  have hl : t0 < tys.length := (List.getElem?_eq_some_iff.mp ht).1
  have h2 := (hK.2 t0 (cB, ty) (by rw [List.getElem?_append_left hl]; exact ht)).2
  cases ty with
  | object C =>
    obtain ⟨_, _, _, _, _, h1⟩ := h1
    obtain ⟨_, _, _, _, _, h2⟩ := h2
    exact Option.some.inj (h1.symm.trans h2)
  | _ => exact Option.some.inj (h1.symm.trans h2)
/-- an array of whole numbers -/
theorem fb_newa (hx : p.tables.exec = Jvm.exec) (hb : c.code = cc) {atype : ArrayType} (harr : (Cond.arrayClass (newarray.typeOf atype)).before args s = true) {ty : FieldType} (hty : newarray.typeOf atype = ty) {cA : ClassId} (t0 : Nat) (ht : (fb_ty y)[t0]? = some (cA, ty)) (hM : fb_M D y A s w H locs) {v : Int32} {N' : Nat} {a0 : vp_A} (ha : ∀ cA : ClassId, vp_cell cA a0 = arrV cA N' (fun _ => defaultValue ty)) (hn : ¬ v < 0) (hN : v.toNatClampNeg = N') (hbytes : N' * componentBytes ty ≤ 536870912) (hcells : cells + 1 ≤ R.cells) (hslots : slots + N' ≤ R.slots) (hdg : decode cc pc = .ok (.newarray atype, 2)) (r : Nat) (k n : Nat) (hr : r ∉ sR w.1) {V' : fb_V} {T' : fb_T} {I' : fb_V} (hg : ∀ q, (∀ x, x ∈ sR w.1 → fb_g y (fb_new w.1 r q k n, V', T', I') x = fb_g y w x) ∧ fb_g y (fb_new w.1 r q k n, V', T', I') r = .inl (cA, a0))
    (kk : ∀ (q : Nat) (H1 : Heap), fb_M D y A s (fb_new w.1 r q k n, V', T', I') H1 locs → W p l e R s m args below meth c H1 locs (cells + 1) (slots + N') Q (F0 m (pc + 2) ls (.ref q :: rest))) : W p l e R s m args below meth c H locs cells slots Q (F0 m pc ls (.int v :: rest)) := by
  refine va_newa hx hb harr hty hM.2.2.2.1 hM.1 hM.2.1 hM.2.2.1 hM.2.2.2.2.1 ha hn hN hbytes hcells hslots hdg fun q cB H1 a0' a1 a2 a3 => ?_
  have ec := K_fix t0 ht a0'
  subst ec
  have e : fb_wd y w ++ [(q, .inl (cB, a0))] = fb_wd y (fb_new w.1 r q k n, V', T', I') :=
    fb_map_push (nw_a w.1 r q k n) (hg q).2 (fun x hx => nw_ane w.1 q k n (fun e => hr (by rw [← e]; exact hx))) (hg q).1
  rw [e] at a1 a2
  exact kk q H1 ⟨a1, a2, a3, hM.2.2.2⟩
/-- an array of references to objects of a class -/
theorem fb_newq (hx : p.tables.exec = Jvm.exec) (hb : c.code = cc) {C : String} {index : Nat} (hown : s.vm.findClass own = some m.cls) (hcl : (Cond.classLink own index C).before args s = true) (hover : FieldType.object C ∈ fb_over) {cA : ClassId} (t0 : Nat) (ht : (fb_ty y)[t0]? = some (cA, .object C)) (hM : fb_M D y A s w H locs) {v : Int32} {N' : Nat} (hn : ¬ v < 0) (hN : v.toNatClampNeg = N') (hbytes : N' * 4 ≤ 536870912) (hcells : cells + 1 ≤ R.cells) (hslots : slots + N' ≤ R.slots) (hdg : decode cc pc = .ok (.anewarray index, 3)) (r : Nat) (k n : Nat) (hr : r ∉ sR w.1) {V' : fb_V} {T' : fb_T} {I' : fb_V} (hg : ∀ q, (∀ x, x ∈ sR w.1 → fb_g y (fb_new w.1 r q k n, V', T', I') x = fb_g y w x) ∧ fb_g y (fb_new w.1 r q k n, V', T', I') r = .inl (cA, N', .inr (.inr (.inr (.inr (fun _ => none))))))
    (kk : ∀ (q : Nat) (H1 : Heap), fb_M D y A s (fb_new w.1 r q k n, V', T', I') H1 locs → W p l e R s m args below meth c H1 locs (cells + 1) (slots + N') Q (F0 m (pc + 3) ls (.ref q :: rest))) : W p l e R s m args below meth c H locs cells slots Q (F0 m pc ls (.int v :: rest)) := by
  refine va_newq hx hb hown hcl (va_AO.of (A := #[]) (hM.2.2.2.2.2.2 _ hover)) hM.2.2.2.1 hM.1 hM.2.1 hM.2.2.1 hM.2.2.2.2.1 hn hN hbytes hcells hslots hdg fun q cB H1 a0' a1 a2 a3 => ?_
  have ec := K_fix t0 ht a0'
  subst ec
  have e : fb_wd y w ++ [(q, .inl (cB, N', .inr (.inr (.inr (.inr (fun _ => none))))))] = fb_wd y (fb_new w.1 r q k n, V', T', I') :=
    fb_map_push (nw_a w.1 r q k n) (hg q).2 (fun x hx => nw_ane w.1 q k n (fun e => hr (by rw [← e]; exact hx))) (hg q).1
  rw [e] at a1 a2
  exact kk q H1 ⟨a1, a2, a3, hM.2.2.2⟩
/-- an array of arrays -/
theorem fb_newA (hx : p.tables.exec = Jvm.exec) (hb : c.code = cc) {t : FieldType} {index : Nat} (hown : s.vm.findClass own = some m.cls) (hcl : (Cond.classLink own index (FieldType.array t).toString).before args s = true) (hover : FieldType.array t ∈ fb_over) {cA : ClassId} (t0 : Nat) (ht : (fb_ty y)[t0]? = some (cA, .array t)) (hM : fb_M D y A s w H locs) {v : Int32} {N' : Nat} (hn : ¬ v < 0) (hN : v.toNatClampNeg = N') (hbytes : N' * 4 ≤ 536870912) (hcells : cells + 1 ≤ R.cells) (hslots : slots + N' ≤ R.slots) (hdg : decode cc pc = .ok (.anewarray index, 3)) (r : Nat) (k n : Nat) (hr : r ∉ sR w.1) {V' : fb_V} {T' : fb_T} {I' : fb_V} (hg : ∀ q, (∀ x, x ∈ sR w.1 → fb_g y (fb_new w.1 r q k n, V', T', I') x = fb_g y w x) ∧ fb_g y (fb_new w.1 r q k n, V', T', I') r = .inl (cA, N', .inr (.inr (.inr (.inr (fun _ => none))))))
    (kk : ∀ (q : Nat) (H1 : Heap), fb_M D y A s (fb_new w.1 r q k n, V', T', I') H1 locs → W p l e R s m args below meth c H1 locs (cells + 1) (slots + N') Q (F0 m (pc + 3) ls (.ref q :: rest))) : W p l e R s m args below meth c H locs cells slots Q (F0 m pc ls (.int v :: rest)) := by
  subst hN
  have hov : (Cond.arrayOver (.array t)).before args s = true := hM.2.2.2.2.2.2 _ hover
  refine W.anewA hx hb hown hcl hov rfl hdg rfl hn hbytes hcells hslots fun cB kA comp f1 f2 f3 f4 => ?_
  have hP := hM.1
  have hS := hM.2.2.1
  have ec : cB = cA := Option.some.inj (f1.symm.trans (hM.2.2.2.1.2 t0 _ ht).2)
  subst ec
  generalize hH1 : H.push ({ cls := cB, slots := Array.replicate v.toNatClampNeg .null, vm := .none } : Cell) = H1
  have z1 : H1.size = H.size + 1 := by rw [← hH1, Array.size_push]
  have e1 : H1[H.size]? = some (arrV cB v.toNatClampNeg (fun _ => .null)) := by rw [← hH1, Array.getElem?_push_size, ← arrV_new]
  have o1 : ∀ q : Nat, q < H.size → H1[q]? = H[q]? := fun q hq => by rw [← hH1, Array.getElem?_push, if_neg (Nat.ne_of_lt hq)]
  have hk : ∀ (k : Nat) (x : Nat × va_E), (fb_wd y w)[k]? = some x → H1[x.1]? = H[x.1]? := fun k x hx => o1 x.1 ((hP k x hx).lt)
  have a1 : va_P D vwCl (fb_wd y w ++ [(H.size, .inl (cB, v.toNatClampNeg, .inr (.inr (.inr (.inr (fun _ => none))))))]) H1 := by
    refine (hP.kept hk).app (fun k x hx => ?_)
    have hz : k < 1 := (List.getElem?_eq_some_iff.mp hx).1
    rw [show k = 0 by omega] at hx
    cases hx
    show H1[H.size]? = some (vp_cell _ _)
    rw [vp_cell_q]
    exact e1
  have a2 : va_D A (fb_wd y w ++ [(H.size, .inl (cB, v.toNatClampNeg, .inr (.inr (.inr (.inr (fun _ => none))))))]) := hM.2.1.push hP rfl (hM.2.2.2.2.1 _ hS.1)
  have a3 : va_S A s.heap H1 locs := ⟨Nat.le_trans hS.1 (by omega), fun x h1 h2 => (o1 x (Nat.lt_of_lt_of_le h1 hS.1)).trans (hS.2.1 x h1 h2), hS.2.2⟩
  have e : fb_wd y w ++ [(H.size, .inl (cB, v.toNatClampNeg, .inr (.inr (.inr (.inr (fun _ => none))))))] = fb_wd y (fb_new w.1 r H.size k n, V', T', I') :=
    fb_map_push (nw_a w.1 r H.size k n) (hg H.size).2 (fun x hx => nw_ane w.1 H.size k n (fun e => hr (by rw [← e]; exact hx))) (hg H.size).1
  rw [e] at a1 a2
  exact kk H.size H1 ⟨a1, a2, a3, hM.2.2.2⟩
/-- an object is stored in an array of references (of its class) -/
theorem fb_aast (hx : p.tables.exec = Jvm.exec) (hb : c.code = cc) (hM : fb_M D y A s w H locs) {r : Nat} (hr : r ∈ sR w.1) {n : Nat} {f : Nat → Option Nat} {cA : ClassId} (he : fb_g y w r = .inl (cA, n, .inr (.inr (.inr (.inr f))))) (t0 : Nat) {rc : vw_C} (ht : (fb_ty y)[t0]? = some (cA, .object rc.1)) {v : Nat} (hv : v ∈ sR w.1) {ci : Nat} {vs : List Value} (hve : fb_g y w v = .inr (ci, vs)) (hc : vwCl[ci]? = some rc) {i : Int32} {k : Nat} (hk : i.toNatClampNeg = k) (hin : vp_in i n) (hdg : decode cc pc = .ok (.aastore, 1)) {g' : Nat → va_E} (hup : ∀ q, va_up (fb_g y w) r (.inl (cA, n, .inr (.inr (.inr (.inr (va_up f k (some (sa w.1 v)))))))) q = g' q) {w' : fb_W} (hw : sR w'.1 = sR w.1 ∧ sa w'.1 = sa w.1 ∧ fb_g y w' = g')
    (kk : ∀ (H1 : Heap) (locs1 : List Loc), fb_M D y A s w' H1 locs1 → W p l e R s m args below meth c H1 locs1 cells slots Q (F0 m (pc + 1) ls rest)) : W p l e R s m args below meth c H locs cells slots Q (F0 m pc ls (.ref (sa w.1 v) :: .int i :: .ref (sa w.1 r) :: rest)) := by
  subst hk
  obtain ⟨k0, h1, h2⟩ := fb_map_get (ad := sa w.1) (g := fb_g y w) hr
  obtain ⟨k1, g1, g2⟩ := fb_map_get (ad := sa w.1) (g := fb_g y w) hv
  rw [he] at h2
  rw [hve] at g2
  refine va_astq hx hb hM.2.2.2.1 hM.1 hM.2.1 hM.2.2.1 k0 t0 k1 ci h2 ht g2 hc hin hdg fun H1 locs1 a1 a2 a3 => ?_
  have e : (fb_wd y w).set k0 (sa w.1 r, .inl (cA, n, .inr (.inr (.inr (.inr (va_up f i.toNatClampNeg (some (sa w.1 v)))))))) = fb_wd y w' := by
    unfold fb_wd
    rw [hw.1, hw.2.1, hw.2.2]
    exact fb_map_set hM.2.1 h1 hup
  rw [e] at a1 a2
  exact kk H1 locs1 ⟨a1, a2, a3, hM.2.2.2⟩
/-- an object is stored in an array of Objects -/
theorem fb_aastO (hx : p.tables.exec = Jvm.exec) (hb : c.code = cc) (hM : fb_M D y A s w H locs) {r : Nat} (hr : r ∈ sR w.1) {n : Nat} {f : Nat → Option Nat} {cA : ClassId} {E : String} (he : fb_g y w r = .inl (cA, n, .inr (.inr (.inr (.inr f))))) (t0 : Nat) {rc : vw_C} (ht : (fb_ty y)[t0]? = some (cA, .object E)) (hca : va_Nw (.castable rc.1 E) s) {v : Nat} (hv : v ∈ sR w.1) {ci : Nat} {vs : List Value} (hve : fb_g y w v = .inr (ci, vs)) (hc : vwCl[ci]? = some rc) {i : Int32} {k : Nat} (hk : i.toNatClampNeg = k) (hin : vp_in i n) (hdg : decode cc pc = .ok (.aastore, 1)) {g' : Nat → va_E} (hup : ∀ q, va_up (fb_g y w) r (.inl (cA, n, .inr (.inr (.inr (.inr (va_up f k (some (sa w.1 v)))))))) q = g' q) {w' : fb_W} (hw : sR w'.1 = sR w.1 ∧ sa w'.1 = sa w.1 ∧ fb_g y w' = g')
    (kk : ∀ (H1 : Heap) (locs1 : List Loc), fb_M D y A s w' H1 locs1 → W p l e R s m args below meth c H1 locs1 cells slots Q (F0 m (pc + 1) ls rest)) : W p l e R s m args below meth c H locs cells slots Q (F0 m pc ls (.ref (sa w.1 v) :: .int i :: .ref (sa w.1 r) :: rest)) := by
  subst hk
  obtain ⟨k0, h1, h2⟩ := fb_map_get (ad := sa w.1) (g := fb_g y w) hr
  obtain ⟨k1, g1, g2⟩ := fb_map_get (ad := sa w.1) (g := fb_g y w) hv
  rw [he] at h2
  rw [hve] at g2
  refine va_astqO hx hb hM.2.2.2.1 hM.1 hM.2.1 hM.2.2.1 k0 t0 k1 ci h2 ht hca g2 hc hin hdg fun H1 locs1 a1 a2 a3 => ?_
  have e : (fb_wd y w).set k0 (sa w.1 r, .inl (cA, n, .inr (.inr (.inr (.inr (va_up f i.toNatClampNeg (some (sa w.1 v)))))))) = fb_wd y w' := by
    unfold fb_wd
    rw [hw.1, hw.2.1, hw.2.2]
    exact fb_map_set hM.2.1 h1 hup
  rw [e] at a1 a2
  exact kk H1 locs1 ⟨a1, a2, a3, hM.2.2.2⟩
/-- an array of whole numbers is stored in an array of such arrays -/
theorem fb_aastA (hx : p.tables.exec = Jvm.exec) (hb : c.code = cc) (hM : fb_M D y A s w H locs) {r : Nat} (hr : r ∈ sR w.1) {n : Nat} {f : Nat → Option Nat} {cA cB : ClassId} (he : fb_g y w r = .inl (cA, n, .inr (.inr (.inr (.inr f))))) (t0 t1 : Nat) {t : FieldType} (ht : (fb_ty y)[t0]? = some (cA, .array t)) (hover : FieldType.array t ∈ fb_over) (ht1 : (fb_ty y)[t1]? = some (cB, t)) (hnm : va_RA s cB t → s.vm.findClass (FieldType.array t).toString = some cB) {v : Nat} (hv : v ∈ sR w.1) {n1 : Nat} {f1 : Nat → Int32} (hve : fb_g y w v = .inl (cB, n1, .inl f1)) {i : Int32} {k : Nat} (hk : i.toNatClampNeg = k) (hin : vp_in i n) (hdg : decode cc pc = .ok (.aastore, 1)) {g' : Nat → va_E} (hup : ∀ q, va_up (fb_g y w) r (.inl (cA, n, .inr (.inr (.inr (.inr (va_up f k (some (sa w.1 v)))))))) q = g' q) {w' : fb_W} (hw : sR w'.1 = sR w.1 ∧ sa w'.1 = sa w.1 ∧ fb_g y w' = g')
    (kk : ∀ (H1 : Heap) (locs1 : List Loc), fb_M D y A s w' H1 locs1 → W p l e R s m args below meth c H1 locs1 cells slots Q (F0 m (pc + 1) ls rest)) : W p l e R s m args below meth c H locs cells slots Q (F0 m pc ls (.ref (sa w.1 v) :: .int i :: .ref (sa w.1 r) :: rest)) := by
  subst hk
  obtain ⟨k0, h1, h2⟩ := fb_map_get (ad := sa w.1) (g := fb_g y w) hr
  obtain ⟨k1, g1, g2⟩ := fb_map_get (ad := sa w.1) (g := fb_g y w) hv
  rw [he] at h2
  rw [hve] at g2
  have hlt : i.toNatClampNeg < n := Nat.not_le.mp fun q => hin (Or.inr q)
  have h0 : ¬ i < 0 := fun q => hin (Or.inl q)
  have hov : (Cond.arrayOver (.array t)).before args s = true := hM.2.2.2.2.2.2 _ hover
  obtain ⟨comp, cA', kA, hcomp, hidx, hkA, hkindA, hnameA⟩ := arrayOverA_spec hov
  have e1 : cA' = cA := Option.some.inj (hnameA.symm.trans (hM.2.2.2.1.2 t0 _ ht).2)
  subst e1
  have e2 : comp = cB := Option.some.inj (hcomp.symm.trans (hnm (hM.2.2.2.1.2 t1 _ ht1).2))
  subst e2
  obtain ⟨kC, hkC, -⟩ := Vm.findClass_spec hcomp
  refine W.aast hx hb (hM.1 k0 _ h2) (fun q h => by cases h) (fun h => by cases h) hkA hkindA rfl hkC ⟨h0, by show _ < (arrV _ _ _).slots.size; rw [arrV_size]; exact hlt⟩ (hM.1 k1 _ g2) (fun q h => by cases h) hkC (va_asg s.vm comp) rfl rfl hdg fun H1 e z oq => ?_
  have a1 : va_P D vwCl ((fb_wd y w).set k0 (sa w.1 r, .inl (cA', n, .inr (.inr (.inr (.inr (va_up f i.toNatClampNeg (some (sa w.1 v))))))))) H1 := by
    refine hM.1.set hM.2.1 h2 ?_ oq
    show H1[sa w.1 r]? = some (vp_cell _ _)
    rw [e]
    rw [vp_cell_q, vp_cell_q, arrV_store]
    congr 2
    funext q
    by_cases hq : q = i.toNatClampNeg
    · subst hq
      simp [updV, va_up, va_rf]
    · simp [updV, va_up, hq]
  have a2 : va_D A ((fb_wd y w).set k0 (sa w.1 r, .inl (cA', n, .inr (.inr (.inr (.inr (va_up f i.toNatClampNeg (some (sa w.1 v))))))))) := hM.2.1.set h2
  have a3 := hM.2.2.1.put (k := i.toNatClampNeg) z oq (hM.2.1.2 k0 _ h2)
  have e : (fb_wd y w).set k0 (sa w.1 r, .inl (cA', n, .inr (.inr (.inr (.inr (va_up f i.toNatClampNeg (some (sa w.1 v)))))))) = fb_wd y w' := by
    unfold fb_wd
    rw [hw.1, hw.2.1, hw.2.2]
    exact fb_map_set hM.2.1 h1 hup
  rw [e] at a1 a2
  exact kk H1 _ ⟨a1, a2, a3, hM.2.2.2⟩
end FBN
