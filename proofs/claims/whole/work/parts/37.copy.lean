/-! a copied array, a made one, and a role that is let go -/
section FBX
variable {p : Program} {l : Launch} {e : Env} {R : Room} {s : State} {m : MethodId} {args : Array Value} {below : List Frame} {meth : Method} {c : Code} {H : Heap} {locs : List Loc} {cells slots : Nat} {Q : State → Prop}
variable {cc : ByteArray} {nL : Nat} {own : String} {pc : Nat} {ls : Array Slot} {rest : List Value} {D : va_G} {A : Nat → Prop} {y : Nat → ClassId} {S : fb_Sh} {V : fb_V} {T : fb_T} {I : fb_V} {r : Nat} {w : fb_W}
theorem fb_new_ne {r' q k n : Nat} {J : fb_V} (h : r ≠ r') (hJ : J r = I r) : fb_g y (fb_new S r' q k n, V, T, J) r = fb_g y (S, V, T, I) r := by
  simp only [fb_g, fb_cell, fb_new, sk, sn, sp, va_up_ne _ _ h, hJ]
theorem fb_new_wd {r' q k n : Nat} {J : fb_V} {e0 : va_E} (hr : r' ∉ sR S) (hJ : ∀ x, x ≠ r' → J x = I x) (he : fb_g y (fb_new S r' q k n, V, T, J) r' = e0) : fb_wd y (S, V, T, I) ++ [(q, e0)] = fb_wd y (fb_new S r' q k n, V, T, J) := by
  refine fb_map_push (ad' := sa (fb_new S r' q k n)) (g' := fb_g y (fb_new S r' q k n, V, T, J)) (r := r') ?_ he ?_ ?_
  · show va_up (sa S) r' q r' = q
    rw [va_up_self]
  · intro x hx
    exact va_up_ne _ _ (fun e => hr (by rw [← e]; exact hx))
  · intro x hx
    have h : x ≠ r' := fun e => hr (by rw [← e]; exact hx)
    exact fb_new_ne h (hJ x h)
theorem va_P_pre {cl : List vw_C} {a b : va_W} (h : va_P D cl (a ++ b) H) : va_P D cl a H := fun k q hq => h k q (by rw [List.getElem?_append_left (List.getElem?_eq_some_iff.mp hq).1]; exact hq)
theorem va_D_pre {a b : va_W} (h : va_D A (a ++ b)) : va_D A a :=
  ⟨fun i j u v hi hj e => h.1 i j u v (by rw [List.getElem?_append_left (List.getElem?_eq_some_iff.mp hi).1]; exact hi) (by rw [List.getElem?_append_left (List.getElem?_eq_some_iff.mp hj).1]; exact hj) e, fun k q hq => h.2 k q (by rw [List.getElem?_append_left (List.getElem?_eq_some_iff.mp hq).1]; exact hq)⟩
theorem fb_drop {r' q k n : Nat} {J : fb_V} (hr : r' ∉ sR S) (hJ : ∀ x, x ≠ r' → J x = I x) (hM : fb_M D y A s (fb_new S r' q k n, V, T, J) H locs) : fb_M D y A s (S, V, T, I) H locs := by
  have e := fb_new_wd (y := y) (S := S) (V := V) (T := T) (q := q) (k := k) (n := n) hr hJ rfl
  obtain ⟨h1, h2, h3⟩ := hM
  rw [← e] at h1 h2
  exact ⟨va_P_pre h1, va_D_pre h2, h3⟩
theorem fb_clone (hx : p.tables.exec = Jvm.exec) (hb : c.code = cc) (hml : c.maxLocals = ls.size) {index : Nat} (hown : s.vm.findClass own = some m.cls)
    (hlink : (Cond.methodLink own index ⟨"[I", "clone", "()Ljava/lang/Object;"⟩).before args s = true) (hsame : (Cond.sameMethod "[I" "java/lang/Object" "clone" "()Ljava/lang/Object;").before args s = true)
    (hnat : (Cond.native ⟨"java/lang/Object", "clone", "()Ljava/lang/Object;"⟩).before args s = true) (hinst : (Cond.instanceMethod ⟨"java/lang/Object", "clone", "()Ljava/lang/Object;"⟩).before args s = true)
    (hsel : (Cond.selects "[I" ⟨"[I", "clone", "()Ljava/lang/Object;"⟩ ⟨"java/lang/Object", "clone", "()Ljava/lang/Object;"⟩).before args s = true)
    (hM : fb_M D y A s (S, V, T, I) H locs) (hr : r ∈ sR S) (hk : sk S r = 6) {n : Nat} (hn : sn S r = n) (r' : Nat) (hr' : r' ∉ sR S)
    (hframes : 1 ≤ R.frames) (hlocals : (rest.map fun v => v.category).sum + 14 ≤ R.locals) (hcells : cells + 1 ≤ R.cells) (hslots : slots + n ≤ R.slots) (hdg : decode cc pc = .ok (.invokevirtual index, 3))
    (kk : ∀ (q : Nat) (H1 : Heap), fb_M D y A s (fb_new S r' q 6 n, V, T, va_up I r' (I r)) H1 locs → W p l e R s m args below meth c H1 locs (cells + 1) (slots + n) Q (F0 m (pc + 3) ls (.ref q :: rest))) : W p l e R s m args below meth c H locs cells slots Q (F0 m pc ls (.ref (sa S r) :: rest)) := by
  subst hn
  obtain ⟨k0, h1, h2⟩ := fb_map_get (ad := sa S) (g := fb_g y (S, V, T, I)) hr
  rw [ce6 hk] at h2
  refine va_clone hx hb hml hown hlink hsame hnat hinst hsel hM.2.2.2.2.2.2.2 hM.2.2.2.1 hM.1 hM.2.1 hM.2.2.1 hM.2.2.2.2.1 k0 0 h2 rfl (hM.2.2.2.1.2 0 _ rfl).2 ?_ hframes hlocals hcells hslots hdg fun q H1 _ a2 a3 a4 => ?_
  · intro i v hv
    exact va_fit (F := fun j => .int (I r j)) (fun _ _ => rfl) i v hv
  · have e := fb_new_wd (y := y) (S := S) (V := V) (T := T) (I := I) (J := va_up I r' (I r)) (q := q) (k := 6) (n := sn S r) hr' (fun x h => va_up_ne _ _ h) (e0 := .inl (y 0, sn S r, .inl (I r))) (by
      rw [ce6 (by show va_up (sk S) r' 6 r' = 6; rw [va_up_self]), va_up_self]
      show _ = _
      rw [show sn (fb_new S r' q 6 (sn S r)) r' = sn S r from va_up_self _ _ _])
    rw [e] at a2 a3
    exact kk q H1 ⟨a2, a3, a4, hM.2.2.2⟩
theorem fb_castA (hx : p.tables.exec = Jvm.exec) (hb : c.code = cc) {index : Nat} (hown : s.vm.findClass own = some m.cls) (hlink : (Cond.classLink own index "[I").before args s = true) (hM : fb_M D y A s (S, V, T, I) H locs) (hr : r ∈ sR S) (hk : sk S r = 6) (hdg : decode cc pc = .ok (.checkcast index, 3))
    (kk : W p l e R s m args below meth c H locs cells slots Q (F0 m (pc + 3) ls (.ref (sa S r) :: rest))) : W p l e R s m args below meth c H locs cells slots Q (F0 m pc ls (.ref (sa S r) :: rest)) := by
  obtain ⟨k0, h1, h2⟩ := fb_map_get (ad := sa S) (g := fb_g y (S, V, T, I)) hr
  rw [ce6 hk] at h2
  exact va_castA hx hb hown hlink hM.1 k0 h2 (hM.2.2.2.1.2 0 _ rfl).2 hdg kk
theorem fb_copy (hx : p.tables.exec = Jvm.exec) (hb : c.code = cc) (hml : c.maxLocals = ls.size) {index : Nat} (hown : s.vm.findClass own = some m.cls) (hlink : (Cond.methodLink own index arraycopyName).before args s = true) (hnat : (Cond.native arraycopyName).before args s = true) (hstat : (Cond.static arraycopyName).before args s = true) (hini : (Cond.initialized "java/lang/System").before args s = true)
    (hM : fb_M D y A s (S, V, T, I) H locs) {r1 n1 : Nat} (hr : r ∈ sR S) (hk : sk S r = 6) (hr1 : r1 ∈ sR S) (hk1 : sk S r1 = 6) (hne : r1 ≠ r) (hn1 : sn S r1 = n1) {n : Nat} (hn : sn S r = n) (h5 : n ≤ n1) {v : Int32} (hv : v.toNatClampNeg = n) (hv0 : ¬ v < 0)
    (hframes : 1 ≤ R.frames) (hlocals : (rest.map fun v => v.category).sum + (nativeFrameWords "java/lang/System" "arraycopy" 5 + 11) ≤ R.locals) (hdg : decode cc pc = .ok (.invokestatic index, 3))
    (kk : ∀ (H1 : Heap) (locs1 : List Loc), fb_M D y A s (S, V, T, va_up I r1 (va_cpy (I r) (I r1) 0 0 n)) H1 locs1 → W p l e R s m args below meth c H1 locs1 cells slots Q (F0 m (pc + 3) ls rest)) : W p l e R s m args below meth c H locs cells slots Q (F0 m pc ls (.int v :: .int 0 :: .ref (sa S r1) :: .int 0 :: .ref (sa S r) :: rest)) := by
  subst hn hn1
  obtain ⟨k0, h1, h2⟩ := fb_map_get (ad := sa S) (g := fb_g y (S, V, T, I)) hr
  obtain ⟨k1, g1, g2⟩ := fb_map_get (ad := sa S) (g := fb_g y (S, V, T, I)) hr1
  rw [ce6 hk] at h2
  rw [ce6 hk1] at g2
  refine va_copyi hx hb hml hown hlink hnat hstat hini hM.2.2.2.1 hM.1 hM.2.1 hM.2.2.1 k0 k1 0 0 h2 g2 rfl rfl rfl (by decide) (by decide) hv0 (by rw [hv]; show 0 + _ ≤ _; omega) (by rw [hv]; show 0 + _ ≤ _; omega) (fun _ _ => rfl) hframes hlocals hdg fun H1 locs1 a1 a2 a3 => ?_
  rw [hv] at a1 a2
  have e : (fb_wd y (S, V, T, I)).set k1 (sa S r1, .inl (y 0, sn S r1, .inl (va_cpy (I r) (I r1) 0 0 (sn S r)))) = fb_wd y (S, V, T, va_up I r1 (va_cpy (I r) (I r1) 0 0 (sn S r))) := by
    refine fb_map_set hM.2.1 g1 fun q => ?_
    by_cases hq : q = r1
    · subst hq; rw [va_up_self, ce6 hk1, va_up_self]
    · rw [va_up_ne _ _ hq]; simp only [fb_g, fb_cell, va_up_ne _ _ hq]
  have e2 : va_cpy (I r) (I r1) (Int32.toNatClampNeg 0) (Int32.toNatClampNeg 0) (sn S r) = va_cpy (I r) (I r1) 0 0 (sn S r) := rfl
  rw [e2] at a1 a2
  exact kk H1 locs1 ⟨by rw [← e]; exact a1, by rw [← e]; exact a2, a3, hM.2.2.2⟩
end FBX
