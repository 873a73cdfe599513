/-! the law's own methods: they call the component, and tell what it throws by a number -/
def fb_IAE : String := "java/lang/IllegalArgumentException"
def fb_ISE : String := "java/lang/IllegalStateException"
def fb_IOE : String := "java/lang/IndexOutOfBoundsException"
def fb_Nc (U : State) : Prop := va_Nc fb_IAE fb_IOE U ∧ va_Nc fb_ISE fb_IOE U ∧ va_Nc fb_ISE fb_IAE U
theorem fb_Nc.moved {u U : State} (hvm : u.vm.Alike U.vm) (h : fb_Nc u) : fb_Nc U := ⟨va_Nc.moved hvm h.1, va_Nc.moved hvm h.2.1, va_Nc.moved hvm h.2.2⟩
def fb_preW (a0 : Nat × Nat) (D : va_G) (y : Nat → ClassId) (w : fb_W) (sz : Nat) (as : List Value) : Array Value → State → Prop := va_Pc as (fun U => fb_Nc U ∧ U.heap.size = sz ∧ fb_N U ∧ fb_E a0 (va_A (fb_wd y w) sz) U ∧ fb_P D y (fun _ => True) w U)
theorem fb_blindW {a0 : Nat × Nat} {D : va_G} {y : Nat → ClassId} {w : fb_W} {sz : Nat} {as : List Value} : FrameBlind (fb_preW a0 D y w sz as) := by
  intro a U g mk q
  obtain ⟨q0, q9, q1, qN, qE, qP, qK, qD⟩ := q
  exact ⟨q0, q9.moved (u := U) (U := U.calling g mk a) (Vm.Alike.refl U.vm), q1, fb_N.warm (s := U) (U := U.calling g mk a) (State.WarmedH.refl U) qN, ⟨fb_W1.warm (s := U) (U := U.calling g mk a) (State.WarmedH.refl U) qE.1, fb_Z.moved (u := U) (U := U.calling g mk a) (Vm.Alike.refl U.vm) qE.2⟩, qP, va_K.moved (u := U) (U := U.calling g mk a) (Vm.Alike.refl U.vm) qK, qD⟩
def CWr (a0 : Nat × Nat) (D : va_G) (y : Nat → ClassId) (l : Launch) (mn : MethodName) (ws : List Cond) (rm : Room) (as : List Value) (w : fb_W) (post : Int32 → fb_W → Prop) (mc ms : Nat) : Prop :=
  ∀ sz, vx_Met l mn ws rm (fb_preW a0 D y w sz as) (va_Qi post (fun u t => fb_P D y (va_A (fb_wd y w) sz) u t) (va_A (fb_wd y w) sz)) (vx_X (fun _ : fb_W => False) (fun _ _ _ => True) (va_A (fb_wd y w) sz)) mc ms (va_A (fb_wd y w) sz)
section FBW
variable {p : Program} {l : Launch} {e : Env} {R : Room} {s : State} {m : MethodId} {args : Array Value} {below : List Frame} {meth : Method} {c : Code} {H : Heap} {locs : List Loc} {cells slots : Nat} {Q : State → Prop}
variable {cc bytes : ByteArray} {nL maxL index n mc ms : Nat} {Ts ws ws' : List Cond} {own : String} {pc : Nat} {ls : Array Slot} {rest st0 As as : List Value} {D : va_G} {A : Nat → Prop} {y : Nat → ClassId} {r : Nat} {w : fb_W} {mn : MethodName} {ret : Option FieldType} {rm : Room}
variable {a0 : Nat × Nat} {hh : List (Nat × Nat × Nat × Nat)} {S : fb_Sh} {V I : fb_V} {T : fb_T}
theorem CWr.of {post : Int32 → fb_W → Prop} (hy : plainName mn.cls = true) (hw : ws = Cond.codeWith mn cc maxL ret hh :: ws') (hlen : (lg_sl as).length ≤ maxL)
    (body : ∀ (p : Program) (e : Env) (s : State) (m : MethodId) (below : List Frame) (meth : Method) (c : Code) (A : Nat → Prop), p.tables.exec = Jvm.exec → c.code = cc → c.maxLocals = maxL → meth.sig.returnType = ret → s.vm.findClass mn.cls = some m.cls → (∀ x ∈ ws, x.before as.toArray s = true) → meth.locks = false → c.exceptionTable.toList = tableOf hh → fb_M D y A s w s.heap [] → fb_E a0 A s → fb_Nc s → ∀ ls, lv_has ls maxL (lv_args 0 as) → W p l e rm s m as.toArray below meth c s.heap [] 0 0 (vx_MQ below (va_Qi post (fun u t => fb_P D y A u t) A) (vx_X (fun _ : fb_W => False) (fun _ _ _ => True) A) as.toArray s mc ms A) (F0 m 0 ls [])) : CWr a0 D y l mn ws rm as w post mc ms := by
  intro sz
  refine vx_ofWH (cc := cc) (maxL := maxL) (ret := ret) (hh := hh) hy hw ?_
  intro p e s m args below meth c s₁ B hml hv
  obtain ⟨rfl, hNc, hsz, hN, hE, hP, hK, hD0⟩ := hv
  subst hsz
  rw [lg_entry_eq]
  exact body p e s m below meth c (va_A (fb_wd y w) s.heap.size) B.exec B.bytes hml B.returns (findClass_of_methodNamed B.named) (atoms_spec (ws := ws) B.pre) B.notSynchronized (vx_table (x := mn) B (atoms_spec (ws := ws) B.pre _ (by rw [hw]; exact List.mem_cons_self))) ⟨hP, hD0.self, va_S.rf, hK, fun q h => Or.inr h, hN⟩ hE hNc _ (lv_entry as hlen)
theorem fb_goW (hM : fb_M D y A s w H locs) (hE : fb_E a0 A s) (hNc : fb_Nc s) : PreS s H (fb_preW a0 D y w H.size As) As := ⟨fb_blindW, fun U hU hW => ⟨rfl, hNc.moved hW.alike, ((fb_goE (As := As) hM hE).2 U hU hW).2⟩⟩
/-- the law calls one of its own -/
theorem fb_callW (hx : p.tables.exec = Jvm.exec) (hb : c.code = cc) (hml : c.maxLocals = nL) (hown : s.vm.findClass own = some m.cls) (hts : ∀ x ∈ Ts, x.before args s = true) (hM : fb_M D y A s w H locs) (hE : fb_E a0 A s) (hNc : fb_Nc s) {post : Int32 → fb_W → Prop} (hmet : CWr a0 D y l mn ws rm As w post mc ms) (cw : vx_CSW R s args own index mn bytes maxL ret hh ws rm mc ms n) (hn : As.length = n) (hsize : ls.size = nL) (hstack : st0 = As.reverse ++ rest) (hroom : (rest.map fun v => v.category).sum ≤ 8) (hdg : decode cc pc = .ok (.invokestatic index, 3)) (hf : cells + mc ≤ R.cells ∧ slots + ms ≤ R.slots)
    (kk : ∀ (v : Int32) (u : fb_W) (H1 : Heap) (locs1 : List Loc), post v u → fb_M D y A s u H1 locs1 → W p l e R s m args below meth c H1 locs1 (cells + mc) (slots + ms) Q (F0 m (pc + 3) ls (.int v :: rest))) : W p l e R s m args below meth c H locs cells slots Q (F0 m pc ls st0) :=
  vx_calli (vx_runSX (As := As) (rest := rest) ⟨hx, hb, hml, hown, hts⟩ (hmet H.size) cw (fb_goW hM hE hNc) rfl hn hsize hstack (lv_room hroom) hdg hf) hM.2.2.1 (fun q _ h => fb_free hM q h) (fb_free hM) (fun q _ h => fb_free hM q h) (fun _ _ _ _ _ _ _ _ _ hp => hp.elim) (fun v u t H1 locs1 ht hvm hp hB _ _ hS => kk v u H1 locs1 hp (fb_back hM ht hvm hB hS))
/-- a call of the component that throws E, seen from a method with handlers -/
theorem fb_xcatchV (hx : p.tables.exec = Jvm.exec) (hb : c.code = cc) (hml : c.maxLocals = nL) (hown : s.vm.findClass own = some m.cls) (hts : ∀ x ∈ Ts, x.before args s = true) (hM : fb_M D y A s w H locs) (hE : fb_E a0 A s) (hr : r ∈ sR w.1) {ci : Nat} {fs : List Value} (he : fb_g y w r = .inr (ci, fs)) {q : vw_C} (hc : vwCl[ci]? = some q) {E : String} {mc1 ms1 : Nat} (hmet : CX a0 D y l mn ws rm (.ref (sa w.1 r) :: As) w E mc1 ms1) (cw : CallW R s args own q.1 index mn bytes maxL ret ws rm mc1 ms1 n) (hn : As.length = n) (hsize : ls.size = nL) (hstack : st0 = As.reverse ++ .ref (sa w.1 r) :: rest) (hroom : (rest.map fun v => v.category).sum ≤ 8) (hdg : decode cc pc = .ok (.invokevirtual index, 3)) (hf : cells + mc1 ≤ R.cells ∧ slots + ms1 ≤ R.slots)
    (kx : ∀ (ce : Cell) (q9 : Addr) (H1 : Heap) (locs1 : List Loc), fb_M D y A s w H1 locs1 → H1[q9]? = some ce → ce.vm = .none → s.vm.findClass E = some ce.cls → vx_W p l e R s m args below meth c H1 locs1 (cells + mc1) (slots + ms1) Q (F0 m pc ls rest) q9) : W p l e R s m args below meth c H locs cells slots Q (F0 m pc ls st0) := by
  refine vx_calli (vx_runV (b := sa w.1 r) (As := As) (rest := rest) ⟨hx, hb, hml, hown, hts⟩ (hmet H.size) cw (fb_goVE hM hE hr he hc) rfl hn hsize hstack (lv_room hroom) hdg hf) hM.2.2.1 (fun q _ h => fb_free hM q h) (fb_free hM) (fun q _ h => fb_free hM q h) (fun E' ce q9 u t H1 locs1 ht hvm hp hB _ _ hS hce hcv hcl => ?_) (fun _ _ _ _ _ _ _ hp => hp.elim)
  obtain ⟨rfl, hM1⟩ := fb_xback hM ht hvm hp hB hS
  exact kx ce q9 H1 locs1 hM1 hce hcv hcl
/-- a long of an array of longs: its number is an int's -/
theorem fb_lald (hx : p.tables.exec = Jvm.exec) (hb : c.code = cc) (hM : fb_M D y A s (S, V, T, I) H locs) (hr : RA S r 13 n) {i : Int32} {k : Nat} (hk : i.toNatClampNeg = k) (hin : vp_in i n) (hdg : decode cc pc = .ok (.laload, 1))
    (kk : W p l e R s m args below meth c H locs cells slots Q (F0 m (pc + 1) ls (.long ((I r k).toInt64) :: rest))) : W p l e R s m args below meth c H locs cells slots Q (F0 m pc ls (.int i :: .ref (sa S r) :: rest)) := by
  subst hk
  obtain ⟨h1, h2, h3⟩ := hr
  obtain ⟨k0, g1, g2⟩ := fb_map_get (ad := sa S) (g := fb_g y (S, V, T, I)) h1
  rw [ce13 h2, h3] at g2
  exact va_lald hx hb hM.2.2.2.1 hM.1 k0 6 g2 rfl hin hdg kk
theorem upL_13 {j : Nat} {v : Int32} (hk : sk S r = 13) : ∀ q, va_up (fb_g y (S, V, T, I)) r (.inl (y 6, sn S r, .inr (.inl (vp_updL (fun k => (I r k).toInt64) j v.toInt64)))) q = fb_g y (S, V, T, va_up I r (upd (I r) j v)) q := fun q => by
  by_cases h : q = r
  · subst h
    rw [va_up_self, ce13 hk]
    have e : vp_updL (fun k => (I q k).toInt64) j v.toInt64 = fun k => ((va_up I q (upd (I q) j v)) q k).toInt64 := by
      funext k
      rw [va_up_self]
      unfold vp_updL upd
      by_cases hk : k = j
      · simp [hk]
      · simp [hk]
    rw [e]
  · rw [va_up_ne _ _ h]
    simp only [fb_g, fb_cell, va_up_ne _ _ h]
theorem fb_last13 (hx : p.tables.exec = Jvm.exec) (hb : c.code = cc) (hM : fb_M D y A s (S, V, T, I) H locs) (hr : RA S r 13 n) {i v : Int32} {k : Nat} (hk : i.toNatClampNeg = k) (hin : vp_in i n) (hdg : decode cc pc = .ok (.lastore, 1))
    (kk : ∀ (H1 : Heap) (locs1 : List Loc), fb_M D y A s (S, V, T, va_up I r (upd (I r) k v)) H1 locs1 → W p l e R s m args below meth c H1 locs1 cells slots Q (F0 m (pc + 1) ls rest)) : W p l e R s m args below meth c H locs cells slots Q (F0 m pc ls (.long v.toInt64 :: .int i :: .ref (sa S r) :: rest)) := by
  subst hk
  obtain ⟨h1, h2, h3⟩ := hr
  obtain ⟨k0, g1, g2⟩ := fb_map_get (ad := sa S) (g := fb_g y (S, V, T, I)) h1
  have hup := upL_13 (y := y) (S := S) (V := V) (I := I) (T := T) (j := i.toNatClampNeg) (v := v) h2
  rw [ce13 h2, h3] at g2
  rw [h3] at hup
  refine va_last hx hb hM.2.2.2.1 hM.1 hM.2.1 hM.2.2.1 k0 6 g2 rfl hin hdg fun H1 locs1 a1 a2 a3 => ?_
  have e : (fb_wd y (S, V, T, I)).set k0 (sa S r, .inl (y 6, n, .inr (.inl (vp_updL (fun k => (I r k).toInt64) i.toNatClampNeg v.toInt64)))) = fb_wd y (S, V, T, va_up I r (upd (I r) i.toNatClampNeg v)) := fb_map_set hM.2.1 g1 hup
  rw [e] at a1 a2
  exact kk H1 locs1 ⟨a1, a2, a3, hM.2.2.2⟩
end FBW
