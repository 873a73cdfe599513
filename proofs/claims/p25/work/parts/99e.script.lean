/-! the script stands outside of the world; the law's own methods read it -/
def fb_Sc (sc : Nat × Nat × (Nat → Int32)) (A : Nat → Prop) (U : State) : Prop := va_X sc.1 sc.2.1 sc.2.2 U U.heap ∧ sc.1 < U.heap.size ∧ ¬ A sc.1 ∧ sc.2.1 ≤ 260 ∧ va_Nw (.methodLinkNest RL 11 yX4_init "FeatherBedsLaw") U
def fb_preS (sc : Nat × Nat × (Nat → Int32)) (a0 : Nat × Nat) (D : va_G) (y : Nat → ClassId) (w : fb_W) (sz : Nat) (as : List Value) : Array Value → State → Prop := va_Pc as (fun U => fb_Sc sc (va_A (fb_wd y w) sz) U ∧ U.heap.size = sz ∧ fb_N U ∧ fb_E a0 (va_A (fb_wd y w) sz) U ∧ fb_P D y (fun _ => True) w U)
theorem fb_blindS {sc : Nat × Nat × (Nat → Int32)} {a0 : Nat × Nat} {D : va_G} {y : Nat → ClassId} {w : fb_W} {sz : Nat} {as : List Value} : FrameBlind (fb_preS sc a0 D y w sz as) := by
  intro a U g mk q
  obtain ⟨q0, q9, q1, qN, qE, qP, qK, qD⟩ := q
  exact ⟨q0, ⟨va_X.moved (u := U) (U := U.calling g mk a) (Vm.Alike.refl U.vm) q9.1, q9.2.1, q9.2.2.1, q9.2.2.2.1, va_Nw.warmM (s := U) (U := U.calling g mk a) (State.WarmedH.refl U) q9.2.2.2.2⟩, q1, fb_N.warm (s := U) (U := U.calling g mk a) (State.WarmedH.refl U) qN, ⟨fb_W1.warm (s := U) (U := U.calling g mk a) (State.WarmedH.refl U) qE.1, fb_Z.moved (u := U) (U := U.calling g mk a) (Vm.Alike.refl U.vm) qE.2⟩, qP, va_K.moved (u := U) (U := U.calling g mk a) (Vm.Alike.refl U.vm) qK, qD⟩
def CSI (sc : Nat × Nat × (Nat → Int32)) (a0 : Nat × Nat) (D : va_G) (y : Nat → ClassId) (l : Launch) (mn : MethodName) (ws : List Cond) (rm : Room) (as : List Value) (w : fb_W) (post : Int32 → fb_W → Prop) (mc ms : Nat) : Prop :=
  ∀ sz, Met l mn ws rm (fb_preS sc a0 D y w sz as) (va_Qi post (fun u t => fb_P D y (va_A (fb_wd y w) sz) u t) (va_A (fb_wd y w) sz)) mc ms (va_A (fb_wd y w) sz)
def CSR (sc : Nat × Nat × (Nat → Int32)) (a0 : Nat × Nat) (D : va_G) (y : Nat → ClassId) (l : Launch) (mn : MethodName) (ws : List Cond) (rm : Room) (as : List Value) (w : fb_W) (post : Nat → fb_W → Prop) (mc ms : Nat) : Prop :=
  ∀ sz, Met l mn ws rm (fb_preS sc a0 D y w sz as) (va_Qr (fun _ : fb_W => True) (fun u a t => post a u ∧ fb_P D y (va_A (fb_wd y w) sz) u t) (va_A (fb_wd y w) sz)) mc ms (va_A (fb_wd y w) sz)
section FBS
variable {p : Program} {l : Launch} {e : Env} {R : Room} {s : State} {m : MethodId} {args : Array Value} {below : List Frame} {meth : Method} {c : Code} {H : Heap} {locs : List Loc} {cells slots : Nat} {Q : State → Prop}
variable {cc bytes : ByteArray} {nL maxL index n mc ms : Nat} {Ts ws ws' : List Cond} {own : String} {pc : Nat} {ls : Array Slot} {rest st0 As as : List Value} {D : va_G} {A : Nat → Prop} {y : Nat → ClassId} {r : Nat} {w : fb_W} {mn : MethodName} {ret : Option FieldType} {rm : Room}
variable {a0 : Nat × Nat} {sc : Nat × Nat × (Nat → Int32)}
theorem fb_Sc.at_ (hM : fb_M D y A s w H locs) (h : fb_Sc sc A s) : va_X sc.1 sc.2.1 sc.2.2 s H := h.1.kept (hM.2.2.1.2.1 sc.1 h.2.1 h.2.2.1)
theorem fb_goS (hM : fb_M D y A s w H locs) (hE : fb_E a0 A s) (hSc : fb_Sc sc A s) : PreS s H (fb_preS sc a0 D y w H.size As) As := ⟨fb_blindS, fun U hU hW => ⟨rfl, ⟨by
  rw [hU]
  exact va_X.moved hW.alike (fb_Sc.at_ hM hSc), by rw [hU]; exact Nat.lt_of_lt_of_le hSc.2.1 hM.2.2.1.1, fun z => hSc.2.2.1 (fb_free hM _ z), hSc.2.2.2.1, va_Nw.warmM hW hSc.2.2.2.2⟩, ((fb_goE (As := As) hM hE).2 U hU hW).2⟩⟩
theorem fb_callSSi (hx : p.tables.exec = Jvm.exec) (hb : c.code = cc) (hml : c.maxLocals = nL) (hown : s.vm.findClass own = some m.cls) (hts : ∀ x ∈ Ts, x.before args s = true) (hM : fb_M D y A s w H locs) (hE : fb_E a0 A s) (hSc : fb_Sc sc A s) {post : Int32 → fb_W → Prop} (hmet : CSI sc a0 D y l mn ws rm As w post mc ms) (cw : CallB R s args own index mn bytes maxL ret ws rm mc ms n ∧ (Cond.static mn).before args s = true) (hn : As.length = n) (hsize : ls.size = nL) (hstack : st0 = As.reverse ++ rest) (hroom : (rest.map fun v => v.category).sum ≤ 8) (hdg : decode cc pc = .ok (.invokestatic index, 3)) (hf : cells + mc ≤ R.cells ∧ slots + ms ≤ R.slots)
    (kk : ∀ (v : Int32) (u : fb_W) (H1 : Heap) (locs1 : List Loc), post v u → fb_M D y A s u H1 locs1 → W p l e R s m args below meth c H1 locs1 (cells + mc) (slots + ms) Q (F0 m (pc + 3) ls (.int v :: rest))) : W p l e R s m args below meth c H locs cells slots Q (F0 m pc ls st0) := by
  exact va_calli (va_runS (As := As) (rest := rest) ⟨hx, hb, hml, hown, hts⟩ (hmet H.size) cw (fb_goS hM hE hSc) rfl hn hsize hstack (lv_room hroom) hdg hf) hM.2.2.1 (fun q _ h => fb_free hM q h) (fb_free hM) (fun v u t H1 locs1 ht hvm hp hB hz hk hS => kk v u H1 locs1 hp (fb_back hM ht hvm hB hS))
theorem fb_callSSr (hx : p.tables.exec = Jvm.exec) (hb : c.code = cc) (hml : c.maxLocals = nL) (hown : s.vm.findClass own = some m.cls) (hts : ∀ x ∈ Ts, x.before args s = true) (hM : fb_M D y A s w H locs) (hE : fb_E a0 A s) (hSc : fb_Sc sc A s) {post : Nat → fb_W → Prop} (hmet : CSR sc a0 D y l mn ws rm As w post mc ms) (cw : CallB R s args own index mn bytes maxL ret ws rm mc ms n ∧ (Cond.static mn).before args s = true) (hn : As.length = n) (hsize : ls.size = nL) (hstack : st0 = As.reverse ++ rest) (hroom : (rest.map fun v => v.category).sum ≤ 8) (hdg : decode cc pc = .ok (.invokestatic index, 3)) (hf : cells + mc ≤ R.cells ∧ slots + ms ≤ R.slots)
    (kk : ∀ (v : Nat) (u : fb_W) (H1 : Heap) (locs1 : List Loc), post v u → fb_M D y A s u H1 locs1 → W p l e R s m args below meth c H1 locs1 (cells + mc) (slots + ms) Q (F0 m (pc + 3) ls (.ref v :: rest))) : W p l e R s m args below meth c H locs cells slots Q (F0 m pc ls st0) := by
  exact va_callr (va_runS (As := As) (rest := rest) ⟨hx, hb, hml, hown, hts⟩ (hmet H.size) cw (fb_goS hM hE hSc) rfl hn hsize hstack (lv_room hroom) hdg hf) hM.2.2.1 (fun q _ h => fb_free hM q h) (fb_free hM) (fun u v t H1 locs1 ht hvm _ hB hz hk hS => kk v u H1 locs1 hB.1 (fb_back hM ht hvm hB.2 hS))
theorem fb_callINv (hx : p.tables.exec = Jvm.exec) (hb : c.code = cc) (hml : c.maxLocals = nL) (hown : s.vm.findClass own = some m.cls) (hts : ∀ x ∈ Ts, x.before args s = true) (hM : fb_M D y A s w H locs) {b : Nat} {post : fb_W → Prop} (hmet : CV D y l mn ws rm (.ref b :: As) w post mc ms) {host : String} (cw : va_CN R s args own index mn host bytes maxL none ws rm mc ms n ∧ mn.name = "<init>" ∧ (Cond.instanceMethod mn).before args s = true) (hn : As.length = n) (hsize : ls.size = nL) (hstack : st0 = As.reverse ++ .ref b :: rest) (hroom : (rest.map fun v => v.category).sum ≤ 8) (hdg : decode cc pc = .ok (.invokespecial index, 3)) (hf : cells + mc ≤ R.cells ∧ slots + ms ≤ R.slots)
    (kk : ∀ (u : fb_W) (H1 : Heap) (locs1 : List Loc), post u → fb_M D y A s u H1 locs1 → W p l e R s m args below meth c H1 locs1 (cells + mc) (slots + ms) Q (F0 m (pc + 3) ls (rest))) : W p l e R s m args below meth c H locs cells slots Q (F0 m pc ls st0) := by
  exact va_callv (va_runIN (b := b) (As := As) (rest := rest) ⟨hx, hb, hml, hown, hts⟩ (hmet H.size) cw (fb_go (As := .ref b :: As) hM) rfl hn hsize hstack (lv_room hroom) hdg hf) hM.2.2.1 (fun q _ h => fb_free hM q h) (fb_free hM) (fun u t H1 locs1 ht hvm hp hB hz hk hS => kk u H1 locs1 hp (fb_back hM ht hvm hB hS))
theorem CSI.of {post : Int32 → fb_W → Prop} (hy : plainName mn.cls = true) (hw : ws = Cond.code mn cc maxL ret :: ws') (hlen : (lg_sl as).length ≤ maxL)
    (body : ∀ (p : Program) (e : Env) (s : State) (m : MethodId) (below : List Frame) (meth : Method) (c : Code) (A : Nat → Prop), p.tables.exec = Jvm.exec → c.code = cc → c.maxLocals = maxL → meth.sig.returnType = ret → s.vm.findClass mn.cls = some m.cls → (∀ x ∈ ws, x.before as.toArray s = true) → meth.locks = false → meth.name = mn.name → fb_M D y A s w s.heap [] → fb_E a0 A s → fb_Sc sc A s → ∀ ls, lv_has ls maxL (lv_args 0 as) → W p l e rm s m as.toArray below meth c s.heap [] 0 0 (MQ below (va_Qi post (fun u t => fb_P D y A u t) A) as.toArray s mc ms A) (F0 m 0 ls [])) : CSI sc a0 D y l mn ws rm as w post mc ms := by
  intro sz
  refine Met.ofW (cc := cc) (maxL := maxL) (ret := ret) hy hw ?_
  intro p e s m args below meth c s₁ B hml hv
  obtain ⟨rfl, hSc, hsz, hN, hE, hP, hK, hD0⟩ := hv
  subst hsz
  rw [lg_entry_eq]
  exact body p e s m below meth c (va_A (fb_wd y w) s.heap.size) B.exec B.bytes hml B.returns (findClass_of_methodNamed B.named) (atoms_spec (ws := ws) B.pre) B.notSynchronized (name_of_methodNamed B.named B.method).1 ⟨hP, hD0.self, va_S.rf, hK, fun q h => Or.inr h, hN⟩ hE hSc _ (lv_entry as hlen)
theorem CSR.of {post : Nat → fb_W → Prop} (hy : plainName mn.cls = true) (hw : ws = Cond.code mn cc maxL ret :: ws') (hlen : (lg_sl as).length ≤ maxL)
    (body : ∀ (p : Program) (e : Env) (s : State) (m : MethodId) (below : List Frame) (meth : Method) (c : Code) (A : Nat → Prop), p.tables.exec = Jvm.exec → c.code = cc → c.maxLocals = maxL → meth.sig.returnType = ret → s.vm.findClass mn.cls = some m.cls → (∀ x ∈ ws, x.before as.toArray s = true) → meth.locks = false → meth.name = mn.name → fb_M D y A s w s.heap [] → fb_E a0 A s → fb_Sc sc A s → ∀ ls, lv_has ls maxL (lv_args 0 as) → W p l e rm s m as.toArray below meth c s.heap [] 0 0 (MQ below (va_Qr (fun _ : fb_W => True) (fun u a t => post a u ∧ fb_P D y A u t) A) as.toArray s mc ms A) (F0 m 0 ls [])) : CSR sc a0 D y l mn ws rm as w post mc ms := by
  intro sz
  refine Met.ofW (cc := cc) (maxL := maxL) (ret := ret) hy hw ?_
  intro p e s m args below meth c s₁ B hml hv
  obtain ⟨rfl, hSc, hsz, hN, hE, hP, hK, hD0⟩ := hv
  subst hsz
  rw [lg_entry_eq]
  exact body p e s m below meth c (va_A (fb_wd y w) s.heap.size) B.exec B.bytes hml B.returns (findClass_of_methodNamed B.named) (atoms_spec (ws := ws) B.pre) B.notSynchronized (name_of_methodNamed B.named B.method).1 ⟨hP, hD0.self, va_S.rf, hK, fun q h => Or.inr h, hN⟩ hE hSc _ (lv_entry as hlen)
end FBS
/-- a number below n, out of any -/
def blN (v : Int32) (n : Nat) : Nat := v.toBitVec.toNat % 2 ^ 31 % n
theorem blN_lt (v : Int32) {n : Nat} (h : 0 < n) : blN v n < n := Nat.mod_lt _ h
theorem and31 (v : Int32) : v &&& 2147483647 = nI (v.toBitVec.toNat % 2 ^ 31) := pk_and v 31 (by decide)
