/-! what a method needs of the machine's own cells: two statics of Throwable, ArrayList's empty row, strings, class objects -/
def fb_exc : List String := ["java/lang/IllegalArgumentException", "java/lang/IllegalStateException", "java/lang/IndexOutOfBoundsException"]
def fb_dcs : List String := ["java/lang/RuntimeException", "java/lang/Exception", "java/lang/Throwable"]
theorem fb_dcl {n : MethodName} {u U : State} (hvm : u.vm.Alike U.vm) (h : va_Nw (.declares n) u) : va_Nw (.declares n) U := by
  have h1 : (Cond.declares n).before #[] (u.setVm U.vm) = true := by
    rw [Cond.declares_setVm hvm]
    exact h
  have e := Cond.onTables_vm (A := #[]) (A' := #[]) (U := u) (U' := U) U.vm (Cond.declares n) rfl
  have hU : U.setVm U.vm = U := rfl
  rw [hU] at e
  unfold va_Nw
  rw [← e]
  exact h1
def fb_strs : List (Nat × String) := [(208, "a number is out of its range"), (48, "no more sacks"), (215, "no such sack"), (212, "there is none of this number"), (78, "more than the sack may have"), (217, "no such chamber"), (116, "no more ticks"), (219, "no such tick"), (130, "no square in this direction"), (224, "no such square"), (148, "both squares are the same")]
def fb_W1 (mi : Nat) (U : State) : Prop := (∀ E, E ∈ fb_exc → va_Nw (.castable E E) U) ∧ (∀ q, q ∈ fb_strs → ∃ a, vk_R RX3 q.1 q.2 a U) ∧ va_Nw (.castable RX1 "java/lang/Object") U ∧ va_Nw (.castable RX2 "java/lang/Object") U ∧ va_Mi "[Ljava/lang/Object;" mi U ∧ va_Dc U ∧ ∀ n, n ∈ fb_dcs → va_Nw (.declares ⟨n, "<init>", "(Ljava/lang/String;)V"⟩) U
theorem fb_W1.warm {mi : Nat} {s U : State} (hW : s.WarmedH U.vm) (h : fb_W1 mi s) : fb_W1 mi U := by
  obtain ⟨h1, h2, h3, h4, h5, h6, h7⟩ := h
  refine ⟨fun E hE => va_Nw.warmC hW (h1 E hE), fun q hq => ?_, va_Nw.warmC hW h3, va_Nw.warmC hW h4, h5.moved hW.alike, h6.moved hW.alike, fun n hn => fb_dcl hW.alike (h7 n hn)⟩
  obtain ⟨a, ha⟩ := h2 q hq
  exact ⟨a, ha.warm hW⟩
def fb_Emp (a0 : Nat) (A : Nat → Prop) (U : State) (H : Heap) : Prop := va_Z RJx4a65c "DEFAULTCAPACITY_EMPTY_ELEMENTDATA" "[Ljava/lang/Object;" (.ref a0) A U H ∧ ¬ A a0 ∧ ∃ cell : Cell, H[a0]? = some cell ∧ U.isArrayOf cell (.object "java/lang/Object") ∧ cell.vm ≠ .unknown ∧ cell.slots.size = 0
def fb_Z (a0 : Nat) (A : Nat → Prop) (U : State) (H : Heap) : Prop := vx_Zq Bundle.tN "UNASSIGNED_STACK" Bundle.steD A U H ∧ vx_Zq Bundle.tN "SUPPRESSED_SENTINEL" Bundle.listD A U H ∧ fb_Emp a0 A U H
def fb_E (a0 : Nat × Nat) (A : Nat → Prop) (U : State) : Prop := fb_W1 a0.2 U ∧ fb_Z a0.1 A U U.heap
theorem fb_Z.kept {a0 : Nat} {A : Nat → Prop} {U : State} {H H1 : Heap} (h : fb_Z a0 A U H) (hq : ∀ q : Nat, q < H.size → ¬ A q → H1[q]? = H[q]?) : fb_Z a0 A U H1 := by
  obtain ⟨h1, h2, h3, h4, cell, h5, h6⟩ := h
  exact ⟨h1.kept hq, h2.kept hq, h3.kept hq, h4, cell, by rw [hq a0 (Array.getElem?_eq_some_iff.mp h5).1 h4]; exact h5, h6⟩
theorem fb_Z.narrow {a0 : Nat} {A B : Nat → Prop} {U : State} {H : Heap} (h : fb_Z a0 A U H) (hAB : ∀ q, B q → A q) : fb_Z a0 B U H := by
  obtain ⟨h1, h2, h3, h4, h5⟩ := h
  exact ⟨h1.narrow hAB, h2.narrow hAB, h3.narrow hAB, fun z => h4 (hAB _ z), h5⟩
theorem fb_Z.moved {a0 : Nat} {A : Nat → Prop} {u U : State} {H : Heap} (hvm : u.vm.Alike U.vm) (h : fb_Z a0 A u H) : fb_Z a0 A U H := by
  obtain ⟨h1, h2, h3, h4, cell, h5, h6, h7⟩ := h
  exact ⟨h1.moved hvm, h2.moved hvm, va_Z.moved hvm h3, h4, cell, h5, State.isArrayOf_alike hvm h6, h7⟩
def fb_preE (a0 : Nat × Nat) (D : va_G) (y : Nat → ClassId) (w : fb_W) (sz : Nat) (as : List Value) : Array Value → State → Prop := va_Pc as (fun U => U.heap.size = sz ∧ fb_N U ∧ fb_E a0 (va_A (fb_wd y w) sz) U ∧ fb_P D y (fun _ => True) w U)
theorem fb_blindE {a0 : Nat × Nat} {D : va_G} {y : Nat → ClassId} {w : fb_W} {sz : Nat} {as : List Value} : FrameBlind (fb_preE a0 D y w sz as) := by
  intro a U g mk q
  obtain ⟨q0, q1, qN, qE, qP, qK, qD⟩ := q
  exact ⟨q0, q1, fb_N.warm (s := U) (U := U.calling g mk a) (State.WarmedH.refl U) qN, ⟨fb_W1.warm (s := U) (U := U.calling g mk a) (State.WarmedH.refl U) qE.1, fb_Z.moved (u := U) (U := U.calling g mk a) (Vm.Alike.refl U.vm) qE.2⟩, qP, va_K.moved (u := U) (U := U.calling g mk a) (Vm.Alike.refl U.vm) qK, qD⟩
def CIE (a0 : Nat × Nat) (D : va_G) (y : Nat → ClassId) (l : Launch) (mn : MethodName) (ws : List Cond) (rm : Room) (as : List Value) (w : fb_W) (post : Int32 → fb_W → Prop) (mc ms : Nat) : Prop :=
  ∀ sz, Met l mn ws rm (fb_preE a0 D y w sz as) (va_Qi post (fun u t => fb_P D y (va_A (fb_wd y w) sz) u t) (va_A (fb_wd y w) sz)) mc ms (va_A (fb_wd y w) sz)
def CVE (a0 : Nat × Nat) (D : va_G) (y : Nat → ClassId) (l : Launch) (mn : MethodName) (ws : List Cond) (rm : Room) (as : List Value) (w : fb_W) (post : fb_W → Prop) (mc ms : Nat) : Prop :=
  ∀ sz, Met l mn ws rm (fb_preE a0 D y w sz as) (va_Qv post (fun u t => fb_P D y (va_A (fb_wd y w) sz) u t) (va_A (fb_wd y w) sz)) mc ms (va_A (fb_wd y w) sz)
def CRE (a0 : Nat × Nat) (D : va_G) (y : Nat → ClassId) (l : Launch) (mn : MethodName) (ws : List Cond) (rm : Room) (as : List Value) (w : fb_W) (post : Nat → fb_W → Prop) (mc ms : Nat) : Prop :=
  ∀ sz, Met l mn ws rm (fb_preE a0 D y w sz as) (va_Qr (fun _ : fb_W => True) (fun u a t => post a u ∧ fb_P D y (va_A (fb_wd y w) sz) u t) (va_A (fb_wd y w) sz)) mc ms (va_A (fb_wd y w) sz)
section FBE
variable {p : Program} {l : Launch} {e : Env} {R : Room} {s : State} {m : MethodId} {args : Array Value} {below : List Frame} {meth : Method} {c : Code} {H : Heap} {locs : List Loc} {cells slots : Nat} {Q : State → Prop}
variable {cc bytes : ByteArray} {nL maxL index n mc ms : Nat} {Ts ws ws' : List Cond} {own : String} {pc : Nat} {ls : Array Slot} {rest st0 As as : List Value} {D : va_G} {A : Nat → Prop} {y : Nat → ClassId} {r : Nat} {w : fb_W} {mn : MethodName} {ret : Option FieldType} {rm : Room}
variable {a0 : Nat × Nat}
theorem fb_goE (hM : fb_M D y A s w H locs) (hE : fb_E a0 A s) : PreS s H (fb_preE a0 D y w H.size As) As := ⟨fb_blindE, fun U hU hW => ⟨rfl, by rw [hU], fb_N.warm hW hM.2.2.2.2.2, ⟨fb_W1.warm hW hE.1, by
  rw [hU]
  exact ((hE.2.kept hM.2.2.1.2.1).narrow (fun q h => fb_free hM q h)).moved hW.alike⟩, by rw [hU]; exact hM.1, va_K.moved hW.alike hM.2.2.2.1, hM.2.1.weaken (fun _ _ _ _ => trivial)⟩⟩
theorem fb_goVE (hM : fb_M D y A s w H locs) (hE : fb_E a0 A s) (hr : r ∈ sR w.1) {ci : Nat} {fs : List Value} (he : fb_g y w r = .inr (ci, fs)) {q : vw_C} (hc : vwCl[ci]? = some q) : PreV s H q.1 (sa w.1 r) (fb_preE a0 D y w H.size (.ref (sa w.1 r) :: As)) As := by
  obtain ⟨k0, h1, h2⟩ := fb_map_get (ad := sa w.1) (g := fb_g y w) hr
  rw [he] at h2
  exact ⟨fb_blindE, va_recv hM.2.2.2.1 hM.1 hc h2, (fb_goE hM hE).2⟩
theorem fb_callEVi (hx : p.tables.exec = Jvm.exec) (hb : c.code = cc) (hml : c.maxLocals = nL) (hown : s.vm.findClass own = some m.cls) (hts : ∀ x ∈ Ts, x.before args s = true) (hM : fb_M D y A s w H locs) (hE : fb_E a0 A s) (hr : r ∈ sR w.1) {ci : Nat} {fs : List Value} (he : fb_g y w r = .inr (ci, fs)) {q : vw_C} (hc : vwCl[ci]? = some q) {post : Int32 → fb_W → Prop} (hmet : CIE a0 D y l mn ws rm (.ref (sa w.1 r) :: As) w post mc ms) (cw : CallW R s args own q.1 index mn bytes maxL ret ws rm mc ms n) (hn : As.length = n) (hsize : ls.size = nL) (hstack : st0 = As.reverse ++ .ref (sa w.1 r) :: rest) (hroom : (rest.map fun v => v.category).sum ≤ 8) (hdg : decode cc pc = .ok (.invokevirtual index, 3)) (hf : cells + mc ≤ R.cells ∧ slots + ms ≤ R.slots)
    (kk : ∀ (v : Int32) (u : fb_W) (H1 : Heap) (locs1 : List Loc), post v u → fb_M D y A s u H1 locs1 → W p l e R s m args below meth c H1 locs1 (cells + mc) (slots + ms) Q (F0 m (pc + 3) ls (.int v :: rest))) : W p l e R s m args below meth c H locs cells slots Q (F0 m pc ls st0) := by
  exact va_calli (va_runV (b := sa w.1 r) (As := As) (rest := rest) ⟨hx, hb, hml, hown, hts⟩ (hmet H.size) cw (fb_goVE hM hE hr he hc) rfl hn hsize hstack (lv_room hroom) hdg hf) hM.2.2.1 (fun q _ h => fb_free hM q h) (fb_free hM) (fun v u t H1 locs1 ht hvm hp hB hz hk hS => kk v u H1 locs1 hp (fb_back hM ht hvm hB hS))
theorem fb_callEVv (hx : p.tables.exec = Jvm.exec) (hb : c.code = cc) (hml : c.maxLocals = nL) (hown : s.vm.findClass own = some m.cls) (hts : ∀ x ∈ Ts, x.before args s = true) (hM : fb_M D y A s w H locs) (hE : fb_E a0 A s) (hr : r ∈ sR w.1) {ci : Nat} {fs : List Value} (he : fb_g y w r = .inr (ci, fs)) {q : vw_C} (hc : vwCl[ci]? = some q) {post : fb_W → Prop} (hmet : CVE a0 D y l mn ws rm (.ref (sa w.1 r) :: As) w post mc ms) (cw : CallW R s args own q.1 index mn bytes maxL ret ws rm mc ms n) (hn : As.length = n) (hsize : ls.size = nL) (hstack : st0 = As.reverse ++ .ref (sa w.1 r) :: rest) (hroom : (rest.map fun v => v.category).sum ≤ 8) (hdg : decode cc pc = .ok (.invokevirtual index, 3)) (hf : cells + mc ≤ R.cells ∧ slots + ms ≤ R.slots)
    (kk : ∀ (u : fb_W) (H1 : Heap) (locs1 : List Loc), post u → fb_M D y A s u H1 locs1 → W p l e R s m args below meth c H1 locs1 (cells + mc) (slots + ms) Q (F0 m (pc + 3) ls (rest))) : W p l e R s m args below meth c H locs cells slots Q (F0 m pc ls st0) := by
  exact va_callv (va_runV (b := sa w.1 r) (As := As) (rest := rest) ⟨hx, hb, hml, hown, hts⟩ (hmet H.size) cw (fb_goVE hM hE hr he hc) rfl hn hsize hstack (lv_room hroom) hdg hf) hM.2.2.1 (fun q _ h => fb_free hM q h) (fb_free hM) (fun u t H1 locs1 ht hvm hp hB hz hk hS => kk u H1 locs1 hp (fb_back hM ht hvm hB hS))
theorem fb_callEVr (hx : p.tables.exec = Jvm.exec) (hb : c.code = cc) (hml : c.maxLocals = nL) (hown : s.vm.findClass own = some m.cls) (hts : ∀ x ∈ Ts, x.before args s = true) (hM : fb_M D y A s w H locs) (hE : fb_E a0 A s) (hr : r ∈ sR w.1) {ci : Nat} {fs : List Value} (he : fb_g y w r = .inr (ci, fs)) {q : vw_C} (hc : vwCl[ci]? = some q) {post : Nat → fb_W → Prop} (hmet : CRE a0 D y l mn ws rm (.ref (sa w.1 r) :: As) w post mc ms) (cw : CallW R s args own q.1 index mn bytes maxL ret ws rm mc ms n) (hn : As.length = n) (hsize : ls.size = nL) (hstack : st0 = As.reverse ++ .ref (sa w.1 r) :: rest) (hroom : (rest.map fun v => v.category).sum ≤ 8) (hdg : decode cc pc = .ok (.invokevirtual index, 3)) (hf : cells + mc ≤ R.cells ∧ slots + ms ≤ R.slots)
    (kk : ∀ (v : Nat) (u : fb_W) (H1 : Heap) (locs1 : List Loc), post v u → fb_M D y A s u H1 locs1 → W p l e R s m args below meth c H1 locs1 (cells + mc) (slots + ms) Q (F0 m (pc + 3) ls (.ref v :: rest))) : W p l e R s m args below meth c H locs cells slots Q (F0 m pc ls st0) := by
  exact va_callr (va_runV (b := sa w.1 r) (As := As) (rest := rest) ⟨hx, hb, hml, hown, hts⟩ (hmet H.size) cw (fb_goVE hM hE hr he hc) rfl hn hsize hstack (lv_room hroom) hdg hf) hM.2.2.1 (fun q _ h => fb_free hM q h) (fb_free hM) (fun u v t H1 locs1 ht hvm _ hB hz hk hS => kk v u H1 locs1 hB.1 (fb_back hM ht hvm hB.2 hS))
theorem fb_callESv (hx : p.tables.exec = Jvm.exec) (hb : c.code = cc) (hml : c.maxLocals = nL) (hown : s.vm.findClass own = some m.cls) (hts : ∀ x ∈ Ts, x.before args s = true) (hM : fb_M D y A s w H locs) (hE : fb_E a0 A s) {post : fb_W → Prop} (hmet : CVE a0 D y l mn ws rm As w post mc ms) (cw : CallB R s args own index mn bytes maxL ret ws rm mc ms n ∧ (Cond.static mn).before args s = true) (hn : As.length = n) (hsize : ls.size = nL) (hstack : st0 = As.reverse ++ rest) (hroom : (rest.map fun v => v.category).sum ≤ 8) (hdg : decode cc pc = .ok (.invokestatic index, 3)) (hf : cells + mc ≤ R.cells ∧ slots + ms ≤ R.slots)
    (kk : ∀ (u : fb_W) (H1 : Heap) (locs1 : List Loc), post u → fb_M D y A s u H1 locs1 → W p l e R s m args below meth c H1 locs1 (cells + mc) (slots + ms) Q (F0 m (pc + 3) ls (rest))) : W p l e R s m args below meth c H locs cells slots Q (F0 m pc ls st0) := by
  exact va_callv (va_runS (As := As) (rest := rest) ⟨hx, hb, hml, hown, hts⟩ (hmet H.size) cw (fb_goE hM hE) rfl hn hsize hstack (lv_room hroom) hdg hf) hM.2.2.1 (fun q _ h => fb_free hM q h) (fb_free hM) (fun u t H1 locs1 ht hvm hp hB hz hk hS => kk u H1 locs1 hp (fb_back hM ht hvm hB hS))
theorem fb_callESr (hx : p.tables.exec = Jvm.exec) (hb : c.code = cc) (hml : c.maxLocals = nL) (hown : s.vm.findClass own = some m.cls) (hts : ∀ x ∈ Ts, x.before args s = true) (hM : fb_M D y A s w H locs) (hE : fb_E a0 A s) {post : Nat → fb_W → Prop} (hmet : CRE a0 D y l mn ws rm As w post mc ms) (cw : CallB R s args own index mn bytes maxL ret ws rm mc ms n ∧ (Cond.static mn).before args s = true) (hn : As.length = n) (hsize : ls.size = nL) (hstack : st0 = As.reverse ++ rest) (hroom : (rest.map fun v => v.category).sum ≤ 8) (hdg : decode cc pc = .ok (.invokestatic index, 3)) (hf : cells + mc ≤ R.cells ∧ slots + ms ≤ R.slots)
    (kk : ∀ (v : Nat) (u : fb_W) (H1 : Heap) (locs1 : List Loc), post v u → fb_M D y A s u H1 locs1 → W p l e R s m args below meth c H1 locs1 (cells + mc) (slots + ms) Q (F0 m (pc + 3) ls (.ref v :: rest))) : W p l e R s m args below meth c H locs cells slots Q (F0 m pc ls st0) := by
  exact va_callr (va_runS (As := As) (rest := rest) ⟨hx, hb, hml, hown, hts⟩ (hmet H.size) cw (fb_goE hM hE) rfl hn hsize hstack (lv_room hroom) hdg hf) hM.2.2.1 (fun q _ h => fb_free hM q h) (fb_free hM) (fun u v t H1 locs1 ht hvm _ hB hz hk hS => kk v u H1 locs1 hB.1 (fb_back hM ht hvm hB.2 hS))
theorem fb_callEIv (hx : p.tables.exec = Jvm.exec) (hb : c.code = cc) (hml : c.maxLocals = nL) (hown : s.vm.findClass own = some m.cls) (hts : ∀ x ∈ Ts, x.before args s = true) (hM : fb_M D y A s w H locs) (hE : fb_E a0 A s) {b : Nat} {post : fb_W → Prop} (hmet : CVE a0 D y l mn ws rm (.ref b :: As) w post mc ms) (cw : CallB R s args own index mn bytes maxL none ws rm mc ms n ∧ mn.name = "<init>" ∧ (Cond.instanceMethod mn).before args s = true) (hn : As.length = n) (hsize : ls.size = nL) (hstack : st0 = As.reverse ++ .ref b :: rest) (hroom : (rest.map fun v => v.category).sum ≤ 8) (hdg : decode cc pc = .ok (.invokespecial index, 3)) (hf : cells + mc ≤ R.cells ∧ slots + ms ≤ R.slots)
    (kk : ∀ (u : fb_W) (H1 : Heap) (locs1 : List Loc), post u → fb_M D y A s u H1 locs1 → W p l e R s m args below meth c H1 locs1 (cells + mc) (slots + ms) Q (F0 m (pc + 3) ls (rest))) : W p l e R s m args below meth c H locs cells slots Q (F0 m pc ls st0) := by
  exact va_callv (va_runI (b := b) (As := As) (rest := rest) ⟨hx, hb, hml, hown, hts⟩ (hmet H.size) cw (fb_goE (As := .ref b :: As) hM hE) rfl hn hsize hstack (lv_room hroom) hdg hf) hM.2.2.1 (fun q _ h => fb_free hM q h) (fb_free hM) (fun u t H1 locs1 ht hvm hp hB hz hk hS => kk u H1 locs1 hp (fb_back hM ht hvm hB hS))
theorem CIE.of {post : Int32 → fb_W → Prop} (hy : plainName mn.cls = true) (hw : ws = Cond.code mn cc maxL ret :: ws') (hlen : (lg_sl as).length ≤ maxL)
    (body : ∀ (p : Program) (e : Env) (s : State) (m : MethodId) (below : List Frame) (meth : Method) (c : Code) (A : Nat → Prop), p.tables.exec = Jvm.exec → c.code = cc → c.maxLocals = maxL → meth.sig.returnType = ret → s.vm.findClass mn.cls = some m.cls → (∀ x ∈ ws, x.before as.toArray s = true) → meth.locks = false → meth.name = mn.name → fb_M D y A s w s.heap [] → fb_E a0 A s → ∀ ls, lv_has ls maxL (lv_args 0 as) → W p l e rm s m as.toArray below meth c s.heap [] 0 0 (MQ below (va_Qi post (fun u t => fb_P D y A u t) A) as.toArray s mc ms A) (F0 m 0 ls [])) : CIE a0 D y l mn ws rm as w post mc ms := by
  intro sz
  refine Met.ofW (cc := cc) (maxL := maxL) (ret := ret) hy hw ?_
  intro p e s m args below meth c s₁ B hml hv
  obtain ⟨rfl, hsz, hN, hE, hP, hK, hD0⟩ := hv
  subst hsz
  rw [lg_entry_eq]
  exact body p e s m below meth c (va_A (fb_wd y w) s.heap.size) B.exec B.bytes hml B.returns (findClass_of_methodNamed B.named) (atoms_spec (ws := ws) B.pre) B.notSynchronized (name_of_methodNamed B.named B.method).1 ⟨hP, hD0.self, va_S.rf, hK, fun q h => Or.inr h, hN⟩ hE _ (lv_entry as hlen)
theorem CVE.of {post : fb_W → Prop} (hy : plainName mn.cls = true) (hw : ws = Cond.code mn cc maxL ret :: ws') (hlen : (lg_sl as).length ≤ maxL)
    (body : ∀ (p : Program) (e : Env) (s : State) (m : MethodId) (below : List Frame) (meth : Method) (c : Code) (A : Nat → Prop), p.tables.exec = Jvm.exec → c.code = cc → c.maxLocals = maxL → meth.sig.returnType = ret → s.vm.findClass mn.cls = some m.cls → (∀ x ∈ ws, x.before as.toArray s = true) → meth.locks = false → meth.name = mn.name → fb_M D y A s w s.heap [] → fb_E a0 A s → ∀ ls, lv_has ls maxL (lv_args 0 as) → W p l e rm s m as.toArray below meth c s.heap [] 0 0 (MQ below (va_Qv post (fun u t => fb_P D y A u t) A) as.toArray s mc ms A) (F0 m 0 ls [])) : CVE a0 D y l mn ws rm as w post mc ms := by
  intro sz
  refine Met.ofW (cc := cc) (maxL := maxL) (ret := ret) hy hw ?_
  intro p e s m args below meth c s₁ B hml hv
  obtain ⟨rfl, hsz, hN, hE, hP, hK, hD0⟩ := hv
  subst hsz
  rw [lg_entry_eq]
  exact body p e s m below meth c (va_A (fb_wd y w) s.heap.size) B.exec B.bytes hml B.returns (findClass_of_methodNamed B.named) (atoms_spec (ws := ws) B.pre) B.notSynchronized (name_of_methodNamed B.named B.method).1 ⟨hP, hD0.self, va_S.rf, hK, fun q h => Or.inr h, hN⟩ hE _ (lv_entry as hlen)
theorem CRE.of {post : Nat → fb_W → Prop} (hy : plainName mn.cls = true) (hw : ws = Cond.code mn cc maxL ret :: ws') (hlen : (lg_sl as).length ≤ maxL)
    (body : ∀ (p : Program) (e : Env) (s : State) (m : MethodId) (below : List Frame) (meth : Method) (c : Code) (A : Nat → Prop), p.tables.exec = Jvm.exec → c.code = cc → c.maxLocals = maxL → meth.sig.returnType = ret → s.vm.findClass mn.cls = some m.cls → (∀ x ∈ ws, x.before as.toArray s = true) → meth.locks = false → meth.name = mn.name → fb_M D y A s w s.heap [] → fb_E a0 A s → ∀ ls, lv_has ls maxL (lv_args 0 as) → W p l e rm s m as.toArray below meth c s.heap [] 0 0 (MQ below (va_Qr (fun _ : fb_W => True) (fun u a t => post a u ∧ fb_P D y A u t) A) as.toArray s mc ms A) (F0 m 0 ls [])) : CRE a0 D y l mn ws rm as w post mc ms := by
  intro sz
  refine Met.ofW (cc := cc) (maxL := maxL) (ret := ret) hy hw ?_
  intro p e s m args below meth c s₁ B hml hv
  obtain ⟨rfl, hsz, hN, hE, hP, hK, hD0⟩ := hv
  subst hsz
  rw [lg_entry_eq]
  exact body p e s m below meth c (va_A (fb_wd y w) s.heap.size) B.exec B.bytes hml B.returns (findClass_of_methodNamed B.named) (atoms_spec (ws := ws) B.pre) B.notSynchronized (name_of_methodNamed B.named B.method).1 ⟨hP, hD0.self, va_S.rf, hK, fun q h => Or.inr h, hN⟩ hE _ (lv_entry as hlen)
/-- a method that throws E, and leaves the world as it was -/
def CX (a0 : Nat × Nat) (D : va_G) (y : Nat → ClassId) (l : Launch) (mn : MethodName) (ws : List Cond) (rm : Room) (as : List Value) (w : fb_W) (E : String) (mc ms : Nat) : Prop :=
  ∀ sz, vx_Met l mn ws rm (fb_preE a0 D y w sz as) (va_Qi (fun (_ : Int32) (_ : fb_W) => False) (fun _ _ => True) (va_A (fb_wd y w) sz)) (vx_X (fun u : fb_W => u = w) (fun E' u t => E' = E ∧ fb_P D y (va_A (fb_wd y w) sz) u t) (va_A (fb_wd y w) sz)) mc ms (va_A (fb_wd y w) sz)
theorem CX.of {E : String} (hy : plainName mn.cls = true) (hw : ws = Cond.code mn cc maxL ret :: ws') (hlen : (lg_sl as).length ≤ maxL)
    (body : ∀ (p : Program) (e : Env) (s : State) (m : MethodId) (below : List Frame) (meth : Method) (c : Code) (A : Nat → Prop), p.tables.exec = Jvm.exec → c.code = cc → c.maxLocals = maxL → s.vm.findClass mn.cls = some m.cls → (∀ x ∈ ws, x.before as.toArray s = true) → meth.locks = false → (∀ pc, ∀ x ∈ c.exceptionTable.toList, covers x pc = false) → fb_M D y A s w s.heap [] → fb_E a0 A s → ∀ ls, lv_has ls maxL (lv_args 0 as) → W p l e rm s m as.toArray below meth c s.heap [] 0 0 (vx_MQ below (va_Qi (fun (_ : Int32) (_ : fb_W) => False) (fun _ _ => True) A) (vx_X (fun u : fb_W => u = w) (fun E' u t => E' = E ∧ fb_P D y A u t) A) as.toArray s mc ms A) (F0 m 0 ls [])) : CX a0 D y l mn ws rm as w E mc ms := by
  intro sz
  refine vx_ofW (cc := cc) (maxL := maxL) (ret := ret) hy hw ?_
  intro p e s m args below meth c s₁ B hml hex hv
  obtain ⟨rfl, hsz, hN, hE, hP, hK, hD0⟩ := hv
  subst hsz
  rw [lg_entry_eq]
  exact body p e s m below meth c (va_A (fb_wd y w) s.heap.size) B.exec B.bytes hml (findClass_of_methodNamed B.named) (atoms_spec (ws := ws) B.pre) B.notSynchronized (fun pc x hx => (hex x hx).elim) ⟨hP, hD0.self, va_S.rf, hK, fun q h => Or.inr h, hN⟩ hE _ (lv_entry as hlen)
/-- what stands behind a throw that isn't caught here -/
theorem fb_xend {E : String} {w0 : fb_W} (hM : fb_M D y A s w0 H locs) : ∀ t : State, t.heap = H → s.vm.Alike t.vm → vx_X (fun u : fb_W => u = w0) (fun E' u t => E' = E ∧ fb_P D y A u t) A E s t := fun t ht hvm => ⟨w0, rfl, ⟨rfl, by rw [ht]; exact hM.1, va_K.moved hvm hM.2.2.2.1, hM.2.1⟩, hM.2.2.1.F ht⟩
/-- new E(text), thrown, not caught here -/
theorem fb_throw (hx : p.tables.exec = Jvm.exec) (hb : c.code = cc) (hml : c.maxLocals = nL) (hl : l.stackTraces = false) {own cls text : String} {names : List String} {ik is ic sa0 : Nat} (hown : s.vm.findClass own = some m.cls) (hcls : Bundle.fit cls = true) (hnames : ∀ n ∈ names, Bundle.fit n = true)
    (hk : (Cond.classLink own ik cls).before args s = true) (hini : (Cond.initialized cls).before args s = true) (hstr : vk_R own is text sa0 s) (hat : ∀ w ∈ vx_atS own ic cls names, w.before args s = true)
    (hgood : ∀ w ∈ Cond.classLink own ik cls :: Cond.initialized cls :: vx_atS own ic cls names, vx_ot w = true) (hM : fb_M D y A s w H locs) (hE : fb_E a0 A s) (hsize : ls.size = nL)
    (d0 : decode cc pc = .ok (.new ik, 3)) (d3 : decode cc (pc + 3) = .ok (.dup, 1)) (d4 : decode cc (pc + 4) = .ok (.ldc is, 2)) (d6 : decode cc (pc + 6) = .ok (.invokespecial ic, 3)) (d9 : decode cc (pc + 9) = .ok (.athrow, 1))
    (hout : ∀ pc, ∀ x ∈ c.exceptionTable.toList, covers x pc = false) (hRf : names.length + 3 < R.frames) (hRl : (rest.map fun v => v.category).sum + (13 * (names.length + 1) + 43) ≤ R.locals) (hRc : cells + 1 ≤ R.cells) (hRs : slots + 6 ≤ R.slots) (hlocks : meth.locks = false) (hc : cells + 1 ≤ mc) (hs : slots + 6 ≤ ms) :
    W p l e R s m args below meth c H locs cells slots (vx_MQ below (va_Qi (fun (_ : Int32) (_ : fb_W) => False) (fun _ _ => True) A) (vx_X (fun u : fb_W => u = w) (fun E' u t => E' = cls ∧ fb_P D y A u t) A) args s mc ms A) (F0 m pc ls rest) := by
  refine vx_throwS hx hb hl hown hcls hnames hk hini hstr hat hgood hE.2.1 hE.2.2.1 hM.2.2.1 (hsize.trans hml.symm) d0 d3 d4 d6 d9 (hout _) hRf hRl hRc hRs hlocks (fun t hvm h1 h2 => ?_) hM.2.2.1.2.2 hc hs
  have hk' : ∀ (k : Nat) (x : Nat × va_E), (fb_wd y w)[k]? = some x → t.heap[x.1]? = H[x.1]? := fun k x hx => h2 x.1 ((hM.1 k x hx).lt)
  exact ⟨w, rfl, ⟨rfl, hM.1.kept hk', va_K.moved hvm hM.2.2.2.1, hM.2.1⟩, Nat.le_trans hM.2.2.1.1 h1, fun q q1 q2 => (h2 q (Nat.lt_of_lt_of_le q1 hM.2.2.1.1)).trans (hM.2.2.1.2.1 q q1 q2)⟩
theorem fb_xback (hM : fb_M D y A s w H locs) {E E' : String} {u : fb_W} {t : State} {H1 : Heap} {locs1 : List Loc} (ht : t.heap = H1) (hvm : s.vm.Alike t.vm) (hu : u = w) (hB : E' = E ∧ fb_P D y (va_A (fb_wd y w) H.size) u t) (hS : va_S A s.heap H1 locs1) : E' = E ∧ fb_M D y A s w H1 locs1 := by
  subst hu
  exact ⟨hB.1, fb_back hM ht hvm hB.2 hS⟩
theorem fb_xcallV (hx : p.tables.exec = Jvm.exec) (hb : c.code = cc) (hml : c.maxLocals = nL) (hown : s.vm.findClass own = some m.cls) (hts : ∀ x ∈ Ts, x.before args s = true) (hM : fb_M D y A s w H locs) (hE : fb_E a0 A s) (hr : r ∈ sR w.1) {ci : Nat} {fs : List Value} (he : fb_g y w r = .inr (ci, fs)) {q : vw_C} (hc : vwCl[ci]? = some q) {E : String} {mc1 ms1 : Nat} (hmet : CX a0 D y l mn ws rm (.ref (sa w.1 r) :: As) w E mc1 ms1) (cw : CallW R s args own q.1 index mn bytes maxL ret ws rm mc1 ms1 n) (hn : As.length = n) (hsize : ls.size = nL) (hstack : st0 = As.reverse ++ .ref (sa w.1 r) :: rest) (hroom : (rest.map fun v => v.category).sum ≤ 8) (hdg : decode cc pc = .ok (.invokevirtual index, 3)) (hf : cells + mc1 ≤ R.cells ∧ slots + ms1 ≤ R.slots)
    (hout : ∀ pc, ∀ x ∈ c.exceptionTable.toList, covers x pc = false) (hlocks : meth.locks = false) (h1 : cells + mc1 ≤ mc) (h2 : slots + ms1 ≤ ms) : W p l e R s m args below meth c H locs cells slots (vx_MQ below (va_Qi (fun (_ : Int32) (_ : fb_W) => False) (fun _ _ => True) A) (vx_X (fun u : fb_W => u = w) (fun E' u t => E' = E ∧ fb_P D y A u t) A) args s mc ms A) (F0 m pc ls st0) := by
  refine vx_calli (vx_runV (b := sa w.1 r) (As := As) (rest := rest) ⟨hx, hb, hml, hown, hts⟩ (hmet H.size) cw (fb_goVE hM hE hr he hc) rfl hn hsize hstack (lv_room hroom) hdg hf) hM.2.2.1 (fun q _ h => fb_free hM q h) (fb_free hM) (fun q _ h => fb_free hM q h) (fun E' ce q9 u t H1 locs1 ht hvm hp hB _ _ hS hce hcv hcl => ?_) (fun _ _ _ _ _ _ _ hp => hp.elim)
  obtain ⟨rfl, hM1⟩ := fb_xback hM ht hvm hp hB hS
  exact vx_out (hout _) hlocks hce hcv hcl (fb_xend hM1) hM1.2.2.1.2.2 h1 h2
theorem fb_xcallS (hx : p.tables.exec = Jvm.exec) (hb : c.code = cc) (hml : c.maxLocals = nL) (hown : s.vm.findClass own = some m.cls) (hts : ∀ x ∈ Ts, x.before args s = true) (hM : fb_M D y A s w H locs) (hE : fb_E a0 A s) {E : String} {mc1 ms1 : Nat} (hmet : CX a0 D y l mn ws rm As w E mc1 ms1) (cw : CallB R s args own index mn bytes maxL ret ws rm mc1 ms1 n ∧ (Cond.static mn).before args s = true) (hn : As.length = n) (hsize : ls.size = nL) (hstack : st0 = As.reverse ++ rest) (hroom : (rest.map fun v => v.category).sum ≤ 8) (hdg : decode cc pc = .ok (.invokestatic index, 3)) (hf : cells + mc1 ≤ R.cells ∧ slots + ms1 ≤ R.slots)
    (hout : ∀ pc, ∀ x ∈ c.exceptionTable.toList, covers x pc = false) (hlocks : meth.locks = false) (h1 : cells + mc1 ≤ mc) (h2 : slots + ms1 ≤ ms) : W p l e R s m args below meth c H locs cells slots (vx_MQ below (va_Qi (fun (_ : Int32) (_ : fb_W) => False) (fun _ _ => True) A) (vx_X (fun u : fb_W => u = w) (fun E' u t => E' = E ∧ fb_P D y A u t) A) args s mc ms A) (F0 m pc ls st0) := by
  refine vx_calli (vx_runS (As := As) (rest := rest) ⟨hx, hb, hml, hown, hts⟩ (hmet H.size) cw (fb_goE hM hE) rfl hn hsize hstack (lv_room hroom) hdg hf) hM.2.2.1 (fun q _ h => fb_free hM q h) (fb_free hM) (fun q _ h => fb_free hM q h) (fun E' ce q9 u t H1 locs1 ht hvm hp hB _ _ hS hce hcv hcl => ?_) (fun _ _ _ _ _ _ _ hp => hp.elim)
  obtain ⟨rfl, hM1⟩ := fb_xback hM ht hvm hp hB hS
  exact vx_out (hout _) hlocks hce hcv hcl (fb_xend hM1) hM1.2.2.1.2.2 h1 h2
end FBE
section UPK
variable {y : Nat → ClassId} {S : fb_Sh} {V I : fb_V} {T : fb_T} {r : Nat} {v : Option Nat}
theorem upk_0_0 (hk : sk S r = 0) : ∀ q, va_up (fb_g y (S, V, T, I)) r (.inr (1, [va_rf v, .int (T r)])) q = fb_g y (fb_setp S r 0 v, V, T, I) q :=
  up_P (by rw [ce0 (S := fb_setp S r 0 v) (show sk (fb_setp S r 0 v) r = 0 from hk)]; simp [st_p, va_up])
theorem upk_1_0 (hk : sk S r = 1) : ∀ q, va_up (fb_g y (S, V, T, I)) r (.inr (2, [va_rf v, .int (I r 1)])) q = fb_g y (fb_setp S r 0 v, V, T, I) q :=
  up_P (by rw [ce1 (S := fb_setp S r 0 v) (show sk (fb_setp S r 0 v) r = 1 from hk)]; simp [st_p, va_up])
theorem upk_2_4 (hk : sk S r = 2) : ∀ q, va_up (fb_g y (S, V, T, I)) r (.inr (3, [.int (I r 0), .int (I r 1), .int (I r 2), .int (I r 3), va_rf v, va_rf (sp S r 5), va_rf (sp S r 6)])) q = fb_g y (fb_setp S r 4 v, V, T, I) q :=
  up_P (by rw [ce2 (S := fb_setp S r 4 v) (show sk (fb_setp S r 4 v) r = 2 from hk)]; simp [st_p, va_up])
theorem upk_2_5 (hk : sk S r = 2) : ∀ q, va_up (fb_g y (S, V, T, I)) r (.inr (3, [.int (I r 0), .int (I r 1), .int (I r 2), .int (I r 3), va_rf (sp S r 4), va_rf v, va_rf (sp S r 6)])) q = fb_g y (fb_setp S r 5 v, V, T, I) q :=
  up_P (by rw [ce2 (S := fb_setp S r 5 v) (show sk (fb_setp S r 5 v) r = 2 from hk)]; simp [st_p, va_up])
theorem upk_2_6 (hk : sk S r = 2) : ∀ q, va_up (fb_g y (S, V, T, I)) r (.inr (3, [.int (I r 0), .int (I r 1), .int (I r 2), .int (I r 3), va_rf (sp S r 4), va_rf (sp S r 5), va_rf v])) q = fb_g y (fb_setp S r 6 v, V, T, I) q :=
  up_P (by rw [ce2 (S := fb_setp S r 6 v) (show sk (fb_setp S r 6 v) r = 2 from hk)]; simp [st_p, va_up])
theorem upk_3_0 (hk : sk S r = 3) : ∀ q, va_up (fb_g y (S, V, T, I)) r (.inr (4, [va_rf v, va_rf (sp S r 1), va_rf (sp S r 2), va_rf (sp S r 3), .int (I r 4), .int (I r 5), .int (I r 6), .int (I r 7)])) q = fb_g y (fb_setp S r 0 v, V, T, I) q :=
  up_P (by rw [ce3 (S := fb_setp S r 0 v) (show sk (fb_setp S r 0 v) r = 3 from hk)]; simp [st_p, va_up])
theorem upk_3_1 (hk : sk S r = 3) : ∀ q, va_up (fb_g y (S, V, T, I)) r (.inr (4, [va_rf (sp S r 0), va_rf v, va_rf (sp S r 2), va_rf (sp S r 3), .int (I r 4), .int (I r 5), .int (I r 6), .int (I r 7)])) q = fb_g y (fb_setp S r 1 v, V, T, I) q :=
  up_P (by rw [ce3 (S := fb_setp S r 1 v) (show sk (fb_setp S r 1 v) r = 3 from hk)]; simp [st_p, va_up])
theorem upk_3_2 (hk : sk S r = 3) : ∀ q, va_up (fb_g y (S, V, T, I)) r (.inr (4, [va_rf (sp S r 0), va_rf (sp S r 1), va_rf v, va_rf (sp S r 3), .int (I r 4), .int (I r 5), .int (I r 6), .int (I r 7)])) q = fb_g y (fb_setp S r 2 v, V, T, I) q :=
  up_P (by rw [ce3 (S := fb_setp S r 2 v) (show sk (fb_setp S r 2 v) r = 3 from hk)]; simp [st_p, va_up])
theorem upk_3_3 (hk : sk S r = 3) : ∀ q, va_up (fb_g y (S, V, T, I)) r (.inr (4, [va_rf (sp S r 0), va_rf (sp S r 1), va_rf (sp S r 2), va_rf v, .int (I r 4), .int (I r 5), .int (I r 6), .int (I r 7)])) q = fb_g y (fb_setp S r 3 v, V, T, I) q :=
  up_P (by rw [ce3 (S := fb_setp S r 3 v) (show sk (fb_setp S r 3 v) r = 3 from hk)]; simp [st_p, va_up])
theorem upk_5_1 (hk : sk S r = 5) : ∀ q, va_up (fb_g y (S, V, T, I)) r (.inr (0, [.int (I r 0), va_rf v, .int (I r 2)])) q = fb_g y (fb_setp S r 1 v, V, T, I) q :=
  up_P (by rw [ce5 (S := fb_setp S r 1 v) (show sk (fb_setp S r 1 v) r = 5 from hk)]; simp [st_p, va_up])
theorem upa_8 {j : Nat} (hk : sk S r = 8) : ∀ q, va_up (fb_g y (S, V, T, I)) r (.inl (y 2, sn S r, .inr (.inr (.inr (.inr (va_up (sp S r) j v)))))) q = fb_g y (fb_setp S r j v, V, T, I) q :=
  up_P (by rw [ce8 (S := fb_setp S r j v) (show sk (fb_setp S r j v) r = 8 from hk), st_p]; rfl)
theorem upa_9 {j : Nat} (hk : sk S r = 9) : ∀ q, va_up (fb_g y (S, V, T, I)) r (.inl (y 3, sn S r, .inr (.inr (.inr (.inr (va_up (sp S r) j v)))))) q = fb_g y (fb_setp S r j v, V, T, I) q :=
  up_P (by rw [ce9 (S := fb_setp S r j v) (show sk (fb_setp S r j v) r = 9 from hk), st_p]; rfl)
theorem upa_10 {j : Nat} (hk : sk S r = 10) : ∀ q, va_up (fb_g y (S, V, T, I)) r (.inl (y 4, sn S r, .inr (.inr (.inr (.inr (va_up (sp S r) j v)))))) q = fb_g y (fb_setp S r j v, V, T, I) q :=
  up_P (by rw [ce10 (S := fb_setp S r j v) (show sk (fb_setp S r j v) r = 10 from hk), st_p]; rfl)
theorem upa_11 {j : Nat} (hk : sk S r = 11) : ∀ q, va_up (fb_g y (S, V, T, I)) r (.inl (y 5, sn S r, .inr (.inr (.inr (.inr (va_up (sp S r) j v)))))) q = fb_g y (fb_setp S r j v, V, T, I) q :=
  up_P (by rw [ce11 (S := fb_setp S r j v) (show sk (fb_setp S r j v) r = 11 from hk), st_p]; rfl)
end UPK
