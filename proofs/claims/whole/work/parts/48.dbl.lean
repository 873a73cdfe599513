/-! doubles: a share of whole numbers is a number; a contract for a method that answers a double -/
theorem db_ok (a b : Int32) (h : ¬ b = 0) : vf_n64 (FP.ddiv (FP.i2d a) (FP.i2d b)) := by
  have hv : FP.Core.val64 (FP.Core.ddiv (FP.Core.i2d a) (FP.Core.i2d b)) ≠ .nan := by
    rw [FP.Core.val64_ddiv]
    have ha := FP.Core.i2d_int a
    have hb := FP.Core.i2d_int b
    unfold FP.Core.DInt at ha hb
    cases hx : FP.Core.val64 (FP.Core.i2d a) with
    | nan => rw [hx] at ha; exact ha.elim
    | inf s => rw [hx] at ha; exact ha.elim
    | fin s c q =>
      cases hy : FP.Core.val64 (FP.Core.i2d b) with
      | nan => rw [hy] at hb; exact hb.elim
      | inf s => rw [hy] at hb; exact hb.elim
      | fin t d r =>
        rw [hy] at hb
        have hd : ¬ d = 0 := fun z => h (Int32.toInt_inj.mp ((FP.Core.whole_zero hb).mp z))
        show FP.Core.quotient FP.Core.b64 (.fin s c q) (.fin t d r) ≠ .nan
        unfold FP.Core.quotient
        simp only [if_neg hd]
        unfold FP.Core.roundRatio
        split
        · exact fun z => by cases z
        · unfold FP.Core.roundAt FP.Core.settle FP.Core.bound
          split <;> split <;> exact fun z => by cases z
  have h2 := (FP.Core.ne_nan _).mp hv
  unfold vf_n64
  rw [UInt64.le_iff_toNat_le, UInt64.toNat_and]
  have h1 : (0x7fffffffffffffff : UInt64).toNat = 2 ^ 63 - 1 := by decide
  have h3 : (0x7ff0000000000000 : UInt64).toNat = 9218868437227405312 := by decide
  rw [h1, h3, Nat.and_two_pow_sub_one_eq_mod]
  exact h2
def fil (a b : Int32) : UInt64 := if b = 0 then FP.dconst0 else FP.ddiv (FP.i2d a) (FP.i2d b)
theorem fil_ok (a b : Int32) : FP.Core.val64 (fil a b) ≠ .nan := by
  unfold fil
  by_cases h : b = 0
  · rw [if_pos h]; decide +kernel
  · rw [if_neg h]
    have h2 := db_ok a b h
    unfold vf_n64 at h2
    rw [UInt64.le_iff_toNat_le, UInt64.toNat_and] at h2
    have h1 : (0x7fffffffffffffff : UInt64).toNat = 2 ^ 63 - 1 := by decide
    have h3 : (0x7ff0000000000000 : UInt64).toNat = 9218868437227405312 := by decide
    rw [h1, h3, Nat.and_two_pow_sub_one_eq_mod] at h2
    exact (FP.Core.ne_nan _).mpr h2
def CD (D : va_G) (y : Nat → ClassId) (l : Launch) (mn : MethodName) (ws : List Cond) (rm : Room) (as : List Value) (w : fb_W) (post : UInt64 → fb_W → Prop) (mc ms : Nat) : Prop :=
  ∀ sz, Met l mn ws rm (fb_pre D y w sz as) (va_Qd post (fun u t => fb_P D y (va_A (fb_wd y w) sz) u t) (va_A (fb_wd y w) sz)) mc ms (va_A (fb_wd y w) sz)
section FBD
variable {p : Program} {l : Launch} {e : Env} {R : Room} {s : State} {m : MethodId} {args : Array Value} {below : List Frame} {meth : Method} {c : Code} {H : Heap} {locs : List Loc} {cells slots : Nat} {Q : State → Prop}
variable {cc bytes : ByteArray} {nL maxL index n mc ms : Nat} {Ts ws ws' : List Cond} {own : String} {pc : Nat} {ls : Array Slot} {rest st0 As as : List Value} {D : va_G} {A : Nat → Prop} {y : Nat → ClassId} {r : Nat} {w : fb_W} {mn : MethodName} {ret : Option FieldType} {rm : Room}
theorem fb_callVd (hx : p.tables.exec = Jvm.exec) (hb : c.code = cc) (hml : c.maxLocals = nL) (hown : s.vm.findClass own = some m.cls) (hts : ∀ x ∈ Ts, x.before args s = true) (hM : fb_M D y A s w H locs) (hr : r ∈ sR w.1) {ci : Nat} {fs : List Value} (he : fb_g y w r = .inr (ci, fs)) {q : vw_C} (hc : vwCl[ci]? = some q) {post : UInt64 → fb_W → Prop} (hmet : CD D y l mn ws rm (.ref (sa w.1 r) :: As) w post mc ms) (cw : CallW R s args own q.1 index mn bytes maxL ret ws rm mc ms n) (hn : As.length = n) (hsize : ls.size = nL) (hstack : st0 = As.reverse ++ .ref (sa w.1 r) :: rest) (hroom : (rest.map fun v => v.category).sum ≤ 8) (hdg : decode cc pc = .ok (.invokevirtual index, 3)) (hf : cells + mc ≤ R.cells ∧ slots + ms ≤ R.slots)
    (kk : ∀ (v : UInt64) (u : fb_W) (H1 : Heap) (locs1 : List Loc), post v u → fb_M D y A s u H1 locs1 → W p l e R s m args below meth c H1 locs1 (cells + mc) (slots + ms) Q (F0 m (pc + 3) ls (.double v :: rest))) : W p l e R s m args below meth c H locs cells slots Q (F0 m pc ls st0) := by
  exact va_calld (va_runV (b := sa w.1 r) (As := As) (rest := rest) ⟨hx, hb, hml, hown, hts⟩ (hmet H.size) cw (fb_goV hM hr he hc) rfl hn hsize hstack (lv_room hroom) hdg hf) hM.2.2.1 (fun q _ h => fb_free hM q h) (fb_free hM) (fun v u t H1 locs1 ht hvm hp hB hz hk hS => kk v u H1 locs1 hp (fb_back hM ht hvm hB hS))
theorem CD.of {post : UInt64 → fb_W → Prop} (hy : plainName mn.cls = true) (hw : ws = Cond.code mn cc maxL ret :: ws') (hlen : (lg_sl as).length ≤ maxL)
    (body : ∀ (p : Program) (e : Env) (s : State) (m : MethodId) (below : List Frame) (meth : Method) (c : Code) (A : Nat → Prop), p.tables.exec = Jvm.exec → c.code = cc → c.maxLocals = maxL → meth.sig.returnType = ret → s.vm.findClass mn.cls = some m.cls → (∀ x ∈ ws, x.before as.toArray s = true) → meth.locks = false → meth.name = mn.name → fb_M D y A s w s.heap [] → ∀ ls, lv_has ls maxL (lv_args 0 as) → W p l e rm s m as.toArray below meth c s.heap [] 0 0 (MQ below (va_Qd post (fun u t => fb_P D y A u t) A) as.toArray s mc ms A) (F0 m 0 ls [])) : CD D y l mn ws rm as w post mc ms := by
  intro sz
  refine Met.ofW (cc := cc) (maxL := maxL) (ret := ret) hy hw ?_
  intro p e s m args below meth c s₁ B hml hv
  obtain ⟨rfl, hsz, hN, hP, hK, hD0⟩ := hv
  subst hsz
  rw [lg_entry_eq]
  exact body p e s m below meth c (va_A (fb_wd y w) s.heap.size) B.exec B.bytes hml B.returns (findClass_of_methodNamed B.named) (atoms_spec (ws := ws) B.pre) B.notSynchronized (name_of_methodNamed B.named B.method).1 ⟨hP, hD0.self, va_S.rf, hK, fun q h => Or.inr h, hN⟩ _ (lv_entry as hlen)
theorem fb_dret {post : UInt64 → fb_W → Prop} {v : UInt64} (hx : p.tables.exec = Jvm.exec) (hb : c.code = cc) (hr : meth.sig.returnType = some .double) (hlocks : meth.locks = false) (hM : fb_M D y A s w H locs) (hp : post v w) (hdg : decode cc pc = .ok (.dreturn, 1)) : W p l e R s m args below meth c H locs cells slots (MQ below (va_Qd post (fun u t => fb_P D y A u t) A) args s cells slots A) (F0 m pc ls [.double v]) :=
  W.dret hx hb hr (fun t ht hW => ⟨⟨v, w, rfl, hp, by rw [ht]; exact hM.1, va_K.moved hW.alike hM.2.2.2.1, hM.2.1⟩, hM.2.2.1.F ht⟩) hM.2.2.1.2.2 hdg hlocks
end FBD
theorem CI.grow {D : va_G} {y : Nat → ClassId} {l : Launch} {mn : MethodName} {ws : List Cond} {rm : Room} {as : List Value} {w : fb_W} {post : Int32 → fb_W → Prop} {mc ms mc' ms' : Nat} (h : CI D y l mn ws rm as w post mc ms) (h1 : mc ≤ mc') (h2 : ms ≤ ms') : CI D y l mn ws rm as w post mc' ms' := fun sz =>
  MetFree.mono (h sz) (fun _ _ q => q) (fun _ _ _ _ _ q => q) (fun a st o t _ q => by
    obtain ⟨q1, L, ⟨f1, f2, f3⟩, f4⟩ := q
    exact ⟨q1, L, ⟨f1, f2, f3.mono h1 h2⟩, f4⟩)
