/-! THE CLAIM OUT OF ONE WALK OF THE LAW'S BODY. Your part is whole_start (and what it stands on); all else here is the same for every law, but numbers. -/
def R_law : String := "FeatherBedsLaw"
def lw_P (b : Addr) (xs : List Int32) (args : Array Value) (s : State) : Prop := args = #[.ref b] ∧ s.IntsAt b xs ∧ xs.length ≤ 260 ∧ (Jvm.Cond.and given_1 narrow_1).before args s = true
def lw_Q (_ : Array Value) (s : State) (o : Outcome) (t : State) : Prop := o = .returned (some (.int 1)) ∧ Framed s o t [] 626107 7223304
def lw_Z (below : List Frame) (a : Array Value) (s : State) : State → Prop := fun t => ∃ o, t.status = .running ∧ Ended t below o ∧ lw_Q a s o t
/-- the law's own end, with 1 on the stack, nothing written that was there before, its room as the claim has it -/
theorem lw_ret {p : Program} {l : Launch} {e : Env} {s : State} {m : MethodId} {below : List Frame} {meth : Method} {c : Code} {b : Nat} (hx : p.tables.exec = Jvm.exec) (hb : c.code = code) (hr : meth.sig.returnType = ret) (hlocks : meth.locks = false) {pc : Nat} {H : Heap} {ls : Array Slot} (hdg : decode code pc = .ok (.ireturn, 1)) : W p l e room_1 s m #[Value.ref b] below meth c H [] 626107 7223304 (lw_Z below #[Value.ref b] s) (F0 m pc ls [.int 1]) := by
  intro T hT X
  obtain ⟨fs, hret, hrun, hended, hW, hframe⟩ := X.leave (v := some (.int 1)) (hlocks := hlocks) (fun h => by rw [hr] at h; cases h)
  have hmeth' : T.vm.method? m = some meth := X.method'
  refine ⟨T.setFrames fs, ?_, .returned (some (.int 1)), hrun, hended, rfl, ⟨_, rfl⟩, hW, hframe⟩
  jvm_step X.here [X.here.top, hx, hb, hdg, hmeth', hr, ret, narrow_b1]
  (try refine ⟨rfl, ?_⟩); (try refine ⟨rfl, ?_⟩)
  first | (intro acts; rw [hret _ acts rfl rfl rfl]) | rw [hret _ _ rfl rfl rfl]
  exact Steps.refl _
/-- what holds at the law's entry: the machine, the code, the tables' words (any of lw_tbl by 'hts w (by decide +kernel)'), the script of L ints xs at the cell b, what the Statement gives of the start (any of its parts by flat_of_before) -/
def lw_At (p : Program) (s : State) (m : MethodId) (meth : Method) (c : Code) (b L : Nat) (xs : Nat → Int32) : Prop :=
  p.tables.exec = Jvm.exec ∧ c.code = code ∧ meth.sig.returnType = ret ∧ c.maxLocals = 25 ∧ s.vm.findClass R_law = some m.cls ∧ (∀ w ∈ lw_tbl, w.before #[Value.ref b] s = true) ∧ va_X b L xs s s.heap ∧ b < s.heap.size ∧ meth.locks = false ∧ (Jvm.Cond.and given_1 narrow_1).before #[Value.ref b] s = true
theorem zV_z0 (b n : Nat) {V : fb_V} (h : V = fun _ _ => 0) : zV V b n = fun _ _ => 0 := by
  funext x
  unfold zV
  rw [h]
  split <;> rfl
theorem Bi.put0 {a1 : Nat} {S : fb_Sh} {V I : fb_V} {ns nt N : Nat} {cf rf df : Nat → Nat} (h : Bi a1 S V I ns nt cf rf df N) : csum V 200 ns = tot V I ns nt + I 0 7 := by
  obtain ⟨-, -, ⟨-, h6, h7⟩, hc, ht⟩ := h
  unfold tot
  rw [hc, ht, h6, h7, Int32.add_zero, Int32.add_zero, Int32.add_zero, Int32.add_zero]
set_option maxRecDepth 100000 in
set_option maxHeartbeats 4000000 in
theorem whole_start {p : Program} {e : Env} {s : State} {m : MethodId} {below : List Frame} {meth : Method} {c : Code} (l : Launch) (hflags : l.flags = flags0) {b L : Nat} {xs : Nat → Int32} (hL : L ≤ 260) (C0 : lw_At p s m meth c b L xs) : W p l e room_1 s m #[Value.ref b] below meth c s.heap [] 0 0 (lw_Z below #[Value.ref b] s) (entryFrame m ([Value.ref b] : List Value).toArray 25) := by
  obtain ⟨hx, hb, hr, hml, hown, hts0, hX, hbl, hlocks, hgv⟩ := id C0
  have hT : st_T #[Value.ref b] s := ⟨flat_of_before _ hgv, hts0⟩
  have hts : ∀ x ∈ wsL_law, x.before #[Value.ref b] s = true := fun x h => hts0 x (wsL_law_in x h)
  have hown : s.vm.findClass RL = some m.cls := hown
  have hN := st_N hT
  obtain ⟨a0, hE⟩ := st_E hT
  have w3 := hts0 (.instantiable RX3 8) (by decide +kernel)
  obtain ⟨D, y, hK⟩ := st_K hts hN.2 (hts0 (.arrayClass .int) (by decide +kernel)) (hts0 (.arrayClass .boolean) (by decide +kernel)) (hts0 (.instantiable RX0 2) (by decide +kernel)) (hts0 (.instantiable RX1 2) (by decide +kernel)) (hts0 (.instantiable RX2 7) (by decide +kernel)) w3 (hts0 (.instantiable RX4 8) (by decide +kernel)) (hts0 (.instantiable RX5 5) (by decide +kernel)) (hts0 (.instantiable RJx4a65c 3) (by decide +kernel))
  have hM := st_M hK hN
  have hSc : fb_Sc (b, L, xs) (fun q : Nat => s.heap.size ≤ q) s := ⟨hX, hbl, Nat.not_le.mpr hbl, hL, va_Nw.of rfl (hts0 (.methodLinkNest RL 11 yX4_init "FeatherBedsLaw") (by decide +kernel))⟩
  obtain ⟨Q, hQ⟩ : ∃ Q, Q = lw_Z below #[Value.ref b] s := ⟨_, rfl⟩
  have hend : ∀ (S : fb_Sh) (V I : fb_V) (H : Heap) (locs : List Loc) (ls : Array Slot), fb_M D y (fun q : Nat => s.heap.size ≤ q) s (S, V, sT V, I) H locs → W p l e rm_L_law s m #[Value.ref b] below meth c H locs (802 + 420000) (4534 + 2550000) Q (F0 m 1039 ls []) := fun S V I H locs ls hM => by
    refine lv_iconst (v := 1) hx hb dL_law_1039 (by decide) ?_
    rw [hQ]
    exact va_forget (hM.2.2.1.2.2) (W.widen (Nat.le_of_ble_eq_true rfl) (Nat.le_of_ble_eq_true rfl) (lw_ret hx hb hr hlocks dL_law_1040))
  rw [← hQ]
  have hl := lv_entry ([.ref b]) (n := 25) (Nat.le_of_ble_eq_true rfl)
  rw [lg_entry_eq]
  generalize (lg_sl ([.ref b]) ++ List.replicate (25 - (lg_sl ([.ref b])).length) Slot.unset).toArray = ls at hl ⊢
  have hl : lv_has ls 25 [(0, .ref b)] := hl
  refine fb_mko3 hx hb hown hts inlX3 (hts0 (.classLink RL 23 RX3) (by decide +kernel)) w3 (hts0 (.initialized RX3) (by decide +kernel)) hM (Nat.le_of_ble_eq_true rfl) (Nat.le_of_ble_eq_true rfl) dL_law_0 0 (by simp [sR]) (fun q0 H hM => ?_)
  obtain ⟨S1, eS1⟩ : ∃ S1, S1 = fb_new ((([], fun _ => 0, fun _ => 0, fun _ => 0, fun _ _ => none) : fb_Sh)) 0 q0 3 0 := ⟨_, rfl⟩
  rw [← eS1] at hM
  have f1 : sa S1 0 = q0 := by rw [eS1]; exact nw_a _ _ _ _ _
  have f2 : 0 ∈ sR S1 := by rw [eS1]; exact nw_r _ _ _ _ _
  have f3 : sk S1 0 = 3 := by rw [eS1]; exact nw_k _ _ _ _ _
  have f4 : ∀ x, x ≠ 0 → x ∉ sR S1 := fun x h => by rw [eS1]; exact nw_n _ _ _ _ (by simp [sR]) h
  refine lv_dup hx hb dL_law_3 rfl ?_
  refine fb_callEIv hx hb hml hown hts hM hE (As := []) (rest := [.ref q0]) (c_X3_init a0 D y l S1 (fun _ _ => 0) (va_up (fun _ _ => 0) 0 (fun _ => 0)) q0 f1 f2 f3 (fun x h _ => f4 x (by omega))) (cwI 0 hts gL_law_X3_init rfl rfl rfl (hts0 (.initialized RX3) (by decide +kernel)) (hts0 (.methodLink RL 119 yX3_init) (by decide +kernel)) (hts0 (.instanceMethod yX3_init) (by decide +kernel)) rfl (by decide +kernel) ⟨Nat.le_of_ble_eq_true rfl, Nat.le_of_ble_eq_true rfl⟩) rfl hl.1 rfl (Nat.le_of_ble_eq_true rfl) dL_law_4 ⟨Nat.le_of_ble_eq_true rfl, Nat.le_of_ble_eq_true rfl⟩ (fun u H locs hp hM => ?_)
  obtain ⟨S2, I2, hu, hC, hX2, hk2, h20, h21, h22, h2x⟩ := hp
  subst hu
  rw [va_up_self] at h20
  obtain ⟨V1, eV1⟩ : ∃ V1, V1 = zV (zV (fun _ _ => (0 : Int32)) 100 5) 732 36 := ⟨_, rfl⟩
  have hV : V1 = fun _ _ => 0 := by rw [eV1]; exact zV_z0 _ _ (zV_z0 _ _ rfl)
  rw [← eV1] at hM
  have hal : ∀ x, x ∈ sR S2 → x < 4 ∨ (54 ≤ x ∧ x < 58) ∨ (100 ≤ x ∧ x < 110) ∨ (732 ≤ x ∧ x < 804) := fun x hx => by
    by_cases h : PIn x
    · unfold PIn at h
      omega
    · by_cases h0 : x = 0
      · omega
      · exact absurd hx (NA.ext hX2 h (f4 x h0))
  refine lv_astore_n (lv' := [(1, .ref q0), (0, .ref b)]) hx hb dL_law_7 rfl hl (by decide) rfl (fun ls hl => ?_)
  have hl : lv_has ls 25 [(1, .ref (sa S2 0)), (0, .ref b)] := by rw [hk2, f1]; exact hl
  refine lv_aload_n hx hb dL_law_8 rfl (lv_at hl 0 rfl) ?_
  refine lv_aload_n hx hb dL_law_9 rfl (lv_at hl 1 rfl) ?_
  refine fb_callSSr hx hb hml hown hts hM hE hSc (As := [.ref (sa S2 0), .ref b]) (rest := []) (c_L_build (b, L, xs) a0 D y l S2 V1 I2 hC hal h21 h22 (by rw [h20]; rfl) (by rw [h20]; rfl) (by rw [h20]; rfl) (by rw [h20]; rfl) (fun c hc => by rw [hV]) (fun q hq => by rw [hV])) (va_cwS 2 hts gL_law_L_build rfl rfl rfl (by decide +kernel) ⟨Nat.le_of_ble_eq_true rfl, Nat.le_of_ble_eq_true rfl⟩) rfl hl.1 rfl (Nat.le_of_ble_eq_true rfl) dL_law_10 ⟨Nat.le_of_ble_eq_true rfl, Nat.le_of_ble_eq_true rfl⟩ (fun v u H locs hp hM => ?_)
  obtain ⟨S3, V3, J, ns, nt, cf, rf, df, hu, hB, hn1, ht1, hv, hs0⟩ := hp
  subst hu
  have hv := hv.symm
  subst hv
  rw [← hs0] at hl
  refine lv_astore_n (lv' := [(2, .ref (sa S3 1000)), (1, .ref (sa S3 0)), (0, .ref b)]) hx hb dL_law_13 rfl hl (by decide) rfl (fun ls hl => ?_)
  refine lv_aload_n hx hb dL_law_14 rfl (lv_at hl 0 rfl) ?_
  refine lv_ifnonnull (tgt := 20) hx hb dL_law_15 (by decide) ?_
  refine lv_aload_n hx hb dL_law_20 rfl (lv_at hl 1 rfl) ?_
  refine lv_iconst (v := 3) hx hb dL_law_21 (by decide) ?_
  refine fb_callVi (r := 0) hx hb hml hown hts hM (hB.1.1.1.1.1) (ce3 (hB.1.1.1.1.2)) rfl (As := [.int 3]) (rest := []) (c_X3_count_ok D y l S3 V3 J a0.1 ns nt 4 10 hB.1.1.1 cf rf df hB.1.2.2.1 3 (by decide)) (cwV 1 hts gL_law_X3_count rfl rfl rfl (by decide +kernel) ⟨Nat.le_of_ble_eq_true rfl, Nat.le_of_ble_eq_true rfl⟩) rfl hl.1 rfl (Nat.le_of_ble_eq_true rfl) dL_law_22 ⟨Nat.le_of_ble_eq_true rfl, Nat.le_of_ble_eq_true rfl⟩ (fun v u H locs hp hM => ?_)
  obtain ⟨hv_, hu_⟩ := hp
  have hv_ := Eq.symm hv_
  have hu_ := Eq.symm hu_
  subst hv_
  subst hu_
  refine W.eq (g2 := F0 m _ ls (.int (tot V3 J ns nt + J 0 7) :: [])) (by rw [show (cnc V3 J ns nt 3 : Int32) = tot V3 J ns nt + J 0 7 from hB.put0]) ?_
  refine lv_istore_n (lv' := [(3, .int (tot V3 J ns nt + J 0 7)), (2, .ref (sa S3 1000)), (1, .ref (sa S3 0)), (0, .ref b)]) hx hb dL_law_25 rfl hl (by decide) rfl (fun ls hl => ?_)
  refine lv_iconst (v := nI 0) hx hb dL_law_26 (by decide) ?_
  refine lv_istore (lv' := [(4, .int (nI 0)), (3, .int (tot V3 J ns nt + J 0 7)), (2, .ref (sa S3 1000)), (1, .ref (sa S3 0)), (0, .ref b)]) hx hb dL_law_27 hl (by decide) rfl (fun ls hl => ?_)
  exact lw_main (sc := (b, L, xs)) hx hb hml hown hts hE hSc a0.1 ns nt rho0 cf rf df 4000 802 4534 S3 V3 J hB.1 hn1 ht1 hB.2.2.1.1 (by decide) (by decide) hend H _ hM ls hl
set_option maxHeartbeats 4000000 in
theorem lw_walk (l : Launch) (hflags : l.flags = flags0) (b : Addr) (xs : List Int32) : MetFree l x (headSpec (Jvm.Cond.code x code maxLocals ret :: tables_1) room_1) (lw_P b xs) (fun _ _ _ _ _ => True) lw_Q := by
  refine MetFree.of_bodyS (code := code) (maxLocals := maxLocals) (ret := ret) (by decide) ?_ ?_
  · intro args s m h hn
    obtain ⟨meth, c, h1, h2, h3, h4, h5, h6, -, -⟩ := Cond.code_spec hn (atoms_spec (ws := Jvm.Cond.code x code maxLocals ret :: tables_1) h _ List.mem_cons_self)
    exact ⟨meth, c, h1, h2, h3, h4, h5, h6⟩
  · intro p e s m args below meth c s₁ B hml0 hP _
    obtain ⟨rfl, hx, hbd, hgv⟩ := hP
    obtain ⟨scr, harrAt, hlist, hof, hsmall⟩ := hx
    obtain ⟨hcb, hkn, -, -⟩ := State.arrayAt?_spec harrAt
    have hown : s.vm.findClass R_law = some m.cls := findClass_of_methodNamed B.named
    have hts0 : ∀ c ∈ (Jvm.Cond.code x code maxLocals ret :: tables_1), c.before #[Value.ref b] s = true := atoms_spec (ws := Jvm.Cond.code x code maxLocals ret :: tables_1) B.pre
    have hts : ∀ w ∈ lw_tbl, w.before #[Value.ref b] s = true := k2_hts_sels lw_privs (fun w hw => hts0 w (List.mem_cons_of_mem _ hw)) lw_privs_ok
    have hml : c.maxLocals = 25 := B.maxLocals_eq (hts0 _ List.mem_cons_self)
    have X₀ : Stand p l e room_1 s m #[Value.ref b] below meth c s₁ [] 0 0 := Stand.of_body B
    have hh0 : s₁.heap = s.heap := by rw [B.state]; rfl
    have hsz : scr.slots.size = xs.length := by rw [← Array.length_toList, hlist, List.length_map]
    have hval : ∀ j : Nat, j < xs.length → scr.slots[j]? = some (.int (xs.getD j 0)) := fun j hj => by
      rw [← Array.getElem?_toList, hlist]
      simp [hj]
    have hbl : b < s.heap.size := (Array.getElem?_eq_some_iff.mp hcb).1
    have hX : va_X b xs.length (fun j => xs.getD j 0) s s.heap := ⟨scr, hcb, hof, hkn, hsz, hval⟩
    have K : W p l e room_1 s m #[Value.ref b] below meth c s₁.heap [] 0 0 (lw_Z below #[Value.ref b] s) (entryFrame m ([Value.ref b] : List Value).toArray 25) := by
      rw [hh0]
      exact whole_start l hflags hbd ⟨B.exec, B.bytes, B.returns, hml, hown, hts, hX, hbl, B.notSynchronized, hgv⟩
    obtain ⟨t, a1, o, b1, b2, b3⟩ := K s₁ rfl X₀
    exact ⟨t, o, a1, b1, b2, b3⟩
theorem lw_pre_spec {args : Array Value} {s : State} (h : (Jvm.Cond.and given_1 narrow_1).before args s = true) (hr : rest_1_c.before args s = true) : ∃ (b : Addr) (xs : List Int32), lw_P b xs args s := by
  have hs := flat_of_before _ h
  have hq := flat_of_before _ hr
  have hc : (Cond.count 1).before args s = true := hs _ (by decide +kernel)
  have harr : (Cond.arrayOf (.arg 0) .int).before args s = true := hs _ (by decide +kernel)
  have hle : (Cond.le (.length (.arg 0)) (.int 260)).before args s = true := hs _ (by decide +kernel)
  have hlen : (Cond.isInt (.length (.arg 0))).before args s = true := hq _ (by decide +kernel)
  have hall : (Cond.all (.arg 0) (.isInt (.elem (.arg 0) (.index 0)))).before args s = true := hq _ (by decide +kernel)
  obtain ⟨b, xs, hb, hx⟩ := State.ints_of_pre rfl harr hlen hall
  have hsm : xs.length < 2 ^ 31 := hx.choose_spec.2.2.2
  have hev : (Term.length (.arg 0)).eval args s none [] s = some (.int xs.length.toInt32) := hx.length_eval hb
  have hv := Cond.le_ints hev (show (Term.int 260).eval args s none [] s = some (.int 260) from rfl)
  have hd : xs.length.toInt32 ≤ 260 := by
    simpa [Cond.before, Cond.holds, hv] using hle
  have hN : xs.length ≤ 260 := (Int32.ofNat_le_ofNat hsm (by decide)).mp (show Int32.ofNat xs.length ≤ Int32.ofNat 260 from hd)
  exact ⟨b, xs, Cond.one_arg hc (show args[0]? = some (.ref b) from hb), hx, hN, h⟩
theorem lw_comes (l : Launch) (hflags : l.flags = flags0) : Comes l x (Jvm.Cond.code x code maxLocals ret :: tables_1) room_1 (fun tb e args s => Calls_1 tb e args s ∧ rest_1 tb e args s ∧ Pre_1 tb e args s)
    (fun _ _ args s o t => lw_Q args s o t) := by
  intro p e ha hc hk s m args below hf hfit hheap happ hpre
  obtain ⟨b, xs, hP⟩ := lw_pre_spec hpre.2.2 hpre.2.1
  obtain ⟨k, o, h1, h2, h3, hQ⟩ := lw_walk l hflags b xs p e ha hc hk s m args below hf ((Spec.applies_iff_loose hf).mp happ).1 hP trivial
  exact ⟨k, o, h1, h2, h3, hQ⟩
theorem lw_frame {s t : State} {o : Outcome} {args : Array Value} (h : Framed s o t [] 626107 7223304) :
    Framed s o t (fieldLocs frame_1_writes args s ++ arrayLocs frame_1_arrays args s ++ staticLocs frame_1_statics s) 626107 7223304 := h
theorem lw_limb (L : Cond) (hL : ∀ (args : Array Value) (s t : State), L.after args s (.returned (some (.int 1))) t = true) :
    ArmFor flags0 classFile x code maxLocals ret World_1 tables_1 room_1 Calls_1 rest_1 Pre_1
      (fun tb e a s o t => postC L tb e a s o t ∧ Framed s o t (fieldLocs frame_1_writes a s ++ arrayLocs frame_1_arrays a s ++ staticLocs frame_1_statics s) 626107 7223304) := by
  intro l hflags _ _ p e ha hc hk s m args below hf hfit hheap happ hpre
  obtain ⟨k, o, h1, h2, h3, rfl, hF⟩ := lw_comes l hflags p e ha hc hk s m args below hf hfit hheap happ hpre
  exact ⟨k, _, h1, h2, h3, hL args s _, lw_frame hF⟩
theorem i_vc : Claimed_1_1 ∧ Claimed_1_2 := ⟨lw_limb limb_1_1 (fun args s t => by simp [limb_1_1, Cond.after, Cond.holds, Cond.value]), lw_limb limb_1_2 (fun args s t => Cond.after_iff.mpr (by
  first | (rw [show limb_1_2 = Cond.eq .result (.int 1) from rfl, Cond.eq_ints (x := 1) (y := 1) rfl rfl]; simp; done) | (simp [limb_1_2, Cond.value, Term.eval]; done)))⟩
