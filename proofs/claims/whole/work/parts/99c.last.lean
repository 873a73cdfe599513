/-! THE CLAIM OUT OF ONE WALK OF THE LAW'S BODY. Your part is whole_start (and what it stands on); all else here is the same for every law, but numbers. -/
def R_law : String := "FeatherBedsLaw"
def lw_P (b : Addr) (xs : List Int32) (args : Array Value) (s : State) : Prop := args = #[.ref b] ∧ s.IntsAt b xs ∧ xs.length ≤ 2560 ∧ (Jvm.Cond.and given_1 narrow_1).before args s = true
/-- what a walk over the start with the record d0 says of its end, said of the start itself -/
theorem lw_closed {s t : State} {o : Outcome} {d0 : Drawn} {L : List Loc} {k n : Nat} (hd0 : s.drawn.sameBut d0 lw_cs) (hv : ∃ v, o = .returned v) (hW : (s.setDrawn d0).WarmedH t.vm) (hs : (s.setDrawn d0).sameButNew ({ t with vm := s.vm } : State) L k n) : State.butDraws s t lw_cs (fun t1 => Framed s o t1 L k n) := by
  have h2 : t.drawn = d0 := congrArg State.drawn hs.1
  refine ⟨⟨hv, hW, State.sameButNew.setDrawn hs s.drawn⟩, ?_, by decide⟩
  rw [h2]
  exact hd0
def lw_Q (_ : Array Value) (s : State) (o : Outcome) (t : State) : Prop := o = .returned (some (.int 1)) ∧ State.butDraws s t lw_cs (fun t1 => Framed s o t1 [] 601024 7293034)
def lw_Z (below : List Frame) (a : Array Value) (s : State) : State → Prop := fun t => ∃ o, t.status = .running ∧ Ended t below o ∧ lw_Q a s o t
/-- the law's own end, with 1 on the stack, nothing written that was there before, its room as the claim has it; d0: the record of draws at this point (at the entry s.drawn: begin with 'refine W.base ?_' and 'have hd0 := Drawn.sameBut.refl s.drawn lw_cs') -/
theorem lw_ret {p : Program} {l : Launch} {e : Env} {s : State} {m : MethodId} {below : List Frame} {meth : Method} {c : Code} {b : Nat} {d0 : Drawn} (hd0 : s.drawn.sameBut d0 lw_cs) (hx : p.tables.exec = Jvm.exec) (hb : c.code = code) (hr : meth.sig.returnType = ret) (hlocks : meth.locks = false) {pc : Nat} {H : Heap} {ls : Array Slot} (hdg : decode code pc = .ok (.ireturn, 1)) : W p l e room_1 (s.setDrawn d0) m #[Value.ref b] below meth c H [] 601024 7293034 (lw_Z below #[Value.ref b] s) (F0 m pc ls [.int 1]) := by
  intro T hT X
  obtain ⟨fs, hret, hrun, hended, hW, hframe⟩ := X.leave (v := some (.int 1)) (hlocks := hlocks) (fun h => by rw [hr] at h; cases h)
  have hmeth' : T.vm.method? m = some meth := X.method'
  refine ⟨T.setFrames fs, ?_, .returned (some (.int 1)), hrun, hended, rfl, lw_closed hd0 ⟨_, rfl⟩ hW hframe⟩
  jvm_step X.here [X.here.top, hx, hb, hdg, hmeth', hr, ret, narrow_b1]
  (try refine ⟨rfl, ?_⟩); (try refine ⟨rfl, ?_⟩)
  first | (intro acts; rw [hret _ acts rfl rfl rfl]) | rw [hret _ _ rfl rfl rfl]
  exact Steps.refl _
/-- what holds at the law's entry: the machine, the code, the tables' words (any of lw_tbl by 'hts w (by decide +kernel)'), the script of L ints xs at the cell b, what the Statement gives of the start (any of its parts by flat_of_before) -/
def lw_At (p : Program) (s : State) (m : MethodId) (meth : Method) (c : Code) (b L : Nat) (xs : Nat → Int32) : Prop :=
  p.tables.exec = Jvm.exec ∧ c.code = code ∧ meth.sig.returnType = ret ∧ c.maxLocals = 9 ∧ s.vm.findClass R_law = some m.cls ∧ (∀ w ∈ lw_tbl, w.before #[Value.ref b] s = true) ∧ va_X b L xs s s.heap ∧ b < s.heap.size ∧ meth.locks = false ∧ (Jvm.Cond.and given_1 narrow_1).before #[Value.ref b] s = true
theorem mx_z0 (q : Nat) : mx (fun _ => (0 : Int32)) q = fun _ => 0 := by
  funext k
  unfold mx
  split <;> rfl
theorem zV_z0 (b n : Nat) {V : fb_V} (h : V = fun _ _ => 0) : zV V b n = fun _ _ => 0 := by
  funext x
  unfold zV
  rw [h]
  split <;> rfl
theorem st_Iv {S1 S2 S3 S4 S5 : fb_Sh} {V1 I1 I2 I4 I5 : fb_V} {a1 q0 q1 q2 o : Nat} (ho : o = 1000) (hS1 : S1 = fb_new ((([], fun _ => 0, fun _ => 0, fun _ => 0, fun _ _ => none) : fb_Sh)) 0 q0 3 0) (hV : V1 = fun _ _ => 0) (hC : CpAt S2 a1 0 0 4 10) (hX2 : Ext PIn S1 S2) (hS3 : S3 = fb_new S2 o q1 4 0) (hMd : ∀ cf rf, MdAt S4 o 0 cf rf) (hX4 : Ext (fun x => o ≤ x ∧ x < o + 8) S3 S4) (hS5 : S5 = fb_new S4 2000 q2 13 1) (h20 : I2 0 = upd (fun _ => 0) 4 10) (h21 : I2 1 2 = 0) (h22 : I2 2 2 = 0) (h4x : ∀ x, ¬ (o ≤ x ∧ x < o + 8) → I4 x = va_up I2 o (fun _ => 0) x) (h4o : I4 o = upd (fun _ => 0) 4 10) (h41 : I4 (o + 1) = fun _ => 0) (h43 : I4 (o + 3) = fun _ => 0) (hI5 : I5 = va_up I4 2000 (fun _ => 0)) : Iv a1 S5 V1 I5 o 0 0 4 10 (fun _ => 0) (fun _ => 0) (fun _ => 0) 0 := by
  have e3 : Ext (fun x => x = o) S2 S3 := by rw [hS3]; exact Ext.new _ _ _ _ rfl
  have e5 : Ext (fun x => x = 2000) S4 S5 := by rw [hS5]; exact Ext.new _ _ _ _ rfl
  have e25 : Ext (fun x => (o ≤ x ∧ x < o + 8) ∨ x = 2000) S2 S5 := ((e3.mono (fun x hx => by omega)).trans (hX4.mono (fun x hx => by omega))).trans (e5.mono (fun x hx => by omega))
  have na (x : Nat) (h1 : ¬ PIn x) (h2 : ¬ (o ≤ x ∧ x < o + 8)) (h3 : x ≠ 2000) : x ∉ sR S5 := by
    refine NA.ext e25 (by omega) (NA.ext hX2 h1 ?_)
    rw [hS1]
    exact nw_n _ _ _ _ (by simp [sR]) (fun e => h1 (by unfold PIn; omega))
  have j (x : Nat) (h2 : ¬ (o ≤ x ∧ x < o + 8)) (h3 : x ≠ 2000) : I5 x = I2 x := by
    rw [hI5, va_up_ne _ _ h3, h4x x h2, va_up_ne _ _ (by omega)]
  have jo (k : Nat) (h : k < 8) : I5 (o + k) = I4 (o + k) := by rw [hI5, va_up_ne _ _ (by omega)]
  have jo0 : I5 o = I4 o := jo 0 (by decide)
  refine ⟨⟨hC.ext e25 (fun x hx => ⟨by omega, by omega, by omega, by omega, by omega, fun i hi => absurd hi (Nat.not_lt_zero _), fun t ht => absurd ht (Nat.not_lt_zero _)⟩), (hMd _ _).ext e5 (Nat.zero_le _) (fun x a b => by omega) (fun t ht => absurd ht (Nat.not_lt_zero _)), by rw [hS5]; exact RA.new _ _ _ _ _⟩, ⟨⟨fun _ => ⟨rfl, rfl⟩, fun h => absurd h (by decide)⟩, ?_⟩, ⟨⟨?_, ?_, by decide, by decide, fun t ht => absurd ht (Nat.not_lt_zero _)⟩, ?_⟩, ?_, fun i hi => ?_, fun i hi => absurd hi (Nat.not_lt_zero _), fun c hc => ?_, fun t ht => absurd ht (Nat.not_lt_zero _), fun q hq => ?_⟩
  · refine ⟨fun _ => na 4 (by unfold PIn; omega) (by omega) (by omega), fun _ => na 5 (by unfold PIn; omega) (by omega) (by omega), fun _ => na 6 (by unfold PIn; omega) (by omega) (by omega), fun i _ hi => ⟨na _ (by unfold PIn; omega) (by omega) (by omega), na _ (by unfold PIn; omega) (by omega) (by omega), na _ (by unfold PIn; omega) (by omega) (by omega)⟩, fun t _ ht => ⟨fun x a b => na _ (by unfold PIn; omega) (by omega) (by omega), fun x a b => na _ (by unfold PIn; omega) (by omega) (by omega), na _ (by unfold PIn; omega) (by omega) (by omega), na _ (by unfold PIn; omega) (by omega) (by omega)⟩, na _ (by unfold PIn; omega) (by omega) (by omega), na _ (by unfold PIn; omega) (by omega) (by omega)⟩
  · rw [j 1 (by omega) (by omega)]; exact h21
  · rw [j 2 (by omega) (by omega)]; exact h22
  · refine ⟨?_, ?_, by decide, by decide, fun t ht => absurd ht (Nat.not_lt_zero _), fun i hi => absurd hi (Nat.not_lt_zero _)⟩
    · rw [jo0, h4o]; rfl
    · rw [jo0, h4o]; rfl
  · unfold RlW
    rw [j 0 (by omega) (by omega), jo0, h20, h4o]
    exact ⟨rfl, ⟨10, by decide, by decide, rfl⟩, rfl, rfl, rfl⟩
  · rw [jo 1 (by decide), h41, mx_z0]
    exact ⟨Bk_0 500, fun h => absurd h (Nat.not_lt_zero _), fun _ => rfl⟩
  · rw [jo 3 (by decide), h43, mx_z0, hV]
    exact ⟨rfl, Bd_0 0⟩
  · show tz (V1 (732 + 2 * q))
    rw [hV]
    exact fun _ _ => rfl
set_option maxRecDepth 100000 in
set_option maxHeartbeats 4000000 in
theorem whole_start {p : Program} {e : Env} {s : State} {m : MethodId} {below : List Frame} {meth : Method} {c : Code} (l : Launch) (hflags : l.flags = flags0) {b L : Nat} {xs : Nat → Int32} (hL : L ≤ 2560) (C0 : lw_At p s m meth c b L xs) : W p l e room_1 s m #[Value.ref b] below meth c s.heap [] 0 0 (lw_Z below #[Value.ref b] s) (entryFrame m ([Value.ref b] : List Value).toArray 9) := by
  have hd0 := Drawn.sameBut.refl s.drawn lw_cs
  obtain ⟨hx, hb, hr, hml, hown, hts0, hX, hbl, hlocks, hgv⟩ := id C0
  have hT : st_T #[Value.ref b] s := ⟨flat_of_before _ hgv, hts0⟩
  have hts : ∀ x ∈ wsL_law, x.before #[Value.ref b] s = true := fun x h => hts0 x (wsL_law_in x h)
  have hown : s.vm.findClass RL = some m.cls := hown
  have hN := st_N hT
  have hNc := st_Nc hT
  obtain ⟨a0, hE⟩ := st_E hT
  have w3 := hts0 (.instantiable RX3 8) (by decide +kernel)
  have w4 := hts0 (.instantiable RX4 14) (by decide +kernel)
  have wl := hts0 (.arrayClass .long) (by decide +kernel)
  obtain ⟨D, y, hK⟩ := st_K hts hN.2.1 (hts0 (.arrayClass .int) (by decide +kernel)) (hts0 (.arrayClass .boolean) (by decide +kernel)) wl (hts0 (.instantiable RX0 2) (by decide +kernel)) (hts0 (.instantiable RX1 2) (by decide +kernel)) (hts0 (.instantiable RX2 7) (by decide +kernel)) w3 w4 (hts0 (.instantiable RJx4a65c 3) (by decide +kernel))
  have hM := st_M hK hN
  have hfl : l.stackTraces = false := by unfold Launch.stackTraces; rw [hflags]; decide +kernel
  have hLw : Lw p l s m #[Value.ref b] c D (fun q : Nat => s.heap.size ≤ q) y a0 b L xs := ⟨hx, hb, hml, hown, hts, hE, hNc, hfl, hX, hbl, Nat.not_le.mpr hbl, hL⟩
  have hend : ∀ (S : fb_Sh) (V I : fb_V) (H : Heap) (locs : List Loc) (ls : Array Slot) (ce sl : Nat), fb_M D y (fun q : Nat => s.heap.size ≤ q) s (S, V, (sT V), I) H locs → ce ≤ 600000 → sl ≤ 7290000 → W p l e room_1 s m #[Value.ref b] below meth c H locs ce sl (lw_Z below #[Value.ref b] s) (F0 m 1650 ls [.int 1]) := fun S V I H locs ls ce sl hM h1 h2 =>
    va_forget (hM.2.2.1.2.2) (W.widen (show ce ≤ 601024 by omega) (show sl ≤ 7293034 by omega) (lw_ret (d0 := s.drawn) hd0 hx hb hr hlocks dL_law_1650))
  have hl := lv_entry ([.ref b]) (n := 9) (Nat.le_of_ble_eq_true rfl)
  rw [lg_entry_eq]
  generalize (lg_sl ([.ref b]) ++ List.replicate (9 - (lg_sl ([.ref b])).length) Slot.unset).toArray = ls at hl ⊢
  have hl : lv_has ls 9 [(0, .ref b)] := hl
  obtain ⟨o, ho⟩ : ∃ o : Nat, o = 1000 := ⟨_, rfl⟩
  refine fb_mko3 hx hb hown hts inlX3 (hts0 (.classLink RL 8 RX3) (by decide +kernel)) w3 (hts0 (.initialized RX3) (by decide +kernel)) hM (Nat.le_of_ble_eq_true rfl) (Nat.le_of_ble_eq_true rfl) dL_law_0 0 (by simp [sR]) (fun q0 H hM => ?_)
  obtain ⟨S1, eS1⟩ : ∃ S1, S1 = fb_new ((([], fun _ => 0, fun _ => 0, fun _ => 0, fun _ _ => none) : fb_Sh)) 0 q0 3 0 := ⟨_, rfl⟩
  rw [← eS1] at hM
  have f1 : sa S1 0 = q0 := by rw [eS1]; exact nw_a _ _ _ _ _
  have f2 : 0 ∈ sR S1 := by rw [eS1]; exact nw_r _ _ _ _ _
  have f3 : sk S1 0 = 3 := by rw [eS1]; exact nw_k _ _ _ _ _
  have f4 : ∀ x, x ≠ 0 → x ∉ sR S1 := fun x h => by rw [eS1]; exact nw_n _ _ _ _ (by simp [sR]) h
  refine lv_dup hx hb dL_law_3 rfl ?_
  refine fb_callEIv hx hb (hml.trans hl.1.symm) hown hts hM hE (As := []) (rest := [.ref q0]) (c_X3_init a0 D y l S1 (fun _ _ => 0) (va_up (fun _ _ => 0) 0 (fun _ => 0)) q0 f1 f2 f3 (fun x h _ => f4 x (by omega))) (cwI 0 hts gL_law_X3_init rfl rfl rfl (hts0 (.initialized RX3) (by decide +kernel)) (hts0 (.methodLink RL 80 yX3_init) (by decide +kernel)) (hts0 (.instanceMethod yX3_init) (by decide +kernel)) rfl (by decide +kernel) ⟨Nat.le_of_ble_eq_true rfl, Nat.le_of_ble_eq_true rfl⟩) rfl rfl rfl (Nat.le_of_ble_eq_true rfl) dL_law_4 ⟨Nat.le_of_ble_eq_true rfl, Nat.le_of_ble_eq_true rfl⟩ (fun u H locs hp hM => ?_)
  obtain ⟨S2, I2, hu, hC, hX2, hk2, h20, h21, h22, h2x⟩ := hp
  subst hu
  rw [va_up_self] at h20
  obtain ⟨V1, eV1⟩ : ∃ V1, V1 = zV (zV (fun _ _ => (0 : Int32)) 100 5) 732 36 := ⟨_, rfl⟩
  have hV : V1 = fun _ _ => 0 := by rw [eV1]; exact zV_z0 _ _ (zV_z0 _ _ rfl)
  rw [← eV1] at hM
  refine lv_astore_n (lv' := [(1, .ref q0), (0, .ref b)]) hx hb dL_law_7 rfl hl (by decide) rfl (fun ls hl => ?_)
  have n2 : ∀ x, ¬ PIn x → x ∉ sR S2 := fun x h => NA.ext hX2 h (f4 x (fun e => h (by unfold PIn; omega)))
  refine fb_mko4 hx hb hown hts inlX4 (hts0 (.classLink RL 81 RX4) (by decide +kernel)) w4 (hts0 (.initialized RX4) (by decide +kernel)) hM (Nat.le_of_ble_eq_true rfl) (Nat.le_of_ble_eq_true rfl) dL_law_8 o (n2 o (by unfold PIn; omega)) (fun q1 H hM => ?_)
  obtain ⟨S3, eS3⟩ : ∃ S3, S3 = fb_new S2 o q1 4 0 := ⟨_, rfl⟩
  rw [← eS3] at hM
  have g1 : sa S3 o = q1 := by rw [eS3]; exact nw_a _ _ _ _ _
  have g2 : o ∈ sR S3 := by rw [eS3]; exact nw_r _ _ _ _ _
  have g3 : sk S3 o = 4 := by rw [eS3]; exact nw_k _ _ _ _ _
  have g4 : ∀ x, ¬ PIn x → x ≠ o → x ∉ sR S3 := fun x h h2 => by rw [eS3]; exact nw_n _ _ _ _ (n2 x h) h2
  have g5 : sa S3 0 = sa S2 0 := by rw [eS3]; exact nw_ane _ _ _ _ (by omega)
  refine lv_dup hx hb dL_law_11 rfl ?_
  refine fb_callIv hx hb (hml.trans hl.1.symm) hown hts hM (As := []) (rest := [.ref q1]) (c_X4_init D y l S3 V1 (va_up I2 o (fun _ => 0)) o q1 g1 g2 g3 (fun x h1 h2 => g4 x (by unfold PIn; omega) (by omega))) (cwI 0 hts gL_law_X4_init rfl rfl rfl (hts0 (.initialized RX4) (by decide +kernel)) (hts0 (.methodLink RL 83 yX4_init) (by decide +kernel)) (hts0 (.instanceMethod yX4_init) (by decide +kernel)) rfl (by decide +kernel) ⟨Nat.le_of_ble_eq_true rfl, Nat.le_of_ble_eq_true rfl⟩) rfl rfl rfl (Nat.le_of_ble_eq_true rfl) dL_law_12 ⟨Nat.le_of_ble_eq_true rfl, Nat.le_of_ble_eq_true rfl⟩ (fun u H locs hp hM => ?_)
  obtain ⟨S4, I4, hu, hMd, hX4, h4x, h4o, h41, h42, h43, h44, hk4⟩ := hp
  subst hu
  rw [va_up_self] at h4o
  refine lv_astore_n (lv' := [(2, .ref q1), (1, .ref q0), (0, .ref b)]) hx hb dL_law_15 rfl hl (by decide) rfl (fun ls hl => ?_)
  refine lv_iconst (v := 1) hx hb dL_law_16 (by decide) ?_
  have n4 : 2000 ∉ sR S4 := NA.ext hX4 (by omega) (g4 2000 (by unfold PIn; omega) (by omega))
  refine fb_mka13 hx hb wl hM (n := 1) (by decide) (by decide) (Nat.le_of_ble_eq_true rfl) (Nat.le_of_ble_eq_true rfl) (Nat.le_of_ble_eq_true rfl) dL_law_17 2000 n4 (fun q2 H hM => ?_)
  obtain ⟨S5, eS5⟩ : ∃ S5, S5 = fb_new S4 2000 q2 13 1 := ⟨_, rfl⟩
  rw [← eS5] at hM
  refine lv_astore_n (lv' := [(3, .ref q2), (2, .ref q1), (1, .ref q0), (0, .ref b)]) hx hb dL_law_19 rfl hl (by decide) rfl (fun ls hl => ?_)
  refine lv_iconst (v := nI 0) hx hb dL_law_20 (by decide) ?_
  refine lv_istore (lv' := [(4, .int (nI 0)), (3, .ref q2), (2, .ref q1), (1, .ref q0), (0, .ref b)]) hx hb dL_law_21 hl (by decide) rfl (fun ls hl => ?_)
  have e2 : sa S5 2000 = q2 := by rw [eS5]; exact nw_a _ _ _ _ _
  have e1 : sa S5 o = q1 := by rw [eS5]; exact (nw_ane _ _ _ _ (by omega)).trans (hk4.trans g1)
  have e0 : sa S5 0 = q0 := by rw [eS5]; exact (nw_ane _ _ _ _ (by omega)).trans ((AA.ext hX4 (by omega)).trans (g5.trans (hk2.trans f1)))
  rw [← e0, ← e1, ← e2] at hl
  have hIv := st_Iv (I1 := fun _ _ => 0) ho eS1 hV hC hX2 eS3 hMd hX4 eS5 h20 h21 h22 h4x h4o h41 h43 rfl
  exact law_loop hLw ho hend 514 0 (by decide) (by decide) S5 V1 _ 0 0 4 10 (fun _ => 0) (fun _ => 0) (fun _ => 0) 0 _ _ H _ ls (by decide) (Nat.le_of_ble_eq_true rfl) (Nat.le_of_ble_eq_true rfl) hIv hM hl
set_option maxHeartbeats 4000000 in
theorem lw_walk (l : Launch) (hflags : l.flags = flags0) (b : Addr) (xs : List Int32) : MetFree l x (headSpec (Jvm.Cond.code x code maxLocals ret :: tables_1) room_1) (lw_P b xs) (fun _ _ _ _ _ => True) lw_Q := by
  refine MetFree.of_bodyS (code := code) (maxLocals := maxLocals) (ret := ret) (by decide) ?_ ?_
  · intro args s m h hn
    obtain ⟨meth, c, h1, h2, h3, h4, h5, h6, -, -⟩ := Cond.code_spec hn (atoms_spec (ws := Jvm.Cond.code x code maxLocals ret :: tables_1) h _ List.mem_cons_self)
    exact ⟨meth, c, h1, h2, h3, h4, h5, h6⟩
  · intro p e s m args below meth c s₁ B hml0 hP _
    obtain ⟨rfl, hx, hbd, hgv⟩ := hP
    obtain ⟨scr, harrAt, hlist, hof, hsmall⟩ := hx
    obtain ⟨hcb, hkn, -, -⟩ := State.arrayAt?_spec harrAt
    have hown : s.vm.findClass R_law = some m.cls := findClass_of_methodNamed B.named
    have hts0 : ∀ c ∈ (Jvm.Cond.code x code maxLocals ret :: tables_1), c.before #[Value.ref b] s = true := atoms_spec (ws := Jvm.Cond.code x code maxLocals ret :: tables_1) B.pre
    have hts : ∀ w ∈ lw_tbl, w.before #[Value.ref b] s = true := k2_hts_sels lw_privs (fun w hw => hts0 w (List.mem_cons_of_mem _ hw)) lw_privs_ok
    have hml : c.maxLocals = 9 := B.maxLocals_eq (hts0 _ List.mem_cons_self)
    have X₀ : Stand p l e room_1 s m #[Value.ref b] below meth c s₁ [] 0 0 := Stand.of_body B
    have hh0 : s₁.heap = s.heap := by rw [B.state]; rfl
    have hsz : scr.slots.size = xs.length := by rw [← Array.length_toList, hlist, List.length_map]
    have hval : ∀ j : Nat, j < xs.length → scr.slots[j]? = some (.int (xs.getD j 0)) := fun j hj => by
      rw [← Array.getElem?_toList, hlist]
      simp [hj]
    have hbl : b < s.heap.size := (Array.getElem?_eq_some_iff.mp hcb).1
    have hX : va_X b xs.length (fun j => xs.getD j 0) s s.heap := ⟨scr, hcb, hof, hkn, hsz, hval⟩
    have K : W p l e room_1 s m #[Value.ref b] below meth c s₁.heap [] 0 0 (lw_Z below #[Value.ref b] s) (entryFrame m ([Value.ref b] : List Value).toArray 9) := by
      rw [hh0]
      exact whole_start l hflags hbd ⟨B.exec, B.bytes, B.returns, hml, hown, hts, hX, hbl, B.notSynchronized, hgv⟩
    obtain ⟨t, a1, o, b1, b2, b3⟩ := K s₁ rfl X₀
    exact ⟨t, o, a1, b1, b2, b3⟩
theorem lw_pre_spec {args : Array Value} {s : State} (h : (Jvm.Cond.and given_1 narrow_1).before args s = true) (hr : rest_1_c.before args s = true) : ∃ (b : Addr) (xs : List Int32), lw_P b xs args s := by
  have hs := flat_of_before _ h
  have hq := flat_of_before _ hr
  have hc : (Cond.count 1).before args s = true := hs _ (by decide +kernel)
  have harr : (Cond.arrayOf (.arg 0) .int).before args s = true := hs _ (by decide +kernel)
  have hle : (Cond.le (.length (.arg 0)) (.int 2560)).before args s = true := hs _ (by decide +kernel)
  have hlen : (Cond.isInt (.length (.arg 0))).before args s = true := hq _ (by decide +kernel)
  have hall : (Cond.all (.arg 0) (.isInt (.elem (.arg 0) (.index 0)))).before args s = true := hq _ (by decide +kernel)
  obtain ⟨b, xs, hb, hx⟩ := State.ints_of_pre rfl harr hlen hall
  have hsm : xs.length < 2 ^ 31 := hx.choose_spec.2.2.2
  have hev : (Term.length (.arg 0)).eval args s none [] s = some (.int xs.length.toInt32) := hx.length_eval hb
  have hv := Cond.le_ints hev (show (Term.int 2560).eval args s none [] s = some (.int 2560) from rfl)
  have hd : xs.length.toInt32 ≤ 2560 := by
    simpa [Cond.before, Cond.holds, hv] using hle
  have hN : xs.length ≤ 2560 := (Int32.ofNat_le_ofNat hsm (by decide)).mp (show Int32.ofNat xs.length ≤ Int32.ofNat 2560 from hd)
  exact ⟨b, xs, Cond.one_arg hc (show args[0]? = some (.ref b) from hb), hx, hN, h⟩
theorem lw_comes (l : Launch) (hflags : l.flags = flags0) : Comes l x (Jvm.Cond.code x code maxLocals ret :: tables_1) room_1 (fun tb e args s => Calls_1 tb e args s ∧ rest_1 tb e args s ∧ Pre_1 tb e args s)
    (fun _ _ args s o t => lw_Q args s o t) := by
  intro p e ha hc hk s m args below hf hfit hheap happ hpre
  obtain ⟨b, xs, hP⟩ := lw_pre_spec hpre.2.2 hpre.2.1
  obtain ⟨k, o, h1, h2, h3, hQ⟩ := lw_walk l hflags b xs p e ha hc hk s m args below hf ((Spec.applies_iff_loose hf).mp happ).1 hP trivial
  exact ⟨k, o, h1, h2, h3, hQ⟩
theorem lw_frame {s t : State} {o : Outcome} {args : Array Value} (h : State.butDraws s t lw_cs (fun t1 => Framed s o t1 [] 601024 7293034)) :
    State.butDraws s t [Jvm.Choice.named "NaN.bits"] (fun t1 => Framed s o t1 (fieldLocs frame_1_writes args s ++ arrayLocs frame_1_arrays args s ++ staticLocs frame_1_statics s) 601024 7293034) := h
theorem lw_limb (L : Cond) (hL : ∀ (args : Array Value) (s t : State), L.after args s (.returned (some (.int 1))) t = true) :
    ArmFor flags0 classFile x code maxLocals ret World_1 tables_1 room_1 Calls_1 rest_1 Pre_1
      (fun tb e a s o t => postC L tb e a s o t ∧ State.butDraws s t [Jvm.Choice.named "NaN.bits"] (fun t1 => Framed s o t1 (fieldLocs frame_1_writes a s ++ arrayLocs frame_1_arrays a s ++ staticLocs frame_1_statics s) 601024 7293034)) := by
  intro l hflags _ _ p e ha hc hk s m args below hf hfit hheap happ hpre
  obtain ⟨k, o, h1, h2, h3, rfl, hF⟩ := lw_comes l hflags p e ha hc hk s m args below hf hfit hheap happ hpre
  exact ⟨k, _, h1, h2, h3, hL args s _, lw_frame hF⟩
theorem i_vc : Claimed_1_1 ∧ Claimed_1_2 := ⟨lw_limb limb_1_1 (fun args s t => by simp [limb_1_1, Cond.after, Cond.holds, Cond.value]), lw_limb limb_1_2 (fun args s t => Cond.after_iff.mpr (by
  first | (rw [show limb_1_2 = Cond.eq .result (.int 1) from rfl, Cond.eq_ints (x := 1) (y := 1) rfl rfl]; simp; done) | (simp [limb_1_2, Cond.value, Term.eval]; done)))⟩
