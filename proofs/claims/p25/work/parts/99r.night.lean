/-! the law, a night -/
theorem sPs_at2 (I : fb_V) (nf : Nat → Nat) (Y : Nat → fb_V) {m t q : Nat} (hn : ∀ t, t < m → nf t ≤ 36) (ht : t < m) (hq : q < nf t) : sPs I nf Y m (1100 + 100 * t + 10 + q) = Y t q := by
  induction m with
  | zero => omega
  | succ m ih =>
    show rB (sPs I nf Y m) _ _ _ _ = _
    by_cases e : t = m
    · subst e
      exact rB_at _ _ _ hq
    · have := hn t (by omega)
      have := hn m (by omega)
      rw [rB_out _ _ (by omega), ih (fun w hw => hn w (by omega)) (by omega)]
theorem Iv.nf {a1 : Nat} {S : fb_Sh} {V I : fb_V} {ns nt N F : Nat} {rho cf rf df : Nat → Nat} (h : Iv a1 S V I ns nt rho cf rf df N F) (z : Nat) : ∀ t, t < nt → NF (cf t) (cf t * rf t) (df t) (I (30 + 4 * t + 2)) (tv V (300 + 72 * t)) z := fun t ht => by
  have hk := h.2.2.2.1.2.2.2.1 t ht
  exact NF_B rfl hk.c1.1 hk.n36.2 hk.c1.2 hk.2.1 z
set_option maxHeartbeats 4000000 in
set_option maxRecDepth 100000 in
theorem lw_night {pv : Program} {l : Launch} {ev : Env} {s : State} {mv : MethodId} {ar : Array Value} {below : List Frame} {meth : Method} {cv : Code} {A : Nat → Prop} {D : va_G} {y : Nat → ClassId} {a0 : Nat × Nat} {sc : Nat × Nat × (Nat → Int32)} {Q : State → Prop} (hx : pv.tables.exec = Jvm.exec) (hb : cv.code = cL_law) (hml : cv.maxLocals = 25) (hown : s.vm.findClass RL = some mv.cls) (hts : ∀ x ∈ wsL_law, x.before ar s = true) (hE : fb_E a0 A s) (hSc : fb_Sc sc A s) (a1 ns nt N F : Nat) (rho cf rf df : Nat → Nat) (S : fb_Sh) (V I : fb_V) (x : Int32) (time ce sl : Nat) (hI : Iv a1 S V I ns nt rho cf rf df N F) (hn1 : 1 ≤ ns) (ht1 : 1 ≤ nt) (h5 : I 0 5 = nI time) (hce : ce + 1000 ≤ 626107) (hsl : sl + 6000 ≤ 7223304) (kk : (∀ (S2 : fb_Sh) (V2 J2 : fb_V) (t : Nat) (B0 : Nat → Int32) (X U : fb_V) (R0 : Nat → Int32) (T5 T L v : Int32) (ht : t < nt) (h5 : R0 5 = nI time) (eU : U = fun q => csq (cf t) (cf t * rf t) B0 X q) (hW : RA S2 F 10 (cf t * rf t) ∧ ∀ q, q < (cf t * rf t) → PA S2 F q (F + 1 + q) ∧ RA S2 (F + 1 + q) 6 8) (hls : LsP (cwk (cf t) (cf t * rf t) (df t) B0 X) v) (hZ : Zt a1 S2 V2 J2 ns nt rho cf rf df N (F + 1 + cf t * rf t) t B0 (ngt (cf t) (cf t * rf t) (df t) B0 X) F U (upd (upd R0 5 (R0 5 + 1)) 7 (R0 7 + L)) (T5 - L) (T - L)) (H : Heap) (locs : List Loc), fb_M D y A s (S2, V2, sT V2, J2) H locs → ∀ ls, lv_has ls 25 [(16, .int L), (15, .int T5), (14, .int (R0 7)), (13, .int (R0 6)), (12, .int v), (11, .int (nI (cld (ngt (cf t) (cf t * rf t) (df t) B0 X) (cf t * rf t)))), (10, .int (cwk (cf t) (cf t * rf t) (df t) B0 X 1)), (9, .int (fsum (ngt (cf t) (cf t * rf t) (df t) B0 X) 36)), (8, .ref (sa S2 F)), (7, .int (nI (cf t * rf t))), (6, .int (nI t)), (4, .int (nI time)), (3, .int (T + R0 7)), (2, .ref (sa S2 1000)), (1, .ref (sa S2 0)), (0, .ref sc.1)] → W pv l ev rm_L_law s mv ar below meth cv H locs (ce + 1000) (sl + 6000) Q (F0 mv 327 ls []))) (H : Heap) (locs : List Loc) (hM : fb_M D y A s (S, V, sT V, I) H locs) (ls : Array Slot) (hl : lv_has ls 25 [(5, .int x), (4, .int (nI time)), (3, .int (tot V I ns nt + I 0 7)), (2, .ref (sa S 1000)), (1, .ref (sa S 0)), (0, .ref sc.1)]) : W pv l ev rm_L_law s mv ar below meth cv H locs (ce) (sl) Q (F0 mv 167 ls []) := by
  have hin4 : ∀ x ∈ wsX40, x ∈ wsL_law := by decide +kernel
  have hin14 : ∀ x ∈ wsX50, x ∈ wsL_law := by decide +kernel
  obtain ⟨⟨hC, hA⟩, ⟨hRh, hFs⟩, hCF, ⟨hW_, hSk, hCh, hTk, hTZ⟩, hns4, hnt3⟩ := id hI
  have hFs4 := hFs.1
  refine lv_iload hx hb dL_law_167 (lv_at hl 0 rfl) ?_
  refine lv_aload_n hx hb dL_law_169 rfl (lv_at hl 3 rfl) ?_
  refine fb_get (r := 1000) hx hb hown hts hin4 hM (hA.1.1) (ce4 (hA.1.2)) rfl 4 (by decide) (hts (.fieldLink RL 47 "FeatherBedsLaw$Sim" "ticks" "[LFeatherBedsLaw$Tick;") (by decide +kernel)) (fun _ h9 => h9) (v := .ref (sa S (1040 + nt))) (congrArg (fun z => some (va_rf z)) (hA.2.1.2.2.2)) dL_law_170 ?_
  refine fb_alen (r := (1040 + nt)) hx hb hM (hA.2.2.2.2.2.1.1) (ce13 (hA.2.2.2.2.2.1.2.1)) 6 rfl (v := nI nt) (congrArg Int32.ofNat (hA.2.2.2.2.2.1.2.2)) dL_law_173 ?_
  refine fb_callSi hx hb hml hown hts hM (As := [.int x, .int (nI nt)]) (rest := []) (c_L_below D y l S V I x nt (by omega) (by omega)) (va_cwS 2 hts gL_law_L_below rfl rfl rfl (by decide +kernel) ⟨Nat.le_of_ble_eq_true rfl, Nat.le_of_ble_eq_true rfl⟩) rfl hl.1 rfl (Nat.le_of_ble_eq_true rfl) dL_law_174 ⟨(by show _ ≤ 626107; omega), (by show _ ≤ 7223304; omega)⟩ (fun v_1 u_ H locs hp hM => ?_)
  obtain ⟨hv_, hu_⟩ := hp
  have hv_ := Eq.symm hv_
  have hu_ := Eq.symm hu_
  subst hv_
  subst hu_
  obtain ⟨t, et⟩ : ∃ t, t = blN x nt := ⟨_, rfl⟩
  have ht : t < nt := by rw [et]; exact blN_lt _ (by omega)
  rw [← et]
  have htk := hTk t ht
  have hcr := htk.n36
  have hLt := (hA.2.2.2.2.2.2.2.2 t ht).2
  refine lv_istore (lv' := [(6, .int (nI t)), (5, .int x), (4, .int (nI time)), (3, .int (tot V I ns nt + I 0 7)), (2, .ref (sa S 1000)), (1, .ref (sa S 0)), (0, .ref sc.1)]) hx hb dL_law_177 hl (by decide) rfl (fun ls hl => ?_)
  refine lv_aload_n hx hb dL_law_179 rfl (lv_at hl 4 rfl) ?_
  refine fb_get (r := 1000) hx hb hown hts hin4 hM (hA.1.1) (ce4 (hA.1.2)) rfl 4 (by decide) (hts (.fieldLink RL 47 "FeatherBedsLaw$Sim" "ticks" "[LFeatherBedsLaw$Tick;") (by decide +kernel)) (fun _ h9 => h9) (v := .ref (sa S (1040 + nt))) (congrArg (fun z => some (va_rf z)) (hA.2.1.2.2.2)) dL_law_180 ?_
  refine lv_iload hx hb dL_law_183 (lv_at hl 0 rfl) ?_
  refine fb_aald (r := (1040 + nt)) hx hb hM (hA.2.2.2.2.2.1.1) (ce13 (hA.2.2.2.2.2.1.2.1)) 6 rfl (k := t) (nI_clamp (by omega)) (b := sa S (1100 + 100 * t)) ((hA.2.2.2.2.2.2.2.2 t (by omega)).1) (by rw [hA.2.2.2.2.2.1.2.2]; exact vp_in_nI (by omega) (by omega)) dL_law_185 ?_
  refine fb_get (r := (1100 + 100 * t)) hx hb hown hts hin14 hM (hLt.1.1) (ce14 (hLt.1.2)) rfl 3 (by decide) (hts (.fieldLink RL 51 "FeatherBedsLaw$Tick" "squares" "[[I") (by decide +kernel)) (fun _ h9 => h9) (v := .ref (sa S ((1100 + 100 * t) + 9))) (congrArg (fun z => some (va_rf z)) (hLt.2.1)) dL_law_186 ?_
  refine fb_alen (r := ((1100 + 100 * t) + 9)) hx hb hM (hLt.2.2.2.1.1) (ce10 (hLt.2.2.2.1.2.1)) 4 rfl (v := nI (cf t * rf t)) (congrArg Int32.ofNat (hLt.2.2.2.1.2.2)) dL_law_189 ?_
  refine lv_istore (lv' := [(7, .int (nI ((cf t * rf t)))), (6, .int (nI t)), (5, .int x), (4, .int (nI time)), (3, .int (tot V I ns nt + I 0 7)), (2, .ref (sa S 1000)), (1, .ref (sa S 0)), (0, .ref sc.1)]) hx hb dL_law_190 hl (by decide) rfl (fun ls hl => ?_)
  refine lv_iload hx hb dL_law_192 (lv_at hl 0 rfl) ?_
  refine lv_bipush (v := 8) hx hb dL_law_194 (by decide) ?_
  have hFf : ∀ x, x ∈ sR S → ¬ (F ≤ x ∧ x ≤ F + (cf t * rf t)) := fun x hx z => absurd (hFs.2 x hx) (by omega)
  refine fb_mnaI hx hb hown (hts (.classLink RL 131 "[[I") (by decide +kernel)) (hts (.arrayClass .int) (by decide +kernel)) hM (N := cf t * rf t) (K := 8) (nI_pos (by omega)) (by decide) (nI_clamp (by omega)) (by decide) (by omega) (by decide) (by show _ ≤ 626107; omega) (by show _ ≤ 7223304; omega) dL_law_196 F hFf (fun q9 ra9 H hM => ?_)
  obtain ⟨f1, f2, f3, hEx⟩ := mk2_ok S F q9 (cf t * rf t) 8 10 6 ra9
  obtain ⟨S2, eS2⟩ : ∃ S2, S2 = fb_mk2 S F q9 (cf t * rf t) 8 10 6 ra9 := ⟨_, rfl⟩
  rw [← eS2] at hM f1 f2 f3 hEx
  have hW : RA S2 F 10 (cf t * rf t) ∧ ∀ q, q < (cf t * rf t) → PA S2 F q (F + 1 + q) ∧ RA S2 (F + 1 + q) 6 8 := ⟨f1, f3⟩
  have hFs2 : Fs S2 (F + 1 + cf t * rf t) := ⟨by omega, fun x hx => by
    by_cases z : F ≤ x ∧ x ≤ F + (cf t * rf t)
    · omega
    · have := hFs.2 x ((hEx x z).1.mp hx)
      omega⟩
  have k0 : sa S2 0 = sa S 0 := AA.ext hEx (by omega)
  have k1 : sa S2 1000 = sa S 1000 := AA.ext hEx (by omega)
  rw [← k0, ← k1] at hl
  refine W.eq (g2 := F0 mv 200 ls [.ref (sa S2 F)]) (by rw [f2]) ?_
  obtain ⟨B0, eB0⟩ : ∃ B0, B0 = I (30 + 4 * t + 2) := ⟨_, rfl⟩
  obtain ⟨X, eX⟩ : ∃ X : fb_V, X = tv V (300 + 72 * t) := ⟨_, rfl⟩
  obtain ⟨U, eU⟩ : ∃ U : fb_V, U = fun q => csq (cf t) (cf t * rf t) B0 X q := ⟨_, rfl⟩
  rw [wsI_0 I (F + 1) (cf t * rf t) U] at hM
  have hIw : ∀ q k, Iv a1 S2 V (wsI I (F + 1) (cf t * rf t) U q k) ns nt rho cf rf df N (F + 1 + cf t * rf t) := fun q k => hI.more hEx (fun x hx => hx.1) hFs2 (fun x hx => wsI_lo I U q k (by omega))
  refine lv_astore (lv' := [(8, .ref (sa S2 F)), (7, .int (nI ((cf t * rf t)))), (6, .int (nI t)), (5, .int x), (4, .int (nI time)), (3, .int (tot V I ns nt + I 0 7)), (2, .ref (sa S2 1000)), (1, .ref (sa S2 0)), (0, .ref sc.1)]) hx hb dL_law_200 hl (by decide) rfl (fun ls hl => ?_)
  refine lv_iconst (v := 0) hx hb dL_law_202 (by decide) ?_
  refine lv_istore (lv' := [(9, .int 0), (8, .ref (sa S2 F)), (7, .int (nI ((cf t * rf t)))), (6, .int (nI t)), (5, .int x), (4, .int (nI time)), (3, .int (tot V I ns nt + I 0 7)), (2, .ref (sa S2 1000)), (1, .ref (sa S2 0)), (0, .ref sc.1)]) hx hb dL_law_203 hl (by decide) rfl (fun ls hl => ?_)
  have LP_205 : ∀ (n : Nat) (q : Nat) (hq : q ≤ cf t * rf t), cf t * rf t - q < n → ∀ (H : Heap) (locs : List Loc), fb_M D y A s (S2, V, sT V, (wsI I (F + 1) (cf t * rf t) U q 0)) H locs → ∀ ls, lv_has ls 25 [(9, .int (nI q)), (8, .ref (sa S2 F)), (7, .int (nI (cf t * rf t))), (6, .int (nI t)), (4, .int (nI time)), (3, .int (tot V I ns nt + I 0 7)), (2, .ref (sa S2 1000)), (1, .ref (sa S2 0)), (0, .ref sc.1)] → W pv l ev rm_L_law s mv ar below meth cv H locs (ce + 1 + cf t * rf t + 24 * q) (sl + cf t * rf t + cf t * rf t * 8 + 144 * q) Q (F0 mv 205 ls []) := by
    intro n_205
    induction n_205 with
    | zero => intro q hq hmu; exact absurd hmu (Nat.not_lt_zero _)
    | succ n_205 ih_205 =>
      intro q hq hmu H locs hM ls hl
      refine lv_iload hx hb dL_law_205 (lv_at hl 0 rfl) ?_
      refine lv_iload hx hb dL_law_207 (lv_at hl 2 rfl) ?_
      refine lv_icmp_ge (tgt := 252) hx hb dL_law_209 (by decide) (fun c_2 => ?_) (fun c_2 => ?_)
      · skip
        have e_q : q = cf t * rf t := by have := (nI_leI (a := cf t * rf t) (b := q) (by omega) (by omega)).mp c_2; omega
        have e_q := Eq.symm e_q
        subst e_q
        obtain ⟨J2, eJ2⟩ : ∃ J2, J2 = (wsI I (F + 1) (cf t * rf t) U (cf t * rf t) 0) := ⟨_, rfl⟩
        rw [← eJ2] at hM
        have hZ2 : Zt a1 S2 V J2 ns nt rho cf rf df N (F + 1 + cf t * rf t) t B0 X F U (I 0) (tsum V nt) (tot V I ns nt) := by
          rw [eJ2]
          exact ⟨hIw _ _, ⟨(wsI_lo I U _ _ (by omega)).trans eB0.symm, fun q9 h9 => by rw [eX]⟩, fun z hz j hj => wsI_at I (F + 1) U hz hj, wsI_lo I U _ _ (by omega), rfl, by unfold tot; rw [wsI_lo I U _ _ (by omega)]⟩
        refine lv_aload_n hx hb dL_law_252 rfl (lv_at hl 7 rfl) ?_
        refine lv_iload hx hb dL_law_253 (lv_at hl 3 rfl) ?_
        refine lv_iconst (v := 1) hx hb dL_law_255 (by decide) ?_
        refine lv_iconst (v := 0) hx hb dL_law_256 (by decide) ?_
        refine fb_callVi (r := 0) hx hb hml hown hts hM (hZ2.1.1.1.1.1) (ce3 (hZ2.1.1.1.1.2)) rfl (As := [.int (nI t), .int 1, .int 0]) (rest := []) (z_fs0 D y l hZ2 ht (by omega)) (cwV 3 hts gL_law_X3_foresee rfl rfl rfl (by decide +kernel) ⟨Nat.le_of_ble_eq_true rfl, Nat.le_of_ble_eq_true rfl⟩) rfl hl.1 rfl (Nat.le_of_ble_eq_true rfl) dL_law_257 ⟨(by show _ ≤ 626107; omega), (by show _ ≤ 7223304; omega)⟩ (fun v_3 u_ H locs hp hM => ?_)
        obtain ⟨hv_3, V3, J3, hu_, hZ3⟩ := hp
        subst hu_
        subst hv_3
        refine lv_istore (lv' := [(9, .int (fsum (ngt (cf t) (cf t * rf t) (df t) B0 X) 36)), (8, .ref (sa S2 F)), (7, .int (nI (cf t * rf t))), (6, .int (nI t)), (4, .int (nI time)), (3, .int (tot V I ns nt + I 0 7)), (2, .ref (sa S2 1000)), (1, .ref (sa S2 0)), (0, .ref sc.1)]) hx hb dL_law_260 hl (by decide) rfl (fun ls hl => ?_)
        refine lv_aload_n hx hb dL_law_262 rfl (lv_at hl 7 rfl) ?_
        refine lv_iload hx hb dL_law_263 (lv_at hl 3 rfl) ?_
        refine lv_iconst (v := 1) hx hb dL_law_265 (by decide) ?_
        refine lv_iconst (v := 1) hx hb dL_law_266 (by decide) ?_
        refine fb_callVi (r := 0) hx hb hml hown hts hM (hZ3.1.1.1.1.1) (ce3 (hZ3.1.1.1.1.2)) rfl (As := [.int (nI t), .int 1, .int 1]) (rest := []) (z_fs1 D y l hZ3 ht (by omega)) (cwV 3 hts gL_law_X3_foresee rfl rfl rfl (by decide +kernel) ⟨Nat.le_of_ble_eq_true rfl, Nat.le_of_ble_eq_true rfl⟩) rfl hl.1 rfl (Nat.le_of_ble_eq_true rfl) dL_law_267 ⟨(by show _ ≤ 626107; omega), (by show _ ≤ 7223304; omega)⟩ (fun v_4 u_ H locs hp hM => ?_)
        obtain ⟨hv_4, V4, J4, hu_, hZ4⟩ := hp
        subst hu_
        subst hv_4
        refine lv_istore (lv' := [(10, .int (cwk (cf t) (cf t * rf t) (df t) B0 X 1)), (9, .int (fsum (ngt (cf t) (cf t * rf t) (df t) B0 X) 36)), (8, .ref (sa S2 F)), (7, .int (nI (cf t * rf t))), (6, .int (nI t)), (4, .int (nI time)), (3, .int (tot V I ns nt + I 0 7)), (2, .ref (sa S2 1000)), (1, .ref (sa S2 0)), (0, .ref sc.1)]) hx hb dL_law_270 hl (by decide) rfl (fun ls hl => ?_)
        refine lv_aload_n hx hb dL_law_272 rfl (lv_at hl 8 rfl) ?_
        refine lv_iload hx hb dL_law_273 (lv_at hl 4 rfl) ?_
        refine lv_iconst (v := 1) hx hb dL_law_275 (by decide) ?_
        refine lv_iconst (v := 2) hx hb dL_law_276 (by decide) ?_
        refine fb_callVi (r := 0) hx hb hml hown hts hM (hZ4.1.1.1.1.1) (ce3 (hZ4.1.1.1.1.2)) rfl (As := [.int (nI t), .int 1, .int 2]) (rest := []) (z_fs2 D y l hZ4 ht (by omega)) (cwV 3 hts gL_law_X3_foresee rfl rfl rfl (by decide +kernel) ⟨Nat.le_of_ble_eq_true rfl, Nat.le_of_ble_eq_true rfl⟩) rfl hl.1 rfl (Nat.le_of_ble_eq_true rfl) dL_law_277 ⟨(by show _ ≤ 626107; omega), (by show _ ≤ 7223304; omega)⟩ (fun v_5 u_ H locs hp hM => ?_)
        obtain ⟨hv_5, V5, J5, hu_, hZ5⟩ := hp
        subst hu_
        subst hv_5
        refine lv_istore (lv' := [(11, .int (nI (cld (ngt (cf t) (cf t * rf t) (df t) B0 X) (cf t * rf t)))), (10, .int (cwk (cf t) (cf t * rf t) (df t) B0 X 1)), (9, .int (fsum (ngt (cf t) (cf t * rf t) (df t) B0 X) 36)), (8, .ref (sa S2 F)), (7, .int (nI (cf t * rf t))), (6, .int (nI t)), (4, .int (nI time)), (3, .int (tot V I ns nt + I 0 7)), (2, .ref (sa S2 1000)), (1, .ref (sa S2 0)), (0, .ref sc.1)]) hx hb dL_law_280 hl (by decide) rfl (fun ls hl => ?_)
        refine lv_aload_n hx hb dL_law_282 rfl (lv_at hl 9 rfl) ?_
        refine lv_iload hx hb dL_law_283 (lv_at hl 5 rfl) ?_
        refine lv_bipush (v := 40) hx hb dL_law_285 (by decide) ?_
        refine fb_callVi (r := 0) hx hb hml hown hts hM (hZ5.1.1.1.1.1) (ce3 (hZ5.1.1.1.1.2)) rfl (As := [.int (nI t), .int 40]) (rest := []) (z_ls D y l hZ5 ht (by omega)) (cwV 2 hts gL_law_X3_lasts rfl rfl rfl (by decide +kernel) ⟨Nat.le_of_ble_eq_true rfl, Nat.le_of_ble_eq_true rfl⟩) rfl hl.1 rfl (Nat.le_of_ble_eq_true rfl) dL_law_287 ⟨(by show _ ≤ 626107; omega), (by show _ ≤ 7223304; omega)⟩ (fun v_6 u_ H locs hp hM => ?_)
        obtain ⟨hv_6, V6, J6, hu_, hZ6⟩ := hp
        subst hu_
        refine lv_istore (lv' := [(12, .int v_6), (11, .int (nI (cld (ngt (cf t) (cf t * rf t) (df t) B0 X) (cf t * rf t)))), (10, .int (cwk (cf t) (cf t * rf t) (df t) B0 X 1)), (9, .int (fsum (ngt (cf t) (cf t * rf t) (df t) B0 X) 36)), (8, .ref (sa S2 F)), (7, .int (nI (cf t * rf t))), (6, .int (nI t)), (4, .int (nI time)), (3, .int (tot V I ns nt + I 0 7)), (2, .ref (sa S2 1000)), (1, .ref (sa S2 0)), (0, .ref sc.1)]) hx hb dL_law_290 hl (by decide) rfl (fun ls hl => ?_)
        refine lv_aload_n hx hb dL_law_292 rfl (lv_at hl 10 rfl) ?_
        refine lv_bipush (v := 6) hx hb dL_law_293 (by decide) ?_
        refine fb_callVi (r := 0) hx hb hml hown hts hM (hZ6.1.1.1.1.1) (ce3 (hZ6.1.1.1.1.2)) rfl (As := [.int 6]) (rest := []) (z_ct D y l hZ6 6 (by decide)) (cwV 1 hts gL_law_X3_count rfl rfl rfl (by decide +kernel) ⟨Nat.le_of_ble_eq_true rfl, Nat.le_of_ble_eq_true rfl⟩) rfl hl.1 rfl (Nat.le_of_ble_eq_true rfl) dL_law_295 ⟨(by show _ ≤ 626107; omega), (by show _ ≤ 7223304; omega)⟩ (fun v_7 u_ H locs hp hM => ?_)
        obtain ⟨hv_, hu_⟩ := hp
        have hv_ := Eq.symm hv_
        have hu_ := Eq.symm hu_
        subst hv_
        subst hu_
        refine W.eq (g2 := F0 mv _ ls (.int (I 0 6) :: [])) (by rw [show (cnc V6 J6 ns nt 6 : Int32) = I 0 6 from congrFun hZ6.2.2.2.1 6]) ?_
        refine lv_istore (lv' := [(13, .int (I 0 6)), (12, .int v_6), (11, .int (nI (cld (ngt (cf t) (cf t * rf t) (df t) B0 X) (cf t * rf t)))), (10, .int (cwk (cf t) (cf t * rf t) (df t) B0 X 1)), (9, .int (fsum (ngt (cf t) (cf t * rf t) (df t) B0 X) 36)), (8, .ref (sa S2 F)), (7, .int (nI (cf t * rf t))), (6, .int (nI t)), (4, .int (nI time)), (3, .int (tot V I ns nt + I 0 7)), (2, .ref (sa S2 1000)), (1, .ref (sa S2 0)), (0, .ref sc.1)]) hx hb dL_law_298 hl (by decide) rfl (fun ls hl => ?_)
        refine lv_aload_n hx hb dL_law_300 rfl (lv_at hl 11 rfl) ?_
        refine lv_bipush (v := 7) hx hb dL_law_301 (by decide) ?_
        refine fb_callVi (r := 0) hx hb hml hown hts hM (hZ6.1.1.1.1.1) (ce3 (hZ6.1.1.1.1.2)) rfl (As := [.int 7]) (rest := []) (z_ct D y l hZ6 7 (by decide)) (cwV 1 hts gL_law_X3_count rfl rfl rfl (by decide +kernel) ⟨Nat.le_of_ble_eq_true rfl, Nat.le_of_ble_eq_true rfl⟩) rfl hl.1 rfl (Nat.le_of_ble_eq_true rfl) dL_law_303 ⟨(by show _ ≤ 626107; omega), (by show _ ≤ 7223304; omega)⟩ (fun v_8 u_ H locs hp hM => ?_)
        obtain ⟨hv_, hu_⟩ := hp
        have hv_ := Eq.symm hv_
        have hu_ := Eq.symm hu_
        subst hv_
        subst hu_
        refine W.eq (g2 := F0 mv _ ls (.int (I 0 7) :: [])) (by rw [show (cnc V6 J6 ns nt 7 : Int32) = I 0 7 from congrFun hZ6.2.2.2.1 7]) ?_
        refine lv_istore (lv' := [(14, .int (I 0 7)), (13, .int (I 0 6)), (12, .int v_6), (11, .int (nI (cld (ngt (cf t) (cf t * rf t) (df t) B0 X) (cf t * rf t)))), (10, .int (cwk (cf t) (cf t * rf t) (df t) B0 X 1)), (9, .int (fsum (ngt (cf t) (cf t * rf t) (df t) B0 X) 36)), (8, .ref (sa S2 F)), (7, .int (nI (cf t * rf t))), (6, .int (nI t)), (4, .int (nI time)), (3, .int (tot V I ns nt + I 0 7)), (2, .ref (sa S2 1000)), (1, .ref (sa S2 0)), (0, .ref sc.1)]) hx hb dL_law_306 hl (by decide) rfl (fun ls hl => ?_)
        refine lv_aload_n hx hb dL_law_308 rfl (lv_at hl 12 rfl) ?_
        refine lv_iconst (v := 5) hx hb dL_law_309 (by decide) ?_
        refine fb_callVi (r := 0) hx hb hml hown hts hM (hZ6.1.1.1.1.1) (ce3 (hZ6.1.1.1.1.2)) rfl (As := [.int 5]) (rest := []) (z_ct D y l hZ6 5 (by decide)) (cwV 1 hts gL_law_X3_count rfl rfl rfl (by decide +kernel) ⟨Nat.le_of_ble_eq_true rfl, Nat.le_of_ble_eq_true rfl⟩) rfl hl.1 rfl (Nat.le_of_ble_eq_true rfl) dL_law_310 ⟨(by show _ ≤ 626107; omega), (by show _ ≤ 7223304; omega)⟩ (fun v_9 u_ H locs hp hM => ?_)
        obtain ⟨hv_, hu_⟩ := hp
        have hv_ := Eq.symm hv_
        have hu_ := Eq.symm hu_
        subst hv_
        subst hu_
        refine W.eq (g2 := F0 mv _ ls (.int (tsum V nt) :: [])) (by rw [show (cnc V6 J6 ns nt 5 : Int32) = tsum V nt from hZ6.2.2.2.2.1]) ?_
        refine lv_istore (lv' := [(15, .int (tsum V nt)), (14, .int (I 0 7)), (13, .int (I 0 6)), (12, .int v_6), (11, .int (nI (cld (ngt (cf t) (cf t * rf t) (df t) B0 X) (cf t * rf t)))), (10, .int (cwk (cf t) (cf t * rf t) (df t) B0 X 1)), (9, .int (fsum (ngt (cf t) (cf t * rf t) (df t) B0 X) 36)), (8, .ref (sa S2 F)), (7, .int (nI (cf t * rf t))), (6, .int (nI t)), (4, .int (nI time)), (3, .int (tot V I ns nt + I 0 7)), (2, .ref (sa S2 1000)), (1, .ref (sa S2 0)), (0, .ref sc.1)]) hx hb dL_law_313 hl (by decide) rfl (fun ls hl => ?_)
        refine lv_aload_n hx hb dL_law_315 rfl (lv_at hl 13 rfl) ?_
        refine lv_iconst (v := 1) hx hb dL_law_316 (by decide) ?_
        refine fb_callVi (r := 0) hx hb hml hown hts hM (hZ6.1.1.1.1.1) (ce3 (hZ6.1.1.1.1.2)) rfl (As := [.int 1]) (rest := []) (c_X3_pass_ok D y l S2 V6 J6 a1 ns nt 4 10 hZ6.1.1.1 cf rf df hZ6.1.2.2.1 1 (by decide) (by decide) (hZ6.1.nf 1)) (cwV 1 hts gL_law_X3_pass rfl rfl rfl (by decide +kernel) ⟨Nat.le_of_ble_eq_true rfl, Nat.le_of_ble_eq_true rfl⟩) rfl hl.1 rfl (Nat.le_of_ble_eq_true rfl) dL_law_317 ⟨(by show _ ≤ 626107; omega), (by show _ ≤ 7223304; omega)⟩ (fun v_10 u_ H locs hp hM => ?_)
        obtain ⟨hv_, hu_⟩ := hp
        have hv_ := Eq.symm hv_
        have hu_ := Eq.symm hu_
        subst hv_
        subst hu_
        refine lv_istore (lv' := [(16, .int (psL V6 J6 cf rf df 1 nt)), (15, .int (tsum V nt)), (14, .int (I 0 7)), (13, .int (I 0 6)), (12, .int v_6), (11, .int (nI (cld (ngt (cf t) (cf t * rf t) (df t) B0 X) (cf t * rf t)))), (10, .int (cwk (cf t) (cf t * rf t) (df t) B0 X 1)), (9, .int (fsum (ngt (cf t) (cf t * rf t) (df t) B0 X) 36)), (8, .ref (sa S2 F)), (7, .int (nI (cf t * rf t))), (6, .int (nI t)), (4, .int (nI time)), (3, .int (tot V I ns nt + I 0 7)), (2, .ref (sa S2 1000)), (1, .ref (sa S2 0)), (0, .ref sc.1)]) hx hb dL_law_320 hl (by decide) rfl (fun ls hl => ?_)
        refine lv_aload_n hx hb dL_law_322 rfl (lv_at hl 13 rfl) ?_
        have n0 : ∀ x9, x9 ≠ 0 → (va_up J6 0 (upd (upd (J6 0) 5 (J6 0 5 + nI 1)) 7 (J6 0 7 + psL V6 J6 cf rf df 1 nt))) x9 = J6 x9 := fun x9 h9 => va_up_ne _ _ h9
        have hT4 : ∀ u, u < nt → LF (va_up J6 0 (upd (upd (J6 0) 5 (J6 0 5 + nI 1)) 7 (J6 0 7 + psL V6 J6 cf rf df 1 nt))) (1100 + 100 * u) (cf u) (rf u) (df u) ∧ (∀ q e, q < cf u * rf u → e < 2 → (va_up J6 0 (upd (upd (J6 0) 5 (J6 0 5 + nI 1)) 7 (J6 0 7 + psL V6 J6 cf rf df 1 nt))) (1100 + 100 * u + 50 + q) e = (fun (u : Nat) (_ : Nat) => J6 (30 + 4 * u + 2)) u 0 (2 * q + e)) ∧ (∀ q, q < cf u * rf u → (va_up J6 0 (upd (upd (J6 0) 5 (J6 0 5 + nI 1)) 7 (J6 0 7 + psL V6 J6 cf rf df 1 nt))) (1100 + 100 * u + 10 + q) = (fun u => tv V6 (300 + 72 * u)) u q) ∧ BX ((fun u => tv V6 (300 + 72 * u)) u) := fun u hu => by
          have hk := hZ6.1.2.2.2.1.2.2.2.1 u hu
          exact ⟨hk.1.row (n0 _ (by omega)), fun q e hq he => by rw [n0 _ (by omega)]; exact (hk.2.2.2.2 q e hq he).1, fun q hq => by rw [n0 _ (by omega)]; exact hk.2.2.1 q hq, hk.2.1⟩
        refine fb_callVi (r := 1000) hx hb hml hown hts hM (hZ6.1.1.2.1.1) (ce4 (hZ6.1.1.2.1.2)) rfl (As := []) (rest := []) (c_X4_pass D y l S2 (psV V6 J6 cf rf df 1 nt) (va_up J6 0 (upd (upd (J6 0) 5 (J6 0 5 + nI 1)) 7 (J6 0 7 + psL V6 J6 cf rf df 1 nt))) ns nt rho cf rf hZ6.1.1.2 df (fun u => tv V6 (300 + 72 * u)) (fun u _ => J6 (30 + 4 * u + 2)) hT4 (by omega)) (cwV 0 hts gL_law_X4_pass rfl rfl rfl (by decide +kernel) ⟨Nat.le_of_ble_eq_true rfl, Nat.le_of_ble_eq_true rfl⟩) rfl hl.1 rfl (Nat.le_of_ble_eq_true rfl) dL_law_323 ⟨(by show _ ≤ 626107; omega), (by show _ ≤ 7223304; omega)⟩ (fun v_11 u_ H locs hp hM => ?_)
        obtain ⟨hv_, hu_⟩ := hp
        obtain ⟨J0, eJ0⟩ : ∃ J0, J0 = va_up (va_up (sPs (va_up J6 0 (upd (upd (J6 0) 5 (J6 0 5 + nI 1)) 7 (J6 0 7 + psL V6 J6 cf rf df 1 nt))) (fun u => cf u * rf u) (fun u => ngt (cf u) (cf u * rf u) (df u) (J6 (30 + 4 * u + 2)) (tv V6 (300 + 72 * u))) nt) 1000 (upd ((va_up J6 0 (upd (upd (J6 0) 5 (J6 0 5 + nI 1)) 7 (J6 0 7 + psL V6 J6 cf rf df 1 nt))) 1000) 5 ((va_up J6 0 (upd (upd (J6 0) 5 (J6 0 5 + nI 1)) 7 (J6 0 7 + psL V6 J6 cf rf df 1 nt))) 1000 5 + 1))) 1000 (upd (upd ((va_up J6 0 (upd (upd (J6 0) 5 (J6 0 5 + nI 1)) 7 (J6 0 7 + psL V6 J6 cf rf df 1 nt))) 1000) 5 ((va_up J6 0 (upd (upd (J6 0) 5 (J6 0 5 + nI 1)) 7 (J6 0 7 + psL V6 J6 cf rf df 1 nt))) 1000 5 + 1)) 7 ((va_up J6 0 (upd (upd (J6 0) 5 (J6 0 5 + nI 1)) 7 (J6 0 7 + psL V6 J6 cf rf df 1 nt))) 1000 7 + sPl (fun u => pkS (nI (df u)) (tv V6 (300 + 72 * u)) (cf u * rf u)) nt)) := ⟨_, rfl⟩
        have hu_ : u_ = (S2, (psV V6 J6 cf rf df 1 nt), sT (psV V6 J6 cf rf df 1 nt), J0) := hu_.trans (by rw [eJ0])
        subst hu_
        have hZ0 := hZ6.pass (J2 := J0) ht (by omega) (by rw [eJ0, va_up_ne _ _ (by omega), va_up_ne _ _ (by omega), sPs_out _ _ _ _ (fun u hu => Or.inl (by omega)), va_up_self]; rfl) (by rw [eJ0, va_up_self, n0 1000 (by omega)]; rfl) (fun u hu q hq => by rw [eJ0, va_up_ne _ _ (by omega), va_up_ne _ _ (by omega)]; exact sPs_at2 _ _ _ (fun w hw => (hZ6.1.2.2.2.1.2.2.2.1 w hw).n36.2) hu hq) (fun x h0 h1 h2 => by rw [eJ0, va_up_ne _ _ h1, va_up_ne _ _ h1, sPs_out _ _ _ _ h2, n0 x h0])
        refine lv_pop hx hb dL_law_326 rfl ?_
        refine W.widen (show _ ≤ ce + 1000 by omega) (show _ ≤ sl + 6000 by omega) ?_
        exact kk S2 (psV V6 J6 cf rf df 1 nt) J0 t B0 X U (I 0) (tsum V nt) (tot V I ns nt) (psL V6 J6 cf rf df 1 nt) v_6 ht h5 eU hW hv_6 hZ0 _ _ hM ls (lv_sub hl [0, 1, 2, 3, 4, 5, 6, 7, 8, 9, 10, 11, 12, 13, 14, 15] rfl)
      · skip
        have hqn : q < cf t * rf t := Nat.lt_of_not_le (fun z => c_2 (nI_le z (by omega)))
        refine lv_iconst (v := 0) hx hb dL_law_212 (by decide) ?_
        refine lv_istore (lv' := [(10, .int 0), (9, .int (nI q)), (8, .ref (sa S2 F)), (7, .int (nI (cf t * rf t))), (6, .int (nI t)), (4, .int (nI time)), (3, .int (tot V I ns nt + I 0 7)), (2, .ref (sa S2 1000)), (1, .ref (sa S2 0)), (0, .ref sc.1)]) hx hb dL_law_213 hl (by decide) rfl (fun ls hl => ?_)
        have LP_215 : ∀ (n : Nat) (k : Nat) (hk : k ≤ 8), 8 - k < n → ∀ (H : Heap) (locs : List Loc), fb_M D y A s (S2, V, sT V, (wsI I (F + 1) (cf t * rf t) U q k)) H locs → ∀ ls, lv_has ls 25 [(10, .int (nI k)), (9, .int (nI q)), (8, .ref (sa S2 F)), (7, .int (nI (cf t * rf t))), (6, .int (nI t)), (4, .int (nI time)), (3, .int (tot V I ns nt + I 0 7)), (2, .ref (sa S2 1000)), (1, .ref (sa S2 0)), (0, .ref sc.1)] → W pv l ev rm_L_law s mv ar below meth cv H locs (ce + 1 + cf t * rf t + 24 * q + 3 * k) (sl + cf t * rf t + cf t * rf t * 8 + 144 * q + 18 * k) Q (F0 mv 215 ls []) := by
          intro n_215
          induction n_215 with
          | zero => intro k hk hmu; exact absurd hmu (Nat.not_lt_zero _)
          | succ n_215 ih_215 =>
            intro k hk hmu H locs hM ls hl
            refine lv_iload hx hb dL_law_215 (lv_at hl 0 rfl) ?_
            refine lv_bipush (v := 8) hx hb dL_law_217 (by decide) ?_
            refine lv_icmp_ge (tgt := 246) hx hb dL_law_219 (by decide) (fun c_12 => ?_) (fun c_12 => ?_)
            · skip
              have e_k : k = 8 := by have := (nI_leI (a := 8) (b := k) (by omega) (by omega)).mp c_12; omega
              have e_k := Eq.symm e_k
              subst e_k
              have eI : (wsI I (F + 1) (cf t * rf t) U q 8) = (wsI I (F + 1) (cf t * rf t) U (q + 1) 0) := wsI_n I (F + 1) _ U q
              rw [eI] at hM
              clear eI
              refine lv_iinc (v := nI (q + 1)) (lv' := [(9, .int (nI (q + 1))), (10, .int (nI 8)), (8, .ref (sa S2 F)), (7, .int (nI (cf t * rf t))), (6, .int (nI t)), (4, .int (nI time)), (3, .int (tot V I ns nt + I 0 7)), (2, .ref (sa S2 1000)), (1, .ref (sa S2 0)), (0, .ref sc.1)]) hx hb dL_law_246 hl (k := 1) rfl (nI_1 _) (by decide) rfl (fun ls hl => ?_)
              refine lv_goto (tgt := 205) hx hb dL_law_249 (by decide) ?_
              refine W.widen (show _ ≤ ce + 1 + cf t * rf t + 24 * (q + 1) by omega) (show _ ≤ sl + cf t * rf t + cf t * rf t * 8 + 144 * (q + 1) by omega) ?_
              exact ih_205 (q + 1) (by omega) (by omega) _ _ hM ls (lv_sub hl [0, 2, 3, 4, 5, 6, 7, 8, 9] rfl)
            · skip
              have hk8 : k < 8 := Nat.lt_of_not_le (fun z => c_12 (nI_le z (by omega)))
              refine lv_aload hx hb dL_law_222 (lv_at hl 2 rfl) ?_
              refine lv_iload hx hb dL_law_224 (lv_at hl 1 rfl) ?_
              refine fb_aaldA (r := F) hx hb hM (hW.1.1) (ce10 (hW.1.2.1)) 4 rfl (k := q) (nI_clamp (by omega)) (b := sa S2 (F + 1 + q)) ((hW.2 q (by omega)).1) (by rw [hW.1.2.2]; exact vp_in_nI (by omega) (by omega)) dL_law_226 ?_
              refine lv_iload hx hb dL_law_227 (lv_at hl 0 rfl) ?_
              refine lv_aload_n hx hb dL_law_229 rfl (lv_at hl 8 rfl) ?_
              refine lv_iload hx hb dL_law_230 (lv_at hl 4 rfl) ?_
              refine lv_iload hx hb dL_law_232 (lv_at hl 1 rfl) ?_
              refine lv_iload hx hb dL_law_234 (lv_at hl 0 rfl) ?_
              refine fb_callVi (r := 0) hx hb hml hown hts hM ((hIw 0 0).1.1.1.1) (ce3 ((hIw 0 0).1.1.1.2)) rfl (As := [.int (nI t), .int (nI q), .int (nI k)]) (rest := [.int (nI k), .ref (sa S2 (F + 1 + q))]) (c_X3_square_ok D y l S2 V (wsI I (F + 1) (cf t * rf t) U q k) a1 ns nt 4 10 (hIw q k).1.1 cf rf df (hIw q k).2.2.1 t ht q hqn k (by omega)) (cwV 3 hts gL_law_X3_square rfl rfl rfl (by decide +kernel) ⟨Nat.le_of_ble_eq_true rfl, Nat.le_of_ble_eq_true rfl⟩) rfl hl.1 rfl (Nat.le_of_ble_eq_true rfl) dL_law_236 ⟨(by show _ ≤ 626107; omega), (by show _ ≤ 7223304; omega)⟩ (fun v_13 u_ H locs hp hM => ?_)
              obtain ⟨hv_, hu_⟩ := hp
              have hv_ := Eq.symm hv_
              have hu_ := Eq.symm hu_
              subst hv_
              subst hu_
              refine W.eq (g2 := F0 mv _ ls (.int (U q k) :: .int (nI k) :: .ref (sa S2 (F + 1 + q)) :: [])) (by rw [show (csq (cf t) (cf t * rf t) ((wsI I (F + 1) (cf t * rf t) U q k) (30 + 4 * t + 2)) (tv V (300 + 72 * t)) q k : Int32) = U q k from by rw [wsI_lo I U q k (by omega), eU, eB0, eX]]) ?_
              refine fb_iast (r := (F + 1 + q)) hx hb hM (((hW.2 q (by omega)).2).1) (ce6 (((hW.2 q (by omega)).2).2.1)) (k := k) (nI_clamp (by omega)) (by rw [((hW.2 q (by omega)).2).2.2]; exact vp_in_nI (by omega) (by omega)) dL_law_239 (up_I (j := k) (by rw [ce6 (S := S2) (((hW.2 q (by omega)).2).2.1)]; simp [va_up])) (w' := (S2, V, sT V, (va_up (wsI I (F + 1) (cf t * rf t) U q k) (F + 1 + q) (upd ((wsI I (F + 1) (cf t * rf t) U q k) (F + 1 + q)) k (U q k))))) ⟨rfl, rfl, rfl⟩ (fun H locs hM => ?_)
              have eI : (va_up (wsI I (F + 1) (cf t * rf t) U q k) (F + 1 + q) (upd ((wsI I (F + 1) (cf t * rf t) U q k) (F + 1 + q)) k (U q k))) = (wsI I (F + 1) (cf t * rf t) U q (k + 1)) := wsI_s I (F + 1) U hqn
              rw [eI] at hM
              clear eI
              refine lv_iinc (v := nI (k + 1)) (lv' := [(10, .int (nI (k + 1))), (9, .int (nI q)), (8, .ref (sa S2 F)), (7, .int (nI (cf t * rf t))), (6, .int (nI t)), (4, .int (nI time)), (3, .int (tot V I ns nt + I 0 7)), (2, .ref (sa S2 1000)), (1, .ref (sa S2 0)), (0, .ref sc.1)]) hx hb dL_law_240 hl (k := 0) rfl (nI_1 _) (by decide) rfl (fun ls hl => ?_)
              refine lv_goto (tgt := 215) hx hb dL_law_243 (by decide) ?_
              refine W.widen (show _ ≤ ce + 1 + cf t * rf t + 24 * q + 3 * (k + 1) by omega) (show _ ≤ sl + cf t * rf t + cf t * rf t * 8 + 144 * q + 18 * (k + 1) by omega) ?_
              exact ih_215 (k + 1) (by omega) (by omega) _ _ hM ls (lv_sub hl [0, 1, 2, 3, 4, 5, 6, 7, 8, 9] rfl)
        refine W.widen (show _ ≤ ce + 1 + cf t * rf t + 24 * q + 3 * 0 by omega) (show _ ≤ sl + cf t * rf t + cf t * rf t * 8 + 144 * q + 18 * 0 by omega) ?_
        exact LP_215 _ 0 (by omega) (Nat.lt_succ_self _) _ _ hM ls (lv_sub hl [0, 1, 2, 3, 4, 5, 6, 7, 8, 9] rfl)
  refine W.widen (show _ ≤ ce + 1 + cf t * rf t + 24 * 0 by omega) (show _ ≤ sl + cf t * rf t + cf t * rf t * 8 + 144 * 0 by omega) ?_
  exact LP_205 _ 0 (by omega) (Nat.lt_succ_self _) _ _ hM ls (lv_sub hl [0, 1, 2, 3, 5, 6, 7, 8, 9] rfl)
