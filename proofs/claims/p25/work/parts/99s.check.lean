/-! the law, behind a night -/
set_option maxHeartbeats 4000000 in
set_option maxRecDepth 100000 in
theorem lw_check {pv : Program} {l : Launch} {ev : Env} {s : State} {mv : MethodId} {ar : Array Value} {below : List Frame} {meth : Method} {cv : Code} {A : Nat → Prop} {D : va_G} {y : Nat → ClassId} {a0 : Nat × Nat} {sc : Nat × Nat × (Nat → Int32)} {Q : State → Prop} (hx : pv.tables.exec = Jvm.exec) (hb : cv.code = cL_law) (hml : cv.maxLocals = 25) (hown : s.vm.findClass RL = some mv.cls) (hts : ∀ x ∈ wsL_law, x.before ar s = true) (hE : fb_E a0 A s) (hSc : fb_Sc sc A s) (a1 ns nt N F : Nat) (rho cf rf df : Nat → Nat) (time ce sl : Nat) (S2 : fb_Sh) (V2 J2 : fb_V) (t : Nat) (B0 : Nat → Int32) (X U : fb_V) (R0 : Nat → Int32) (T5 T L v : Int32) (ht : t < nt) (h5 : R0 5 = nI time) (eU : U = fun q => csq (cf t) (cf t * rf t) B0 X q) (hW : RA S2 F 10 (cf t * rf t) ∧ ∀ q, q < (cf t * rf t) → PA S2 F q (F + 1 + q) ∧ RA S2 (F + 1 + q) 6 8) (hls : LsP (cwk (cf t) (cf t * rf t) (df t) B0 X) v) (hZ : Zt a1 S2 V2 J2 ns nt rho cf rf df N (F + 1 + cf t * rf t) t B0 (ngt (cf t) (cf t * rf t) (df t) B0 X) F U (upd (upd R0 5 (R0 5 + 1)) 7 (R0 7 + L)) (T5 - L) (T - L)) (hF : 4000 ≤ F) (hce : ce + 100 ≤ 626107) (hsl : sl + 600 ≤ 7223304) (kk : (∀ (V9 J9 : fb_V) (hZ9 : Zt a1 S2 V9 J9 ns nt rho cf rf df N (F + 1 + cf t * rf t) t B0 (ngt (cf t) (cf t * rf t) (df t) B0 X) F U (upd (upd R0 5 (R0 5 + 1)) 7 (R0 7 + L)) (T5 - L) (T - L)) (H : Heap) (locs : List Loc), fb_M D y A s (S2, V9, sT V9, J9) H locs → ∀ ls, lv_has ls 25 [(10, .int (cwk (cf t) (cf t * rf t) (df t) B0 X 1)), (8, .ref (sa S2 F)), (7, .int (nI (cf t * rf t))), (6, .int (nI t)), (4, .int (nI time)), (3, .int (T + R0 7)), (2, .ref (sa S2 1000)), (1, .ref (sa S2 0)), (0, .ref sc.1)] → W pv l ev rm_L_law s mv ar below meth cv H locs (ce + 100) (sl + 600) Q (F0 mv 491 ls []))) (H : Heap) (locs : List Loc) (hM : fb_M D y A s (S2, V2, sT V2, J2) H locs) (ls : Array Slot) (hl : lv_has ls 25 [(16, .int L), (15, .int T5), (14, .int (R0 7)), (13, .int (R0 6)), (12, .int v), (11, .int (nI (cld (ngt (cf t) (cf t * rf t) (df t) B0 X) (cf t * rf t)))), (10, .int (cwk (cf t) (cf t * rf t) (df t) B0 X 1)), (9, .int (fsum (ngt (cf t) (cf t * rf t) (df t) B0 X) 36)), (8, .ref (sa S2 F)), (7, .int (nI (cf t * rf t))), (6, .int (nI t)), (4, .int (nI time)), (3, .int (T + R0 7)), (2, .ref (sa S2 1000)), (1, .ref (sa S2 0)), (0, .ref sc.1)]) : W pv l ev rm_L_law s mv ar below meth cv H locs (ce) (sl) Q (F0 mv 327 ls []) := by
  have hcr := (hZ.1.2.2.2.1.2.2.2.1 t ht).n36
  refine lv_aload_n hx hb dL_law_327 rfl (lv_at hl 14 rfl) ?_
  refine lv_iload hx hb dL_law_328 (lv_at hl 10 rfl) ?_
  refine lv_iconst (v := 3) hx hb dL_law_330 (by decide) ?_
  refine fb_callVi (r := 0) hx hb hml hown hts hM (hZ.1.1.1.1.1) (ce3 (hZ.1.1.1.1.2)) rfl (As := [.int (nI t), .int 3]) (rest := []) (z_tk D y l hZ ht (by omega) 3 (by decide)) (cwV 2 hts gL_law_X3_tick rfl rfl rfl (by decide +kernel) ⟨Nat.le_of_ble_eq_true rfl, Nat.le_of_ble_eq_true rfl⟩) rfl hl.1 rfl (Nat.le_of_ble_eq_true rfl) dL_law_331 ⟨(by show _ ≤ 626107; omega), (by show _ ≤ 7223304; omega)⟩ (fun v_1 u_ H locs hp hM => ?_)
  obtain ⟨hv_, J11, hu_, hlo11, hZ11⟩ := hp
  subst hv_
  subst hu_
  refine W.eq (g2 := F0 mv _ ls (.int (fsum (ngt (cf t) (cf t * rf t) (df t) B0 X) 36) :: [])) (by rw [show (ctk (cf t) (rf t) (df t) (ngt (cf t) (cf t * rf t) (df t) B0 X) B0 0 3 : Int32) = fsum (ngt (cf t) (cf t * rf t) (df t) B0 X) 36 from ctk_3 _ _ _ _ _ _]) ?_
  refine lv_iload hx hb dL_law_334 (lv_at hl 7 rfl) ?_
  refine lv_icmp_ne (tgt := 414) hx hb dL_law_336 (by decide) (fun c_2 => absurd (rfl) c_2) (fun c_2 => ?_)
  refine lv_aload_n hx hb dL_law_339 rfl (lv_at hl 14 rfl) ?_
  refine lv_iload hx hb dL_law_340 (lv_at hl 10 rfl) ?_
  refine lv_iconst (v := 5) hx hb dL_law_342 (by decide) ?_
  refine fb_callVi (r := 0) hx hb hml hown hts hM (hZ11.1.1.1.1.1) (ce3 (hZ11.1.1.1.1.2)) rfl (As := [.int (nI t), .int 5]) (rest := []) (z_tk D y l hZ11 ht (by omega) 5 (by decide)) (cwV 2 hts gL_law_X3_tick rfl rfl rfl (by decide +kernel) ⟨Nat.le_of_ble_eq_true rfl, Nat.le_of_ble_eq_true rfl⟩) rfl hl.1 rfl (Nat.le_of_ble_eq_true rfl) dL_law_343 ⟨(by show _ ≤ 626107; omega), (by show _ ≤ 7223304; omega)⟩ (fun v_3 u_ H locs hp hM => ?_)
  obtain ⟨hv_, J12, hu_, hlo12, hZ12⟩ := hp
  subst hv_
  subst hu_
  refine W.eq (g2 := F0 mv _ ls (.int (cwk (cf t) (cf t * rf t) (df t) B0 X 1) :: [])) (by rw [show (ctk (cf t) (rf t) (df t) (ngt (cf t) (cf t * rf t) (df t) B0 X) B0 0 5 : Int32) = cwk (cf t) (cf t * rf t) (df t) B0 X 1 from (ctk_5 _ _ _ _ _ _).trans rfl]) ?_
  refine lv_iload hx hb dL_law_346 (lv_at hl 6 rfl) ?_
  refine lv_icmp_ne (tgt := 414) hx hb dL_law_348 (by decide) (fun c_4 => absurd (rfl) c_4) (fun c_4 => ?_)
  refine lv_aload_n hx hb dL_law_351 rfl (lv_at hl 14 rfl) ?_
  refine lv_iload hx hb dL_law_352 (lv_at hl 10 rfl) ?_
  refine lv_bipush (v := 6) hx hb dL_law_354 (by decide) ?_
  refine fb_callVi (r := 0) hx hb hml hown hts hM (hZ12.1.1.1.1.1) (ce3 (hZ12.1.1.1.1.2)) rfl (As := [.int (nI t), .int 6]) (rest := []) (z_tk D y l hZ12 ht (by omega) 6 (by decide)) (cwV 2 hts gL_law_X3_tick rfl rfl rfl (by decide +kernel) ⟨Nat.le_of_ble_eq_true rfl, Nat.le_of_ble_eq_true rfl⟩) rfl hl.1 rfl (Nat.le_of_ble_eq_true rfl) dL_law_356 ⟨(by show _ ≤ 626107; omega), (by show _ ≤ 7223304; omega)⟩ (fun v_5 u_ H locs hp hM => ?_)
  obtain ⟨hv_, J13, hu_, hlo13, hZ13⟩ := hp
  subst hv_
  subst hu_
  refine W.eq (g2 := F0 mv _ ls (.int (nI (cld (ngt (cf t) (cf t * rf t) (df t) B0 X) (cf t * rf t))) :: [])) (by rw [show (ctk (cf t) (rf t) (df t) (ngt (cf t) (cf t * rf t) (df t) B0 X) B0 0 6 : Int32) = nI (cld (ngt (cf t) (cf t * rf t) (df t) B0 X) (cf t * rf t)) from ctk_6 _ _ _ _ _ _]) ?_
  refine lv_iload hx hb dL_law_359 (lv_at hl 5 rfl) ?_
  refine lv_icmp_ne (tgt := 414) hx hb dL_law_361 (by decide) (fun c_6 => absurd (rfl) c_6) (fun c_6 => ?_)
  refine lv_aload_n hx hb dL_law_364 rfl (lv_at hl 14 rfl) ?_
  refine lv_bipush (v := 7) hx hb dL_law_365 (by decide) ?_
  refine fb_callVi (r := 0) hx hb hml hown hts hM (hZ13.1.1.1.1.1) (ce3 (hZ13.1.1.1.1.2)) rfl (As := [.int 7]) (rest := []) (z_ct D y l hZ13 7 (by decide)) (cwV 1 hts gL_law_X3_count rfl rfl rfl (by decide +kernel) ⟨Nat.le_of_ble_eq_true rfl, Nat.le_of_ble_eq_true rfl⟩) rfl hl.1 rfl (Nat.le_of_ble_eq_true rfl) dL_law_367 ⟨(by show _ ≤ 626107; omega), (by show _ ≤ 7223304; omega)⟩ (fun v_7 u_ H locs hp hM => ?_)
  obtain ⟨hv_, hu_⟩ := hp
  have hv_ := Eq.symm hv_
  have hu_ := Eq.symm hu_
  subst hv_
  subst hu_
  refine W.eq (g2 := F0 mv _ ls (.int (R0 7 + L) :: [])) (by rw [show (cnc V2 J13 ns nt 7 : Int32) = R0 7 + L from (congrFun hZ13.2.2.2.1 7).trans rfl]) ?_
  refine lv_iload hx hb dL_law_370 (lv_at hl 2 rfl) ?_
  refine lv_iload hx hb dL_law_372 (lv_at hl 0 rfl) ?_
  refine lv_iadd hx hb dL_law_374 ?_
  refine lv_icmp_ne (tgt := 414) hx hb dL_law_375 (by decide) (fun c_8 => absurd (rfl) c_8) (fun c_8 => ?_)
  refine lv_aload_n hx hb dL_law_378 rfl (lv_at hl 14 rfl) ?_
  refine lv_iconst (v := 5) hx hb dL_law_379 (by decide) ?_
  refine fb_callVi (r := 0) hx hb hml hown hts hM (hZ13.1.1.1.1.1) (ce3 (hZ13.1.1.1.1.2)) rfl (As := [.int 5]) (rest := []) (z_ct D y l hZ13 5 (by decide)) (cwV 1 hts gL_law_X3_count rfl rfl rfl (by decide +kernel) ⟨Nat.le_of_ble_eq_true rfl, Nat.le_of_ble_eq_true rfl⟩) rfl hl.1 rfl (Nat.le_of_ble_eq_true rfl) dL_law_380 ⟨(by show _ ≤ 626107; omega), (by show _ ≤ 7223304; omega)⟩ (fun v_9 u_ H locs hp hM => ?_)
  obtain ⟨hv_, hu_⟩ := hp
  have hv_ := Eq.symm hv_
  have hu_ := Eq.symm hu_
  subst hv_
  subst hu_
  refine W.eq (g2 := F0 mv _ ls (.int (T5 - L) :: [])) (by rw [show (cnc V2 J13 ns nt 5 : Int32) = T5 - L from hZ13.2.2.2.2.1]) ?_
  refine lv_iload hx hb dL_law_383 (lv_at hl 1 rfl) ?_
  refine lv_iload hx hb dL_law_385 (lv_at hl 0 rfl) ?_
  refine lv_isub hx hb dL_law_387 ?_
  refine lv_icmp_ne (tgt := 414) hx hb dL_law_388 (by decide) (fun c_10 => absurd (rfl) c_10) (fun c_10 => ?_)
  refine lv_aload_n hx hb dL_law_391 rfl (lv_at hl 14 rfl) ?_
  refine lv_bipush (v := 6) hx hb dL_law_392 (by decide) ?_
  refine fb_callVi (r := 0) hx hb hml hown hts hM (hZ13.1.1.1.1.1) (ce3 (hZ13.1.1.1.1.2)) rfl (As := [.int 6]) (rest := []) (z_ct D y l hZ13 6 (by decide)) (cwV 1 hts gL_law_X3_count rfl rfl rfl (by decide +kernel) ⟨Nat.le_of_ble_eq_true rfl, Nat.le_of_ble_eq_true rfl⟩) rfl hl.1 rfl (Nat.le_of_ble_eq_true rfl) dL_law_394 ⟨(by show _ ≤ 626107; omega), (by show _ ≤ 7223304; omega)⟩ (fun v_11 u_ H locs hp hM => ?_)
  obtain ⟨hv_, hu_⟩ := hp
  have hv_ := Eq.symm hv_
  have hu_ := Eq.symm hu_
  subst hv_
  subst hu_
  refine W.eq (g2 := F0 mv _ ls (.int (R0 6) :: [])) (by rw [show (cnc V2 J13 ns nt 6 : Int32) = R0 6 from (congrFun hZ13.2.2.2.1 6).trans rfl]) ?_
  refine lv_iload hx hb dL_law_397 (lv_at hl 3 rfl) ?_
  refine lv_icmp_ne (tgt := 414) hx hb dL_law_399 (by decide) (fun c_12 => absurd (rfl) c_12) (fun c_12 => ?_)
  refine lv_aload_n hx hb dL_law_402 rfl (lv_at hl 14 rfl) ?_
  refine lv_iconst (v := 0) hx hb dL_law_403 (by decide) ?_
  refine fb_callVi (r := 0) hx hb hml hown hts hM (hZ13.1.1.1.1.1) (ce3 (hZ13.1.1.1.1.2)) rfl (As := [.int 0]) (rest := []) (z_ct D y l hZ13 0 (by decide)) (cwV 1 hts gL_law_X3_count rfl rfl rfl (by decide +kernel) ⟨Nat.le_of_ble_eq_true rfl, Nat.le_of_ble_eq_true rfl⟩) rfl hl.1 rfl (Nat.le_of_ble_eq_true rfl) dL_law_404 ⟨(by show _ ≤ 626107; omega), (by show _ ≤ 7223304; omega)⟩ (fun v_13 u_ H locs hp hM => ?_)
  obtain ⟨hv_, hu_⟩ := hp
  have hv_ := Eq.symm hv_
  have hu_ := Eq.symm hu_
  subst hv_
  subst hu_
  refine W.eq (g2 := F0 mv _ ls (.int (nI (time + 1)) :: [])) (by rw [show (cnc V2 J13 ns nt 0 : Int32) = nI (time + 1) from (congrFun hZ13.2.2.2.1 5).trans (show R0 5 + 1 = nI (time + 1) by rw [h5, nI_1])]) ?_
  refine lv_iload hx hb dL_law_407 (lv_at hl 11 rfl) ?_
  refine lv_iconst (v := 1) hx hb dL_law_409 (by decide) ?_
  refine lv_iadd hx hb dL_law_410 ?_
  refine W.eq (g2 := F0 mv _ ls (.int (nI (time + 1)) :: .int (nI (time + 1)) :: [])) (by rw [show ((nI time) + 1 : Int32) = nI (time + 1) from nI_1 time]) ?_
  refine lv_icmp_eq (tgt := 416) hx hb dL_law_411 (by decide) (fun c_14 => ?_) (fun c_14 => absurd (rfl) c_14)
  refine lv_iload hx hb dL_law_416 (lv_at hl 4 rfl) ?_
  refine lv_iconst (v := 1) hx hb dL_law_418 (by decide) ?_
  refine lv_icmp_le (tgt := 445) hx hb dL_law_419 (by decide) (fun c_15 => ?_) (fun c_15 => ?_)
  · skip
    refine lv_iload hx hb dL_law_445 (lv_at hl 4 rfl) ?_
    refine lv_iconst (v := 1) hx hb dL_law_447 (by decide) ?_
    refine lv_icmp_ne (tgt := 458) hx hb dL_law_448 (by decide) (fun c_16 => ?_) (fun c_16 => ?_)
    · skip
      refine lv_iload hx hb dL_law_458 (lv_at hl 4 rfl) ?_
      refine lv_if_ne (tgt := 491) hx hb dL_law_460 (by decide) (fun c_17 => ?_) (fun c_17 => ?_)
      · skip
        refine W.widen (show _ ≤ ce + 100 by omega) (show _ ≤ sl + 600 by omega) ?_
        exact kk V2 J13 hZ13 _ _ hM ls (lv_sub hl [6, 8, 9, 10, 11, 12, 13, 14, 15] rfl)
      · skip
        have hv0_ := c_17
        refine lv_aload_n hx hb dL_law_463 rfl (lv_at hl 14 rfl) ?_
        refine lv_iload hx hb dL_law_464 (lv_at hl 10 rfl) ?_
        refine lv_iconst (v := 5) hx hb dL_law_466 (by decide) ?_
        refine fb_callVi (r := 0) hx hb hml hown hts hM (hZ13.1.1.1.1.1) (ce3 (hZ13.1.1.1.1.2)) rfl (As := [.int (nI t), .int 5]) (rest := []) (z_tk D y l hZ13 ht (by omega) 5 (by decide)) (cwV 2 hts gL_law_X3_tick rfl rfl rfl (by decide +kernel) ⟨Nat.le_of_ble_eq_true rfl, Nat.le_of_ble_eq_true rfl⟩) rfl hl.1 rfl (Nat.le_of_ble_eq_true rfl) dL_law_467 ⟨(by show _ ≤ 626107; omega), (by show _ ≤ 7223304; omega)⟩ (fun v_18 u_ H locs hp hM => ?_)
        obtain ⟨hv_, J14, hu_, hlo14, hZ14⟩ := hp
        subst hv_
        subst hu_
        refine W.eq (g2 := F0 mv _ ls (.int (cwk (cf t) (cf t * rf t) (df t) B0 X 1) :: [])) (by rw [show (ctk (cf t) (rf t) (df t) (ngt (cf t) (cf t * rf t) (df t) B0 X) B0 0 5 : Int32) = cwk (cf t) (cf t * rf t) (df t) B0 X 1 from (ctk_5 _ _ _ _ _ _).trans rfl]) ?_
        refine lv_if_lt (tgt := 491) hx hb dL_law_470 (by decide) (fun c_19 => ?_) (fun c_19 => ?_)
        · skip
          refine W.widen (show _ ≤ ce + 100 by omega) (show _ ≤ sl + 600 by omega) ?_
          exact kk V2 J14 hZ14 _ _ hM ls (lv_sub hl [6, 8, 9, 10, 11, 12, 13, 14, 15] rfl)
        · skip
          refine lv_aload hx hb dL_law_473 (lv_at hl 8 rfl) ?_
          refine lv_aload hx hb dL_law_475 (lv_at hl 8 rfl) ?_
          refine fb_callSi hx hb hml hown hts hM (As := [.ref (sa S2 F)]) (rest := [.ref (sa S2 F)]) (c_L_coldest D y l S2 V2 J14 F (cf t * rf t) hW.1 hW.2 (by omega) (by omega) X (fun q hq => (hZ14.2.2.1 q hq 7 (by decide)).trans (by rw [eU]; rfl))) (va_cwS 1 hts gL_law_L_coldest rfl rfl rfl (by decide +kernel) ⟨Nat.le_of_ble_eq_true rfl, Nat.le_of_ble_eq_true rfl⟩) rfl hl.1 rfl (Nat.le_of_ble_eq_true rfl) dL_law_477 ⟨(by show _ ≤ 626107; omega), (by show _ ≤ 7223304; omega)⟩ (fun v_20 u_ H locs hp hM => ?_)
          obtain ⟨hv_, hu_⟩ := hp
          have hv_ := Eq.symm hv_
          have hu_ := Eq.symm hu_
          subst hv_
          subst hu_
          have hcl := cld_lt X (cf t * rf t)
          refine fb_aaldA (r := F) hx hb hM (hW.1.1) (ce10 (hW.1.2.1)) 4 rfl (k := cld X (cf t * rf t)) (nI_clamp (by omega)) (b := sa S2 (F + 1 + (cld X (cf t * rf t)))) ((hW.2 (cld X (cf t * rf t)) (by omega)).1) (by rw [hW.1.2.2]; exact vp_in_nI (by omega) (by omega)) dL_law_480 ?_
          refine lv_bipush (v := 7) hx hb dL_law_481 (by decide) ?_
          refine fb_iald (r := (F + 1 + (cld X (cf t * rf t)))) hx hb hM (((hW.2 (cld X (cf t * rf t)) (by omega)).2).1) (ce6 (((hW.2 (cld X (cf t * rf t)) (by omega)).2).2.1)) (k := 7) (by decide) (by rw [((hW.2 (cld X (cf t * rf t)) (by omega)).2).2.2]; exact pk_in 7 _ (by omega) (by decide) (by omega)) dL_law_483 ?_
          refine W.eq (g2 := F0 mv _ ls (.int (wm (X (cld X (cf t * rf t)))) :: [])) (by rw [show (J14 (F + 1 + (cld X (cf t * rf t))) 7 : Int32) = wm (X (cld X (cf t * rf t))) from (hZ14.2.2.1 _ (by omega) 7 (by decide)).trans (by rw [eU]; rfl)]) ?_
          refine lv_bipush (v := 40) hx hb dL_law_484 (by decide) ?_
          refine lv_icmp_lt (tgt := 491) hx hb dL_law_486 (by decide) (fun c_21 => ?_) (fun c_21 => absurd (ls_3 hls hv0_) c_21)
          refine W.widen (show _ ≤ ce + 100 by omega) (show _ ≤ sl + 600 by omega) ?_
          exact kk V2 J14 hZ14 _ _ hM ls (lv_sub hl [6, 8, 9, 10, 11, 12, 13, 14, 15] rfl)
    · skip
      have hv1_ := c_16
      refine lv_iload hx hb dL_law_451 (lv_at hl 6 rfl) ?_
      refine lv_bipush (v := 40) hx hb dL_law_453 (by decide) ?_
      refine lv_icmp_ge (tgt := 489) hx hb dL_law_455 (by decide) (fun c_22 => absurd c_22 (Int32.not_le.mpr (ls_2 hls hv1_))) (fun c_22 => ?_)
      refine lv_iload hx hb dL_law_458 (lv_at hl 4 rfl) ?_
      refine lv_if_ne (tgt := 491) hx hb dL_law_460 (by decide) (fun c_23 => ?_) (fun c_23 => ?_)
      · skip
        refine W.widen (show _ ≤ ce + 100 by omega) (show _ ≤ sl + 600 by omega) ?_
        exact kk V2 J13 hZ13 _ _ hM ls (lv_sub hl [6, 8, 9, 10, 11, 12, 13, 14, 15] rfl)
      · skip
        have hv0_ := c_23
        refine lv_aload_n hx hb dL_law_463 rfl (lv_at hl 14 rfl) ?_
        refine lv_iload hx hb dL_law_464 (lv_at hl 10 rfl) ?_
        refine lv_iconst (v := 5) hx hb dL_law_466 (by decide) ?_
        refine fb_callVi (r := 0) hx hb hml hown hts hM (hZ13.1.1.1.1.1) (ce3 (hZ13.1.1.1.1.2)) rfl (As := [.int (nI t), .int 5]) (rest := []) (z_tk D y l hZ13 ht (by omega) 5 (by decide)) (cwV 2 hts gL_law_X3_tick rfl rfl rfl (by decide +kernel) ⟨Nat.le_of_ble_eq_true rfl, Nat.le_of_ble_eq_true rfl⟩) rfl hl.1 rfl (Nat.le_of_ble_eq_true rfl) dL_law_467 ⟨(by show _ ≤ 626107; omega), (by show _ ≤ 7223304; omega)⟩ (fun v_24 u_ H locs hp hM => ?_)
        obtain ⟨hv_, J14, hu_, hlo14, hZ14⟩ := hp
        subst hv_
        subst hu_
        refine W.eq (g2 := F0 mv _ ls (.int (cwk (cf t) (cf t * rf t) (df t) B0 X 1) :: [])) (by rw [show (ctk (cf t) (rf t) (df t) (ngt (cf t) (cf t * rf t) (df t) B0 X) B0 0 5 : Int32) = cwk (cf t) (cf t * rf t) (df t) B0 X 1 from (ctk_5 _ _ _ _ _ _).trans rfl]) ?_
        refine lv_if_lt (tgt := 491) hx hb dL_law_470 (by decide) (fun c_25 => ?_) (fun c_25 => ?_)
        · skip
          refine W.widen (show _ ≤ ce + 100 by omega) (show _ ≤ sl + 600 by omega) ?_
          exact kk V2 J14 hZ14 _ _ hM ls (lv_sub hl [6, 8, 9, 10, 11, 12, 13, 14, 15] rfl)
        · skip
          refine lv_aload hx hb dL_law_473 (lv_at hl 8 rfl) ?_
          refine lv_aload hx hb dL_law_475 (lv_at hl 8 rfl) ?_
          refine fb_callSi hx hb hml hown hts hM (As := [.ref (sa S2 F)]) (rest := [.ref (sa S2 F)]) (c_L_coldest D y l S2 V2 J14 F (cf t * rf t) hW.1 hW.2 (by omega) (by omega) X (fun q hq => (hZ14.2.2.1 q hq 7 (by decide)).trans (by rw [eU]; rfl))) (va_cwS 1 hts gL_law_L_coldest rfl rfl rfl (by decide +kernel) ⟨Nat.le_of_ble_eq_true rfl, Nat.le_of_ble_eq_true rfl⟩) rfl hl.1 rfl (Nat.le_of_ble_eq_true rfl) dL_law_477 ⟨(by show _ ≤ 626107; omega), (by show _ ≤ 7223304; omega)⟩ (fun v_26 u_ H locs hp hM => ?_)
          obtain ⟨hv_, hu_⟩ := hp
          have hv_ := Eq.symm hv_
          have hu_ := Eq.symm hu_
          subst hv_
          subst hu_
          have hcl := cld_lt X (cf t * rf t)
          refine fb_aaldA (r := F) hx hb hM (hW.1.1) (ce10 (hW.1.2.1)) 4 rfl (k := cld X (cf t * rf t)) (nI_clamp (by omega)) (b := sa S2 (F + 1 + (cld X (cf t * rf t)))) ((hW.2 (cld X (cf t * rf t)) (by omega)).1) (by rw [hW.1.2.2]; exact vp_in_nI (by omega) (by omega)) dL_law_480 ?_
          refine lv_bipush (v := 7) hx hb dL_law_481 (by decide) ?_
          refine fb_iald (r := (F + 1 + (cld X (cf t * rf t)))) hx hb hM (((hW.2 (cld X (cf t * rf t)) (by omega)).2).1) (ce6 (((hW.2 (cld X (cf t * rf t)) (by omega)).2).2.1)) (k := 7) (by decide) (by rw [((hW.2 (cld X (cf t * rf t)) (by omega)).2).2.2]; exact pk_in 7 _ (by omega) (by decide) (by omega)) dL_law_483 ?_
          refine W.eq (g2 := F0 mv _ ls (.int (wm (X (cld X (cf t * rf t)))) :: [])) (by rw [show (J14 (F + 1 + (cld X (cf t * rf t))) 7 : Int32) = wm (X (cld X (cf t * rf t))) from (hZ14.2.2.1 _ (by omega) 7 (by decide)).trans (by rw [eU]; rfl)]) ?_
          refine lv_bipush (v := 40) hx hb dL_law_484 (by decide) ?_
          refine lv_icmp_lt (tgt := 491) hx hb dL_law_486 (by decide) (fun c_27 => ?_) (fun c_27 => absurd (ls_3 hls hv0_) c_27)
          refine W.widen (show _ ≤ ce + 100 by omega) (show _ ≤ sl + 600 by omega) ?_
          exact kk V2 J14 hZ14 _ _ hM ls (lv_sub hl [6, 8, 9, 10, 11, 12, 13, 14, 15] rfl)
  · skip
    have h1_ := c_15
    refine lv_iload hx hb dL_law_422 (lv_at hl 4 rfl) ?_
    refine lv_sipush (v := 200) hx hb dL_law_424 (by decide) ?_
    refine lv_icmp_ge (tgt := 445) hx hb dL_law_427 (by decide) (fun c_28 => ?_) (fun c_28 => ?_)
    · skip
      refine lv_iload hx hb dL_law_445 (lv_at hl 4 rfl) ?_
      refine lv_iconst (v := 1) hx hb dL_law_447 (by decide) ?_
      refine lv_icmp_ne (tgt := 458) hx hb dL_law_448 (by decide) (fun c_29 => ?_) (fun c_29 => ?_)
      · skip
        refine lv_iload hx hb dL_law_458 (lv_at hl 4 rfl) ?_
        refine lv_if_ne (tgt := 491) hx hb dL_law_460 (by decide) (fun c_30 => ?_) (fun c_30 => ?_)
        · skip
          refine W.widen (show _ ≤ ce + 100 by omega) (show _ ≤ sl + 600 by omega) ?_
          exact kk V2 J13 hZ13 _ _ hM ls (lv_sub hl [6, 8, 9, 10, 11, 12, 13, 14, 15] rfl)
        · skip
          have hv0_ := c_30
          refine lv_aload_n hx hb dL_law_463 rfl (lv_at hl 14 rfl) ?_
          refine lv_iload hx hb dL_law_464 (lv_at hl 10 rfl) ?_
          refine lv_iconst (v := 5) hx hb dL_law_466 (by decide) ?_
          refine fb_callVi (r := 0) hx hb hml hown hts hM (hZ13.1.1.1.1.1) (ce3 (hZ13.1.1.1.1.2)) rfl (As := [.int (nI t), .int 5]) (rest := []) (z_tk D y l hZ13 ht (by omega) 5 (by decide)) (cwV 2 hts gL_law_X3_tick rfl rfl rfl (by decide +kernel) ⟨Nat.le_of_ble_eq_true rfl, Nat.le_of_ble_eq_true rfl⟩) rfl hl.1 rfl (Nat.le_of_ble_eq_true rfl) dL_law_467 ⟨(by show _ ≤ 626107; omega), (by show _ ≤ 7223304; omega)⟩ (fun v_31 u_ H locs hp hM => ?_)
          obtain ⟨hv_, J14, hu_, hlo14, hZ14⟩ := hp
          subst hv_
          subst hu_
          refine W.eq (g2 := F0 mv _ ls (.int (cwk (cf t) (cf t * rf t) (df t) B0 X 1) :: [])) (by rw [show (ctk (cf t) (rf t) (df t) (ngt (cf t) (cf t * rf t) (df t) B0 X) B0 0 5 : Int32) = cwk (cf t) (cf t * rf t) (df t) B0 X 1 from (ctk_5 _ _ _ _ _ _).trans rfl]) ?_
          refine lv_if_lt (tgt := 491) hx hb dL_law_470 (by decide) (fun c_32 => ?_) (fun c_32 => ?_)
          · skip
            refine W.widen (show _ ≤ ce + 100 by omega) (show _ ≤ sl + 600 by omega) ?_
            exact kk V2 J14 hZ14 _ _ hM ls (lv_sub hl [6, 8, 9, 10, 11, 12, 13, 14, 15] rfl)
          · skip
            refine lv_aload hx hb dL_law_473 (lv_at hl 8 rfl) ?_
            refine lv_aload hx hb dL_law_475 (lv_at hl 8 rfl) ?_
            refine fb_callSi hx hb hml hown hts hM (As := [.ref (sa S2 F)]) (rest := [.ref (sa S2 F)]) (c_L_coldest D y l S2 V2 J14 F (cf t * rf t) hW.1 hW.2 (by omega) (by omega) X (fun q hq => (hZ14.2.2.1 q hq 7 (by decide)).trans (by rw [eU]; rfl))) (va_cwS 1 hts gL_law_L_coldest rfl rfl rfl (by decide +kernel) ⟨Nat.le_of_ble_eq_true rfl, Nat.le_of_ble_eq_true rfl⟩) rfl hl.1 rfl (Nat.le_of_ble_eq_true rfl) dL_law_477 ⟨(by show _ ≤ 626107; omega), (by show _ ≤ 7223304; omega)⟩ (fun v_33 u_ H locs hp hM => ?_)
            obtain ⟨hv_, hu_⟩ := hp
            have hv_ := Eq.symm hv_
            have hu_ := Eq.symm hu_
            subst hv_
            subst hu_
            have hcl := cld_lt X (cf t * rf t)
            refine fb_aaldA (r := F) hx hb hM (hW.1.1) (ce10 (hW.1.2.1)) 4 rfl (k := cld X (cf t * rf t)) (nI_clamp (by omega)) (b := sa S2 (F + 1 + (cld X (cf t * rf t)))) ((hW.2 (cld X (cf t * rf t)) (by omega)).1) (by rw [hW.1.2.2]; exact vp_in_nI (by omega) (by omega)) dL_law_480 ?_
            refine lv_bipush (v := 7) hx hb dL_law_481 (by decide) ?_
            refine fb_iald (r := (F + 1 + (cld X (cf t * rf t)))) hx hb hM (((hW.2 (cld X (cf t * rf t)) (by omega)).2).1) (ce6 (((hW.2 (cld X (cf t * rf t)) (by omega)).2).2.1)) (k := 7) (by decide) (by rw [((hW.2 (cld X (cf t * rf t)) (by omega)).2).2.2]; exact pk_in 7 _ (by omega) (by decide) (by omega)) dL_law_483 ?_
            refine W.eq (g2 := F0 mv _ ls (.int (wm (X (cld X (cf t * rf t)))) :: [])) (by rw [show (J14 (F + 1 + (cld X (cf t * rf t))) 7 : Int32) = wm (X (cld X (cf t * rf t))) from (hZ14.2.2.1 _ (by omega) 7 (by decide)).trans (by rw [eU]; rfl)]) ?_
            refine lv_bipush (v := 40) hx hb dL_law_484 (by decide) ?_
            refine lv_icmp_lt (tgt := 491) hx hb dL_law_486 (by decide) (fun c_34 => ?_) (fun c_34 => absurd (ls_3 hls hv0_) c_34)
            refine W.widen (show _ ≤ ce + 100 by omega) (show _ ≤ sl + 600 by omega) ?_
            exact kk V2 J14 hZ14 _ _ hM ls (lv_sub hl [6, 8, 9, 10, 11, 12, 13, 14, 15] rfl)
      · skip
        have hv1_ := c_29
        refine lv_iload hx hb dL_law_451 (lv_at hl 6 rfl) ?_
        refine lv_bipush (v := 40) hx hb dL_law_453 (by decide) ?_
        refine lv_icmp_ge (tgt := 489) hx hb dL_law_455 (by decide) (fun c_35 => absurd c_35 (Int32.not_le.mpr (ls_2 hls hv1_))) (fun c_35 => ?_)
        refine lv_iload hx hb dL_law_458 (lv_at hl 4 rfl) ?_
        refine lv_if_ne (tgt := 491) hx hb dL_law_460 (by decide) (fun c_36 => ?_) (fun c_36 => ?_)
        · skip
          refine W.widen (show _ ≤ ce + 100 by omega) (show _ ≤ sl + 600 by omega) ?_
          exact kk V2 J13 hZ13 _ _ hM ls (lv_sub hl [6, 8, 9, 10, 11, 12, 13, 14, 15] rfl)
        · skip
          have hv0_ := c_36
          refine lv_aload_n hx hb dL_law_463 rfl (lv_at hl 14 rfl) ?_
          refine lv_iload hx hb dL_law_464 (lv_at hl 10 rfl) ?_
          refine lv_iconst (v := 5) hx hb dL_law_466 (by decide) ?_
          refine fb_callVi (r := 0) hx hb hml hown hts hM (hZ13.1.1.1.1.1) (ce3 (hZ13.1.1.1.1.2)) rfl (As := [.int (nI t), .int 5]) (rest := []) (z_tk D y l hZ13 ht (by omega) 5 (by decide)) (cwV 2 hts gL_law_X3_tick rfl rfl rfl (by decide +kernel) ⟨Nat.le_of_ble_eq_true rfl, Nat.le_of_ble_eq_true rfl⟩) rfl hl.1 rfl (Nat.le_of_ble_eq_true rfl) dL_law_467 ⟨(by show _ ≤ 626107; omega), (by show _ ≤ 7223304; omega)⟩ (fun v_37 u_ H locs hp hM => ?_)
          obtain ⟨hv_, J14, hu_, hlo14, hZ14⟩ := hp
          subst hv_
          subst hu_
          refine W.eq (g2 := F0 mv _ ls (.int (cwk (cf t) (cf t * rf t) (df t) B0 X 1) :: [])) (by rw [show (ctk (cf t) (rf t) (df t) (ngt (cf t) (cf t * rf t) (df t) B0 X) B0 0 5 : Int32) = cwk (cf t) (cf t * rf t) (df t) B0 X 1 from (ctk_5 _ _ _ _ _ _).trans rfl]) ?_
          refine lv_if_lt (tgt := 491) hx hb dL_law_470 (by decide) (fun c_38 => ?_) (fun c_38 => ?_)
          · skip
            refine W.widen (show _ ≤ ce + 100 by omega) (show _ ≤ sl + 600 by omega) ?_
            exact kk V2 J14 hZ14 _ _ hM ls (lv_sub hl [6, 8, 9, 10, 11, 12, 13, 14, 15] rfl)
          · skip
            refine lv_aload hx hb dL_law_473 (lv_at hl 8 rfl) ?_
            refine lv_aload hx hb dL_law_475 (lv_at hl 8 rfl) ?_
            refine fb_callSi hx hb hml hown hts hM (As := [.ref (sa S2 F)]) (rest := [.ref (sa S2 F)]) (c_L_coldest D y l S2 V2 J14 F (cf t * rf t) hW.1 hW.2 (by omega) (by omega) X (fun q hq => (hZ14.2.2.1 q hq 7 (by decide)).trans (by rw [eU]; rfl))) (va_cwS 1 hts gL_law_L_coldest rfl rfl rfl (by decide +kernel) ⟨Nat.le_of_ble_eq_true rfl, Nat.le_of_ble_eq_true rfl⟩) rfl hl.1 rfl (Nat.le_of_ble_eq_true rfl) dL_law_477 ⟨(by show _ ≤ 626107; omega), (by show _ ≤ 7223304; omega)⟩ (fun v_39 u_ H locs hp hM => ?_)
            obtain ⟨hv_, hu_⟩ := hp
            have hv_ := Eq.symm hv_
            have hu_ := Eq.symm hu_
            subst hv_
            subst hu_
            have hcl := cld_lt X (cf t * rf t)
            refine fb_aaldA (r := F) hx hb hM (hW.1.1) (ce10 (hW.1.2.1)) 4 rfl (k := cld X (cf t * rf t)) (nI_clamp (by omega)) (b := sa S2 (F + 1 + (cld X (cf t * rf t)))) ((hW.2 (cld X (cf t * rf t)) (by omega)).1) (by rw [hW.1.2.2]; exact vp_in_nI (by omega) (by omega)) dL_law_480 ?_
            refine lv_bipush (v := 7) hx hb dL_law_481 (by decide) ?_
            refine fb_iald (r := (F + 1 + (cld X (cf t * rf t)))) hx hb hM (((hW.2 (cld X (cf t * rf t)) (by omega)).2).1) (ce6 (((hW.2 (cld X (cf t * rf t)) (by omega)).2).2.1)) (k := 7) (by decide) (by rw [((hW.2 (cld X (cf t * rf t)) (by omega)).2).2.2]; exact pk_in 7 _ (by omega) (by decide) (by omega)) dL_law_483 ?_
            refine W.eq (g2 := F0 mv _ ls (.int (wm (X (cld X (cf t * rf t)))) :: [])) (by rw [show (J14 (F + 1 + (cld X (cf t * rf t))) 7 : Int32) = wm (X (cld X (cf t * rf t))) from (hZ14.2.2.1 _ (by omega) 7 (by decide)).trans (by rw [eU]; rfl)]) ?_
            refine lv_bipush (v := 40) hx hb dL_law_484 (by decide) ?_
            refine lv_icmp_lt (tgt := 491) hx hb dL_law_486 (by decide) (fun c_40 => ?_) (fun c_40 => absurd (ls_3 hls hv0_) c_40)
            refine W.widen (show _ ≤ ce + 100 by omega) (show _ ≤ sl + 600 by omega) ?_
            exact kk V2 J14 hZ14 _ _ hM ls (lv_sub hl [6, 8, 9, 10, 11, 12, 13, 14, 15] rfl)
    · skip
      have h2_ := c_28
      refine lv_aload_n hx hb dL_law_430 rfl (lv_at hl 14 rfl) ?_
      refine lv_iload hx hb dL_law_431 (lv_at hl 10 rfl) ?_
      refine lv_bipush (v := 40) hx hb dL_law_433 (by decide) ?_
      refine fb_callVi (r := 0) hx hb hml hown hts hM (hZ13.1.1.1.1.1) (ce3 (hZ13.1.1.1.1.2)) rfl (As := [.int (nI t), .int 40]) (rest := []) (z_ls D y l hZ13 ht (by omega)) (cwV 2 hts gL_law_X3_lasts rfl rfl rfl (by decide +kernel) ⟨Nat.le_of_ble_eq_true rfl, Nat.le_of_ble_eq_true rfl⟩) rfl hl.1 rfl (Nat.le_of_ble_eq_true rfl) dL_law_435 ⟨(by show _ ≤ 626107; omega), (by show _ ≤ 7223304; omega)⟩ (fun v_41 u_ H locs hp hM => ?_)
      obtain ⟨hls2, V14, J14, hu_, hZ14⟩ := hp
      subst hu_
      refine lv_iload hx hb dL_law_438 (lv_at hl 4 rfl) ?_
      refine lv_iconst (v := 1) hx hb dL_law_440 (by decide) ?_
      refine lv_isub hx hb dL_law_441 ?_
      refine lv_icmp_ne (tgt := 489) hx hb dL_law_442 (by decide) (fun c_42 => absurd (ls_1 hls hls2 (fun j => by unfold cwk; rw [ngs_1]) h1_ h2_) c_42) (fun c_42 => ?_)
      refine lv_iload hx hb dL_law_445 (lv_at hl 4 rfl) ?_
      refine lv_iconst (v := 1) hx hb dL_law_447 (by decide) ?_
      refine lv_icmp_ne (tgt := 458) hx hb dL_law_448 (by decide) (fun c_43 => ?_) (fun c_43 => ?_)
      · skip
        refine lv_iload hx hb dL_law_458 (lv_at hl 4 rfl) ?_
        refine lv_if_ne (tgt := 491) hx hb dL_law_460 (by decide) (fun c_44 => ?_) (fun c_44 => ?_)
        · skip
          refine W.widen (show _ ≤ ce + 100 by omega) (show _ ≤ sl + 600 by omega) ?_
          exact kk V14 J14 hZ14 _ _ hM ls (lv_sub hl [6, 8, 9, 10, 11, 12, 13, 14, 15] rfl)
        · skip
          have hv0_ := c_44
          refine lv_aload_n hx hb dL_law_463 rfl (lv_at hl 14 rfl) ?_
          refine lv_iload hx hb dL_law_464 (lv_at hl 10 rfl) ?_
          refine lv_iconst (v := 5) hx hb dL_law_466 (by decide) ?_
          refine fb_callVi (r := 0) hx hb hml hown hts hM (hZ14.1.1.1.1.1) (ce3 (hZ14.1.1.1.1.2)) rfl (As := [.int (nI t), .int 5]) (rest := []) (z_tk D y l hZ14 ht (by omega) 5 (by decide)) (cwV 2 hts gL_law_X3_tick rfl rfl rfl (by decide +kernel) ⟨Nat.le_of_ble_eq_true rfl, Nat.le_of_ble_eq_true rfl⟩) rfl hl.1 rfl (Nat.le_of_ble_eq_true rfl) dL_law_467 ⟨(by show _ ≤ 626107; omega), (by show _ ≤ 7223304; omega)⟩ (fun v_45 u_ H locs hp hM => ?_)
          obtain ⟨hv_, J15, hu_, hlo15, hZ15⟩ := hp
          subst hv_
          subst hu_
          refine W.eq (g2 := F0 mv _ ls (.int (cwk (cf t) (cf t * rf t) (df t) B0 X 1) :: [])) (by rw [show (ctk (cf t) (rf t) (df t) (ngt (cf t) (cf t * rf t) (df t) B0 X) B0 0 5 : Int32) = cwk (cf t) (cf t * rf t) (df t) B0 X 1 from (ctk_5 _ _ _ _ _ _).trans rfl]) ?_
          refine lv_if_lt (tgt := 491) hx hb dL_law_470 (by decide) (fun c_46 => ?_) (fun c_46 => ?_)
          · skip
            refine W.widen (show _ ≤ ce + 100 by omega) (show _ ≤ sl + 600 by omega) ?_
            exact kk V14 J15 hZ15 _ _ hM ls (lv_sub hl [6, 8, 9, 10, 11, 12, 13, 14, 15] rfl)
          · skip
            refine lv_aload hx hb dL_law_473 (lv_at hl 8 rfl) ?_
            refine lv_aload hx hb dL_law_475 (lv_at hl 8 rfl) ?_
            refine fb_callSi hx hb hml hown hts hM (As := [.ref (sa S2 F)]) (rest := [.ref (sa S2 F)]) (c_L_coldest D y l S2 V14 J15 F (cf t * rf t) hW.1 hW.2 (by omega) (by omega) X (fun q hq => (hZ15.2.2.1 q hq 7 (by decide)).trans (by rw [eU]; rfl))) (va_cwS 1 hts gL_law_L_coldest rfl rfl rfl (by decide +kernel) ⟨Nat.le_of_ble_eq_true rfl, Nat.le_of_ble_eq_true rfl⟩) rfl hl.1 rfl (Nat.le_of_ble_eq_true rfl) dL_law_477 ⟨(by show _ ≤ 626107; omega), (by show _ ≤ 7223304; omega)⟩ (fun v_47 u_ H locs hp hM => ?_)
            obtain ⟨hv_, hu_⟩ := hp
            have hv_ := Eq.symm hv_
            have hu_ := Eq.symm hu_
            subst hv_
            subst hu_
            have hcl := cld_lt X (cf t * rf t)
            refine fb_aaldA (r := F) hx hb hM (hW.1.1) (ce10 (hW.1.2.1)) 4 rfl (k := cld X (cf t * rf t)) (nI_clamp (by omega)) (b := sa S2 (F + 1 + (cld X (cf t * rf t)))) ((hW.2 (cld X (cf t * rf t)) (by omega)).1) (by rw [hW.1.2.2]; exact vp_in_nI (by omega) (by omega)) dL_law_480 ?_
            refine lv_bipush (v := 7) hx hb dL_law_481 (by decide) ?_
            refine fb_iald (r := (F + 1 + (cld X (cf t * rf t)))) hx hb hM (((hW.2 (cld X (cf t * rf t)) (by omega)).2).1) (ce6 (((hW.2 (cld X (cf t * rf t)) (by omega)).2).2.1)) (k := 7) (by decide) (by rw [((hW.2 (cld X (cf t * rf t)) (by omega)).2).2.2]; exact pk_in 7 _ (by omega) (by decide) (by omega)) dL_law_483 ?_
            refine W.eq (g2 := F0 mv _ ls (.int (wm (X (cld X (cf t * rf t)))) :: [])) (by rw [show (J15 (F + 1 + (cld X (cf t * rf t))) 7 : Int32) = wm (X (cld X (cf t * rf t))) from (hZ15.2.2.1 _ (by omega) 7 (by decide)).trans (by rw [eU]; rfl)]) ?_
            refine lv_bipush (v := 40) hx hb dL_law_484 (by decide) ?_
            refine lv_icmp_lt (tgt := 491) hx hb dL_law_486 (by decide) (fun c_48 => ?_) (fun c_48 => absurd (ls_3 hls hv0_) c_48)
            refine W.widen (show _ ≤ ce + 100 by omega) (show _ ≤ sl + 600 by omega) ?_
            exact kk V14 J15 hZ15 _ _ hM ls (lv_sub hl [6, 8, 9, 10, 11, 12, 13, 14, 15] rfl)
      · skip
        have hv1_ := c_43
        refine lv_iload hx hb dL_law_451 (lv_at hl 6 rfl) ?_
        refine lv_bipush (v := 40) hx hb dL_law_453 (by decide) ?_
        refine lv_icmp_ge (tgt := 489) hx hb dL_law_455 (by decide) (fun c_49 => absurd c_49 (Int32.not_le.mpr (ls_2 hls hv1_))) (fun c_49 => ?_)
        refine lv_iload hx hb dL_law_458 (lv_at hl 4 rfl) ?_
        refine lv_if_ne (tgt := 491) hx hb dL_law_460 (by decide) (fun c_50 => ?_) (fun c_50 => ?_)
        · skip
          refine W.widen (show _ ≤ ce + 100 by omega) (show _ ≤ sl + 600 by omega) ?_
          exact kk V14 J14 hZ14 _ _ hM ls (lv_sub hl [6, 8, 9, 10, 11, 12, 13, 14, 15] rfl)
        · skip
          have hv0_ := c_50
          refine lv_aload_n hx hb dL_law_463 rfl (lv_at hl 14 rfl) ?_
          refine lv_iload hx hb dL_law_464 (lv_at hl 10 rfl) ?_
          refine lv_iconst (v := 5) hx hb dL_law_466 (by decide) ?_
          refine fb_callVi (r := 0) hx hb hml hown hts hM (hZ14.1.1.1.1.1) (ce3 (hZ14.1.1.1.1.2)) rfl (As := [.int (nI t), .int 5]) (rest := []) (z_tk D y l hZ14 ht (by omega) 5 (by decide)) (cwV 2 hts gL_law_X3_tick rfl rfl rfl (by decide +kernel) ⟨Nat.le_of_ble_eq_true rfl, Nat.le_of_ble_eq_true rfl⟩) rfl hl.1 rfl (Nat.le_of_ble_eq_true rfl) dL_law_467 ⟨(by show _ ≤ 626107; omega), (by show _ ≤ 7223304; omega)⟩ (fun v_51 u_ H locs hp hM => ?_)
          obtain ⟨hv_, J15, hu_, hlo15, hZ15⟩ := hp
          subst hv_
          subst hu_
          refine W.eq (g2 := F0 mv _ ls (.int (cwk (cf t) (cf t * rf t) (df t) B0 X 1) :: [])) (by rw [show (ctk (cf t) (rf t) (df t) (ngt (cf t) (cf t * rf t) (df t) B0 X) B0 0 5 : Int32) = cwk (cf t) (cf t * rf t) (df t) B0 X 1 from (ctk_5 _ _ _ _ _ _).trans rfl]) ?_
          refine lv_if_lt (tgt := 491) hx hb dL_law_470 (by decide) (fun c_52 => ?_) (fun c_52 => ?_)
          · skip
            refine W.widen (show _ ≤ ce + 100 by omega) (show _ ≤ sl + 600 by omega) ?_
            exact kk V14 J15 hZ15 _ _ hM ls (lv_sub hl [6, 8, 9, 10, 11, 12, 13, 14, 15] rfl)
          · skip
            refine lv_aload hx hb dL_law_473 (lv_at hl 8 rfl) ?_
            refine lv_aload hx hb dL_law_475 (lv_at hl 8 rfl) ?_
            refine fb_callSi hx hb hml hown hts hM (As := [.ref (sa S2 F)]) (rest := [.ref (sa S2 F)]) (c_L_coldest D y l S2 V14 J15 F (cf t * rf t) hW.1 hW.2 (by omega) (by omega) X (fun q hq => (hZ15.2.2.1 q hq 7 (by decide)).trans (by rw [eU]; rfl))) (va_cwS 1 hts gL_law_L_coldest rfl rfl rfl (by decide +kernel) ⟨Nat.le_of_ble_eq_true rfl, Nat.le_of_ble_eq_true rfl⟩) rfl hl.1 rfl (Nat.le_of_ble_eq_true rfl) dL_law_477 ⟨(by show _ ≤ 626107; omega), (by show _ ≤ 7223304; omega)⟩ (fun v_53 u_ H locs hp hM => ?_)
            obtain ⟨hv_, hu_⟩ := hp
            have hv_ := Eq.symm hv_
            have hu_ := Eq.symm hu_
            subst hv_
            subst hu_
            have hcl := cld_lt X (cf t * rf t)
            refine fb_aaldA (r := F) hx hb hM (hW.1.1) (ce10 (hW.1.2.1)) 4 rfl (k := cld X (cf t * rf t)) (nI_clamp (by omega)) (b := sa S2 (F + 1 + (cld X (cf t * rf t)))) ((hW.2 (cld X (cf t * rf t)) (by omega)).1) (by rw [hW.1.2.2]; exact vp_in_nI (by omega) (by omega)) dL_law_480 ?_
            refine lv_bipush (v := 7) hx hb dL_law_481 (by decide) ?_
            refine fb_iald (r := (F + 1 + (cld X (cf t * rf t)))) hx hb hM (((hW.2 (cld X (cf t * rf t)) (by omega)).2).1) (ce6 (((hW.2 (cld X (cf t * rf t)) (by omega)).2).2.1)) (k := 7) (by decide) (by rw [((hW.2 (cld X (cf t * rf t)) (by omega)).2).2.2]; exact pk_in 7 _ (by omega) (by decide) (by omega)) dL_law_483 ?_
            refine W.eq (g2 := F0 mv _ ls (.int (wm (X (cld X (cf t * rf t)))) :: [])) (by rw [show (J15 (F + 1 + (cld X (cf t * rf t))) 7 : Int32) = wm (X (cld X (cf t * rf t))) from (hZ15.2.2.1 _ (by omega) 7 (by decide)).trans (by rw [eU]; rfl)]) ?_
            refine lv_bipush (v := 40) hx hb dL_law_484 (by decide) ?_
            refine lv_icmp_lt (tgt := 491) hx hb dL_law_486 (by decide) (fun c_54 => ?_) (fun c_54 => absurd (ls_3 hls hv0_) c_54)
            refine W.widen (show _ ≤ ce + 100 by omega) (show _ ≤ sl + 600 by omega) ?_
            exact kk V14 J15 hZ15 _ _ hM ls (lv_sub hl [6, 8, 9, 10, 11, 12, 13, 14, 15] rfl)
