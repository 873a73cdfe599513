section LAWS
variable {p : Program} {l : Launch} {e : Env} {s : State} {m : MethodId} {args : Array Value} {below : List Frame} {meth : Method} {c : Code} {H : Heap} {locs : List Loc} {cells slots : Nat} {Q : State → Prop} {D : va_G} {A : Nat → Prop} {y : Nat → ClassId} {a0 : Nat × Nat} {b L : Nat} {xs : Nat → Int32} {S : fb_Sh} {V I : fb_V} {ls : Array Slot}
set_option maxHeartbeats 4000000 in
set_option maxRecDepth 100000 in
theorem stp_foresee (hL : Lw p l s m args c D A y a0 b L xs) {o j ns nt es na N : Nat} {cf rf df : Nat → Nat} (hM : fb_M D y A s (S, V, (sT V), I) H locs) (hI : Iv a0.1 S V I o ns nt es na cf rf df N) (ho : o = 1000) (hj : j + 5 ≤ L) (hN : N ≤ 1600000) (hc : cells + 1100 ≤ room_1.cells) (hs : slots + 14000 ≤ room_1.slots) (hl : lv_has ls 9 [(4, .int (nI j)), (3, .ref (sa S 2000)), (2, .ref (sa S o)), (1, .ref (sa S 0)), (0, .ref b)]) (K : Kont p l e s m args below meth c Q D A y a0.1 o b j N cells slots) : W p l e room_1 s m args below meth c H locs cells slots Q (F0 m 1372 ls []) := by
  obtain ⟨hx, hb, hml, hown, hts, hE, hNc, hfl, hX, hbl, hbA, hL2⟩ := hL
  have hI0 := hI
  obtain ⟨⟨hC, hA, hO⟩, ⟨hEs, hFr⟩, ⟨hF, hG⟩, hR⟩ := hI
  have hns : ns ≤ 12 := hF.2.2.1
  have hnt : nt ≤ 6 := hF.2.2.2.1
  have h03 : 0 ∈ sR S ∧ sk S 0 = 3 := hC.1
  obtain ⟨p0, hp0⟩ : ∃ v, xs (j + 1) = v := ⟨_, rfl⟩
  obtain ⟨p1, hp1⟩ : ∃ v, xs (j + 2) = v := ⟨_, rfl⟩
  obtain ⟨p2, hp2⟩ : ∃ v, xs (j + 3) = v := ⟨_, rfl⟩
  refine lv_aload_n hx hb dL_law_1372 rfl (lv_at hl 3 rfl) ?_
  refine law_arg hx hb hX hbl hbA hM.2.2.1 (lv_sub hl [4, 0] rfl) 1 (by decide) (by omega) hL2 hp0 dL_law_1373 dL_law_1374 dL_law_1376 dL_law_1377 dL_law_1378 ?_
  refine law_arg hx hb hX hbl hbA hM.2.2.1 (lv_sub hl [4, 0] rfl) 2 (by decide) (by omega) hL2 hp1 dL_law_1379 dL_law_1380 dL_law_1382 dL_law_1383 dL_law_1384 ?_
  refine law_arg hx hb hX hbl hbA hM.2.2.1 (lv_sub hl [4, 0] rfl) 3 (by decide) (by omega) hL2 hp2 dL_law_1385 dL_law_1386 dL_law_1388 dL_law_1389 dL_law_1390 ?_
  refine lv_aload_n hx hb dL_law_1391 rfl (lv_at hl 1 rfl) ?_
  rcases rg_ix p0 (n := nt) (by omega) with hq0 | ⟨t, ht, rfl⟩
  · skip
    refine fb_callW hx hb hml hown hts hM hE hNc (As := [.ref (sa S 0), .int p0, .int p1, .int p2, .ref (sa S 2000)]) (rest := []) (c_L_foresee_IOE a0 D y l S V I h03 hO p0 p1 p2 (c_X3_foresee_x0 a0 D y l hfl S V I a0.1 ns nt es na hC cf rf df hF p0 hq0 p1 p2)) (vx_cwSW 5 hts gL_law_L_foresee rfl rfl rfl (by decide +kernel) ⟨Nat.le_of_ble_eq_true rfl, Nat.le_of_ble_eq_true rfl⟩) rfl hl.1 rfl (Nat.le_of_ble_eq_true rfl) dL_law_1392 ⟨by omega, by omega⟩ (fun v1 u H locs hp hM => ?_)
    obtain ⟨hv_, hu_⟩ := hp
    have hv_ : v1 = nI 1 := hv_.trans (by decide)
    have hv_ := hv_.symm
    have hu_ := hu_.symm
    subst hv_
    subst hu_
    refine lv_istore (lv' := [(5, .int (nI 1)), (4, .int (nI j)), (3, .ref (sa S 2000)), (2, .ref (sa S o)), (1, .ref (sa S 0)), (0, .ref b)]) hx hb dL_law_1395 hl (by decide) rfl (fun ls hl => ?_)
    refine lv_aload_n hx hb dL_law_1397 rfl (lv_at hl 3 rfl) ?_
    refine law_arg hx hb hX hbl hbA hM.2.2.1 (lv_sub hl [5, 1] rfl) 1 (by decide) (by omega) hL2 hp0 dL_law_1398 dL_law_1399 dL_law_1401 dL_law_1402 dL_law_1403 ?_
    refine law_arg hx hb hX hbl hbA hM.2.2.1 (lv_sub hl [5, 1] rfl) 2 (by decide) (by omega) hL2 hp1 dL_law_1404 dL_law_1405 dL_law_1407 dL_law_1408 dL_law_1409 ?_
    refine law_arg hx hb hX hbl hbA hM.2.2.1 (lv_sub hl [5, 1] rfl) 3 (by decide) (by omega) hL2 hp2 dL_law_1410 dL_law_1411 dL_law_1413 dL_law_1414 dL_law_1415 ?_
    refine fb_callVi (r := o) hx hb hml hown hts hM (hA.1.1) (ce4 (hA.1.2)) rfl (As := [.int p0, .int p1, .int p2]) (rest := []) (CI.grow (mc' := 1) (ms' := 216) (c_X4_foresee_f0o D y l S V I o nt cf rf hA ns df hG p0 hq0 p1 p2) (Nat.zero_le _) (Nat.zero_le _)) (cwV 3 hts gL_law_X4_foresee rfl rfl rfl (by decide +kernel) ⟨Nat.le_of_ble_eq_true rfl, Nat.le_of_ble_eq_true rfl⟩) rfl hl.1 rfl (Nat.le_of_ble_eq_true rfl) dL_law_1416 ⟨by omega, by omega⟩ (fun v3 u H locs hp hM => ?_)
    obtain ⟨hv_, hu_⟩ := hp
    have hu_ := hu_.symm
    subst hu_
    refine lv_istore (lv' := [(6, .int v3), (5, .int (nI 1)), (4, .int (nI j)), (3, .ref (sa S 2000)), (2, .ref (sa S o)), (1, .ref (sa S 0)), (0, .ref b)]) hx hb dL_law_1419 hl (by decide) rfl (fun ls hl => ?_)
    have hIv := hI0.same ho (sam_tf I o 1) (VSame.rf V) hR.2.2.2.2.2
    have hth : tf I o 1 o 0 = nI 1 := by unfold tf; rw [va_up_self]; rfl
    refine law_tail (T := 1421) (off := 194) ⟨dL_law_1421, dL_law_1422, dL_law_1425, dL_law_1427, dL_law_1432, dL_law_1434, dL_law_1437, dL_law_1438, dL_law_1439, dL_law_1440, dL_law_1442, dL_law_1443, dL_law_1444, dL_law_1449, by omega⟩ hx hb hml hown hts hM hIv.1.2.1 hIv.1.2.2 (k := 1) (by decide) (lv_sub hl [4, 3, 1, 0] rfl) hth (fun hz9 => absurd hz9 (by decide)) (by omega) (by omega) (fun H locs hM => ?_) rfl
    exact W.widen (by omega) (by omega) (K _ _ _ _ _ _ _ _ _ _ _ _ _ _ (by omega) hIv hM (lv_sub hl [2, 3, 4, 5, 6] rfl))
  · skip
    have hcr := (hF.2.2.2.2 t ht).le
    have hc1 : 1 ≤ cf t := (hF.2.2.2.2 t ht).2.2.2.2.1
    have hd9 : df t ≤ 9 := (hF.2.2.2.2 t ht).2.2.2.2.2.2.2.2.2
    have hT9 := (hR.2.2.2.2.1 t ht)
    have t6 : t < 6 := by omega
    rcases rg_ix p2 (n := 3) (by decide) with hq2 | ⟨k, hk, rfl⟩
    · skip
      have hr2 : p2 < 0 ∨ 2 < p2 := hq2.imp id (fun z => Int32.lt_of_lt_of_le (by decide) z)
      have hw2 : p2 < 0 ∨ 3 ≤ p2 := hq2
      refine fb_callW hx hb hml hown hts hM hE hNc (As := [.ref (sa S 0), .int (nI t), .int p1, .int p2, .ref (sa S 2000)]) (rest := []) (c_L_foresee_IOE a0 D y l S V I h03 hO (nI t) p1 p2 (c_X3_foresee_x1 a0 D y l hfl S V I a0.1 ns nt es na hC cf rf df hF t ht p2 hw2 p1)) (vx_cwSW 5 hts gL_law_L_foresee rfl rfl rfl (by decide +kernel) ⟨Nat.le_of_ble_eq_true rfl, Nat.le_of_ble_eq_true rfl⟩) rfl hl.1 rfl (Nat.le_of_ble_eq_true rfl) dL_law_1392 ⟨by omega, by omega⟩ (fun v1 u H locs hp hM => ?_)
      obtain ⟨hv_, hu_⟩ := hp
      have hv_ : v1 = nI 1 := hv_.trans (by decide)
      have hv_ := hv_.symm
      have hu_ := hu_.symm
      subst hv_
      subst hu_
      refine lv_istore (lv' := [(5, .int (nI 1)), (4, .int (nI j)), (3, .ref (sa S 2000)), (2, .ref (sa S o)), (1, .ref (sa S 0)), (0, .ref b)]) hx hb dL_law_1395 hl (by decide) rfl (fun ls hl => ?_)
      refine lv_aload_n hx hb dL_law_1397 rfl (lv_at hl 3 rfl) ?_
      refine law_arg hx hb hX hbl hbA hM.2.2.1 (lv_sub hl [5, 1] rfl) 1 (by decide) (by omega) hL2 hp0 dL_law_1398 dL_law_1399 dL_law_1401 dL_law_1402 dL_law_1403 ?_
      refine law_arg hx hb hX hbl hbA hM.2.2.1 (lv_sub hl [5, 1] rfl) 2 (by decide) (by omega) hL2 hp1 dL_law_1404 dL_law_1405 dL_law_1407 dL_law_1408 dL_law_1409 ?_
      refine law_arg hx hb hX hbl hbA hM.2.2.1 (lv_sub hl [5, 1] rfl) 3 (by decide) (by omega) hL2 hp2 dL_law_1410 dL_law_1411 dL_law_1413 dL_law_1414 dL_law_1415 ?_
      refine fb_callVi (r := o) hx hb hml hown hts hM (hA.1.1) (ce4 (hA.1.2)) rfl (As := [.int (nI t), .int p1, .int p2]) (rest := []) (CI.grow (mc' := 1) (ms' := 216) ((c_X4_foresee_f1o D y l S V I o nt cf rf hA ns df hG t ht p2 hr2 p1)) (Nat.zero_le _) (Nat.zero_le _)) (cwV 3 hts gL_law_X4_foresee rfl rfl rfl (by decide +kernel) ⟨Nat.le_of_ble_eq_true rfl, Nat.le_of_ble_eq_true rfl⟩) rfl hl.1 rfl (Nat.le_of_ble_eq_true rfl) dL_law_1416 ⟨by omega, by omega⟩ (fun v3 u H locs hp hM => ?_)
      obtain ⟨hv_, hu_⟩ := hp
      have hu_ := hu_.symm
      subst hu_
      refine lv_istore (lv' := [(6, .int v3), (5, .int (nI 1)), (4, .int (nI j)), (3, .ref (sa S 2000)), (2, .ref (sa S o)), (1, .ref (sa S 0)), (0, .ref b)]) hx hb dL_law_1419 hl (by decide) rfl (fun ls hl => ?_)
      have hIv := hI0.same ho (sam_tf I o 1) (VSame.rf V) hR.2.2.2.2.2
      have hth : tf I o 1 o 0 = nI 1 := by unfold tf; rw [va_up_self]; rfl
      refine law_tail (T := 1421) (off := 194) ⟨dL_law_1421, dL_law_1422, dL_law_1425, dL_law_1427, dL_law_1432, dL_law_1434, dL_law_1437, dL_law_1438, dL_law_1439, dL_law_1440, dL_law_1442, dL_law_1443, dL_law_1444, dL_law_1449, by omega⟩ hx hb hml hown hts hM hIv.1.2.1 hIv.1.2.2 (k := 1) (by decide) (lv_sub hl [4, 3, 1, 0] rfl) hth (fun hz9 => absurd hz9 (by decide)) (by omega) (by omega) (fun H locs hM => ?_) rfl
      exact W.widen (by omega) (by omega) (K _ _ _ _ _ _ _ _ _ _ _ _ _ _ (by omega) hIv hM (lv_sub hl [2, 3, 4, 5, 6] rfl))
    · skip
      rcases rg_lh p1 1 200 (by decide) (by decide) with hq1 | ⟨z, hza, hz, rfl⟩
      · skip
        have hw1 : p1 < 1 ∨ 200 < p1 := hq1
        refine fb_callW hx hb hml hown hts hM hE hNc (As := [.ref (sa S 0), .int (nI t), .int p1, .int (nI k), .ref (sa S 2000)]) (rest := []) (c_L_foresee_IAE a0 D y l S V I h03 hO (nI t) p1 (nI k) (c_X3_foresee_x2 a0 D y l hfl S V I a0.1 ns nt es na hC cf rf df hF t ht k hk p1 hw1)) (vx_cwSW 5 hts gL_law_L_foresee rfl rfl rfl (by decide +kernel) ⟨Nat.le_of_ble_eq_true rfl, Nat.le_of_ble_eq_true rfl⟩) rfl hl.1 rfl (Nat.le_of_ble_eq_true rfl) dL_law_1392 ⟨by omega, by omega⟩ (fun v1 u H locs hp hM => ?_)
        obtain ⟨hv_, hu_⟩ := hp
        have hv_ : v1 = nI 2 := hv_.trans (by decide)
        have hv_ := hv_.symm
        have hu_ := hu_.symm
        subst hv_
        subst hu_
        refine lv_istore (lv' := [(5, .int (nI 2)), (4, .int (nI j)), (3, .ref (sa S 2000)), (2, .ref (sa S o)), (1, .ref (sa S 0)), (0, .ref b)]) hx hb dL_law_1395 hl (by decide) rfl (fun ls hl => ?_)
        refine lv_aload_n hx hb dL_law_1397 rfl (lv_at hl 3 rfl) ?_
        refine law_arg hx hb hX hbl hbA hM.2.2.1 (lv_sub hl [5, 1] rfl) 1 (by decide) (by omega) hL2 hp0 dL_law_1398 dL_law_1399 dL_law_1401 dL_law_1402 dL_law_1403 ?_
        refine law_arg hx hb hX hbl hbA hM.2.2.1 (lv_sub hl [5, 1] rfl) 2 (by decide) (by omega) hL2 hp1 dL_law_1404 dL_law_1405 dL_law_1407 dL_law_1408 dL_law_1409 ?_
        refine law_arg hx hb hX hbl hbA hM.2.2.1 (lv_sub hl [5, 1] rfl) 3 (by decide) (by omega) hL2 hp2 dL_law_1410 dL_law_1411 dL_law_1413 dL_law_1414 dL_law_1415 ?_
        refine fb_callVi (r := o) hx hb hml hown hts hM (hA.1.1) (ce4 (hA.1.2)) rfl (As := [.int (nI t), .int p1, .int (nI k)]) (rest := []) (CI.grow (mc' := 1) (ms' := 216) ((c_X4_foresee_f2o D y l S V I o nt cf rf hA ns df hG t ht k (Nat.zero_le _) (by omega) p1 hw1)) (Nat.zero_le _) (Nat.zero_le _)) (cwV 3 hts gL_law_X4_foresee rfl rfl rfl (by decide +kernel) ⟨Nat.le_of_ble_eq_true rfl, Nat.le_of_ble_eq_true rfl⟩) rfl hl.1 rfl (Nat.le_of_ble_eq_true rfl) dL_law_1416 ⟨by omega, by omega⟩ (fun v3 u H locs hp hM => ?_)
        obtain ⟨hv_, hu_⟩ := hp
        have hu_ := hu_.symm
        subst hu_
        refine lv_istore (lv' := [(6, .int v3), (5, .int (nI 2)), (4, .int (nI j)), (3, .ref (sa S 2000)), (2, .ref (sa S o)), (1, .ref (sa S 0)), (0, .ref b)]) hx hb dL_law_1419 hl (by decide) rfl (fun ls hl => ?_)
        have hIv := hI0.same ho (sam_tf I o 2) (VSame.rf V) hR.2.2.2.2.2
        have hth : tf I o 2 o 0 = nI 2 := by unfold tf; rw [va_up_self]; rfl
        refine law_tail (T := 1421) (off := 194) ⟨dL_law_1421, dL_law_1422, dL_law_1425, dL_law_1427, dL_law_1432, dL_law_1434, dL_law_1437, dL_law_1438, dL_law_1439, dL_law_1440, dL_law_1442, dL_law_1443, dL_law_1444, dL_law_1449, by omega⟩ hx hb hml hown hts hM hIv.1.2.1 hIv.1.2.2 (k := 2) (by decide) (lv_sub hl [4, 3, 1, 0] rfl) hth (fun hz9 => absurd hz9 (by decide)) (by omega) (by omega) (fun H locs hM => ?_) rfl
        exact W.widen (by omega) (by omega) (K _ _ _ _ _ _ _ _ _ _ _ _ _ _ (by omega) hIv hM (lv_sub hl [2, 3, 4, 5, 6] rfl))
      · skip
        rcases (show k = 0 ∨ k = 1 ∨ k = 2 by omega) with rfl | rfl | rfl
        · skip
          refine fb_callW hx hb hml hown hts hM hE hNc (As := [.ref (sa S 0), .int (nI t), .int (nI z), .int (nI 0), .ref (sa S 2000)]) (rest := []) (c_L_foresee_ok a0 D y l S V I h03 hO (nI t) (nI z) (nI 0) (c_X3_foresee_ok0 D y l S V I a0.1 ns nt es na hC cf rf df hF t ht z hza hz (an_NF hT9 t6 hR.2.2.2.2.2 hc1 hcr.2 hd9 z _)) (fun v u hq => by obtain ⟨_, hq⟩ := hq; subst hq; exact ⟨hO, rfl⟩)) (vx_cwSW 5 hts gL_law_L_foresee rfl rfl rfl (by decide +kernel) ⟨Nat.le_of_ble_eq_true rfl, Nat.le_of_ble_eq_true rfl⟩) rfl hl.1 rfl (Nat.le_of_ble_eq_true rfl) dL_law_1392 ⟨by omega, by omega⟩ (fun v1 u H locs hp hM => ?_)
          obtain ⟨hv_, v2, u1, hq, hu_⟩ := hp
          have hv_ : v1 = nI 0 := hv_
          have hv_ := hv_.symm
          subst hv_
          obtain ⟨hq1, hq2⟩ := hq
          subst hq2
          subst hq1
          obtain ⟨J, eJ⟩ : ∃ J, J = va_up (trI I (30 + 4 * t) (cf t) (rf t) (df t)) 2000 (upd ((trI I (30 + 4 * t) (cf t) (rf t) (df t)) 2000) 0 (fsum (ngs (cf t) (cf t * rf t) (df t) (trB I (30 + 4 * t)) (trX V (300 + 72 * t)) z) 36)) := ⟨_, rfl⟩
          have hM : fb_M D y A s (S, (stv (trV V (300 + 72 * t)) 732 (ngs (cf t) (cf t * rf t) (df t) (trB I (30 + 4 * t)) (trX V (300 + 72 * t)) z)), (sT (stv (trV V (300 + 72 * t)) 732 (ngs (cf t) (cf t * rf t) (df t) (trB I (30 + 4 * t)) (trX V (300 + 72 * t)) z))), J) H locs := by rw [hu_] at hM; rw [eJ]; exact hM
          have hG2 : MF J o ns nt cf rf df := by rw [eJ]; exact mf_same ho hG ((sam_tri ho ((Tri.rf I).trI (30 + 4 * t) (cf t) (rf t) (df t))).trans (sam_out _ ho _))
          refine lv_istore (lv' := [(5, .int (nI 0)), (4, .int (nI j)), (3, .ref (sa S 2000)), (2, .ref (sa S o)), (1, .ref (sa S 0)), (0, .ref b)]) hx hb dL_law_1395 hl (by decide) rfl (fun ls hl => ?_)
          refine lv_aload_n hx hb dL_law_1397 rfl (lv_at hl 3 rfl) ?_
          refine law_arg hx hb hX hbl hbA hM.2.2.1 (lv_sub hl [5, 1] rfl) 1 (by decide) (by omega) hL2 hp0 dL_law_1398 dL_law_1399 dL_law_1401 dL_law_1402 dL_law_1403 ?_
          refine law_arg hx hb hX hbl hbA hM.2.2.1 (lv_sub hl [5, 1] rfl) 2 (by decide) (by omega) hL2 hp1 dL_law_1404 dL_law_1405 dL_law_1407 dL_law_1408 dL_law_1409 ?_
          refine law_arg hx hb hX hbl hbA hM.2.2.1 (lv_sub hl [5, 1] rfl) 3 (by decide) (by omega) hL2 hp2 dL_law_1410 dL_law_1411 dL_law_1413 dL_law_1414 dL_law_1415 ?_
          refine fb_callVi (r := o) hx hb hml hown hts hM (hA.1.1) (ce4 (hA.1.2)) rfl (As := [.int (nI t), .int (nI z), .int (nI 0)]) (rest := []) (c_X4_foresee_ok0 D y l S (stv (trV V (300 + 72 * t)) 732 (ngs (cf t) (cf t * rf t) (df t) (trB I (30 + 4 * t)) (trX V (300 + 72 * t)) z)) J o nt cf rf hA ns df hG2 t ht 0 (by decide) (by decide) z hza hz hFr.2.2.2.2.2.1) (cwV 3 hts gL_law_X4_foresee rfl rfl rfl (by decide +kernel) ⟨Nat.le_of_ble_eq_true rfl, Nat.le_of_ble_eq_true rfl⟩) rfl hl.1 rfl (Nat.le_of_ble_eq_true rfl) dL_law_1416 ⟨by omega, by omega⟩ (fun v3 u H locs hp hM => ?_)
          obtain ⟨hv_, hu_⟩ := hp
          have hu_ := hu_.symm
          subst hu_
          refine lv_istore (lv' := [(6, .int v3), (5, .int (nI 0)), (4, .int (nI j)), (3, .ref (sa S 2000)), (2, .ref (sa S o)), (1, .ref (sa S 0)), (0, .ref b)]) hx hb dL_law_1419 hl (by decide) rfl (fun ls hl => ?_)
          have ej20 : J (o + 20 + t) = I (o + 20 + t) := by rw [eJ, va_up_ne _ _ (show o + 20 + t ≠ 2000 by omega)]; exact trI_out _ _ _ _ _ (by omega) (by omega)
          have ej10 : J (o + 10 + t) = I (o + 10 + t) := by rw [eJ, va_up_ne _ _ (show o + 10 + t ≠ 2000 by omega)]; exact trI_out _ _ _ _ _ (by omega) (by omega)
          rw [ej20, ej10] at hv_
          have hth : t0 J o o 0 = nI 0 := by unfold t0; rw [va_up_self]; rfl
          have hIv := hI0.same (J := t0 J o) (V' := (stv (trV V (300 + 72 * t)) 732 (ngs (cf t) (cf t * rf t) (df t) (trB I (30 + 4 * t)) (trX V (300 + 72 * t)) z))) ho (by rw [eJ]; exact ((sam_tri ho ((Tri.rf I).trI (30 + 4 * t) (cf t) (rf t) (df t))).trans (sam_out _ ho _)).trans (sam_t0 _ o)) (fun h9 hh9 => (stv_out _ _ _ (by omega)).trans (stv_out _ _ _ (by omega)) : VSame V (stv (trV V (300 + 72 * t)) 732 (ngs (cf t) (cf t * rf t) (df t) (trB I (30 + 4 * t)) (trX V (300 + 72 * t)) z))) (TZ_stv _ (ngs_B rfl hc1 hcr.2 hd9 (fun q9 hq9 => by rw [an_tX hT9 t6 hR.2.2.2.2.2 q9 hq9]; exact (hT9.2.1 q9 hq9).2 : BX (trX V (300 + 72 * t))) z).tz)
          refine law_tail (T := 1421) (off := 194) ⟨dL_law_1421, dL_law_1422, dL_law_1425, dL_law_1427, dL_law_1432, dL_law_1434, dL_law_1437, dL_law_1438, dL_law_1439, dL_law_1440, dL_law_1442, dL_law_1443, dL_law_1444, dL_law_1449, by omega⟩ hx hb hml hown hts hM hIv.1.2.1 hIv.1.2.2 (k := 0) (by decide) (lv_sub hl [4, 3, 1, 0] rfl) hth (fun hz9 => (show t0 J o 2000 0 = (fsum (ngs (cf t) (cf t * rf t) (df t) (trB I (30 + 4 * t)) (trX V (300 + 72 * t)) z) 36) from by simp (discharger := omega) only [va_up_ne, va_up_self, t0_ne, eJ]; exact if_pos rfl).trans (by rw [hv_]; exact an_f0 hT9 t6 hR.2.2.2.2.2 hc1 hcr.2 (df t) z)) (by omega) (by omega) (fun H locs hM => ?_) rfl
          exact W.widen (by omega) (by omega) (K _ _ _ _ _ _ _ _ _ _ _ _ _ _ (by omega) hIv hM (lv_sub hl [2, 3, 4, 5, 6] rfl))
        · skip
          refine fb_callW hx hb hml hown hts hM hE hNc (As := [.ref (sa S 0), .int (nI t), .int (nI z), .int (nI 1), .ref (sa S 2000)]) (rest := []) (c_L_foresee_ok a0 D y l S V I h03 hO (nI t) (nI z) (nI 1) (c_X3_foresee_ok1 D y l S V I a0.1 ns nt es na hC cf rf df hF t ht z hza hz (an_NF hT9 t6 hR.2.2.2.2.2 hc1 hcr.2 hd9 z _)) (fun v u hq => by obtain ⟨_, hq⟩ := hq; subst hq; exact ⟨hO, rfl⟩)) (vx_cwSW 5 hts gL_law_L_foresee rfl rfl rfl (by decide +kernel) ⟨Nat.le_of_ble_eq_true rfl, Nat.le_of_ble_eq_true rfl⟩) rfl hl.1 rfl (Nat.le_of_ble_eq_true rfl) dL_law_1392 ⟨by omega, by omega⟩ (fun v1 u H locs hp hM => ?_)
          obtain ⟨hv_, v2, u1, hq, hu_⟩ := hp
          have hv_ : v1 = nI 0 := hv_
          have hv_ := hv_.symm
          subst hv_
          obtain ⟨hq1, hq2⟩ := hq
          subst hq2
          subst hq1
          obtain ⟨J, eJ⟩ : ∃ J, J = va_up (trI I (30 + 4 * t) (cf t) (rf t) (df t)) 2000 (upd ((trI I (30 + 4 * t) (cf t) (rf t) (df t)) 2000) 0 (wm ((ngs (cf t) (cf t * rf t) (df t) (trB I (30 + 4 * t)) (trX V (300 + 72 * t)) z) (cld (ngs (cf t) (cf t * rf t) (df t) (trB I (30 + 4 * t)) (trX V (300 + 72 * t)) z) (cf t * rf t))))) := ⟨_, rfl⟩
          have hM : fb_M D y A s (S, (stv (trV V (300 + 72 * t)) 732 (ngs (cf t) (cf t * rf t) (df t) (trB I (30 + 4 * t)) (trX V (300 + 72 * t)) z)), (sT (stv (trV V (300 + 72 * t)) 732 (ngs (cf t) (cf t * rf t) (df t) (trB I (30 + 4 * t)) (trX V (300 + 72 * t)) z))), J) H locs := by rw [hu_] at hM; rw [eJ]; exact hM
          have hG2 : MF J o ns nt cf rf df := by rw [eJ]; exact mf_same ho hG ((sam_tri ho ((Tri.rf I).trI (30 + 4 * t) (cf t) (rf t) (df t))).trans (sam_out _ ho _))
          refine lv_istore (lv' := [(5, .int (nI 0)), (4, .int (nI j)), (3, .ref (sa S 2000)), (2, .ref (sa S o)), (1, .ref (sa S 0)), (0, .ref b)]) hx hb dL_law_1395 hl (by decide) rfl (fun ls hl => ?_)
          refine lv_aload_n hx hb dL_law_1397 rfl (lv_at hl 3 rfl) ?_
          refine law_arg hx hb hX hbl hbA hM.2.2.1 (lv_sub hl [5, 1] rfl) 1 (by decide) (by omega) hL2 hp0 dL_law_1398 dL_law_1399 dL_law_1401 dL_law_1402 dL_law_1403 ?_
          refine law_arg hx hb hX hbl hbA hM.2.2.1 (lv_sub hl [5, 1] rfl) 2 (by decide) (by omega) hL2 hp1 dL_law_1404 dL_law_1405 dL_law_1407 dL_law_1408 dL_law_1409 ?_
          refine law_arg hx hb hX hbl hbA hM.2.2.1 (lv_sub hl [5, 1] rfl) 3 (by decide) (by omega) hL2 hp2 dL_law_1410 dL_law_1411 dL_law_1413 dL_law_1414 dL_law_1415 ?_
          refine fb_callVi (r := o) hx hb hml hown hts hM (hA.1.1) (ce4 (hA.1.2)) rfl (As := [.int (nI t), .int (nI z), .int (nI 1)]) (rest := []) (c_X4_foresee_ok1 D y l S (stv (trV V (300 + 72 * t)) 732 (ngs (cf t) (cf t * rf t) (df t) (trB I (30 + 4 * t)) (trX V (300 + 72 * t)) z)) J o nt cf rf hA ns df hG2 t ht 1 (by decide) (by decide) z hza hz hFr.2.2.2.2.2.1) (cwV 3 hts gL_law_X4_foresee rfl rfl rfl (by decide +kernel) ⟨Nat.le_of_ble_eq_true rfl, Nat.le_of_ble_eq_true rfl⟩) rfl hl.1 rfl (Nat.le_of_ble_eq_true rfl) dL_law_1416 ⟨by omega, by omega⟩ (fun v3 u H locs hp hM => ?_)
          obtain ⟨hv_, hu_⟩ := hp
          have hu_ := hu_.symm
          subst hu_
          refine lv_istore (lv' := [(6, .int v3), (5, .int (nI 0)), (4, .int (nI j)), (3, .ref (sa S 2000)), (2, .ref (sa S o)), (1, .ref (sa S 0)), (0, .ref b)]) hx hb dL_law_1419 hl (by decide) rfl (fun ls hl => ?_)
          have ej20 : J (o + 20 + t) = I (o + 20 + t) := by rw [eJ, va_up_ne _ _ (show o + 20 + t ≠ 2000 by omega)]; exact trI_out _ _ _ _ _ (by omega) (by omega)
          have ej10 : J (o + 10 + t) = I (o + 10 + t) := by rw [eJ, va_up_ne _ _ (show o + 10 + t ≠ 2000 by omega)]; exact trI_out _ _ _ _ _ (by omega) (by omega)
          rw [ej20, ej10] at hv_
          have hth : t0 J o o 0 = nI 0 := by unfold t0; rw [va_up_self]; rfl
          have hIv := hI0.same (J := t0 J o) (V' := (stv (trV V (300 + 72 * t)) 732 (ngs (cf t) (cf t * rf t) (df t) (trB I (30 + 4 * t)) (trX V (300 + 72 * t)) z))) ho (by rw [eJ]; exact ((sam_tri ho ((Tri.rf I).trI (30 + 4 * t) (cf t) (rf t) (df t))).trans (sam_out _ ho _)).trans (sam_t0 _ o)) (fun h9 hh9 => (stv_out _ _ _ (by omega)).trans (stv_out _ _ _ (by omega)) : VSame V (stv (trV V (300 + 72 * t)) 732 (ngs (cf t) (cf t * rf t) (df t) (trB I (30 + 4 * t)) (trX V (300 + 72 * t)) z))) (TZ_stv _ (ngs_B rfl hc1 hcr.2 hd9 (fun q9 hq9 => by rw [an_tX hT9 t6 hR.2.2.2.2.2 q9 hq9]; exact (hT9.2.1 q9 hq9).2 : BX (trX V (300 + 72 * t))) z).tz)
          refine law_tail (T := 1421) (off := 194) ⟨dL_law_1421, dL_law_1422, dL_law_1425, dL_law_1427, dL_law_1432, dL_law_1434, dL_law_1437, dL_law_1438, dL_law_1439, dL_law_1440, dL_law_1442, dL_law_1443, dL_law_1444, dL_law_1449, by omega⟩ hx hb hml hown hts hM hIv.1.2.1 hIv.1.2.2 (k := 0) (by decide) (lv_sub hl [4, 3, 1, 0] rfl) hth (fun hz9 => (show t0 J o 2000 0 = (wm ((ngs (cf t) (cf t * rf t) (df t) (trB I (30 + 4 * t)) (trX V (300 + 72 * t)) z) (cld (ngs (cf t) (cf t * rf t) (df t) (trB I (30 + 4 * t)) (trX V (300 + 72 * t)) z) (cf t * rf t)))) from by simp (discharger := omega) only [va_up_ne, va_up_self, t0_ne, eJ]; exact if_pos rfl).trans (by rw [hv_]; exact an_f1 hT9 t6 hR.2.2.2.2.2 hc1 hcr.1 hcr.2 (df t) z)) (by omega) (by omega) (fun H locs hM => ?_) rfl
          exact W.widen (by omega) (by omega) (K _ _ _ _ _ _ _ _ _ _ _ _ _ _ (by omega) hIv hM (lv_sub hl [2, 3, 4, 5, 6] rfl))
        · skip
          refine fb_callW hx hb hml hown hts hM hE hNc (As := [.ref (sa S 0), .int (nI t), .int (nI z), .int (nI 2), .ref (sa S 2000)]) (rest := []) (c_L_foresee_ok a0 D y l S V I h03 hO (nI t) (nI z) (nI 2) (c_X3_foresee_ok2 D y l S V I a0.1 ns nt es na hC cf rf df hF t ht z hza hz (an_NF hT9 t6 hR.2.2.2.2.2 hc1 hcr.2 hd9 z _)) (fun v u hq => by obtain ⟨_, hq⟩ := hq; subst hq; exact ⟨hO, rfl⟩)) (vx_cwSW 5 hts gL_law_L_foresee rfl rfl rfl (by decide +kernel) ⟨Nat.le_of_ble_eq_true rfl, Nat.le_of_ble_eq_true rfl⟩) rfl hl.1 rfl (Nat.le_of_ble_eq_true rfl) dL_law_1392 ⟨by omega, by omega⟩ (fun v1 u H locs hp hM => ?_)
          obtain ⟨hv_, v2, u1, hq, hu_⟩ := hp
          have hv_ : v1 = nI 0 := hv_
          have hv_ := hv_.symm
          subst hv_
          obtain ⟨hq1, hq2⟩ := hq
          subst hq2
          subst hq1
          obtain ⟨J, eJ⟩ : ∃ J, J = va_up (trI I (30 + 4 * t) (cf t) (rf t) (df t)) 2000 (upd ((trI I (30 + 4 * t) (cf t) (rf t) (df t)) 2000) 0 (nI (cld (ngs (cf t) (cf t * rf t) (df t) (trB I (30 + 4 * t)) (trX V (300 + 72 * t)) z) (cf t * rf t)))) := ⟨_, rfl⟩
          have hM : fb_M D y A s (S, (stv (trV V (300 + 72 * t)) 732 (ngs (cf t) (cf t * rf t) (df t) (trB I (30 + 4 * t)) (trX V (300 + 72 * t)) z)), (sT (stv (trV V (300 + 72 * t)) 732 (ngs (cf t) (cf t * rf t) (df t) (trB I (30 + 4 * t)) (trX V (300 + 72 * t)) z))), J) H locs := by rw [hu_] at hM; rw [eJ]; exact hM
          have hG2 : MF J o ns nt cf rf df := by rw [eJ]; exact mf_same ho hG ((sam_tri ho ((Tri.rf I).trI (30 + 4 * t) (cf t) (rf t) (df t))).trans (sam_out _ ho _))
          refine lv_istore (lv' := [(5, .int (nI 0)), (4, .int (nI j)), (3, .ref (sa S 2000)), (2, .ref (sa S o)), (1, .ref (sa S 0)), (0, .ref b)]) hx hb dL_law_1395 hl (by decide) rfl (fun ls hl => ?_)
          refine lv_aload_n hx hb dL_law_1397 rfl (lv_at hl 3 rfl) ?_
          refine law_arg hx hb hX hbl hbA hM.2.2.1 (lv_sub hl [5, 1] rfl) 1 (by decide) (by omega) hL2 hp0 dL_law_1398 dL_law_1399 dL_law_1401 dL_law_1402 dL_law_1403 ?_
          refine law_arg hx hb hX hbl hbA hM.2.2.1 (lv_sub hl [5, 1] rfl) 2 (by decide) (by omega) hL2 hp1 dL_law_1404 dL_law_1405 dL_law_1407 dL_law_1408 dL_law_1409 ?_
          refine law_arg hx hb hX hbl hbA hM.2.2.1 (lv_sub hl [5, 1] rfl) 3 (by decide) (by omega) hL2 hp2 dL_law_1410 dL_law_1411 dL_law_1413 dL_law_1414 dL_law_1415 ?_
          refine fb_callVi (r := o) hx hb hml hown hts hM (hA.1.1) (ce4 (hA.1.2)) rfl (As := [.int (nI t), .int (nI z), .int (nI 2)]) (rest := []) (c_X4_foresee_ok2 D y l S (stv (trV V (300 + 72 * t)) 732 (ngs (cf t) (cf t * rf t) (df t) (trB I (30 + 4 * t)) (trX V (300 + 72 * t)) z)) J o nt cf rf hA ns df hG2 t ht 2 (by decide) (by decide) z hza hz hFr.2.2.2.2.2.1) (cwV 3 hts gL_law_X4_foresee rfl rfl rfl (by decide +kernel) ⟨Nat.le_of_ble_eq_true rfl, Nat.le_of_ble_eq_true rfl⟩) rfl hl.1 rfl (Nat.le_of_ble_eq_true rfl) dL_law_1416 ⟨by omega, by omega⟩ (fun v3 u H locs hp hM => ?_)
          obtain ⟨hv_, hu_⟩ := hp
          have hu_ := hu_.symm
          subst hu_
          refine lv_istore (lv' := [(6, .int v3), (5, .int (nI 0)), (4, .int (nI j)), (3, .ref (sa S 2000)), (2, .ref (sa S o)), (1, .ref (sa S 0)), (0, .ref b)]) hx hb dL_law_1419 hl (by decide) rfl (fun ls hl => ?_)
          have ej20 : J (o + 20 + t) = I (o + 20 + t) := by rw [eJ, va_up_ne _ _ (show o + 20 + t ≠ 2000 by omega)]; exact trI_out _ _ _ _ _ (by omega) (by omega)
          have ej10 : J (o + 10 + t) = I (o + 10 + t) := by rw [eJ, va_up_ne _ _ (show o + 10 + t ≠ 2000 by omega)]; exact trI_out _ _ _ _ _ (by omega) (by omega)
          rw [ej20, ej10] at hv_
          have hth : t0 J o o 0 = nI 0 := by unfold t0; rw [va_up_self]; rfl
          have hIv := hI0.same (J := t0 J o) (V' := (stv (trV V (300 + 72 * t)) 732 (ngs (cf t) (cf t * rf t) (df t) (trB I (30 + 4 * t)) (trX V (300 + 72 * t)) z))) ho (by rw [eJ]; exact ((sam_tri ho ((Tri.rf I).trI (30 + 4 * t) (cf t) (rf t) (df t))).trans (sam_out _ ho _)).trans (sam_t0 _ o)) (fun h9 hh9 => (stv_out _ _ _ (by omega)).trans (stv_out _ _ _ (by omega)) : VSame V (stv (trV V (300 + 72 * t)) 732 (ngs (cf t) (cf t * rf t) (df t) (trB I (30 + 4 * t)) (trX V (300 + 72 * t)) z))) (TZ_stv _ (ngs_B rfl hc1 hcr.2 hd9 (fun q9 hq9 => by rw [an_tX hT9 t6 hR.2.2.2.2.2 q9 hq9]; exact (hT9.2.1 q9 hq9).2 : BX (trX V (300 + 72 * t))) z).tz)
          refine law_tail (T := 1421) (off := 194) ⟨dL_law_1421, dL_law_1422, dL_law_1425, dL_law_1427, dL_law_1432, dL_law_1434, dL_law_1437, dL_law_1438, dL_law_1439, dL_law_1440, dL_law_1442, dL_law_1443, dL_law_1444, dL_law_1449, by omega⟩ hx hb hml hown hts hM hIv.1.2.1 hIv.1.2.2 (k := 0) (by decide) (lv_sub hl [4, 3, 1, 0] rfl) hth (fun hz9 => (show t0 J o 2000 0 = (nI (cld (ngs (cf t) (cf t * rf t) (df t) (trB I (30 + 4 * t)) (trX V (300 + 72 * t)) z) (cf t * rf t))) from by simp (discharger := omega) only [va_up_ne, va_up_self, t0_ne, eJ]; exact if_pos rfl).trans (by rw [hv_]; exact congrArg nI (an_f2 hT9 t6 hR.2.2.2.2.2 hc1 hcr.2 (df t) z))) (by omega) (by omega) (fun H locs hM => ?_) rfl
          exact W.widen (by omega) (by omega) (K _ _ _ _ _ _ _ _ _ _ _ _ _ _ (by omega) hIv hM (lv_sub hl [2, 3, 4, 5, 6] rfl))
set_option maxHeartbeats 4000000 in
set_option maxRecDepth 100000 in
theorem stp_lasts (hL : Lw p l s m args c D A y a0 b L xs) {o j ns nt es na N : Nat} {cf rf df : Nat → Nat} (hM : fb_M D y A s (S, V, (sT V), I) H locs) (hI : Iv a0.1 S V I o ns nt es na cf rf df N) (ho : o = 1000) (hj : j + 5 ≤ L) (hN : N ≤ 1600000) (hc : cells + 1100 ≤ room_1.cells) (hs : slots + 14000 ≤ room_1.slots) (hl : lv_has ls 9 [(4, .int (nI j)), (3, .ref (sa S 2000)), (2, .ref (sa S o)), (1, .ref (sa S 0)), (0, .ref b)]) (K : Kont p l e s m args below meth c Q D A y a0.1 o b j N cells slots) : W p l e room_1 s m args below meth c H locs cells slots Q (F0 m 1452 ls []) := by
  obtain ⟨hx, hb, hml, hown, hts, hE, hNc, hfl, hX, hbl, hbA, hL2⟩ := hL
  have hI0 := hI
  obtain ⟨⟨hC, hA, hO⟩, ⟨hEs, hFr⟩, ⟨hF, hG⟩, hR⟩ := hI
  have hns : ns ≤ 12 := hF.2.2.1
  have hnt : nt ≤ 6 := hF.2.2.2.1
  have h03 : 0 ∈ sR S ∧ sk S 0 = 3 := hC.1
  obtain ⟨p0, hp0⟩ : ∃ v, xs (j + 1) = v := ⟨_, rfl⟩
  obtain ⟨p1, hp1⟩ : ∃ v, xs (j + 2) = v := ⟨_, rfl⟩
  refine lv_aload_n hx hb dL_law_1452 rfl (lv_at hl 3 rfl) ?_
  refine law_arg hx hb hX hbl hbA hM.2.2.1 (lv_sub hl [4, 0] rfl) 1 (by decide) (by omega) hL2 hp0 dL_law_1453 dL_law_1454 dL_law_1456 dL_law_1457 dL_law_1458 ?_
  refine law_arg hx hb hX hbl hbA hM.2.2.1 (lv_sub hl [4, 0] rfl) 2 (by decide) (by omega) hL2 hp1 dL_law_1459 dL_law_1460 dL_law_1462 dL_law_1463 dL_law_1464 ?_
  refine lv_aload_n hx hb dL_law_1465 rfl (lv_at hl 1 rfl) ?_
  rcases rg_ix p0 (n := nt) (by omega) with hq0 | ⟨t, ht, rfl⟩
  · skip
    refine fb_callW hx hb hml hown hts hM hE hNc (As := [.ref (sa S 0), .int p0, .int p1, .ref (sa S 2000)]) (rest := []) (c_L_lasts_IOE a0 D y l S V I h03 hO p0 p1 (c_X3_lasts_x0 a0 D y l hfl S V I a0.1 ns nt es na hC cf rf df hF p0 hq0 p1)) (vx_cwSW 4 hts gL_law_L_lasts rfl rfl rfl (by decide +kernel) ⟨Nat.le_of_ble_eq_true rfl, Nat.le_of_ble_eq_true rfl⟩) rfl hl.1 rfl (Nat.le_of_ble_eq_true rfl) dL_law_1466 ⟨by omega, by omega⟩ (fun v1 u H locs hp hM => ?_)
    obtain ⟨hv_, hu_⟩ := hp
    have hv_ : v1 = nI 1 := hv_.trans (by decide)
    have hv_ := hv_.symm
    have hu_ := hu_.symm
    subst hv_
    subst hu_
    refine lv_istore (lv' := [(5, .int (nI 1)), (4, .int (nI j)), (3, .ref (sa S 2000)), (2, .ref (sa S o)), (1, .ref (sa S 0)), (0, .ref b)]) hx hb dL_law_1469 hl (by decide) rfl (fun ls hl => ?_)
    refine lv_aload_n hx hb dL_law_1471 rfl (lv_at hl 3 rfl) ?_
    refine law_arg hx hb hX hbl hbA hM.2.2.1 (lv_sub hl [5, 1] rfl) 1 (by decide) (by omega) hL2 hp0 dL_law_1472 dL_law_1473 dL_law_1475 dL_law_1476 dL_law_1477 ?_
    refine law_arg hx hb hX hbl hbA hM.2.2.1 (lv_sub hl [5, 1] rfl) 2 (by decide) (by omega) hL2 hp1 dL_law_1478 dL_law_1479 dL_law_1481 dL_law_1482 dL_law_1483 ?_
    refine fb_callVi (r := o) hx hb hml hown hts hM (hA.1.1) (ce4 (hA.1.2)) rfl (As := [.int p0, .int p1]) (rest := []) (CI.grow (mc' := 1) (ms' := 216) (c_X4_lasts_f0o D y l S V I o nt cf rf hA ns df hG p0 hq0 p1) (Nat.zero_le _) (Nat.zero_le _)) (cwV 2 hts gL_law_X4_lasts rfl rfl rfl (by decide +kernel) ⟨Nat.le_of_ble_eq_true rfl, Nat.le_of_ble_eq_true rfl⟩) rfl hl.1 rfl (Nat.le_of_ble_eq_true rfl) dL_law_1484 ⟨by omega, by omega⟩ (fun v3 u H locs hp hM => ?_)
    obtain ⟨hv_, hu_⟩ := hp
    have hu_ := hu_.symm
    subst hu_
    refine lv_istore (lv' := [(6, .int v3), (5, .int (nI 1)), (4, .int (nI j)), (3, .ref (sa S 2000)), (2, .ref (sa S o)), (1, .ref (sa S 0)), (0, .ref b)]) hx hb dL_law_1487 hl (by decide) rfl (fun ls hl => ?_)
    have hIv := hI0.same ho (sam_tf I o 1) (VSame.rf V) hR.2.2.2.2.2
    have hth : tf I o 1 o 0 = nI 1 := by unfold tf; rw [va_up_self]; rfl
    refine law_tail (T := 1489) (off := 126) ⟨dL_law_1489, dL_law_1490, dL_law_1493, dL_law_1495, dL_law_1500, dL_law_1502, dL_law_1505, dL_law_1506, dL_law_1507, dL_law_1508, dL_law_1510, dL_law_1511, dL_law_1512, dL_law_1517, by omega⟩ hx hb hml hown hts hM hIv.1.2.1 hIv.1.2.2 (k := 1) (by decide) (lv_sub hl [4, 3, 1, 0] rfl) hth (fun hz9 => absurd hz9 (by decide)) (by omega) (by omega) (fun H locs hM => ?_) rfl
    exact W.widen (by omega) (by omega) (K _ _ _ _ _ _ _ _ _ _ _ _ _ _ (by omega) hIv hM (lv_sub hl [2, 3, 4, 5, 6] rfl))
  · skip
    have hcr := (hF.2.2.2.2 t ht).le
    have hc1 : 1 ≤ cf t := (hF.2.2.2.2 t ht).2.2.2.2.1
    have hd9 : df t ≤ 9 := (hF.2.2.2.2 t ht).2.2.2.2.2.2.2.2.2
    have hT9 := (hR.2.2.2.2.1 t ht)
    have t6 : t < 6 := by omega
    rcases rg_lh p1 0 900 (by decide) (by decide) with hq1 | ⟨w, hwa, hw, rfl⟩
    · skip
      have hw1 : p1 < 0 ∨ 900 < p1 := hq1
      refine fb_callW hx hb hml hown hts hM hE hNc (As := [.ref (sa S 0), .int (nI t), .int p1, .ref (sa S 2000)]) (rest := []) (c_L_lasts_IAE a0 D y l S V I h03 hO (nI t) p1 (c_X3_lasts_x1 a0 D y l hfl S V I a0.1 ns nt es na hC cf rf df hF t ht p1 hw1)) (vx_cwSW 4 hts gL_law_L_lasts rfl rfl rfl (by decide +kernel) ⟨Nat.le_of_ble_eq_true rfl, Nat.le_of_ble_eq_true rfl⟩) rfl hl.1 rfl (Nat.le_of_ble_eq_true rfl) dL_law_1466 ⟨by omega, by omega⟩ (fun v1 u H locs hp hM => ?_)
      obtain ⟨hv_, hu_⟩ := hp
      have hv_ : v1 = nI 2 := hv_.trans (by decide)
      have hv_ := hv_.symm
      have hu_ := hu_.symm
      subst hv_
      subst hu_
      refine lv_istore (lv' := [(5, .int (nI 2)), (4, .int (nI j)), (3, .ref (sa S 2000)), (2, .ref (sa S o)), (1, .ref (sa S 0)), (0, .ref b)]) hx hb dL_law_1469 hl (by decide) rfl (fun ls hl => ?_)
      refine lv_aload_n hx hb dL_law_1471 rfl (lv_at hl 3 rfl) ?_
      refine law_arg hx hb hX hbl hbA hM.2.2.1 (lv_sub hl [5, 1] rfl) 1 (by decide) (by omega) hL2 hp0 dL_law_1472 dL_law_1473 dL_law_1475 dL_law_1476 dL_law_1477 ?_
      refine law_arg hx hb hX hbl hbA hM.2.2.1 (lv_sub hl [5, 1] rfl) 2 (by decide) (by omega) hL2 hp1 dL_law_1478 dL_law_1479 dL_law_1481 dL_law_1482 dL_law_1483 ?_
      refine fb_callVi (r := o) hx hb hml hown hts hM (hA.1.1) (ce4 (hA.1.2)) rfl (As := [.int (nI t), .int p1]) (rest := []) (CI.grow (mc' := 1) (ms' := 216) ((c_X4_lasts_f1o D y l S V I o nt cf rf hA ns df hG t ht p1 hw1)) (Nat.zero_le _) (Nat.zero_le _)) (cwV 2 hts gL_law_X4_lasts rfl rfl rfl (by decide +kernel) ⟨Nat.le_of_ble_eq_true rfl, Nat.le_of_ble_eq_true rfl⟩) rfl hl.1 rfl (Nat.le_of_ble_eq_true rfl) dL_law_1484 ⟨by omega, by omega⟩ (fun v3 u H locs hp hM => ?_)
      obtain ⟨hv_, hu_⟩ := hp
      have hu_ := hu_.symm
      subst hu_
      refine lv_istore (lv' := [(6, .int v3), (5, .int (nI 2)), (4, .int (nI j)), (3, .ref (sa S 2000)), (2, .ref (sa S o)), (1, .ref (sa S 0)), (0, .ref b)]) hx hb dL_law_1487 hl (by decide) rfl (fun ls hl => ?_)
      have hIv := hI0.same ho (sam_tf I o 2) (VSame.rf V) hR.2.2.2.2.2
      have hth : tf I o 2 o 0 = nI 2 := by unfold tf; rw [va_up_self]; rfl
      refine law_tail (T := 1489) (off := 126) ⟨dL_law_1489, dL_law_1490, dL_law_1493, dL_law_1495, dL_law_1500, dL_law_1502, dL_law_1505, dL_law_1506, dL_law_1507, dL_law_1508, dL_law_1510, dL_law_1511, dL_law_1512, dL_law_1517, by omega⟩ hx hb hml hown hts hM hIv.1.2.1 hIv.1.2.2 (k := 2) (by decide) (lv_sub hl [4, 3, 1, 0] rfl) hth (fun hz9 => absurd hz9 (by decide)) (by omega) (by omega) (fun H locs hM => ?_) rfl
      exact W.widen (by omega) (by omega) (K _ _ _ _ _ _ _ _ _ _ _ _ _ _ (by omega) hIv hM (lv_sub hl [2, 3, 4, 5, 6] rfl))
    · skip
      refine fb_callW hx hb hml hown hts hM hE hNc (As := [.ref (sa S 0), .int (nI t), .int (nI w), .ref (sa S 2000)]) (rest := []) (c_L_lasts_ok a0 D y l S V I h03 hO (nI t) (nI w) (c_X3_lasts_ok D y l S V I a0.1 ns nt es na hC cf rf df hF t ht w hwa hw) (fun v u hq => by obtain ⟨_, _, _, _, _, _, _, hq⟩ := hq; subst hq; exact ⟨hO, rfl⟩)) (vx_cwSW 4 hts gL_law_L_lasts rfl rfl rfl (by decide +kernel) ⟨Nat.le_of_ble_eq_true rfl, Nat.le_of_ble_eq_true rfl⟩) rfl hl.1 rfl (Nat.le_of_ble_eq_true rfl) dL_law_1466 ⟨by omega, by omega⟩ (fun v1 u H locs hp hM => ?_)
      obtain ⟨hv_, v2, u1, hq, hu_⟩ := hp
      have hv_ : v1 = nI 0 := hv_
      have hv_ := hv_.symm
      subst hv_
      obtain ⟨k9, Y, y1, y2, y3, y4, ⟨z9, y5⟩, hq2⟩ := hq
      subst hq2
      obtain ⟨J, eJ⟩ : ∃ J, J = va_up (trI I (30 + 4 * t) (cf t) (rf t) (df t)) 2000 (upd ((trI I (30 + 4 * t) (cf t) (rf t) (df t)) 2000) 0 v2) := ⟨_, rfl⟩
      have hM : fb_M D y A s (S, (stv (trV V (300 + 72 * t)) 732 Y), (sT (stv (trV V (300 + 72 * t)) 732 Y)), J) H locs := by rw [hu_] at hM; rw [eJ]; exact hM
      have hG2 : MF J o ns nt cf rf df := by rw [eJ]; exact mf_same ho hG ((sam_tri ho ((Tri.rf I).trI (30 + 4 * t) (cf t) (rf t) (df t))).trans (sam_out _ ho _))
      refine lv_istore (lv' := [(5, .int (nI 0)), (4, .int (nI j)), (3, .ref (sa S 2000)), (2, .ref (sa S o)), (1, .ref (sa S 0)), (0, .ref b)]) hx hb dL_law_1469 hl (by decide) rfl (fun ls hl => ?_)
      refine lv_aload_n hx hb dL_law_1471 rfl (lv_at hl 3 rfl) ?_
      refine law_arg hx hb hX hbl hbA hM.2.2.1 (lv_sub hl [5, 1] rfl) 1 (by decide) (by omega) hL2 hp0 dL_law_1472 dL_law_1473 dL_law_1475 dL_law_1476 dL_law_1477 ?_
      refine law_arg hx hb hX hbl hbA hM.2.2.1 (lv_sub hl [5, 1] rfl) 2 (by decide) (by omega) hL2 hp1 dL_law_1478 dL_law_1479 dL_law_1481 dL_law_1482 dL_law_1483 ?_
      refine fb_callVi (r := o) hx hb hml hown hts hM (hA.1.1) (ce4 (hA.1.2)) rfl (As := [.int (nI t), .int (nI w)]) (rest := []) (c_X4_lasts_ok D y l S (stv (trV V (300 + 72 * t)) 732 Y) J o nt cf rf hA ns df hG2 t ht w hwa hw hFr.2.2.2.2.2.1) (cwV 2 hts gL_law_X4_lasts rfl rfl rfl (by decide +kernel) ⟨Nat.le_of_ble_eq_true rfl, Nat.le_of_ble_eq_true rfl⟩) rfl hl.1 rfl (Nat.le_of_ble_eq_true rfl) dL_law_1484 ⟨by omega, by omega⟩ (fun v3 u H locs hp hM => ?_)
      obtain ⟨hlst, hu_⟩ := hp
      have hu_ := hu_.symm
      subst hu_
      refine lv_istore (lv' := [(6, .int v3), (5, .int (nI 0)), (4, .int (nI j)), (3, .ref (sa S 2000)), (2, .ref (sa S o)), (1, .ref (sa S 0)), (0, .ref b)]) hx hb dL_law_1487 hl (by decide) rfl (fun ls hl => ?_)
      have ej20 : J (o + 20 + t) = I (o + 20 + t) := by rw [eJ, va_up_ne _ _ (show o + 20 + t ≠ 2000 by omega)]; exact trI_out _ _ _ _ _ (by omega) (by omega)
      have ej10 : J (o + 10 + t) = I (o + 10 + t) := by rw [eJ, va_up_ne _ _ (show o + 10 + t ≠ 2000 by omega)]; exact trI_out _ _ _ _ _ (by omega) (by omega)
      rw [ej20, ej10] at hlst
      have hth : t0 J o o 0 = nI 0 := by unfold t0; rw [va_up_self]; rfl
      have hIv := hI0.same (J := t0 J o) (V' := (stv (trV V (300 + 72 * t)) 732 Y)) ho (by rw [eJ]; exact ((sam_tri ho ((Tri.rf I).trI (30 + 4 * t) (cf t) (rf t) (df t))).trans (sam_out _ ho _)).trans (sam_t0 _ o)) (fun h9 hh9 => (stv_out _ _ _ (by omega)).trans (stv_out _ _ _ (by omega)) : VSame V (stv (trV V (300 + 72 * t)) 732 Y)) (TZ_stv _ (by rw [y5]; exact (ngs_B rfl hc1 hcr.2 hd9 (fun q9 hq9 => by rw [an_tX hT9 t6 hR.2.2.2.2.2 q9 hq9]; exact (hT9.2.1 q9 hq9).2 : BX (trX V (300 + 72 * t))) z9).tz))
      refine law_tail (T := 1489) (off := 126) ⟨dL_law_1489, dL_law_1490, dL_law_1493, dL_law_1495, dL_law_1500, dL_law_1502, dL_law_1505, dL_law_1506, dL_law_1507, dL_law_1508, dL_law_1510, dL_law_1511, dL_law_1512, dL_law_1517, by omega⟩ hx hb hml hown hts hM hIv.1.2.1 hIv.1.2.2 (k := 0) (by decide) (lv_sub hl [4, 3, 1, 0] rfl) hth (fun hz9 => (show t0 J o 2000 0 = v2 from by simp (discharger := omega) only [va_up_ne, va_up_self, t0_ne, eJ]; exact if_pos rfl).trans (an_first (W := fun z => wm ((ngs (cf t) (cf t * rf t) (df t) (trB I (30 + 4 * t)) (trX V (300 + 72 * t)) z) (cld (ngs (cf t) (cf t * rf t) (df t) (trB I (30 + 4 * t)) (trX V (300 + 72 * t)) z) (cf t * rf t)))) (U := wmk (cf t) (cf t * rf t) (df t) (I (o + 20 + t)) (I (o + 10 + t))) (w := nI w) (fun z => an_f1 hT9 t6 hR.2.2.2.2.2 hc1 hcr.1 hcr.2 (df t) z) ⟨k9, y1, y2, y3, y4⟩ hlst)) (by omega) (by omega) (fun H locs hM => ?_) rfl
      exact W.widen (by omega) (by omega) (K _ _ _ _ _ _ _ _ _ _ _ _ _ _ (by omega) hIv hM (lv_sub hl [2, 3, 4, 5, 6] rfl))
set_option maxHeartbeats 4000000 in
set_option maxRecDepth 100000 in
theorem stp_advise (hL : Lw p l s m args c D A y a0 b L xs) {o j ns nt es na N : Nat} {cf rf df : Nat → Nat} (hM : fb_M D y A s (S, V, (sT V), I) H locs) (hI : Iv a0.1 S V I o ns nt es na cf rf df N) (ho : o = 1000) (hj : j + 5 ≤ L) (hN : N ≤ 1600000) (hc : cells + 1100 ≤ room_1.cells) (hs : slots + 14000 ≤ room_1.slots) (hl : lv_has ls 9 [(4, .int (nI j)), (3, .ref (sa S 2000)), (2, .ref (sa S o)), (1, .ref (sa S 0)), (0, .ref b)]) (K : Kont p l e s m args below meth c Q D A y a0.1 o b j N cells slots) : W p l e room_1 s m args below meth c H locs cells slots Q (F0 m 1520 ls []) := by
  obtain ⟨hx, hb, hml, hown, hts, hE, hNc, hfl, hX, hbl, hbA, hL2⟩ := hL
  have hI0 := hI
  obtain ⟨⟨hC, hA, hO⟩, ⟨hEs, hFr⟩, ⟨hF, hG⟩, hR⟩ := hI
  have hns : ns ≤ 12 := hF.2.2.1
  have hnt : nt ≤ 6 := hF.2.2.2.1
  have h03 : 0 ∈ sR S ∧ sk S 0 = 3 := hC.1
  obtain ⟨p0, hp0⟩ : ∃ v, xs (j + 1) = v := ⟨_, rfl⟩
  obtain ⟨p1, hp1⟩ : ∃ v, xs (j + 2) = v := ⟨_, rfl⟩
  refine lv_aload_n hx hb dL_law_1520 rfl (lv_at hl 3 rfl) ?_
  refine law_arg hx hb hX hbl hbA hM.2.2.1 (lv_sub hl [4, 0] rfl) 1 (by decide) (by omega) hL2 hp0 dL_law_1521 dL_law_1522 dL_law_1524 dL_law_1525 dL_law_1526 ?_
  refine law_arg hx hb hX hbl hbA hM.2.2.1 (lv_sub hl [4, 0] rfl) 2 (by decide) (by omega) hL2 hp1 dL_law_1527 dL_law_1528 dL_law_1530 dL_law_1531 dL_law_1532 ?_
  refine lv_aload_n hx hb dL_law_1533 rfl (lv_at hl 1 rfl) ?_
  rcases rg_ix p0 (n := nt) (by omega) with hq0 | ⟨t, ht, rfl⟩
  · skip
    refine fb_callW hx hb hml hown hts hM hE hNc (As := [.ref (sa S 0), .int p0, .int p1, .ref (sa S 2000)]) (rest := []) (c_L_advise_IOE a0 D y l S V I h03 hO p0 p1 (c_X3_advise_x0 a0 D y l hfl S V I a0.1 ns nt es na hC cf rf df hF p0 hq0 p1)) (vx_cwSW 4 hts gL_law_L_advise rfl rfl rfl (by decide +kernel) ⟨Nat.le_of_ble_eq_true rfl, Nat.le_of_ble_eq_true rfl⟩) rfl hl.1 rfl (Nat.le_of_ble_eq_true rfl) dL_law_1534 ⟨by omega, by omega⟩ (fun v1 u H locs hp hM => ?_)
    obtain ⟨hv_, hu_⟩ := hp
    have hv_ : v1 = nI 1 := hv_.trans (by decide)
    have hv_ := hv_.symm
    have hu_ := hu_.symm
    subst hv_
    subst hu_
    refine lv_istore (lv' := [(5, .int (nI 1)), (4, .int (nI j)), (3, .ref (sa S 2000)), (2, .ref (sa S o)), (1, .ref (sa S 0)), (0, .ref b)]) hx hb dL_law_1537 hl (by decide) rfl (fun ls hl => ?_)
    refine lv_aload_n hx hb dL_law_1539 rfl (lv_at hl 3 rfl) ?_
    refine law_arg hx hb hX hbl hbA hM.2.2.1 (lv_sub hl [5, 1] rfl) 1 (by decide) (by omega) hL2 hp0 dL_law_1540 dL_law_1541 dL_law_1543 dL_law_1544 dL_law_1545 ?_
    refine law_arg hx hb hX hbl hbA hM.2.2.1 (lv_sub hl [5, 1] rfl) 2 (by decide) (by omega) hL2 hp1 dL_law_1546 dL_law_1547 dL_law_1549 dL_law_1550 dL_law_1551 ?_
    refine fb_callVi (r := o) hx hb hml hown hts hM (hA.1.1) (ce4 (hA.1.2)) rfl (As := [.int p0, .int p1]) (rest := []) (CI.grow (mc' := 1) (ms' := 216) (c_X4_advise_f0o D y l S V I o nt cf rf hA ns df hG p0 hq0 p1) (Nat.zero_le _) (Nat.zero_le _)) (cwV 2 hts gL_law_X4_advise rfl rfl rfl (by decide +kernel) ⟨Nat.le_of_ble_eq_true rfl, Nat.le_of_ble_eq_true rfl⟩) rfl hl.1 rfl (Nat.le_of_ble_eq_true rfl) dL_law_1552 ⟨by omega, by omega⟩ (fun v3 u H locs hp hM => ?_)
    obtain ⟨hv_, hu_⟩ := hp
    have hu_ := hu_.symm
    subst hu_
    refine lv_istore (lv' := [(6, .int v3), (5, .int (nI 1)), (4, .int (nI j)), (3, .ref (sa S 2000)), (2, .ref (sa S o)), (1, .ref (sa S 0)), (0, .ref b)]) hx hb dL_law_1555 hl (by decide) rfl (fun ls hl => ?_)
    have hIv := hI0.same ho (sam_tf I o 1) (VSame.rf V) hR.2.2.2.2.2
    have hth : tf I o 1 o 0 = nI 1 := by unfold tf; rw [va_up_self]; rfl
    refine law_tail (T := 1557) (off := 58) ⟨dL_law_1557, dL_law_1558, dL_law_1561, dL_law_1563, dL_law_1568, dL_law_1570, dL_law_1573, dL_law_1574, dL_law_1575, dL_law_1576, dL_law_1578, dL_law_1579, dL_law_1580, dL_law_1585, by omega⟩ hx hb hml hown hts hM hIv.1.2.1 hIv.1.2.2 (k := 1) (by decide) (lv_sub hl [4, 3, 1, 0] rfl) hth (fun hz9 => absurd hz9 (by decide)) (by omega) (by omega) (fun H locs hM => ?_) rfl
    exact W.widen (by omega) (by omega) (K _ _ _ _ _ _ _ _ _ _ _ _ _ _ (by omega) hIv hM (lv_sub hl [2, 3, 4, 5, 6] rfl))
  · skip
    have hcr := (hF.2.2.2.2 t ht).le
    have hc1 : 1 ≤ cf t := (hF.2.2.2.2 t ht).2.2.2.2.1
    have hd9 : df t ≤ 9 := (hF.2.2.2.2 t ht).2.2.2.2.2.2.2.2.2
    have hT9 := (hR.2.2.2.2.1 t ht)
    have t6 : t < 6 := by omega
    rcases rg_lh p1 1 60 (by decide) (by decide) with hq1 | ⟨z, hza, hz, rfl⟩
    · skip
      have hw1 : p1 < 1 ∨ 60 < p1 := hq1
      refine fb_callW hx hb hml hown hts hM hE hNc (As := [.ref (sa S 0), .int (nI t), .int p1, .ref (sa S 2000)]) (rest := []) (c_L_advise_IAE a0 D y l S V I h03 hO (nI t) p1 (c_X3_advise_x1 a0 D y l hfl S V I a0.1 ns nt es na hC cf rf df hF t ht p1 hw1)) (vx_cwSW 4 hts gL_law_L_advise rfl rfl rfl (by decide +kernel) ⟨Nat.le_of_ble_eq_true rfl, Nat.le_of_ble_eq_true rfl⟩) rfl hl.1 rfl (Nat.le_of_ble_eq_true rfl) dL_law_1534 ⟨by omega, by omega⟩ (fun v1 u H locs hp hM => ?_)
      obtain ⟨hv_, hu_⟩ := hp
      have hv_ : v1 = nI 2 := hv_.trans (by decide)
      have hv_ := hv_.symm
      have hu_ := hu_.symm
      subst hv_
      subst hu_
      refine lv_istore (lv' := [(5, .int (nI 2)), (4, .int (nI j)), (3, .ref (sa S 2000)), (2, .ref (sa S o)), (1, .ref (sa S 0)), (0, .ref b)]) hx hb dL_law_1537 hl (by decide) rfl (fun ls hl => ?_)
      refine lv_aload_n hx hb dL_law_1539 rfl (lv_at hl 3 rfl) ?_
      refine law_arg hx hb hX hbl hbA hM.2.2.1 (lv_sub hl [5, 1] rfl) 1 (by decide) (by omega) hL2 hp0 dL_law_1540 dL_law_1541 dL_law_1543 dL_law_1544 dL_law_1545 ?_
      refine law_arg hx hb hX hbl hbA hM.2.2.1 (lv_sub hl [5, 1] rfl) 2 (by decide) (by omega) hL2 hp1 dL_law_1546 dL_law_1547 dL_law_1549 dL_law_1550 dL_law_1551 ?_
      refine fb_callVi (r := o) hx hb hml hown hts hM (hA.1.1) (ce4 (hA.1.2)) rfl (As := [.int (nI t), .int p1]) (rest := []) (CI.grow (mc' := 1) (ms' := 216) ((c_X4_advise_f1o D y l S V I o nt cf rf hA ns df hG t ht p1 hw1)) (Nat.zero_le _) (Nat.zero_le _)) (cwV 2 hts gL_law_X4_advise rfl rfl rfl (by decide +kernel) ⟨Nat.le_of_ble_eq_true rfl, Nat.le_of_ble_eq_true rfl⟩) rfl hl.1 rfl (Nat.le_of_ble_eq_true rfl) dL_law_1552 ⟨by omega, by omega⟩ (fun v3 u H locs hp hM => ?_)
      obtain ⟨hv_, hu_⟩ := hp
      have hu_ := hu_.symm
      subst hu_
      refine lv_istore (lv' := [(6, .int v3), (5, .int (nI 2)), (4, .int (nI j)), (3, .ref (sa S 2000)), (2, .ref (sa S o)), (1, .ref (sa S 0)), (0, .ref b)]) hx hb dL_law_1555 hl (by decide) rfl (fun ls hl => ?_)
      have hIv := hI0.same ho (sam_tf I o 2) (VSame.rf V) hR.2.2.2.2.2
      have hth : tf I o 2 o 0 = nI 2 := by unfold tf; rw [va_up_self]; rfl
      refine law_tail (T := 1557) (off := 58) ⟨dL_law_1557, dL_law_1558, dL_law_1561, dL_law_1563, dL_law_1568, dL_law_1570, dL_law_1573, dL_law_1574, dL_law_1575, dL_law_1576, dL_law_1578, dL_law_1579, dL_law_1580, dL_law_1585, by omega⟩ hx hb hml hown hts hM hIv.1.2.1 hIv.1.2.2 (k := 2) (by decide) (lv_sub hl [4, 3, 1, 0] rfl) hth (fun hz9 => absurd hz9 (by decide)) (by omega) (by omega) (fun H locs hM => ?_) rfl
      exact W.widen (by omega) (by omega) (K _ _ _ _ _ _ _ _ _ _ _ _ _ _ (by omega) hIv hM (lv_sub hl [2, 3, 4, 5, 6] rfl))
    · skip
      refine fb_callW hx hb hml hown hts hM hE hNc (As := [.ref (sa S 0), .int (nI t), .int (nI z), .ref (sa S 2000)]) (rest := []) (c_L_advise_ok a0 D y l S V I h03 hO (nI t) (nI z) (c_X3_advise_ok D y l S V I a0.1 ns nt es na hC cf rf df hF t ht z hza hz (tick_B hT9).tz hR.2.2.2.2.2 (an_NF1 hT9 hc1 hcr.2 hd9 z _) (fun _ _ _ _ _ => an_NF1 hT9 hc1 hcr.2 hd9 z _)) (fun v u hq => by obtain ⟨_, _, _, _, _, hq⟩ := hq; subst hq; exact ⟨hO, rfl⟩)) (vx_cwSW 4 hts gL_law_L_advise rfl rfl rfl (by decide +kernel) ⟨Nat.le_of_ble_eq_true rfl, Nat.le_of_ble_eq_true rfl⟩) rfl hl.1 rfl (Nat.le_of_ble_eq_true rfl) dL_law_1534 ⟨by omega, by omega⟩ (fun v1 u H locs hp hM => ?_)
      obtain ⟨hv_, v2, u1, hq, hu_⟩ := hp
      have hv_ : v1 = nI 0 := hv_
      have hv_ := hv_.symm
      subst hv_
      obtain ⟨hq1, Y, J9, y1, y2, hq2⟩ := hq
      subst hq2
      obtain ⟨J, eJ⟩ : ∃ J, J = va_up J9 2000 (upd (J9 2000) 0 v2) := ⟨_, rfl⟩
      have hM : fb_M D y A s (S, (stv V 732 Y), (sT (stv V 732 Y)), J) H locs := by rw [hu_] at hM; rw [eJ]; exact hM
      have hG2 : MF J o ns nt cf rf df := by rw [eJ]; exact mf_same ho hG ((sam_tri ho y2).trans (sam_out _ ho _))
      refine lv_istore (lv' := [(5, .int (nI 0)), (4, .int (nI j)), (3, .ref (sa S 2000)), (2, .ref (sa S o)), (1, .ref (sa S 0)), (0, .ref b)]) hx hb dL_law_1537 hl (by decide) rfl (fun ls hl => ?_)
      refine lv_aload_n hx hb dL_law_1539 rfl (lv_at hl 3 rfl) ?_
      refine law_arg hx hb hX hbl hbA hM.2.2.1 (lv_sub hl [5, 1] rfl) 1 (by decide) (by omega) hL2 hp0 dL_law_1540 dL_law_1541 dL_law_1543 dL_law_1544 dL_law_1545 ?_
      refine law_arg hx hb hX hbl hbA hM.2.2.1 (lv_sub hl [5, 1] rfl) 2 (by decide) (by omega) hL2 hp1 dL_law_1546 dL_law_1547 dL_law_1549 dL_law_1550 dL_law_1551 ?_
      refine fb_callVi (r := o) hx hb hml hown hts hM (hA.1.1) (ce4 (hA.1.2)) rfl (As := [.int (nI t), .int (nI z)]) (rest := []) (c_X4_advise_ok D y l S (stv V 732 Y) J o nt cf rf hA ns df hG2 t ht z hza hz hFr.2.2.2.2.2.1) (cwV 2 hts gL_law_X4_advise rfl rfl rfl (by decide +kernel) ⟨Nat.le_of_ble_eq_true rfl, Nat.le_of_ble_eq_true rfl⟩) rfl hl.1 rfl (Nat.le_of_ble_eq_true rfl) dL_law_1552 ⟨by omega, by omega⟩ (fun v3 u H locs hp hM => ?_)
      obtain ⟨hv_, hu_⟩ := hp
      have hu_ := hu_.symm
      subst hu_
      refine lv_istore (lv' := [(6, .int v3), (5, .int (nI 0)), (4, .int (nI j)), (3, .ref (sa S 2000)), (2, .ref (sa S o)), (1, .ref (sa S 0)), (0, .ref b)]) hx hb dL_law_1555 hl (by decide) rfl (fun ls hl => ?_)
      have ej20 : J (o + 20 + t) = I (o + 20 + t) := by rw [eJ, va_up_ne _ _ (show o + 20 + t ≠ 2000 by omega)]; exact y2 _ (by omega) (by omega)
      have ej10 : J (o + 10 + t) = I (o + 10 + t) := by rw [eJ, va_up_ne _ _ (show o + 10 + t ≠ 2000 by omega)]; exact y2 _ (by omega) (by omega)
      rw [ej20, ej10] at hv_
      have hth : t0 J o o 0 = nI 0 := by unfold t0; rw [va_up_self]; rfl
      have hIv := hI0.same (J := t0 J o) (V' := (stv V 732 Y)) ho (by rw [eJ]; exact ((sam_tri ho y2).trans (sam_out _ ho _)).trans (sam_t0 _ o)) (VSame.stv V Y) (TZ_stv _ y1)
      refine law_tail (T := 1557) (off := 58) ⟨dL_law_1557, dL_law_1558, dL_law_1561, dL_law_1563, dL_law_1568, dL_law_1570, dL_law_1573, dL_law_1574, dL_law_1575, dL_law_1576, dL_law_1578, dL_law_1579, dL_law_1580, dL_law_1585, by omega⟩ hx hb hml hown hts hM hIv.1.2.1 hIv.1.2.2 (k := 0) (by decide) (lv_sub hl [4, 3, 1, 0] rfl) hth (fun hz9 => (show t0 J o 2000 0 = v2 from by simp (discharger := omega) only [va_up_ne, va_up_self, t0_ne, eJ]; exact if_pos rfl).trans (by rw [hq1, hv_]; exact congrArg Prod.fst (an_adv hT9 hc1 hcr.1 hcr.2 (df t) z _ (Nat.le_refl _)))) (by omega) (by omega) (fun H locs hM => ?_) rfl
      exact W.widen (by omega) (by omega) (K _ _ _ _ _ _ _ _ _ _ _ _ _ _ (by omega) hIv hM (lv_sub hl [2, 3, 4, 5, 6] rfl))
end LAWS
