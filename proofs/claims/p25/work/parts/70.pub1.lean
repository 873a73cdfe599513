abbrev rm_X3_put : Room := { frames := 7, cells := 4, slots := 24, locals := 140 }
set_option maxHeartbeats 4000000 in
set_option maxRecDepth 100000 in
theorem c_X3_put_ok (D : va_G) (y : Nat → ClassId) (l : Launch) (S : fb_Sh) (V I : fb_V) (a1 ns nt es na : Nat) (hC : CpAt S a1 ns nt es na) (cf rf df : Nat → Nat) (hF : CF I ns nt cf rf df) (i : Nat) (hi : i < ns) (k : Nat) (hk : k < 6) (m : Nat) (hma : 1 ≤ m) (hm : m ≤ 500) (hq : ¬ 500 < (V (200 + 2 * i)) k + nI m)  : CI D y l yX3_put wsX3_put rm_X3_put [.ref (sa S 0), .int (nI i), .int (nI k), .int (nI m)] (S, V, (sT V), I) (fun z u => z = (V (200 + 2 * i)) k + nI m ∧ u = (S, (va_up V (200 + 2 * i) (chv (V (200 + 2 * i)) k (nI m))), sT (va_up V (200 + 2 * i) (chv (V (200 + 2 * i)) k (nI m))), I)) 4 24 := by
  refine CI.of (cc := cX3_put) (maxL := 5) (ret := (some .int)) (by decide) rfl (Nat.le_of_ble_eq_true rfl) ?_
  intro pv ev s mv below meth cv A hx hb hml hr hown hts hlocks hname hM ls hl
  have hown : s.vm.findClass RX3 = some mv.cls := hown
  have hl : lv_has ls 5 [(0, .ref (sa S 0)), (1, .int (nI i)), (2, .int (nI k)), (3, .int (nI m))] := hl
  have hin3 : ∀ x ∈ wsX30, x ∈ wsX3_put := by decide +kernel
  have hin0 : ∀ x ∈ wsX00, x ∈ wsX3_put := by decide +kernel
  have hin1 : ∀ x ∈ wsX10, x ∈ wsX3_put := by decide +kernel
  obtain ⟨Q, hQ⟩ : ∃ Q, Q = MQ below (va_Qi (fun z u => z = (V (200 + 2 * i)) k + nI m ∧ u = (S, (va_up V (200 + 2 * i) (chv (V (200 + 2 * i)) k (nI m))), sT (va_up V (200 + 2 * i) (chv (V (200 + 2 * i)) k (nI m))), I)) (fun u t => fb_P D y A u t) A) (([.ref (sa S 0), .int (nI i), .int (nI k), .int (nI m)] : List Value).toArray) s 4 24 A := ⟨_, rfl⟩
  rw [← hQ]
  have hns : ns ≤ 12 := hF.2.2.1
  have hnt : nt ≤ 6 := hF.2.2.2.1
  refine lv_aload_n hx hb dX3_put_0 rfl (lv_at hl 0 rfl) ?_
  refine lv_iload_n hx hb dX3_put_1 rfl (lv_at hl 1 rfl) ?_
  refine fb_callVr (r := 0) hx hb hml hown hts hM ((hC.1).1) (ce3 ((hC.1).2)) rfl (As := [.int (nI i)]) (rest := []) (c_X3_needSack D y l S V I a1 ns nt es na hC cf rf df hF i hi) (cwV 1 hts gX3_put_X3_needSack rfl rfl rfl (by decide +kernel) ⟨Nat.le_of_ble_eq_true rfl, Nat.le_of_ble_eq_true rfl⟩) rfl hl.1 rfl (Nat.le_of_ble_eq_true rfl) dX3_put_2 ⟨Nat.le_of_ble_eq_true rfl, Nat.le_of_ble_eq_true rfl⟩ (fun v_1 u_ H locs hp hM => ?_)
  obtain ⟨hv_, hu_⟩ := hp
  have hv_ := Eq.symm hv_
  have hu_ := Eq.symm hu_
  subst hv_
  subst hu_
  refine fb_getN (r := (10 + i)) hx hb hown hts hin1 hM ((hC.sk hi).1) (ce1 ((hC.sk hi).2.1)) rfl 0 (by decide) (host := "FeatherBeds") (by decide +kernel) (fun _ h9 => h9) (v := .ref (sa S (200 + 2 * i))) (congrArg (fun z => some (va_rf z)) ((hC.sk hi).2.2.1)) dX3_put_5 ?_
  refine lv_astore (lv' := [(4, .ref (sa S (200 + 2 * i))), (0, .ref (sa S 0)), (1, .int (nI i)), (2, .int (nI k)), (3, .int (nI m))]) hx hb dX3_put_8 hl (by decide) rfl (fun ls hl => ?_)
  refine lv_iload_n hx hb dX3_put_10 rfl (lv_at hl 3 rfl) ?_
  refine lv_bipush (v := 6) hx hb dX3_put_11 (by decide) ?_
  refine fb_callSv hx hb hml hown hts hM (As := [.int (nI k), .int 6]) (rest := []) (c_X3_needIndex D y l S V I (nI k) 6 (nI_pos (by omega)) (nI_lt (b := 6) hk (by omega))) (va_cwS 2 hts gX3_put_X3_needIndex rfl rfl rfl (by decide +kernel) ⟨Nat.le_of_ble_eq_true rfl, Nat.le_of_ble_eq_true rfl⟩) rfl hl.1 rfl (Nat.le_of_ble_eq_true rfl) dX3_put_13 ⟨Nat.le_of_ble_eq_true rfl, Nat.le_of_ble_eq_true rfl⟩ (fun u_ H locs hp hM => ?_)
  have hp := Eq.symm hp
  subst hp
  refine lv_iload_n hx hb dX3_put_16 rfl (lv_at hl 4 rfl) ?_
  refine lv_iconst (v := 1) hx hb dX3_put_17 (by decide) ?_
  refine lv_sipush (v := 500) hx hb dX3_put_18 (by decide) ?_
  refine fb_callSv hx hb hml hown hts hM (As := [.int (nI m), .int 1, .int 500]) (rest := []) (c_X3_needRange D y l S V I (nI m) 1 500 (nI_nlt (b := 1) hma (by omega)) (nI_nlt (a := 500) hm (by omega))) (va_cwS 3 hts gX3_put_X3_needRange rfl rfl rfl (by decide +kernel) ⟨Nat.le_of_ble_eq_true rfl, Nat.le_of_ble_eq_true rfl⟩) rfl hl.1 rfl (Nat.le_of_ble_eq_true rfl) dX3_put_21 ⟨Nat.le_of_ble_eq_true rfl, Nat.le_of_ble_eq_true rfl⟩ (fun u_ H locs hp hM => ?_)
  have hp := Eq.symm hp
  subst hp
  refine lv_aload hx hb dX3_put_24 (lv_at hl 0 rfl) ?_
  refine lv_iload_n hx hb dX3_put_26 rfl (lv_at hl 3 rfl) ?_
  refine fb_callVi (r := (200 + 2 * i)) hx hb hml hown hts hM (((hC.sk hi).2.2.2).1) (ce0 (((hC.sk hi).2.2.2).2.1)) rfl (As := [.int (nI k)]) (rest := []) (c_X0_of D y l S V I (200 + 2 * i) (hC.sk hi).2.2.2 (nI k)) (cwV 1 hts gX3_put_X0_of rfl rfl rfl (by decide +kernel) ⟨Nat.le_of_ble_eq_true rfl, Nat.le_of_ble_eq_true rfl⟩) rfl hl.1 rfl (Nat.le_of_ble_eq_true rfl) dX3_put_27 ⟨Nat.le_of_ble_eq_true rfl, Nat.le_of_ble_eq_true rfl⟩ (fun v_4 u_ H locs hp hM => ?_)
  obtain ⟨hv_, hu_⟩ := hp
  have hv_ := Eq.symm hv_
  have hu_ := Eq.symm hu_
  subst hv_
  subst hu_
  rw [of6_n (V (200 + 2 * i)) (k := k) (by omega)]
  refine lv_iload_n hx hb dX3_put_30 rfl (lv_at hl 4 rfl) ?_
  refine lv_iadd hx hb dX3_put_31 ?_
  refine lv_sipush (v := 500) hx hb dX3_put_32 (by decide) ?_
  refine lv_icmp_le (tgt := 48) hx hb dX3_put_35 (by decide) (fun c_5 => ?_) (fun c_5 => absurd (Int32.not_lt.mp hq) c_5)
  refine lv_aload hx hb dX3_put_48 (lv_at hl 0 rfl) ?_
  refine lv_iload_n hx hb dX3_put_50 rfl (lv_at hl 3 rfl) ?_
  refine lv_iload_n hx hb dX3_put_51 rfl (lv_at hl 4 rfl) ?_
  refine fb_callVv (r := (200 + 2 * i)) hx hb hml hown hts hM (((hC.sk hi).2.2.2).1) (ce0 (((hC.sk hi).2.2.2).2.1)) rfl (As := [.int (nI k), .int (nI m)]) (rest := []) (c_X0_change D y l S V I (200 + 2 * i) (hC.sk hi).2.2.2 k (by omega) (nI m)) (cwV 2 hts gX3_put_X0_change rfl rfl rfl (by decide +kernel) ⟨Nat.le_of_ble_eq_true rfl, Nat.le_of_ble_eq_true rfl⟩) rfl hl.1 rfl (Nat.le_of_ble_eq_true rfl) dX3_put_52 ⟨Nat.le_of_ble_eq_true rfl, Nat.le_of_ble_eq_true rfl⟩ (fun u_ H locs hp hM => ?_)
  have hp := Eq.symm hp
  subst hp
  refine lv_aload hx hb dX3_put_55 (lv_at hl 0 rfl) ?_
  refine lv_iload_n hx hb dX3_put_57 rfl (lv_at hl 3 rfl) ?_
  refine fb_callVi (r := (200 + 2 * i)) hx hb hml hown hts hM (((hC.sk hi).2.2.2).1) (ce0 (((hC.sk hi).2.2.2).2.1)) rfl (As := [.int (nI k)]) (rest := []) (c_X0_of D y l S (va_up V (200 + 2 * i) (chv (V (200 + 2 * i)) k (nI m))) I (200 + 2 * i) (hC.sk hi).2.2.2 (nI k)) (cwV 1 hts gX3_put_X0_of rfl rfl rfl (by decide +kernel) ⟨Nat.le_of_ble_eq_true rfl, Nat.le_of_ble_eq_true rfl⟩) rfl hl.1 rfl (Nat.le_of_ble_eq_true rfl) dX3_put_58 ⟨Nat.le_of_ble_eq_true rfl, Nat.le_of_ble_eq_true rfl⟩ (fun v_7 u_ H locs hp hM => ?_)
  obtain ⟨hv_, hu_⟩ := hp
  have hv_ := Eq.symm hv_
  have hu_ := Eq.symm hu_
  subst hv_
  subst hu_
  rw [of6_n ((va_up V (200 + 2 * i) (chv (V (200 + 2 * i)) k (nI m))) (200 + 2 * i)) (k := k) (by omega)]
  rw [show ((va_up V (200 + 2 * i) (chv (V (200 + 2 * i)) k (nI m))) (200 + 2 * i) k : Int32) = (V (200 + 2 * i)) k + nI m from by rw [va_up_self]; simp [chv, upd]]
  rw [hQ]
  refine W.widen (show _ ≤ 4 from Nat.le_of_ble_eq_true rfl) (show _ ≤ 24 from Nat.le_of_ble_eq_true rfl) ?_
  exact fb_iret hx hb hr hlocks hM (⟨rfl, rfl⟩) dX3_put_61

abbrev rm_X3_dry : Room := { frames := 7, cells := 2, slots := 12, locals := 140 }
set_option maxHeartbeats 4000000 in
set_option maxRecDepth 100000 in
theorem c_X3_dry_ok (D : va_G) (y : Nat → ClassId) (l : Launch) (S : fb_Sh) (V I : fb_V) (a1 ns nt es na : Nat) (hC : CpAt S a1 ns nt es na) (cf rf df : Nat → Nat) (hF : CF I ns nt cf rf df) (i : Nat) (hi : i < ns) (h : Nat) (hha : 1 ≤ h) (hh : h ≤ 9)  : CI D y l yX3_dry wsX3_dry rm_X3_dry [.ref (sa S 0), .int (nI i), .int (nI h)] (S, V, (sT V), I) (fun z u => z = (if 0 < (I (10 + i) 1) - nI h then (I (10 + i) 1) - nI h else 0) ∧ u = (S, V, sT V, va_up I (10 + i) (upd (I (10 + i)) 1 (if 0 < (I (10 + i) 1) - nI h then (I (10 + i) 1) - nI h else 0)))) 2 12 := by
  refine CI.of (cc := cX3_dry) (maxL := 4) (ret := (some .int)) (by decide) rfl (Nat.le_of_ble_eq_true rfl) ?_
  intro pv ev s mv below meth cv A hx hb hml hr hown hts hlocks hname hM ls hl
  have hown : s.vm.findClass RX3 = some mv.cls := hown
  have hl : lv_has ls 4 [(0, .ref (sa S 0)), (1, .int (nI i)), (2, .int (nI h))] := hl
  have hin3 : ∀ x ∈ wsX30, x ∈ wsX3_dry := by decide +kernel
  have hin1 : ∀ x ∈ wsX10, x ∈ wsX3_dry := by decide +kernel
  obtain ⟨Q, hQ⟩ : ∃ Q, Q = MQ below (va_Qi (fun z u => z = (if 0 < (I (10 + i) 1) - nI h then (I (10 + i) 1) - nI h else 0) ∧ u = (S, V, sT V, va_up I (10 + i) (upd (I (10 + i)) 1 (if 0 < (I (10 + i) 1) - nI h then (I (10 + i) 1) - nI h else 0)))) (fun u t => fb_P D y A u t) A) (([.ref (sa S 0), .int (nI i), .int (nI h)] : List Value).toArray) s 2 12 A := ⟨_, rfl⟩
  rw [← hQ]
  have hns : ns ≤ 12 := hF.2.2.1
  have hnt : nt ≤ 6 := hF.2.2.2.1
  refine lv_aload_n hx hb dX3_dry_0 rfl (lv_at hl 0 rfl) ?_
  refine lv_iload_n hx hb dX3_dry_1 rfl (lv_at hl 1 rfl) ?_
  refine fb_callVr (r := 0) hx hb hml hown hts hM ((hC.1).1) (ce3 ((hC.1).2)) rfl (As := [.int (nI i)]) (rest := []) (c_X3_needSack D y l S V I a1 ns nt es na hC cf rf df hF i hi) (cwV 1 hts gX3_dry_X3_needSack rfl rfl rfl (by decide +kernel) ⟨Nat.le_of_ble_eq_true rfl, Nat.le_of_ble_eq_true rfl⟩) rfl hl.1 rfl (Nat.le_of_ble_eq_true rfl) dX3_dry_2 ⟨Nat.le_of_ble_eq_true rfl, Nat.le_of_ble_eq_true rfl⟩ (fun v_1 u_ H locs hp hM => ?_)
  obtain ⟨hv_, hu_⟩ := hp
  have hv_ := Eq.symm hv_
  have hu_ := Eq.symm hu_
  subst hv_
  subst hu_
  refine lv_astore_n (lv' := [(3, .ref (sa S (10 + i))), (0, .ref (sa S 0)), (1, .int (nI i)), (2, .int (nI h))]) hx hb dX3_dry_5 rfl hl (by decide) rfl (fun ls hl => ?_)
  refine lv_iload_n hx hb dX3_dry_6 rfl (lv_at hl 3 rfl) ?_
  refine lv_iconst (v := 1) hx hb dX3_dry_7 (by decide) ?_
  refine lv_bipush (v := 9) hx hb dX3_dry_8 (by decide) ?_
  refine fb_callSv hx hb hml hown hts hM (As := [.int (nI h), .int 1, .int 9]) (rest := []) (c_X3_needRange D y l S V I (nI h) 1 9 (nI_nlt (b := 1) hha (by omega)) (nI_nlt (a := 9) hh (by omega))) (va_cwS 3 hts gX3_dry_X3_needRange rfl rfl rfl (by decide +kernel) ⟨Nat.le_of_ble_eq_true rfl, Nat.le_of_ble_eq_true rfl⟩) rfl hl.1 rfl (Nat.le_of_ble_eq_true rfl) dX3_dry_10 ⟨Nat.le_of_ble_eq_true rfl, Nat.le_of_ble_eq_true rfl⟩ (fun u_ H locs hp hM => ?_)
  have hp := Eq.symm hp
  subst hp
  refine lv_aload_n hx hb dX3_dry_13 rfl (lv_at hl 0 rfl) ?_
  refine lv_iconst (v := 0) hx hb dX3_dry_14 (by decide) ?_
  refine lv_aload_n hx hb dX3_dry_15 rfl (lv_at hl 0 rfl) ?_
  refine fb_getN (r := (10 + i)) hx hb hown hts hin1 hM ((hC.sk hi).1) (ce1 ((hC.sk hi).2.1)) rfl 1 (by decide) (host := "FeatherBeds") (by decide +kernel) (fun _ h9 => h9) (v := .int (I (10 + i) 1)) rfl dX3_dry_16 ?_
  refine lv_iload_n hx hb dX3_dry_19 rfl (lv_at hl 3 rfl) ?_
  refine lv_isub hx hb dX3_dry_20 ?_
  refine va_mmax hx hb (hml.trans hl.1.symm) hown (hts (.methodLink RX3 86 Lib.Math.max.name) (by decide +kernel)) (hts (.static Lib.Math.max.name) (by decide +kernel)) (hts (.initialized "java/lang/Math") (by decide +kernel)) (hts (.code Lib.Math.max.name Lib.Math.max.code 2 (some .int)) (by decide +kernel)) (Nat.le_of_ble_eq_true rfl) (Nat.le_of_ble_eq_true rfl) (Nat.le_of_ble_eq_true rfl) (Nat.le_of_ble_eq_true rfl) dX3_dry_21 ?_
  refine fb_putN (r := (10 + i)) (host := "FeatherBeds") hx hb hown hts hin1 tyX1 tyX1_ok nmX1 hM ((hC.sk hi).1) (ce1 ((hC.sk hi).2.1)) rfl 1 (by decide) (by decide +kernel) (fun _ h9 => h9) rfl (ty := .int) (by decide +kernel) rfl rfl (Nat.le_of_ble_eq_true rfl) dX3_dry_24 (up_I (j := 1) (v := if 0 < (I (10 + i) 1) - (nI h) then (I (10 + i) 1) - (nI h) else 0) (by rw [ce1 (S := S) ((hC.sk hi).2.1)]; simp [va_up, upd])) (w' := (S, V, (sT V), (va_up I (10 + i) (upd (I (10 + i)) 1 (if 0 < (I (10 + i) 1) - (nI h) then (I (10 + i) 1) - (nI h) else 0))))) ⟨rfl, rfl, rfl⟩ (fun H locs hM => ?_)
  refine lv_aload_n hx hb dX3_dry_27 rfl (lv_at hl 0 rfl) ?_
  refine fb_getN (r := (10 + i)) hx hb hown hts hin1 hM ((hC.sk hi).1) (ce1 ((hC.sk hi).2.1)) rfl 1 (by decide) (host := "FeatherBeds") (by decide +kernel) (fun _ h9 => h9) (v := .int ((va_up I (10 + i) (upd (I (10 + i)) 1 (if 0 < (I (10 + i) 1) - (nI h) then (I (10 + i) 1) - (nI h) else 0))) (10 + i) 1)) rfl dX3_dry_28 ?_
  rw [show ((va_up I (10 + i) (upd (I (10 + i)) 1 (if 0 < (I (10 + i) 1) - (nI h) then (I (10 + i) 1) - (nI h) else 0))) (10 + i) 1 : Int32) = (if 0 < (I (10 + i) 1) - nI h then (I (10 + i) 1) - nI h else 0) from by rw [va_up_self]; simp [upd]]
  rw [hQ]
  refine W.widen (show _ ≤ 2 from Nat.le_of_ble_eq_true rfl) (show _ ≤ 12 from Nat.le_of_ble_eq_true rfl) ?_
  exact fb_iret hx hb hr hlocks hM (⟨rfl, rfl⟩) dX3_dry_31

abbrev rm_X3_sack : Room := { frames := 7, cells := 2, slots := 12, locals := 140 }
set_option maxHeartbeats 4000000 in
set_option maxRecDepth 100000 in
theorem c_X3_sack_ok (D : va_G) (y : Nat → ClassId) (l : Launch) (S : fb_Sh) (V I : fb_V) (a1 ns nt es na : Nat) (hC : CpAt S a1 ns nt es na) (cf rf df : Nat → Nat) (hF : CF I ns nt cf rf df) (i : Nat) (hi : i < ns) (k : Nat) (hk : k < 8)  : CI D y l yX3_sack wsX3_sack rm_X3_sack [.ref (sa S 0), .int (nI i), .int (nI k)] (S, V, (sT V), I) (fun z u => z = sckT (V (200 + 2 * i)) (I (10 + i) 1) (nI k) ∧ u = (S, V, sT V, I)) 2 12 := by
  refine CI.of (cc := cX3_sack) (maxL := 4) (ret := (some .int)) (by decide) rfl (Nat.le_of_ble_eq_true rfl) ?_
  intro pv ev s mv below meth cv A hx hb hml hr hown hts hlocks hname hM ls hl
  have hown : s.vm.findClass RX3 = some mv.cls := hown
  have hl : lv_has ls 4 [(0, .ref (sa S 0)), (1, .int (nI i)), (2, .int (nI k))] := hl
  have hin3 : ∀ x ∈ wsX30, x ∈ wsX3_sack := by decide +kernel
  obtain ⟨Q, hQ⟩ : ∃ Q, Q = MQ below (va_Qi (fun z u => z = sckT (V (200 + 2 * i)) (I (10 + i) 1) (nI k) ∧ u = (S, V, sT V, I)) (fun u t => fb_P D y A u t) A) (([.ref (sa S 0), .int (nI i), .int (nI k)] : List Value).toArray) s 2 12 A := ⟨_, rfl⟩
  rw [← hQ]
  have hns : ns ≤ 12 := hF.2.2.1
  have hnt : nt ≤ 6 := hF.2.2.2.1
  refine lv_aload_n hx hb dX3_sack_0 rfl (lv_at hl 0 rfl) ?_
  refine lv_iload_n hx hb dX3_sack_1 rfl (lv_at hl 1 rfl) ?_
  refine fb_callVr (r := 0) hx hb hml hown hts hM ((hC.1).1) (ce3 ((hC.1).2)) rfl (As := [.int (nI i)]) (rest := []) (c_X3_needSack D y l S V I a1 ns nt es na hC cf rf df hF i hi) (cwV 1 hts gX3_sack_X3_needSack rfl rfl rfl (by decide +kernel) ⟨Nat.le_of_ble_eq_true rfl, Nat.le_of_ble_eq_true rfl⟩) rfl hl.1 rfl (Nat.le_of_ble_eq_true rfl) dX3_sack_2 ⟨Nat.le_of_ble_eq_true rfl, Nat.le_of_ble_eq_true rfl⟩ (fun v_1 u_ H locs hp hM => ?_)
  obtain ⟨hv_, hu_⟩ := hp
  have hv_ := Eq.symm hv_
  have hu_ := Eq.symm hu_
  subst hv_
  subst hu_
  refine lv_astore_n (lv' := [(3, .ref (sa S (10 + i))), (0, .ref (sa S 0)), (1, .int (nI i)), (2, .int (nI k))]) hx hb dX3_sack_5 rfl hl (by decide) rfl (fun ls hl => ?_)
  refine lv_iload_n hx hb dX3_sack_6 rfl (lv_at hl 3 rfl) ?_
  refine lv_bipush (v := 8) hx hb dX3_sack_7 (by decide) ?_
  refine fb_callSv hx hb hml hown hts hM (As := [.int (nI k), .int 8]) (rest := []) (c_X3_needIndex D y l S V I (nI k) 8 (nI_pos (by omega)) (nI_lt (b := 8) hk (by omega))) (va_cwS 2 hts gX3_sack_X3_needIndex rfl rfl rfl (by decide +kernel) ⟨Nat.le_of_ble_eq_true rfl, Nat.le_of_ble_eq_true rfl⟩) rfl hl.1 rfl (Nat.le_of_ble_eq_true rfl) dX3_sack_9 ⟨Nat.le_of_ble_eq_true rfl, Nat.le_of_ble_eq_true rfl⟩ (fun u_ H locs hp hM => ?_)
  have hp := Eq.symm hp
  subst hp
  refine lv_aload_n hx hb dX3_sack_12 rfl (lv_at hl 0 rfl) ?_
  refine lv_iload_n hx hb dX3_sack_13 rfl (lv_at hl 3 rfl) ?_
  refine fb_callVi (r := (10 + i)) hx hb hml hown hts hM ((hC.sk hi).1) (ce1 ((hC.sk hi).2.1)) rfl (As := [.int (nI k)]) (rest := []) (c_X1_tells D y l S V I (10 + i) (200 + 2 * i) (hC.sk hi) (nI k)) (cwV 1 hts gX3_sack_X1_tells rfl rfl rfl (by decide +kernel) ⟨Nat.le_of_ble_eq_true rfl, Nat.le_of_ble_eq_true rfl⟩) rfl hl.1 rfl (Nat.le_of_ble_eq_true rfl) dX3_sack_14 ⟨Nat.le_of_ble_eq_true rfl, Nat.le_of_ble_eq_true rfl⟩ (fun v_3 u_ H locs hp hM => ?_)
  obtain ⟨hv_, hu_⟩ := hp
  have hv_ := Eq.symm hv_
  have hu_ := Eq.symm hu_
  subst hv_
  subst hu_
  rw [hQ]
  refine W.widen (show _ ≤ 2 from Nat.le_of_ble_eq_true rfl) (show _ ≤ 12 from Nat.le_of_ble_eq_true rfl) ?_
  exact fb_iret hx hb hr hlocks hM (⟨rfl, rfl⟩) dX3_sack_17

abbrev rm_X3_setWind : Room := { frames := 7, cells := 1, slots := 6, locals := 140 }
set_option maxHeartbeats 4000000 in
set_option maxRecDepth 100000 in
theorem c_X3_setWind_ok (D : va_G) (y : Nat → ClassId) (l : Launch) (S : fb_Sh) (V I : fb_V) (a1 ns nt es na : Nat) (hC : CpAt S a1 ns nt es na) (cf rf df : Nat → Nat) (hF : CF I ns nt cf rf df) (h : Nat) (hha : 1 ≤ h) (hh : h ≤ 20)  : CI D y l yX3_setWind wsX3_setWind rm_X3_setWind [.ref (sa S 0), .int (nI h)] (S, V, (sT V), I) (fun z u => z = I 0 4 ∧ u = (S, V, sT V, va_up I 0 (upd (I 0) 4 (nI h)))) 1 6 := by
  refine CI.of (cc := cX3_setWind) (maxL := 3) (ret := (some .int)) (by decide) rfl (Nat.le_of_ble_eq_true rfl) ?_
  intro pv ev s mv below meth cv A hx hb hml hr hown hts hlocks hname hM ls hl
  have hown : s.vm.findClass RX3 = some mv.cls := hown
  have hl : lv_has ls 3 [(0, .ref (sa S 0)), (1, .int (nI h))] := hl
  have hin3 : ∀ x ∈ wsX30, x ∈ wsX3_setWind := by decide +kernel
  obtain ⟨Q, hQ⟩ : ∃ Q, Q = MQ below (va_Qi (fun z u => z = I 0 4 ∧ u = (S, V, sT V, va_up I 0 (upd (I 0) 4 (nI h)))) (fun u t => fb_P D y A u t) A) (([.ref (sa S 0), .int (nI h)] : List Value).toArray) s 1 6 A := ⟨_, rfl⟩
  rw [← hQ]
  have hns : ns ≤ 12 := hF.2.2.1
  have hnt : nt ≤ 6 := hF.2.2.2.1
  refine lv_iload_n hx hb dX3_setWind_0 rfl (lv_at hl 1 rfl) ?_
  refine lv_iconst (v := 1) hx hb dX3_setWind_1 (by decide) ?_
  refine lv_bipush (v := 20) hx hb dX3_setWind_2 (by decide) ?_
  refine fb_callSv hx hb hml hown hts hM (As := [.int (nI h), .int 1, .int 20]) (rest := []) (c_X3_needRange D y l S V I (nI h) 1 20 (nI_nlt (b := 1) hha (by omega)) (nI_nlt (a := 20) hh (by omega))) (va_cwS 3 hts gX3_setWind_X3_needRange rfl rfl rfl (by decide +kernel) ⟨Nat.le_of_ble_eq_true rfl, Nat.le_of_ble_eq_true rfl⟩) rfl hl.1 rfl (Nat.le_of_ble_eq_true rfl) dX3_setWind_4 ⟨Nat.le_of_ble_eq_true rfl, Nat.le_of_ble_eq_true rfl⟩ (fun u_ H locs hp hM => ?_)
  have hp := Eq.symm hp
  subst hp
  refine lv_aload_n hx hb dX3_setWind_7 rfl (lv_at hl 0 rfl) ?_
  refine fb_get (r := 0) hx hb hown hts hin3 hM ((hC.1).1) (ce3 ((hC.1).2)) rfl 4 (by decide) (hts (.fieldLink RX3 35 "FeatherBeds" "wind" "I") (by decide +kernel)) (fun _ h9 => h9) (v := .int (I 0 4)) rfl dX3_setWind_8 ?_
  refine lv_istore_n (lv' := [(2, .int (I 0 4)), (0, .ref (sa S 0)), (1, .int (nI h))]) hx hb dX3_setWind_11 rfl hl (by decide) rfl (fun ls hl => ?_)
  refine lv_aload_n hx hb dX3_setWind_12 rfl (lv_at hl 1 rfl) ?_
  refine lv_iload_n hx hb dX3_setWind_13 rfl (lv_at hl 2 rfl) ?_
  refine fb_put (r := 0) hx hb hown hts hin3 tyX3 tyX3_ok nmX3 hM ((hC.1).1) (ce3 ((hC.1).2)) rfl 4 (by decide) (hts (.fieldLink RX3 35 "FeatherBeds" "wind" "I") (by decide +kernel)) (fun _ h9 => h9) rfl (ty := .int) (by decide +kernel) rfl rfl (Nat.le_of_ble_eq_true rfl) dX3_setWind_14 (up_I (j := 4) (v := nI h) (by rw [ce3 (S := S) ((hC.1).2)]; simp [va_up, upd])) (w' := (S, V, (sT V), (va_up I 0 (upd (I 0) 4 (nI h))))) ⟨rfl, rfl, rfl⟩ (fun H locs hM => ?_)
  refine lv_iload_n hx hb dX3_setWind_17 rfl (lv_at hl 0 rfl) ?_
  rw [hQ]
  refine W.widen (show _ ≤ 1 from Nat.le_of_ble_eq_true rfl) (show _ ≤ 6 from Nat.le_of_ble_eq_true rfl) ?_
  exact fb_iret hx hb hr hlocks hM (⟨rfl, rfl⟩) dX3_setWind_18

abbrev rm_X3_square : Room := { frames := 7, cells := 3, slots := 18, locals := 140 }
set_option maxHeartbeats 4000000 in
set_option maxRecDepth 100000 in
theorem c_X3_square_ok (D : va_G) (y : Nat → ClassId) (l : Launch) (S : fb_Sh) (V I : fb_V) (a1 ns nt es na : Nat) (hC : CpAt S a1 ns nt es na) (cf rf df : Nat → Nat) (hF : CF I ns nt cf rf df) (t : Nat) (ht : t < nt) (q : Nat) (hq : q < cf t * rf t) (k : Nat) (hk : k < 10)  : CI D y l yX3_square wsX3_square rm_X3_square [.ref (sa S 0), .int (nI t), .int (nI q), .int (nI k)] (S, V, (sT V), I) (fun z u => z = csq (cf t) (cf t * rf t) (I (30 + 4 * t + 2)) (tv V (300 + 72 * t)) q k ∧ u = (S, V, sT V, I)) 3 18 := by
  refine CI.of (cc := cX3_square) (maxL := 5) (ret := (some .int)) (by decide) rfl (Nat.le_of_ble_eq_true rfl) ?_
  intro pv ev s mv below meth cv A hx hb hml hr hown hts hlocks hname hM ls hl
  have hown : s.vm.findClass RX3 = some mv.cls := hown
  have hl : lv_has ls 5 [(0, .ref (sa S 0)), (1, .int (nI t)), (2, .int (nI q)), (3, .int (nI k))] := hl
  have hin3 : ∀ x ∈ wsX30, x ∈ wsX3_square := by decide +kernel
  have hin2 : ∀ x ∈ wsX20, x ∈ wsX3_square := by decide +kernel
  obtain ⟨Q, hQ⟩ : ∃ Q, Q = MQ below (va_Qi (fun z u => z = csq (cf t) (cf t * rf t) (I (30 + 4 * t + 2)) (tv V (300 + 72 * t)) q k ∧ u = (S, V, sT V, I)) (fun u t => fb_P D y A u t) A) (([.ref (sa S 0), .int (nI t), .int (nI q), .int (nI k)] : List Value).toArray) s 3 18 A := ⟨_, rfl⟩
  rw [← hQ]
  have hns : ns ≤ 12 := hF.2.2.1
  have hnt : nt ≤ 6 := hF.2.2.2.1
  have hfT := hF.2.2.2.2 t ht
  have hcr := hfT.le
  refine lv_aload_n hx hb dX3_square_0 rfl (lv_at hl 0 rfl) ?_
  refine lv_iload_n hx hb dX3_square_1 rfl (lv_at hl 1 rfl) ?_
  refine fb_callVr (r := 0) hx hb hml hown hts hM ((hC.1).1) (ce3 ((hC.1).2)) rfl (As := [.int (nI t)]) (rest := []) (c_X3_needTick D y l S V I a1 ns nt es na hC cf rf df hF t ht) (cwV 1 hts gX3_square_X3_needTick rfl rfl rfl (by decide +kernel) ⟨Nat.le_of_ble_eq_true rfl, Nat.le_of_ble_eq_true rfl⟩) rfl hl.1 rfl (Nat.le_of_ble_eq_true rfl) dX3_square_2 ⟨Nat.le_of_ble_eq_true rfl, Nat.le_of_ble_eq_true rfl⟩ (fun v_1 u_ H locs hp hM => ?_)
  obtain ⟨hv_, hu_⟩ := hp
  have hv_ := Eq.symm hv_
  have hu_ := Eq.symm hu_
  subst hv_
  subst hu_
  refine lv_astore (lv' := [(4, .ref (sa S (30 + 4 * t))), (0, .ref (sa S 0)), (1, .int (nI t)), (2, .int (nI q)), (3, .int (nI k))]) hx hb dX3_square_5 hl (by decide) rfl (fun ls hl => ?_)
  refine lv_iload_n hx hb dX3_square_7 rfl (lv_at hl 3 rfl) ?_
  refine lv_aload hx hb dX3_square_8 (lv_at hl 0 rfl) ?_
  refine fb_getN (r := (30 + 4 * t)) hx hb hown hts hin2 hM (((hC.tk ht).1)) (ce2 (((hC.tk ht).2.1))) rfl 3 (by decide) (host := "FeatherBeds") (by decide +kernel) (fun _ h9 => h9) (v := .int (nI ((cf t * rf t)))) (congrArg (fun z => some (Value.int z)) ((hF.2.2.2.2 t ht).2.2.2.1)) dX3_square_10 ?_
  refine fb_callSv hx hb hml hown hts hM (As := [.int (nI q), .int (nI ((cf t * rf t)))]) (rest := []) (c_X3_needIndex D y l S V I (nI q) (nI (cf t * rf t)) (nI_pos (by omega)) (nI_lt hq (by omega))) (va_cwS 2 hts gX3_square_X3_needIndex rfl rfl rfl (by decide +kernel) ⟨Nat.le_of_ble_eq_true rfl, Nat.le_of_ble_eq_true rfl⟩) rfl hl.1 rfl (Nat.le_of_ble_eq_true rfl) dX3_square_13 ⟨Nat.le_of_ble_eq_true rfl, Nat.le_of_ble_eq_true rfl⟩ (fun u_ H locs hp hM => ?_)
  have hp := Eq.symm hp
  subst hp
  refine lv_iload_n hx hb dX3_square_16 rfl (lv_at hl 4 rfl) ?_
  refine lv_bipush (v := 10) hx hb dX3_square_17 (by decide) ?_
  refine fb_callSv hx hb hml hown hts hM (As := [.int (nI k), .int 10]) (rest := []) (c_X3_needIndex D y l S V I (nI k) 10 (nI_pos (by omega)) (nI_lt (b := 10) hk (by omega))) (va_cwS 2 hts gX3_square_X3_needIndex rfl rfl rfl (by decide +kernel) ⟨Nat.le_of_ble_eq_true rfl, Nat.le_of_ble_eq_true rfl⟩) rfl hl.1 rfl (Nat.le_of_ble_eq_true rfl) dX3_square_19 ⟨Nat.le_of_ble_eq_true rfl, Nat.le_of_ble_eq_true rfl⟩ (fun u_ H locs hp hM => ?_)
  have hp := Eq.symm hp
  subst hp
  refine lv_aload hx hb dX3_square_22 (lv_at hl 0 rfl) ?_
  refine lv_iload_n hx hb dX3_square_24 rfl (lv_at hl 3 rfl) ?_
  refine lv_iload_n hx hb dX3_square_25 rfl (lv_at hl 4 rfl) ?_
  refine fb_callVi (r := (30 + 4 * t)) hx hb hml hown hts hM (((hC.tk ht).1)) (ce2 (((hC.tk ht).2.1))) rfl (As := [.int (nI q), .int (nI k)]) (rest := []) (c_X2_squareTells_v D y l S V I (30 + 4 * t) (300 + 72 * t) (cf t) (rf t) (df t) (hC.tk ht) (hF.2.2.2.2 t ht) (tv V (300 + 72 * t)) (fun _ _ => rfl) q hq k hk) (cwV 2 hts gX3_square_X2_squareTells rfl rfl rfl (by decide +kernel) ⟨Nat.le_of_ble_eq_true rfl, Nat.le_of_ble_eq_true rfl⟩) rfl hl.1 rfl (Nat.le_of_ble_eq_true rfl) dX3_square_26 ⟨Nat.le_of_ble_eq_true rfl, Nat.le_of_ble_eq_true rfl⟩ (fun v_4 u_ H locs hp hM => ?_)
  obtain ⟨hv_, hu_⟩ := hp
  have hv_ := Eq.symm hv_
  have hu_ := Eq.symm hu_
  subst hv_
  subst hu_
  rw [hQ]
  refine W.widen (show _ ≤ 3 from Nat.le_of_ble_eq_true rfl) (show _ ≤ 18 from Nat.le_of_ble_eq_true rfl) ?_
  exact fb_iret hx hb hr hlocks hM (⟨rfl, rfl⟩) dX3_square_29

abbrev rm_X3_tick : Room := { frames := 7, cells := 2, slots := 12, locals := 140 }
set_option maxHeartbeats 4000000 in
set_option maxRecDepth 100000 in
theorem c_X3_tick_ok (D : va_G) (y : Nat → ClassId) (l : Launch) (S : fb_Sh) (V I : fb_V) (a1 ns nt es na : Nat) (hC : CpAt S a1 ns nt es na) (cf rf df : Nat → Nat) (hF : CF I ns nt cf rf df) (t : Nat) (ht : t < nt) (k : Nat) (hk : k < 9)  : CI D y l yX3_tick wsX3_tick rm_X3_tick [.ref (sa S 0), .int (nI t), .int (nI k)] (S, V, (sT V), I) (fun z u => ∃ p g, (k = 8 → cpt (cf t) (cf t * rf t) (I (30 + 4 * t + 2)) p) ∧ z = ctk (cf t) (rf t) (df t) (tv V (300 + 72 * t)) (I (30 + 4 * t + 2)) p k ∧ u = (S, V, sT V, va_up I (30 + 4 * t + 3) g)) 2 12 := by
  refine CI.of (cc := cX3_tick) (maxL := 4) (ret := (some .int)) (by decide) rfl (Nat.le_of_ble_eq_true rfl) ?_
  intro pv ev s mv below meth cv A hx hb hml hr hown hts hlocks hname hM ls hl
  have hown : s.vm.findClass RX3 = some mv.cls := hown
  have hl : lv_has ls 4 [(0, .ref (sa S 0)), (1, .int (nI t)), (2, .int (nI k))] := hl
  have hin3 : ∀ x ∈ wsX30, x ∈ wsX3_tick := by decide +kernel
  obtain ⟨Q, hQ⟩ : ∃ Q, Q = MQ below (va_Qi (fun z u => ∃ p g, (k = 8 → cpt (cf t) (cf t * rf t) (I (30 + 4 * t + 2)) p) ∧ z = ctk (cf t) (rf t) (df t) (tv V (300 + 72 * t)) (I (30 + 4 * t + 2)) p k ∧ u = (S, V, sT V, va_up I (30 + 4 * t + 3) g)) (fun u t => fb_P D y A u t) A) (([.ref (sa S 0), .int (nI t), .int (nI k)] : List Value).toArray) s 2 12 A := ⟨_, rfl⟩
  rw [← hQ]
  have hns : ns ≤ 12 := hF.2.2.1
  have hnt : nt ≤ 6 := hF.2.2.2.1
  have hfT := hF.2.2.2.2 t ht
  have hcr := hfT.le
  refine lv_aload_n hx hb dX3_tick_0 rfl (lv_at hl 0 rfl) ?_
  refine lv_iload_n hx hb dX3_tick_1 rfl (lv_at hl 1 rfl) ?_
  refine fb_callVr (r := 0) hx hb hml hown hts hM ((hC.1).1) (ce3 ((hC.1).2)) rfl (As := [.int (nI t)]) (rest := []) (c_X3_needTick D y l S V I a1 ns nt es na hC cf rf df hF t ht) (cwV 1 hts gX3_tick_X3_needTick rfl rfl rfl (by decide +kernel) ⟨Nat.le_of_ble_eq_true rfl, Nat.le_of_ble_eq_true rfl⟩) rfl hl.1 rfl (Nat.le_of_ble_eq_true rfl) dX3_tick_2 ⟨Nat.le_of_ble_eq_true rfl, Nat.le_of_ble_eq_true rfl⟩ (fun v_1 u_ H locs hp hM => ?_)
  obtain ⟨hv_, hu_⟩ := hp
  have hv_ := Eq.symm hv_
  have hu_ := Eq.symm hu_
  subst hv_
  subst hu_
  refine lv_astore_n (lv' := [(3, .ref (sa S (30 + 4 * t))), (0, .ref (sa S 0)), (1, .int (nI t)), (2, .int (nI k))]) hx hb dX3_tick_5 rfl hl (by decide) rfl (fun ls hl => ?_)
  refine lv_iload_n hx hb dX3_tick_6 rfl (lv_at hl 3 rfl) ?_
  refine lv_bipush (v := 9) hx hb dX3_tick_7 (by decide) ?_
  refine fb_callSv hx hb hml hown hts hM (As := [.int (nI k), .int 9]) (rest := []) (c_X3_needIndex D y l S V I (nI k) 9 (nI_pos (by omega)) (nI_lt (b := 9) hk (by omega))) (va_cwS 2 hts gX3_tick_X3_needIndex rfl rfl rfl (by decide +kernel) ⟨Nat.le_of_ble_eq_true rfl, Nat.le_of_ble_eq_true rfl⟩) rfl hl.1 rfl (Nat.le_of_ble_eq_true rfl) dX3_tick_9 ⟨Nat.le_of_ble_eq_true rfl, Nat.le_of_ble_eq_true rfl⟩ (fun u_ H locs hp hM => ?_)
  have hp := Eq.symm hp
  subst hp
  refine lv_aload_n hx hb dX3_tick_12 rfl (lv_at hl 0 rfl) ?_
  refine lv_iload_n hx hb dX3_tick_13 rfl (lv_at hl 3 rfl) ?_
  refine fb_callVi (r := (30 + 4 * t)) hx hb hml hown hts hM (((hC.tk ht).1)) (ce2 (((hC.tk ht).2.1))) rfl (As := [.int (nI k)]) (rest := []) (c_X2_tells_v D y l S V I (30 + 4 * t) (300 + 72 * t) (cf t) (rf t) (df t) (hC.tk ht) (hF.2.2.2.2 t ht) (tv V (300 + 72 * t)) (fun _ _ => rfl) k hk) (cwV 1 hts gX3_tick_X2_tells rfl rfl rfl (by decide +kernel) ⟨Nat.le_of_ble_eq_true rfl, Nat.le_of_ble_eq_true rfl⟩) rfl hl.1 rfl (Nat.le_of_ble_eq_true rfl) dX3_tick_14 ⟨Nat.le_of_ble_eq_true rfl, Nat.le_of_ble_eq_true rfl⟩ (fun v_3 u_ H locs hp hM => ?_)
  rw [hQ]
  refine W.widen (show _ ≤ 2 from Nat.le_of_ble_eq_true rfl) (show _ ≤ 12 from Nat.le_of_ble_eq_true rfl) ?_
  exact fb_iret hx hb hr hlocks hM (hp) dX3_tick_17

abbrev rm_X3_count : Room := { frames := 7, cells := 1, slots := 6, locals := 140 }
set_option maxHeartbeats 4000000 in
set_option maxRecDepth 100000 in
theorem c_X3_count_ok (D : va_G) (y : Nat → ClassId) (l : Launch) (S : fb_Sh) (V I : fb_V) (a1 ns nt es na : Nat) (hC : CpAt S a1 ns nt es na) (cf rf df : Nat → Nat) (hF : CF I ns nt cf rf df) (k : Nat) (hk : k < 9)  : CI D y l yX3_count wsX3_count rm_X3_count [.ref (sa S 0), .int (nI k)] (S, V, (sT V), I) (fun z u => z = cnc V I ns nt k ∧ u = (S, V, sT V, I)) 1 6 := by
  refine CI.of (cc := cX3_count) (maxL := 2) (ret := (some .int)) (by decide) rfl (Nat.le_of_ble_eq_true rfl) ?_
  intro pv ev s mv below meth cv A hx hb hml hr hown hts hlocks hname hM ls hl
  have hown : s.vm.findClass RX3 = some mv.cls := hown
  have hl : lv_has ls 2 [(0, .ref (sa S 0)), (1, .int (nI k))] := hl
  have hin3 : ∀ x ∈ wsX30, x ∈ wsX3_count := by decide +kernel
  obtain ⟨Q, hQ⟩ : ∃ Q, Q = MQ below (va_Qi (fun z u => z = cnc V I ns nt k ∧ u = (S, V, sT V, I)) (fun u t => fb_P D y A u t) A) (([.ref (sa S 0), .int (nI k)] : List Value).toArray) s 1 6 A := ⟨_, rfl⟩
  rw [← hQ]
  have hns : ns ≤ 12 := hF.2.2.1
  have hnt : nt ≤ 6 := hF.2.2.2.1
  refine lv_iload_n hx hb dX3_count_0 rfl (lv_at hl 1 rfl) ?_
  refine lv_bipush (v := 9) hx hb dX3_count_1 (by decide) ?_
  refine fb_callSv hx hb hml hown hts hM (As := [.int (nI k), .int 9]) (rest := []) (c_X3_needIndex D y l S V I (nI k) 9 (nI_pos (by omega)) (nI_lt (b := 9) hk (by omega))) (va_cwS 2 hts gX3_count_X3_needIndex rfl rfl rfl (by decide +kernel) ⟨Nat.le_of_ble_eq_true rfl, Nat.le_of_ble_eq_true rfl⟩) rfl hl.1 rfl (Nat.le_of_ble_eq_true rfl) dX3_count_3 ⟨Nat.le_of_ble_eq_true rfl, Nat.le_of_ble_eq_true rfl⟩ (fun u_ H locs hp hM => ?_)
  have hp := Eq.symm hp
  subst hp
  refine lv_aload_n hx hb dX3_count_6 rfl (lv_at hl 0 rfl) ?_
  refine lv_iload_n hx hb dX3_count_7 rfl (lv_at hl 1 rfl) ?_
  refine fb_callVi (r := 0) hx hb hml hown hts hM ((hC.1).1) (ce3 ((hC.1).2)) rfl (As := [.int (nI k)]) (rest := []) (c_X3_countTells_v D y l S V I a1 ns nt es na hC cf rf df hF k hk) (cwV 1 hts gX3_count_X3_countTells rfl rfl rfl (by decide +kernel) ⟨Nat.le_of_ble_eq_true rfl, Nat.le_of_ble_eq_true rfl⟩) rfl hl.1 rfl (Nat.le_of_ble_eq_true rfl) dX3_count_8 ⟨Nat.le_of_ble_eq_true rfl, Nat.le_of_ble_eq_true rfl⟩ (fun v_2 u_ H locs hp hM => ?_)
  obtain ⟨hv_, hu_⟩ := hp
  have hv_ := Eq.symm hv_
  have hu_ := Eq.symm hu_
  subst hv_
  subst hu_
  rw [hQ]
  refine W.widen (show _ ≤ 1 from Nat.le_of_ble_eq_true rfl) (show _ ≤ 6 from Nat.le_of_ble_eq_true rfl) ?_
  exact fb_iret hx hb hr hlocks hM (⟨rfl, rfl⟩) dX3_count_11
