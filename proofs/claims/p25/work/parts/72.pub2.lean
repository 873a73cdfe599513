abbrev rm_X3_sweep : Room := { frames := 7, cells := 2, slots := 12, locals := 140 }
set_option maxHeartbeats 4000000 in
set_option maxRecDepth 100000 in
theorem c_X3_sweep_ok (D : va_G) (y : Nat → ClassId) (l : Launch) (S : fb_Sh) (V I : fb_V) (a1 ns nt es na : Nat) (hC : CpAt S a1 ns nt es na) (cf rf df : Nat → Nat) (hF : CF I ns nt cf rf df) (q : Nat) (hq : q < 5) (i : Nat) (hi : i < ns)  : CI D y l yX3_sweep wsX3_sweep rm_X3_sweep [.ref (sa S 0), .int (nI q), .int (nI i)] (S, V, (sT V), I) (fun z u => z = sws (V (100 + 2 * q)) (V (200 + 2 * i)) 6 ∧ u = (S, (va_up (va_up V (100 + 2 * q) (swa (V (100 + 2 * q)) (V (200 + 2 * i)) 6)) (200 + 2 * i) (swb (V (100 + 2 * q)) (V (200 + 2 * i)) 6)), sT (va_up (va_up V (100 + 2 * q) (swa (V (100 + 2 * q)) (V (200 + 2 * i)) 6)) (200 + 2 * i) (swb (V (100 + 2 * q)) (V (200 + 2 * i)) 6)), I)) 2 12 := by
  refine CI.of (cc := cX3_sweep) (maxL := 8) (ret := (some .int)) (by decide) rfl (Nat.le_of_ble_eq_true rfl) ?_
  intro pv ev s mv below meth cv A hx hb hml hr hown hts hlocks hname hM ls hl
  have hown : s.vm.findClass RX3 = some mv.cls := hown
  have hl : lv_has ls 8 [(0, .ref (sa S 0)), (1, .int (nI q)), (2, .int (nI i))] := hl
  have hin3 : ∀ x ∈ wsX30, x ∈ wsX3_sweep := by decide +kernel
  have hin0 : ∀ x ∈ wsX00, x ∈ wsX3_sweep := by decide +kernel
  have hin1 : ∀ x ∈ wsX10, x ∈ wsX3_sweep := by decide +kernel
  obtain ⟨Q, hQ⟩ : ∃ Q, Q = MQ below (va_Qi (fun z u => z = sws (V (100 + 2 * q)) (V (200 + 2 * i)) 6 ∧ u = (S, (va_up (va_up V (100 + 2 * q) (swa (V (100 + 2 * q)) (V (200 + 2 * i)) 6)) (200 + 2 * i) (swb (V (100 + 2 * q)) (V (200 + 2 * i)) 6)), sT (va_up (va_up V (100 + 2 * q) (swa (V (100 + 2 * q)) (V (200 + 2 * i)) 6)) (200 + 2 * i) (swb (V (100 + 2 * q)) (V (200 + 2 * i)) 6)), I)) (fun u t => fb_P D y A u t) A) (([.ref (sa S 0), .int (nI q), .int (nI i)] : List Value).toArray) s 2 12 A := ⟨_, rfl⟩
  rw [← hQ]
  have hns : ns ≤ 12 := hF.2.2.1
  have hnt : nt ≤ 6 := hF.2.2.2.1
  refine lv_aload_n hx hb dX3_sweep_0 rfl (lv_at hl 0 rfl) ?_
  refine lv_iload_n hx hb dX3_sweep_1 rfl (lv_at hl 1 rfl) ?_
  refine fb_callVr (r := 0) hx hb hml hown hts hM ((hC.1).1) (ce3 ((hC.1).2)) rfl (As := [.int (nI q)]) (rest := []) (c_X3_needChamber D y l S V I a1 ns nt es na hC cf rf df hF q hq) (cwV 1 hts gX3_sweep_X3_needChamber rfl rfl rfl (by decide +kernel) ⟨Nat.le_of_ble_eq_true rfl, Nat.le_of_ble_eq_true rfl⟩) rfl hl.1 rfl (Nat.le_of_ble_eq_true rfl) dX3_sweep_2 ⟨Nat.le_of_ble_eq_true rfl, Nat.le_of_ble_eq_true rfl⟩ (fun v_1 u_ H locs hp hM => ?_)
  obtain ⟨hv_, hu_⟩ := hp
  have hv_ := Eq.symm hv_
  have hu_ := Eq.symm hu_
  subst hv_
  subst hu_
  refine lv_astore_n (lv' := [(3, .ref (sa S (100 + 2 * q))), (0, .ref (sa S 0)), (1, .int (nI q)), (2, .int (nI i))]) hx hb dX3_sweep_5 rfl hl (by decide) rfl (fun ls hl => ?_)
  refine lv_aload_n hx hb dX3_sweep_6 rfl (lv_at hl 1 rfl) ?_
  refine lv_iload_n hx hb dX3_sweep_7 rfl (lv_at hl 3 rfl) ?_
  refine fb_callVr (r := 0) hx hb hml hown hts hM ((hC.1).1) (ce3 ((hC.1).2)) rfl (As := [.int (nI i)]) (rest := []) (c_X3_needSack D y l S V I a1 ns nt es na hC cf rf df hF i hi) (cwV 1 hts gX3_sweep_X3_needSack rfl rfl rfl (by decide +kernel) ⟨Nat.le_of_ble_eq_true rfl, Nat.le_of_ble_eq_true rfl⟩) rfl hl.1 rfl (Nat.le_of_ble_eq_true rfl) dX3_sweep_8 ⟨Nat.le_of_ble_eq_true rfl, Nat.le_of_ble_eq_true rfl⟩ (fun v_2 u_ H locs hp hM => ?_)
  obtain ⟨hv_, hu_⟩ := hp
  have hv_ := Eq.symm hv_
  have hu_ := Eq.symm hu_
  subst hv_
  subst hu_
  refine fb_getN (r := (10 + i)) hx hb hown hts hin1 hM ((hC.sk hi).1) (ce1 ((hC.sk hi).2.1)) rfl 0 (by decide) (host := "FeatherBeds") (by decide +kernel) (fun _ h9 => h9) (v := .ref (sa S (200 + 2 * i))) (congrArg (fun z => some (va_rf z)) ((hC.sk hi).2.2.1)) dX3_sweep_11 ?_
  refine lv_astore (lv' := [(4, .ref (sa S (200 + 2 * i))), (3, .ref (sa S (100 + 2 * q))), (0, .ref (sa S 0)), (1, .int (nI q)), (2, .int (nI i))]) hx hb dX3_sweep_14 hl (by decide) rfl (fun ls hl => ?_)
  refine lv_iconst (v := 0) hx hb dX3_sweep_16 (by decide) ?_
  refine lv_istore (lv' := [(5, .int 0), (4, .ref (sa S (200 + 2 * i))), (3, .ref (sa S (100 + 2 * q))), (0, .ref (sa S 0)), (1, .int (nI q)), (2, .int (nI i))]) hx hb dX3_sweep_17 hl (by decide) rfl (fun ls hl => ?_)
  refine lv_iconst (v := 0) hx hb dX3_sweep_19 (by decide) ?_
  refine lv_istore (lv' := [(6, .int 0), (5, .int 0), (4, .ref (sa S (200 + 2 * i))), (3, .ref (sa S (100 + 2 * q))), (0, .ref (sa S 0)), (1, .int (nI q)), (2, .int (nI i))]) hx hb dX3_sweep_20 hl (by decide) rfl (fun ls hl => ?_)
  have LP_22 : ∀ (n : Nat) (k : Nat) (hk : k ≤ 6), 6 - k < n → ∀ (H : Heap) (locs : List Loc), fb_M D y A s (S, (va_up (va_up V (100 + 2 * q) (swa (V (100 + 2 * q)) (V (200 + 2 * i)) k)) (200 + 2 * i) (swb (V (100 + 2 * q)) (V (200 + 2 * i)) k)), (sT (va_up (va_up V (100 + 2 * q) (swa (V (100 + 2 * q)) (V (200 + 2 * i)) k)) (200 + 2 * i) (swb (V (100 + 2 * q)) (V (200 + 2 * i)) k))), I) H locs → ∀ ls, lv_has ls 8 [(6, .int (nI k)), (5, .int (sws (V (100 + 2 * q)) (V (200 + 2 * i)) k)), (4, .ref (sa S (200 + 2 * i))), (3, .ref (sa S (100 + 2 * q))), (0, .ref (sa S 0)), (1, .int (nI q)), (2, .int (nI i))] → W pv l ev rm_X3_sweep s mv ([.ref (sa S 0), .int (nI q), .int (nI i)] : List Value).toArray below meth cv H locs (0 + 1 + 1) (0 + 6 + 6) Q (F0 mv 22 ls []) := by
    intro n_22
    induction n_22 with
    | zero => intro k hk hmu; exact absurd hmu (Nat.not_lt_zero _)
    | succ n_22 ih_22 =>
      intro k hk hmu H locs hM ls hl
      refine lv_iload hx hb dX3_sweep_22 (lv_at hl 0 rfl) ?_
      refine lv_bipush (v := 6) hx hb dX3_sweep_24 (by decide) ?_
      refine lv_icmp_ge (tgt := 82) hx hb dX3_sweep_26 (by decide) (fun c_3 => ?_) (fun c_3 => ?_)
      · skip
        have e_k : k = 6 := by have := (nI_leI (a := 6) (b := k) (by omega) (by omega)).mp c_3; omega
        have e_k := Eq.symm e_k
        subst e_k
        refine lv_iload hx hb dX3_sweep_82 (lv_at hl 1 rfl) ?_
        rw [hQ]
        refine W.widen (show _ ≤ 2 from Nat.le_of_ble_eq_true rfl) (show _ ≤ 12 from Nat.le_of_ble_eq_true rfl) ?_
        exact fb_iret hx hb hr hlocks hM (⟨rfl, rfl⟩) dX3_sweep_84
      · skip
        have hkk : k < 6 := Nat.lt_of_not_le (fun h => c_3 (nI_le h (by omega)))
        refine lv_aload_n hx hb dX3_sweep_29 rfl (lv_at hl 3 rfl) ?_
        refine lv_iload hx hb dX3_sweep_30 (lv_at hl 0 rfl) ?_
        refine fb_callVi (r := (100 + 2 * q)) hx hb hml hown hts hM (((hC.hp hq)).1) (ce0 (((hC.hp hq)).2.1)) rfl (As := [.int (nI k)]) (rest := []) (c_X0_of D y l S (va_up (va_up V (100 + 2 * q) (swa (V (100 + 2 * q)) (V (200 + 2 * i)) k)) (200 + 2 * i) (swb (V (100 + 2 * q)) (V (200 + 2 * i)) k)) I (100 + 2 * q) (hC.hp hq) (nI k)) (cwV 1 hts gX3_sweep_X0_of rfl rfl rfl (by decide +kernel) ⟨Nat.le_of_ble_eq_true rfl, Nat.le_of_ble_eq_true rfl⟩) rfl hl.1 rfl (Nat.le_of_ble_eq_true rfl) dX3_sweep_32 ⟨Nat.le_of_ble_eq_true rfl, Nat.le_of_ble_eq_true rfl⟩ (fun v_4 u_ H locs hp hM => ?_)
        obtain ⟨hv_, hu_⟩ := hp
        have hv_ := Eq.symm hv_
        have hu_ := Eq.symm hu_
        subst hv_
        subst hu_
        rw [of6_n ((va_up (va_up V (100 + 2 * q) (swa (V (100 + 2 * q)) (V (200 + 2 * i)) k)) (200 + 2 * i) (swb (V (100 + 2 * q)) (V (200 + 2 * i)) k)) (100 + 2 * q)) (k := k) (by omega)]
        rw [show ((va_up (va_up V (100 + 2 * q) (swa (V (100 + 2 * q)) (V (200 + 2 * i)) k)) (200 + 2 * i) (swb (V (100 + 2 * q)) (V (200 + 2 * i)) k)) (100 + 2 * q) k : Int32) = (V (100 + 2 * q)) k from by rw [va_up_ne _ _ (show 100 + 2 * q ≠ 200 + 2 * i by omega), va_up_self, swa_i]]
        refine lv_sipush (v := 500) hx hb dX3_sweep_35 (by decide) ?_
        refine lv_aload hx hb dX3_sweep_38 (lv_at hl 2 rfl) ?_
        refine lv_iload hx hb dX3_sweep_40 (lv_at hl 0 rfl) ?_
        refine fb_callVi (r := (200 + 2 * i)) hx hb hml hown hts hM (((hC.sk hi).2.2.2).1) (ce0 (((hC.sk hi).2.2.2).2.1)) rfl (As := [.int (nI k)]) (rest := [.int 500, .int ((V (100 + 2 * q)) k)]) (c_X0_of D y l S (va_up (va_up V (100 + 2 * q) (swa (V (100 + 2 * q)) (V (200 + 2 * i)) k)) (200 + 2 * i) (swb (V (100 + 2 * q)) (V (200 + 2 * i)) k)) I (200 + 2 * i) (hC.sk hi).2.2.2 (nI k)) (cwV 1 hts gX3_sweep_X0_of rfl rfl rfl (by decide +kernel) ⟨Nat.le_of_ble_eq_true rfl, Nat.le_of_ble_eq_true rfl⟩) rfl hl.1 rfl (Nat.le_of_ble_eq_true rfl) dX3_sweep_42 ⟨Nat.le_of_ble_eq_true rfl, Nat.le_of_ble_eq_true rfl⟩ (fun v_5 u_ H locs hp hM => ?_)
        obtain ⟨hv_, hu_⟩ := hp
        have hv_ := Eq.symm hv_
        have hu_ := Eq.symm hu_
        subst hv_
        subst hu_
        rw [of6_n ((va_up (va_up V (100 + 2 * q) (swa (V (100 + 2 * q)) (V (200 + 2 * i)) k)) (200 + 2 * i) (swb (V (100 + 2 * q)) (V (200 + 2 * i)) k)) (200 + 2 * i)) (k := k) (by omega)]
        rw [show ((va_up (va_up V (100 + 2 * q) (swa (V (100 + 2 * q)) (V (200 + 2 * i)) k)) (200 + 2 * i) (swb (V (100 + 2 * q)) (V (200 + 2 * i)) k)) (200 + 2 * i) k : Int32) = (V (200 + 2 * i)) k from by rw [va_up_self, swb_i]]
        refine lv_isub hx hb dX3_sweep_45 ?_
        refine va_mmin hx hb (hml.trans hl.1.symm) hown (hts (.methodLink RX3 106 Lib.Math.min.name) (by decide +kernel)) (hts (.static Lib.Math.min.name) (by decide +kernel)) (hts (.initialized "java/lang/Math") (by decide +kernel)) (hts (.code Lib.Math.min.name Lib.Math.min.code 2 (some .int)) (by decide +kernel)) (Nat.le_of_ble_eq_true rfl) (Nat.le_of_ble_eq_true rfl) (Nat.le_of_ble_eq_true rfl) (Nat.le_of_ble_eq_true rfl) dX3_sweep_46 ?_
        refine W.eq (g2 := F0 mv _ ls (.int (swn (V (100 + 2 * q)) (V (200 + 2 * i)) k) :: [])) (by first | rfl | rw [show (if 500 - ((V (200 + 2 * i)) k) < (V (100 + 2 * q)) k then 500 - ((V (200 + 2 * i)) k) else (V (100 + 2 * q)) k : Int32) = swn (V (100 + 2 * q)) (V (200 + 2 * i)) k from rfl]) ?_
        refine lv_istore (lv' := [(7, .int (swn (V (100 + 2 * q)) (V (200 + 2 * i)) k)), (6, .int (nI k)), (5, .int (sws (V (100 + 2 * q)) (V (200 + 2 * i)) k)), (4, .ref (sa S (200 + 2 * i))), (3, .ref (sa S (100 + 2 * q))), (0, .ref (sa S 0)), (1, .int (nI q)), (2, .int (nI i))]) hx hb dX3_sweep_49 hl (by decide) rfl (fun ls hl => ?_)
        refine lv_aload_n hx hb dX3_sweep_51 rfl (lv_at hl 4 rfl) ?_
        refine lv_iload hx hb dX3_sweep_52 (lv_at hl 1 rfl) ?_
        refine lv_iload hx hb dX3_sweep_54 (lv_at hl 0 rfl) ?_
        refine lv_ineg hx hb dX3_sweep_56 ?_
        refine fb_callVv (r := (100 + 2 * q)) hx hb hml hown hts hM (((hC.hp hq)).1) (ce0 (((hC.hp hq)).2.1)) rfl (As := [.int (nI k), .int (-(swn (V (100 + 2 * q)) (V (200 + 2 * i)) k))]) (rest := []) (c_X0_change D y l S (va_up (va_up V (100 + 2 * q) (swa (V (100 + 2 * q)) (V (200 + 2 * i)) k)) (200 + 2 * i) (swb (V (100 + 2 * q)) (V (200 + 2 * i)) k)) I (100 + 2 * q) (hC.hp hq) k (by omega) (-(swn (V (100 + 2 * q)) (V (200 + 2 * i)) k))) (cwV 2 hts gX3_sweep_X0_change rfl rfl rfl (by decide +kernel) ⟨Nat.le_of_ble_eq_true rfl, Nat.le_of_ble_eq_true rfl⟩) rfl hl.1 rfl (Nat.le_of_ble_eq_true rfl) dX3_sweep_57 ⟨Nat.le_of_ble_eq_true rfl, Nat.le_of_ble_eq_true rfl⟩ (fun u_ H locs hp hM => ?_)
        have hp := Eq.symm hp
        subst hp
        have eV : (va_up (va_up (va_up V (100 + 2 * q) (swa (V (100 + 2 * q)) (V (200 + 2 * i)) k)) (200 + 2 * i) (swb (V (100 + 2 * q)) (V (200 + 2 * i)) k)) (100 + 2 * q) (chv ((va_up (va_up V (100 + 2 * q) (swa (V (100 + 2 * q)) (V (200 + 2 * i)) k)) (200 + 2 * i) (swb (V (100 + 2 * q)) (V (200 + 2 * i)) k)) (100 + 2 * q)) k (-(swn (V (100 + 2 * q)) (V (200 + 2 * i)) k)))) = (va_up (va_up V (100 + 2 * q) (swa (V (100 + 2 * q)) (V (200 + 2 * i)) (k + 1))) (200 + 2 * i) (swb (V (100 + 2 * q)) (V (200 + 2 * i)) k)) := by rw [va_up_ne _ _ (show 100 + 2 * q ≠ 200 + 2 * i by omega), va_up_self, up_sw _ _ _ (show 200 + 2 * i ≠ 100 + 2 * q by omega), up_up]; exact congrArg (fun x => va_up (va_up V (100 + 2 * q) x) (200 + 2 * i) _) (swa_ch (V (100 + 2 * q)) (V (200 + 2 * i)) k)
        rw [eV] at hM
        clear eV
        refine lv_aload hx hb dX3_sweep_60 (lv_at hl 3 rfl) ?_
        refine lv_iload hx hb dX3_sweep_62 (lv_at hl 1 rfl) ?_
        refine lv_iload hx hb dX3_sweep_64 (lv_at hl 0 rfl) ?_
        refine fb_callVv (r := (200 + 2 * i)) hx hb hml hown hts hM (((hC.sk hi).2.2.2).1) (ce0 (((hC.sk hi).2.2.2).2.1)) rfl (As := [.int (nI k), .int (swn (V (100 + 2 * q)) (V (200 + 2 * i)) k)]) (rest := []) (c_X0_change D y l S (va_up (va_up V (100 + 2 * q) (swa (V (100 + 2 * q)) (V (200 + 2 * i)) (k + 1))) (200 + 2 * i) (swb (V (100 + 2 * q)) (V (200 + 2 * i)) k)) I (200 + 2 * i) (hC.sk hi).2.2.2 k (by omega) (swn (V (100 + 2 * q)) (V (200 + 2 * i)) k)) (cwV 2 hts gX3_sweep_X0_change rfl rfl rfl (by decide +kernel) ⟨Nat.le_of_ble_eq_true rfl, Nat.le_of_ble_eq_true rfl⟩) rfl hl.1 rfl (Nat.le_of_ble_eq_true rfl) dX3_sweep_66 ⟨Nat.le_of_ble_eq_true rfl, Nat.le_of_ble_eq_true rfl⟩ (fun u_ H locs hp hM => ?_)
        have hp := Eq.symm hp
        subst hp
        have eV : (va_up (va_up (va_up V (100 + 2 * q) (swa (V (100 + 2 * q)) (V (200 + 2 * i)) (k + 1))) (200 + 2 * i) (swb (V (100 + 2 * q)) (V (200 + 2 * i)) k)) (200 + 2 * i) (chv ((va_up (va_up V (100 + 2 * q) (swa (V (100 + 2 * q)) (V (200 + 2 * i)) (k + 1))) (200 + 2 * i) (swb (V (100 + 2 * q)) (V (200 + 2 * i)) k)) (200 + 2 * i)) k (swn (V (100 + 2 * q)) (V (200 + 2 * i)) k))) = (va_up (va_up V (100 + 2 * q) (swa (V (100 + 2 * q)) (V (200 + 2 * i)) (k + 1))) (200 + 2 * i) (swb (V (100 + 2 * q)) (V (200 + 2 * i)) (k + 1))) := by rw [va_up_self, up_up]; exact congrArg (fun x => va_up _ (200 + 2 * i) x) (swb_ch (V (100 + 2 * q)) (V (200 + 2 * i)) k)
        rw [eV] at hM
        clear eV
        refine lv_iload hx hb dX3_sweep_69 (lv_at hl 2 rfl) ?_
        refine lv_iload hx hb dX3_sweep_71 (lv_at hl 0 rfl) ?_
        refine lv_iadd hx hb dX3_sweep_73 ?_
        refine lv_istore (lv' := [(5, .int ((sws (V (100 + 2 * q)) (V (200 + 2 * i)) k) + (swn (V (100 + 2 * q)) (V (200 + 2 * i)) k))), (7, .int (swn (V (100 + 2 * q)) (V (200 + 2 * i)) k)), (6, .int (nI k)), (4, .ref (sa S (200 + 2 * i))), (3, .ref (sa S (100 + 2 * q))), (0, .ref (sa S 0)), (1, .int (nI q)), (2, .int (nI i))]) hx hb dX3_sweep_74 hl (by decide) rfl (fun ls hl => ?_)
        refine lv_iinc (v := nI (k + 1)) (lv' := [(6, .int (nI (k + 1))), (5, .int ((sws (V (100 + 2 * q)) (V (200 + 2 * i)) k) + (swn (V (100 + 2 * q)) (V (200 + 2 * i)) k))), (7, .int (swn (V (100 + 2 * q)) (V (200 + 2 * i)) k)), (4, .ref (sa S (200 + 2 * i))), (3, .ref (sa S (100 + 2 * q))), (0, .ref (sa S 0)), (1, .int (nI q)), (2, .int (nI i))]) hx hb dX3_sweep_76 hl (k := 2) rfl (nI_1 _) (by decide) rfl (fun ls hl => ?_)
        refine lv_goto (tgt := 22) hx hb dX3_sweep_79 (by decide) ?_
        exact ih_22 (k + 1) (by omega) (by omega) _ _ hM ls (lv_sub hl [0, 1, 3, 4, 5, 6, 7] rfl)
  rw [show V = (va_up (va_up V (100 + 2 * q) (swa (V (100 + 2 * q)) (V (200 + 2 * i)) 0)) (200 + 2 * i) (swb (V (100 + 2 * q)) (V (200 + 2 * i)) 0)) by rw [swa_0, swb_0, up_id V (100 + 2 * q) _ rfl, up_id V (200 + 2 * i) _ rfl]] at hM
  exact LP_22 _ 0 (by omega) (Nat.lt_succ_self _) _ _ hM ls (lv_sub hl [0, 1, 2, 3, 4, 5, 6] rfl)

abbrev rm_X3_blow : Room := { frames := 7, cells := 1, slots := 6, locals := 140 }
set_option maxHeartbeats 4000000 in
set_option maxRecDepth 100000 in
theorem c_X3_blow_ok (D : va_G) (y : Nat → ClassId) (l : Launch) (S : fb_Sh) (V I : fb_V) (a1 ns nt es na : Nat) (hC : CpAt S a1 ns nt es na) (cf rf df : Nat → Nat) (hF : CF I ns nt cf rf df) (i : Nat) (hi : i < ns)  : CI D y l yX3_blow wsX3_blow rm_X3_blow [.ref (sa S 0), .int (nI i)] (S, V, (sT V), I) (fun z u => z = bls (V (200 + 2 * i)) (fun j => fl (I (10 + i) 1) (nI j) (I 0 4)) 6 ∧ u = (S, (blV V i (V (200 + 2 * i)) (fun j => fl (I (10 + i) 1) (nI j) (I 0 4)) 6 0), sT (blV V i (V (200 + 2 * i)) (fun j => fl (I (10 + i) 1) (nI j) (I 0 4)) 6 0), (va_up I 0 (upd (I 0) 6 (bly (V (200 + 2 * i)) (fun j => fl (I (10 + i) 1) (nI j) (I 0 4)) (I 0 6) 6))))) 1 6 := by
  refine CI.of (cc := cX3_blow) (maxL := 7) (ret := (some .int)) (by decide) rfl (Nat.le_of_ble_eq_true rfl) ?_
  intro pv ev s mv below meth cv A hx hb hml hr hown hts hlocks hname hM ls hl
  have hown : s.vm.findClass RX3 = some mv.cls := hown
  have hl : lv_has ls 7 [(0, .ref (sa S 0)), (1, .int (nI i))] := hl
  have hin3 : ∀ x ∈ wsX30, x ∈ wsX3_blow := by decide +kernel
  have hin0 : ∀ x ∈ wsX00, x ∈ wsX3_blow := by decide +kernel
  have hin1 : ∀ x ∈ wsX10, x ∈ wsX3_blow := by decide +kernel
  obtain ⟨Q, hQ⟩ : ∃ Q, Q = MQ below (va_Qi (fun z u => z = bls (V (200 + 2 * i)) (fun j => fl (I (10 + i) 1) (nI j) (I 0 4)) 6 ∧ u = (S, (blV V i (V (200 + 2 * i)) (fun j => fl (I (10 + i) 1) (nI j) (I 0 4)) 6 0), sT (blV V i (V (200 + 2 * i)) (fun j => fl (I (10 + i) 1) (nI j) (I 0 4)) 6 0), (va_up I 0 (upd (I 0) 6 (bly (V (200 + 2 * i)) (fun j => fl (I (10 + i) 1) (nI j) (I 0 4)) (I 0 6) 6))))) (fun u t => fb_P D y A u t) A) (([.ref (sa S 0), .int (nI i)] : List Value).toArray) s 1 6 A := ⟨_, rfl⟩
  rw [← hQ]
  have hns : ns ≤ 12 := hF.2.2.1
  have hnt : nt ≤ 6 := hF.2.2.2.1
  refine lv_aload_n hx hb dX3_blow_0 rfl (lv_at hl 0 rfl) ?_
  refine lv_iload_n hx hb dX3_blow_1 rfl (lv_at hl 1 rfl) ?_
  refine fb_callVr (r := 0) hx hb hml hown hts hM ((hC.1).1) (ce3 ((hC.1).2)) rfl (As := [.int (nI i)]) (rest := []) (c_X3_needSack D y l S V I a1 ns nt es na hC cf rf df hF i hi) (cwV 1 hts gX3_blow_X3_needSack rfl rfl rfl (by decide +kernel) ⟨Nat.le_of_ble_eq_true rfl, Nat.le_of_ble_eq_true rfl⟩) rfl hl.1 rfl (Nat.le_of_ble_eq_true rfl) dX3_blow_2 ⟨Nat.le_of_ble_eq_true rfl, Nat.le_of_ble_eq_true rfl⟩ (fun v_1 u_ H locs hp hM => ?_)
  obtain ⟨hv_, hu_⟩ := hp
  have hv_ := Eq.symm hv_
  have hu_ := Eq.symm hu_
  subst hv_
  subst hu_
  refine lv_astore_n (lv' := [(2, .ref (sa S (10 + i))), (0, .ref (sa S 0)), (1, .int (nI i))]) hx hb dX3_blow_5 rfl hl (by decide) rfl (fun ls hl => ?_)
  refine lv_iconst (v := 0) hx hb dX3_blow_6 (by decide) ?_
  refine lv_istore_n (lv' := [(3, .int 0), (2, .ref (sa S (10 + i))), (0, .ref (sa S 0)), (1, .int (nI i))]) hx hb dX3_blow_7 rfl hl (by decide) rfl (fun ls hl => ?_)
  refine lv_iconst (v := 0) hx hb dX3_blow_8 (by decide) ?_
  refine lv_istore (lv' := [(4, .int 0), (3, .int 0), (2, .ref (sa S (10 + i))), (0, .ref (sa S 0)), (1, .int (nI i))]) hx hb dX3_blow_9 hl (by decide) rfl (fun ls hl => ?_)
  have LP_11 : ∀ (n : Nat) (k : Nat) (hk : k ≤ 6), 6 - k < n → ∀ (H : Heap) (locs : List Loc), fb_M D y A s (S, (blV V i (V (200 + 2 * i)) (fun j => fl (I (10 + i) 1) (nI j) (I 0 4)) k 0), (sT (blV V i (V (200 + 2 * i)) (fun j => fl (I (10 + i) 1) (nI j) (I 0 4)) k 0)), (va_up I 0 (upd (I 0) 6 (bly (V (200 + 2 * i)) (fun j => fl (I (10 + i) 1) (nI j) (I 0 4)) (I 0 6) k)))) H locs → ∀ ls, lv_has ls 7 [(4, .int (nI k)), (3, .int (bls (V (200 + 2 * i)) (fun j => fl (I (10 + i) 1) (nI j) (I 0 4)) k)), (2, .ref (sa S (10 + i))), (0, .ref (sa S 0)), (1, .int (nI i))] → W pv l ev rm_X3_blow s mv ([.ref (sa S 0), .int (nI i)] : List Value).toArray below meth cv H locs (0 + 1) (0 + 6) Q (F0 mv 11 ls []) := by
    intro n_11
    induction n_11 with
    | zero => intro k hk hmu; exact absurd hmu (Nat.not_lt_zero _)
    | succ n_11 ih_11 =>
      intro k hk hmu H locs hM ls hl
      refine lv_iload hx hb dX3_blow_11 (lv_at hl 0 rfl) ?_
      refine lv_bipush (v := 6) hx hb dX3_blow_13 (by decide) ?_
      refine lv_icmp_ge (tgt := 130) hx hb dX3_blow_15 (by decide) (fun c_2 => ?_) (fun c_2 => ?_)
      · skip
        have e_k : k = 6 := by have := (nI_leI (a := 6) (b := k) (by omega) (by omega)).mp c_2; omega
        have e_k := Eq.symm e_k
        subst e_k
        refine lv_iload_n hx hb dX3_blow_130 rfl (lv_at hl 1 rfl) ?_
        rw [hQ]
        refine W.widen (show _ ≤ 1 from Nat.le_of_ble_eq_true rfl) (show _ ≤ 6 from Nat.le_of_ble_eq_true rfl) ?_
        exact fb_iret hx hb hr hlocks hM (⟨rfl, rfl⟩) dX3_blow_131
      · skip
        have hkk : k < 6 := Nat.lt_of_not_le (fun h => c_2 (nI_le h (by omega)))
        refine lv_iconst (v := 0) hx hb dX3_blow_18 (by decide) ?_
        refine lv_istore (lv' := [(5, .int 0), (4, .int (nI k)), (3, .int (bls (V (200 + 2 * i)) (fun j => fl (I (10 + i) 1) (nI j) (I 0 4)) k)), (2, .ref (sa S (10 + i))), (0, .ref (sa S 0)), (1, .int (nI i))]) hx hb dX3_blow_19 hl (by decide) rfl (fun ls hl => ?_)
        have LP_21 : ∀ (n : Nat) (c : Nat) (hc : c ≤ 5), 5 - c < n → ∀ (H : Heap) (locs : List Loc), fb_M D y A s (S, (blV V i (V (200 + 2 * i)) (fun j => fl (I (10 + i) 1) (nI j) (I 0 4)) k c), (sT (blV V i (V (200 + 2 * i)) (fun j => fl (I (10 + i) 1) (nI j) (I 0 4)) k c)), (va_up I 0 (upd (I 0) 6 (bly (V (200 + 2 * i)) (fun j => fl (I (10 + i) 1) (nI j) (I 0 4)) (I 0 6) k)))) H locs → ∀ ls, lv_has ls 7 [(5, .int (nI c)), (4, .int (nI k)), (3, .int (bli (V (200 + 2 * i)) (fun j => fl (I (10 + i) 1) (nI j) (I 0 4)) (bls (V (200 + 2 * i)) (fun j => fl (I (10 + i) 1) (nI j) (I 0 4)) k) k c)), (2, .ref (sa S (10 + i))), (0, .ref (sa S 0)), (1, .int (nI i))] → W pv l ev rm_X3_blow s mv ([.ref (sa S 0), .int (nI i)] : List Value).toArray below meth cv H locs (0 + 1) (0 + 6) Q (F0 mv 21 ls []) := by
          intro n_21
          induction n_21 with
          | zero => intro c hc hmu; exact absurd hmu (Nat.not_lt_zero _)
          | succ n_21 ih_21 =>
            intro c hc hmu H locs hM ls hl
            refine lv_iload hx hb dX3_blow_21 (lv_at hl 0 rfl) ?_
            refine lv_aload_n hx hb dX3_blow_23 rfl (lv_at hl 4 rfl) ?_
            refine fb_get (r := 0) hx hb hown hts hin3 hM ((hC.1).1) (ce3 ((hC.1).2)) rfl 2 (by decide) (hts (.fieldLink RX3 21 "FeatherBeds" "chambers" "[LFeatherBeds$Heap;") (by decide +kernel)) (fun _ h9 => h9) (v := .ref (sa S 3)) (congrArg (fun z => some (va_rf z)) ((hC.2.1).2.2.1)) dX3_blow_24 ?_
            refine fb_alen (r := 3) hx hb hM ((hC.2.2.2.2.1).1.1) (ce8 ((hC.2.2.2.2.1).1.2.1)) 2 rfl (v := nI 5) (congrArg Int32.ofNat ((hC.2.2.2.2.1).1.2.2)) dX3_blow_27 ?_
            refine lv_icmp_ge (tgt := 70) hx hb dX3_blow_28 (by decide) (fun c_3 => ?_) (fun c_3 => ?_)
            · skip
              have e_c : c = 5 := by have := (nI_leI (a := 5) (b := c) (by omega) (by omega)).mp c_3; omega
              have e_c := Eq.symm e_c
              subst e_c
              refine lv_aload_n hx hb dX3_blow_70 rfl (lv_at hl 4 rfl) ?_
              refine lv_dup hx hb dX3_blow_71 rfl ?_
              refine fb_get (r := 0) hx hb hown hts hin3 hM ((hC.1).1) (ce3 ((hC.1).2)) rfl 6 (by decide) (hts (.fieldLink RX3 99 "FeatherBeds" "lostInYard" "I") (by decide +kernel)) (fun _ h9 => h9) (v := .int ((va_up I 0 (upd (I 0) 6 (bly (V (200 + 2 * i)) (fun j => fl (I (10 + i) 1) (nI j) (I 0 4)) (I 0 6) k))) 0 6)) rfl dX3_blow_72 ?_
              rw [show ((va_up I 0 (upd (I 0) 6 (bly (V (200 + 2 * i)) (fun j => fl (I (10 + i) 1) (nI j) (I 0 4)) (I 0 6) k))) 0 6 : Int32) = bly (V (200 + 2 * i)) (fun j => fl (I (10 + i) 1) (nI j) (I 0 4)) (I 0 6) k from by rw [va_up_self]; simp [upd]]
              refine lv_aload_n hx hb dX3_blow_75 rfl (lv_at hl 3 rfl) ?_
              refine lv_iload hx hb dX3_blow_76 (lv_at hl 1 rfl) ?_
              refine lv_aload_n hx hb dX3_blow_78 rfl (lv_at hl 4 rfl) ?_
              refine fb_get (r := 0) hx hb hown hts hin3 hM ((hC.1).1) (ce3 ((hC.1).2)) rfl 4 (by decide) (hts (.fieldLink RX3 35 "FeatherBeds" "wind" "I") (by decide +kernel)) (fun _ h9 => h9) (v := .int ((va_up I 0 (upd (I 0) 6 (bly (V (200 + 2 * i)) (fun j => fl (I (10 + i) 1) (nI j) (I 0 4)) (I 0 6) k))) 0 4)) rfl dX3_blow_79 ?_
              rw [show ((va_up I 0 (upd (I 0) 6 (bly (V (200 + 2 * i)) (fun j => fl (I (10 + i) 1) (nI j) (I 0 4)) (I 0 6) k))) 0 4 : Int32) = I 0 4 from by rw [va_up_self]; simp [upd]]
              refine lv_iconst (v := 5) hx hb dX3_blow_82 (by decide) ?_
              refine fb_callVi (r := (10 + i)) hx hb hml hown hts hM ((hC.sk hi).1) (ce1 ((hC.sk hi).2.1)) rfl (As := [.int (nI k), .int (I 0 4), .int 5]) (rest := [.int (bly (V (200 + 2 * i)) (fun j => fl (I (10 + i) 1) (nI j) (I 0 4)) (I 0 6) k), .ref (sa S 0)]) (c_X1_brings D y l S (blV V i (V (200 + 2 * i)) (fun j => fl (I (10 + i) 1) (nI j) (I 0 4)) k 5) (va_up I 0 (upd (I 0) 6 (bly (V (200 + 2 * i)) (fun j => fl (I (10 + i) 1) (nI j) (I 0 4)) (I 0 6) k))) (10 + i) (200 + 2 * i) (hC.sk hi) (nI k) (I 0 4) 5) (cwV 3 hts gX3_blow_X1_brings rfl rfl rfl (by decide +kernel) ⟨Nat.le_of_ble_eq_true rfl, Nat.le_of_ble_eq_true rfl⟩) rfl hl.1 rfl (Nat.le_of_ble_eq_true rfl) dX3_blow_83 ⟨Nat.le_of_ble_eq_true rfl, Nat.le_of_ble_eq_true rfl⟩ (fun v_4 u_ H locs hp hM => ?_)
              obtain ⟨hv_, hu_⟩ := hp
              have hv_ := Eq.symm hv_
              have hu_ := Eq.symm hu_
              subst hv_
              subst hu_
              rw [show (brn (of6 ((blV V i (V (200 + 2 * i)) (fun j => fl (I (10 + i) 1) (nI j) (I 0 4)) k 5) (200 + 2 * i)) (nI k)) (fl ((va_up I 0 (upd (I 0) 6 (bly (V (200 + 2 * i)) (fun j => fl (I (10 + i) 1) (nI j) (I 0 4)) (I 0 6) k))) (10 + i) 1) (nI k) (I 0 4)) 5 : Int32) = brn ((V (200 + 2 * i)) k) ((fun j => fl (I (10 + i) 1) (nI j) (I 0 4)) k) 5 from by rw [of6_n _ hkk, blV_h, va_up_ne _ _ (show 10 + i ≠ 0 by omega), show cpn k (fun j => brn ((V (200 + 2 * i)) j) ((fun j => fl (I (10 + i) 1) (nI j) (I 0 4)) j) (-1)) (V (200 + 2 * i)) k = (V (200 + 2 * i)) k from if_neg (Nat.lt_irrefl _)]]
              refine lv_iadd hx hb dX3_blow_86 ?_
              refine fb_put (r := 0) hx hb hown hts hin3 tyX3 tyX3_ok nmX3 hM ((hC.1).1) (ce3 ((hC.1).2)) rfl 6 (by decide) (hts (.fieldLink RX3 99 "FeatherBeds" "lostInYard" "I") (by decide +kernel)) (fun _ h9 => h9) rfl (ty := .int) (by decide +kernel) rfl rfl (Nat.le_of_ble_eq_true rfl) dX3_blow_87 (up_I (j := 6) (v := (bly (V (200 + 2 * i)) (fun j => fl (I (10 + i) 1) (nI j) (I 0 4)) (I 0 6) k) + (brn ((V (200 + 2 * i)) k) ((fun j => fl (I (10 + i) 1) (nI j) (I 0 4)) k) 5)) (by rw [ce3 (S := S) ((hC.1).2)]; simp [va_up, upd])) (w' := (S, (blV V i (V (200 + 2 * i)) (fun j => fl (I (10 + i) 1) (nI j) (I 0 4)) k 5), (sT (blV V i (V (200 + 2 * i)) (fun j => fl (I (10 + i) 1) (nI j) (I 0 4)) k 5)), (va_up (va_up I 0 (upd (I 0) 6 (bly (V (200 + 2 * i)) (fun j => fl (I (10 + i) 1) (nI j) (I 0 4)) (I 0 6) k))) 0 (upd ((va_up I 0 (upd (I 0) 6 (bly (V (200 + 2 * i)) (fun j => fl (I (10 + i) 1) (nI j) (I 0 4)) (I 0 6) k))) 0) 6 ((bly (V (200 + 2 * i)) (fun j => fl (I (10 + i) 1) (nI j) (I 0 4)) (I 0 6) k) + (brn ((V (200 + 2 * i)) k) ((fun j => fl (I (10 + i) 1) (nI j) (I 0 4)) k) 5)))))) ⟨rfl, rfl, rfl⟩ (fun H locs hM => ?_)
              have eI : (va_up (va_up I 0 (upd (I 0) 6 (bly (V (200 + 2 * i)) (fun j => fl (I (10 + i) 1) (nI j) (I 0 4)) (I 0 6) k))) 0 (upd ((va_up I 0 (upd (I 0) 6 (bly (V (200 + 2 * i)) (fun j => fl (I (10 + i) 1) (nI j) (I 0 4)) (I 0 6) k))) 0) 6 ((bly (V (200 + 2 * i)) (fun j => fl (I (10 + i) 1) (nI j) (I 0 4)) (I 0 6) k) + (brn ((V (200 + 2 * i)) k) ((fun j => fl (I (10 + i) 1) (nI j) (I 0 4)) k) 5)))) = (va_up I 0 (upd (I 0) 6 (bly (V (200 + 2 * i)) (fun j => fl (I (10 + i) 1) (nI j) (I 0 4)) (I 0 6) (k + 1)))) := by rw [up_up, va_up_self]; congr 1; funext j; by_cases h : j = 6; (subst h; simp [upd, bly]); (simp [upd, h])
              rw [eI] at hM
              clear eI
              refine lv_aload_n hx hb dX3_blow_90 rfl (lv_at hl 3 rfl) ?_
              refine lv_iload hx hb dX3_blow_91 (lv_at hl 1 rfl) ?_
              refine lv_aload_n hx hb dX3_blow_93 rfl (lv_at hl 4 rfl) ?_
              refine fb_get (r := 0) hx hb hown hts hin3 hM ((hC.1).1) (ce3 ((hC.1).2)) rfl 4 (by decide) (hts (.fieldLink RX3 35 "FeatherBeds" "wind" "I") (by decide +kernel)) (fun _ h9 => h9) (v := .int ((va_up I 0 (upd (I 0) 6 (bly (V (200 + 2 * i)) (fun j => fl (I (10 + i) 1) (nI j) (I 0 4)) (I 0 6) (k + 1)))) 0 4)) rfl dX3_blow_94 ?_
              rw [show ((va_up I 0 (upd (I 0) 6 (bly (V (200 + 2 * i)) (fun j => fl (I (10 + i) 1) (nI j) (I 0 4)) (I 0 6) (k + 1)))) 0 4 : Int32) = I 0 4 from by rw [va_up_self]; simp [upd]]
              refine lv_iconst (v := (-1)) hx hb dX3_blow_97 (by decide) ?_
              refine fb_callVi (r := (10 + i)) hx hb hml hown hts hM ((hC.sk hi).1) (ce1 ((hC.sk hi).2.1)) rfl (As := [.int (nI k), .int (I 0 4), .int (-1)]) (rest := []) (c_X1_brings D y l S (blV V i (V (200 + 2 * i)) (fun j => fl (I (10 + i) 1) (nI j) (I 0 4)) k 5) (va_up I 0 (upd (I 0) 6 (bly (V (200 + 2 * i)) (fun j => fl (I (10 + i) 1) (nI j) (I 0 4)) (I 0 6) (k + 1)))) (10 + i) (200 + 2 * i) (hC.sk hi) (nI k) (I 0 4) (-1)) (cwV 3 hts gX3_blow_X1_brings rfl rfl rfl (by decide +kernel) ⟨Nat.le_of_ble_eq_true rfl, Nat.le_of_ble_eq_true rfl⟩) rfl hl.1 rfl (Nat.le_of_ble_eq_true rfl) dX3_blow_98 ⟨Nat.le_of_ble_eq_true rfl, Nat.le_of_ble_eq_true rfl⟩ (fun v_5 u_ H locs hp hM => ?_)
              obtain ⟨hv_, hu_⟩ := hp
              have hv_ := Eq.symm hv_
              have hu_ := Eq.symm hu_
              subst hv_
              subst hu_
              rw [show (brn (of6 ((blV V i (V (200 + 2 * i)) (fun j => fl (I (10 + i) 1) (nI j) (I 0 4)) k 5) (200 + 2 * i)) (nI k)) (fl ((va_up I 0 (upd (I 0) 6 (bly (V (200 + 2 * i)) (fun j => fl (I (10 + i) 1) (nI j) (I 0 4)) (I 0 6) (k + 1)))) (10 + i) 1) (nI k) (I 0 4)) (-1) : Int32) = brn ((V (200 + 2 * i)) k) ((fun j => fl (I (10 + i) 1) (nI j) (I 0 4)) k) (-1) from by rw [of6_n _ hkk, blV_h, va_up_ne _ _ (show 10 + i ≠ 0 by omega), show cpn k (fun j => brn ((V (200 + 2 * i)) j) ((fun j => fl (I (10 + i) 1) (nI j) (I 0 4)) j) (-1)) (V (200 + 2 * i)) k = (V (200 + 2 * i)) k from if_neg (Nat.lt_irrefl _)]]
              refine lv_istore (lv' := [(5, .int (brn ((V (200 + 2 * i)) k) ((fun j => fl (I (10 + i) 1) (nI j) (I 0 4)) k) (-1))), (4, .int (nI k)), (3, .int (bli (V (200 + 2 * i)) (fun j => fl (I (10 + i) 1) (nI j) (I 0 4)) (bls (V (200 + 2 * i)) (fun j => fl (I (10 + i) 1) (nI j) (I 0 4)) k) k 5)), (2, .ref (sa S (10 + i))), (0, .ref (sa S 0)), (1, .int (nI i))]) hx hb dX3_blow_101 hl (by decide) rfl (fun ls hl => ?_)
              refine lv_aload_n hx hb dX3_blow_103 rfl (lv_at hl 3 rfl) ?_
              refine fb_getN (r := (10 + i)) hx hb hown hts hin1 hM ((hC.sk hi).1) (ce1 ((hC.sk hi).2.1)) rfl 0 (by decide) (host := "FeatherBeds") (by decide +kernel) (fun _ h9 => h9) (v := .ref (sa S (200 + 2 * i))) (congrArg (fun z => some (va_rf z)) ((hC.sk hi).2.2.1)) dX3_blow_104 ?_
              refine lv_iload hx hb dX3_blow_107 (lv_at hl 1 rfl) ?_
              refine lv_iload hx hb dX3_blow_109 (lv_at hl 0 rfl) ?_
              refine lv_aload_n hx hb dX3_blow_111 rfl (lv_at hl 3 rfl) ?_
              refine fb_getN (r := (10 + i)) hx hb hown hts hin1 hM ((hC.sk hi).1) (ce1 ((hC.sk hi).2.1)) rfl 0 (by decide) (host := "FeatherBeds") (by decide +kernel) (fun _ h9 => h9) (v := .ref (sa S (200 + 2 * i))) (congrArg (fun z => some (va_rf z)) ((hC.sk hi).2.2.1)) dX3_blow_112 ?_
              refine lv_iload hx hb dX3_blow_115 (lv_at hl 1 rfl) ?_
              refine fb_callVi (r := (200 + 2 * i)) hx hb hml hown hts hM (((hC.sk hi).2.2.2).1) (ce0 (((hC.sk hi).2.2.2).2.1)) rfl (As := [.int (nI k)]) (rest := [.int (brn ((V (200 + 2 * i)) k) ((fun j => fl (I (10 + i) 1) (nI j) (I 0 4)) k) (-1)), .int (nI k), .ref (sa S (200 + 2 * i))]) (c_X0_of D y l S (blV V i (V (200 + 2 * i)) (fun j => fl (I (10 + i) 1) (nI j) (I 0 4)) k 5) (va_up I 0 (upd (I 0) 6 (bly (V (200 + 2 * i)) (fun j => fl (I (10 + i) 1) (nI j) (I 0 4)) (I 0 6) (k + 1)))) (200 + 2 * i) (hC.sk hi).2.2.2 (nI k)) (cwV 1 hts gX3_blow_X0_of rfl rfl rfl (by decide +kernel) ⟨Nat.le_of_ble_eq_true rfl, Nat.le_of_ble_eq_true rfl⟩) rfl hl.1 rfl (Nat.le_of_ble_eq_true rfl) dX3_blow_117 ⟨Nat.le_of_ble_eq_true rfl, Nat.le_of_ble_eq_true rfl⟩ (fun v_6 u_ H locs hp hM => ?_)
              obtain ⟨hv_, hu_⟩ := hp
              have hv_ := Eq.symm hv_
              have hu_ := Eq.symm hu_
              subst hv_
              subst hu_
              rw [of6_n ((blV V i (V (200 + 2 * i)) (fun j => fl (I (10 + i) 1) (nI j) (I 0 4)) k 5) (200 + 2 * i)) (k := k) (by omega)]
              rw [show ((blV V i (V (200 + 2 * i)) (fun j => fl (I (10 + i) 1) (nI j) (I 0 4)) k 5) (200 + 2 * i) k : Int32) = (V (200 + 2 * i)) k from by rw [blV_h]; exact if_neg (Nat.lt_irrefl _)]
              refine lv_isub hx hb dX3_blow_120 ?_
              refine fb_callVv (r := (200 + 2 * i)) hx hb hml hown hts hM (((hC.sk hi).2.2.2).1) (ce0 (((hC.sk hi).2.2.2).2.1)) rfl (As := [.int (nI k), .int ((brn ((V (200 + 2 * i)) k) ((fun j => fl (I (10 + i) 1) (nI j) (I 0 4)) k) (-1)) - ((V (200 + 2 * i)) k))]) (rest := []) (c_X0_change D y l S (blV V i (V (200 + 2 * i)) (fun j => fl (I (10 + i) 1) (nI j) (I 0 4)) k 5) (va_up I 0 (upd (I 0) 6 (bly (V (200 + 2 * i)) (fun j => fl (I (10 + i) 1) (nI j) (I 0 4)) (I 0 6) (k + 1)))) (200 + 2 * i) (hC.sk hi).2.2.2 k (by omega) ((brn ((V (200 + 2 * i)) k) ((fun j => fl (I (10 + i) 1) (nI j) (I 0 4)) k) (-1)) - ((V (200 + 2 * i)) k))) (cwV 2 hts gX3_blow_X0_change rfl rfl rfl (by decide +kernel) ⟨Nat.le_of_ble_eq_true rfl, Nat.le_of_ble_eq_true rfl⟩) rfl hl.1 rfl (Nat.le_of_ble_eq_true rfl) dX3_blow_121 ⟨Nat.le_of_ble_eq_true rfl, Nat.le_of_ble_eq_true rfl⟩ (fun u_ H locs hp hM => ?_)
              have hp := Eq.symm hp
              subst hp
              have eV : (va_up (blV V i (V (200 + 2 * i)) (fun j => fl (I (10 + i) 1) (nI j) (I 0 4)) k 5) (200 + 2 * i) (chv ((blV V i (V (200 + 2 * i)) (fun j => fl (I (10 + i) 1) (nI j) (I 0 4)) k 5) (200 + 2 * i)) k ((brn ((V (200 + 2 * i)) k) ((fun j => fl (I (10 + i) 1) (nI j) (I 0 4)) k) (-1)) - ((V (200 + 2 * i)) k)))) = (blV V i (V (200 + 2 * i)) (fun j => fl (I (10 + i) 1) (nI j) (I 0 4)) (k + 1) 0) := blV_n V i _ _ k
              rw [eV] at hM
              clear eV
              refine lv_iinc (v := nI (k + 1)) (lv' := [(4, .int (nI (k + 1))), (5, .int (brn ((V (200 + 2 * i)) k) ((fun j => fl (I (10 + i) 1) (nI j) (I 0 4)) k) (-1))), (3, .int (bli (V (200 + 2 * i)) (fun j => fl (I (10 + i) 1) (nI j) (I 0 4)) (bls (V (200 + 2 * i)) (fun j => fl (I (10 + i) 1) (nI j) (I 0 4)) k) k 5)), (2, .ref (sa S (10 + i))), (0, .ref (sa S 0)), (1, .int (nI i))]) hx hb dX3_blow_124 hl (k := 1) rfl (nI_1 _) (by decide) rfl (fun ls hl => ?_)
              refine lv_goto (tgt := 11) hx hb dX3_blow_127 (by decide) ?_
              exact ih_11 (k + 1) (by omega) (by omega) _ _ hM ls (lv_sub hl [0, 2, 3, 4, 5] rfl)
            · skip
              have hck : c < 5 := Nat.lt_of_not_le (fun h => c_3 (nI_le h (by omega)))
              refine lv_aload_n hx hb dX3_blow_31 rfl (lv_at hl 3 rfl) ?_
              refine lv_iload hx hb dX3_blow_32 (lv_at hl 1 rfl) ?_
              refine lv_aload_n hx hb dX3_blow_34 rfl (lv_at hl 4 rfl) ?_
              refine fb_get (r := 0) hx hb hown hts hin3 hM ((hC.1).1) (ce3 ((hC.1).2)) rfl 4 (by decide) (hts (.fieldLink RX3 35 "FeatherBeds" "wind" "I") (by decide +kernel)) (fun _ h9 => h9) (v := .int ((va_up I 0 (upd (I 0) 6 (bly (V (200 + 2 * i)) (fun j => fl (I (10 + i) 1) (nI j) (I 0 4)) (I 0 6) k))) 0 4)) rfl dX3_blow_35 ?_
              rw [show ((va_up I 0 (upd (I 0) 6 (bly (V (200 + 2 * i)) (fun j => fl (I (10 + i) 1) (nI j) (I 0 4)) (I 0 6) k))) 0 4 : Int32) = I 0 4 from by rw [va_up_self]; simp [upd]]
              refine lv_iload hx hb dX3_blow_38 (lv_at hl 0 rfl) ?_
              refine fb_callVi (r := (10 + i)) hx hb hml hown hts hM ((hC.sk hi).1) (ce1 ((hC.sk hi).2.1)) rfl (As := [.int (nI k), .int (I 0 4), .int (nI c)]) (rest := []) (c_X1_brings D y l S (blV V i (V (200 + 2 * i)) (fun j => fl (I (10 + i) 1) (nI j) (I 0 4)) k c) (va_up I 0 (upd (I 0) 6 (bly (V (200 + 2 * i)) (fun j => fl (I (10 + i) 1) (nI j) (I 0 4)) (I 0 6) k))) (10 + i) (200 + 2 * i) (hC.sk hi) (nI k) (I 0 4) (nI c)) (cwV 3 hts gX3_blow_X1_brings rfl rfl rfl (by decide +kernel) ⟨Nat.le_of_ble_eq_true rfl, Nat.le_of_ble_eq_true rfl⟩) rfl hl.1 rfl (Nat.le_of_ble_eq_true rfl) dX3_blow_40 ⟨Nat.le_of_ble_eq_true rfl, Nat.le_of_ble_eq_true rfl⟩ (fun v_8 u_ H locs hp hM => ?_)
              obtain ⟨hv_, hu_⟩ := hp
              have hv_ := Eq.symm hv_
              have hu_ := Eq.symm hu_
              subst hv_
              subst hu_
              rw [show (brn (of6 ((blV V i (V (200 + 2 * i)) (fun j => fl (I (10 + i) 1) (nI j) (I 0 4)) k c) (200 + 2 * i)) (nI k)) (fl ((va_up I 0 (upd (I 0) 6 (bly (V (200 + 2 * i)) (fun j => fl (I (10 + i) 1) (nI j) (I 0 4)) (I 0 6) k))) (10 + i) 1) (nI k) (I 0 4)) (nI c) : Int32) = brn ((V (200 + 2 * i)) k) ((fun j => fl (I (10 + i) 1) (nI j) (I 0 4)) k) (nI c) from by rw [of6_n _ hkk, blV_h, va_up_ne _ _ (show 10 + i ≠ 0 by omega), show cpn k (fun j => brn ((V (200 + 2 * i)) j) ((fun j => fl (I (10 + i) 1) (nI j) (I 0 4)) j) (-1)) (V (200 + 2 * i)) k = (V (200 + 2 * i)) k from if_neg (Nat.lt_irrefl _)]]
              refine lv_istore (lv' := [(6, .int (brn ((V (200 + 2 * i)) k) ((fun j => fl (I (10 + i) 1) (nI j) (I 0 4)) k) (nI c))), (5, .int (nI c)), (4, .int (nI k)), (3, .int (bli (V (200 + 2 * i)) (fun j => fl (I (10 + i) 1) (nI j) (I 0 4)) (bls (V (200 + 2 * i)) (fun j => fl (I (10 + i) 1) (nI j) (I 0 4)) k) k c)), (2, .ref (sa S (10 + i))), (0, .ref (sa S 0)), (1, .int (nI i))]) hx hb dX3_blow_43 hl (by decide) rfl (fun ls hl => ?_)
              refine lv_aload_n hx hb dX3_blow_45 rfl (lv_at hl 5 rfl) ?_
              refine fb_get (r := 0) hx hb hown hts hin3 hM ((hC.1).1) (ce3 ((hC.1).2)) rfl 2 (by decide) (hts (.fieldLink RX3 21 "FeatherBeds" "chambers" "[LFeatherBeds$Heap;") (by decide +kernel)) (fun _ h9 => h9) (v := .ref (sa S 3)) (congrArg (fun z => some (va_rf z)) ((hC.2.1).2.2.1)) dX3_blow_46 ?_
              refine lv_iload hx hb dX3_blow_49 (lv_at hl 1 rfl) ?_
              refine fb_aald (r := 3) hx hb hM ((hC.2.2.2.2.1).1.1) (ce8 ((hC.2.2.2.2.1).1.2.1)) 2 rfl (k := c) (nI_clamp (by omega)) (b := sa S (100 + 2 * c)) (((hC.2.2.2.2.1).2 c (by omega)).1) (by rw [(hC.2.2.2.2.1).1.2.2]; exact vp_in_nI (by omega) (by omega)) dX3_blow_51 ?_
              refine lv_iload hx hb dX3_blow_52 (lv_at hl 2 rfl) ?_
              refine lv_iload hx hb dX3_blow_54 (lv_at hl 0 rfl) ?_
              refine fb_callVv (r := (100 + 2 * c)) hx hb hml hown hts hM ((((hC.2.2.2.2.1).2 c (by omega)).2).1) (ce0 ((((hC.2.2.2.2.1).2 c (by omega)).2).2.1)) rfl (As := [.int (nI k), .int (brn ((V (200 + 2 * i)) k) ((fun j => fl (I (10 + i) 1) (nI j) (I 0 4)) k) (nI c))]) (rest := []) (c_X0_change D y l S (blV V i (V (200 + 2 * i)) (fun j => fl (I (10 + i) 1) (nI j) (I 0 4)) k c) (va_up I 0 (upd (I 0) 6 (bly (V (200 + 2 * i)) (fun j => fl (I (10 + i) 1) (nI j) (I 0 4)) (I 0 6) k))) (100 + 2 * c) (hC.hp hck) k (by omega) (brn ((V (200 + 2 * i)) k) ((fun j => fl (I (10 + i) 1) (nI j) (I 0 4)) k) (nI c))) (cwV 2 hts gX3_blow_X0_change rfl rfl rfl (by decide +kernel) ⟨Nat.le_of_ble_eq_true rfl, Nat.le_of_ble_eq_true rfl⟩) rfl hl.1 rfl (Nat.le_of_ble_eq_true rfl) dX3_blow_56 ⟨Nat.le_of_ble_eq_true rfl, Nat.le_of_ble_eq_true rfl⟩ (fun u_ H locs hp hM => ?_)
              have hp := Eq.symm hp
              subst hp
              have eV : (va_up (blV V i (V (200 + 2 * i)) (fun j => fl (I (10 + i) 1) (nI j) (I 0 4)) k c) (100 + 2 * c) (chv ((blV V i (V (200 + 2 * i)) (fun j => fl (I (10 + i) 1) (nI j) (I 0 4)) k c) (100 + 2 * c)) k (brn ((V (200 + 2 * i)) k) ((fun j => fl (I (10 + i) 1) (nI j) (I 0 4)) k) (nI c)))) = (blV V i (V (200 + 2 * i)) (fun j => fl (I (10 + i) 1) (nI j) (I 0 4)) k (c + 1)) := blV_s V (by omega) _ _ hkk hck
              rw [eV] at hM
              clear eV
              refine lv_iload_n hx hb dX3_blow_59 rfl (lv_at hl 3 rfl) ?_
              refine lv_iload hx hb dX3_blow_60 (lv_at hl 0 rfl) ?_
              refine lv_iadd hx hb dX3_blow_62 ?_
              refine lv_istore_n (lv' := [(3, .int ((bli (V (200 + 2 * i)) (fun j => fl (I (10 + i) 1) (nI j) (I 0 4)) (bls (V (200 + 2 * i)) (fun j => fl (I (10 + i) 1) (nI j) (I 0 4)) k) k c) + (brn ((V (200 + 2 * i)) k) ((fun j => fl (I (10 + i) 1) (nI j) (I 0 4)) k) (nI c)))), (6, .int (brn ((V (200 + 2 * i)) k) ((fun j => fl (I (10 + i) 1) (nI j) (I 0 4)) k) (nI c))), (5, .int (nI c)), (4, .int (nI k)), (2, .ref (sa S (10 + i))), (0, .ref (sa S 0)), (1, .int (nI i))]) hx hb dX3_blow_63 rfl hl (by decide) rfl (fun ls hl => ?_)
              refine lv_iinc (v := nI (c + 1)) (lv' := [(5, .int (nI (c + 1))), (3, .int ((bli (V (200 + 2 * i)) (fun j => fl (I (10 + i) 1) (nI j) (I 0 4)) (bls (V (200 + 2 * i)) (fun j => fl (I (10 + i) 1) (nI j) (I 0 4)) k) k c) + (brn ((V (200 + 2 * i)) k) ((fun j => fl (I (10 + i) 1) (nI j) (I 0 4)) k) (nI c)))), (6, .int (brn ((V (200 + 2 * i)) k) ((fun j => fl (I (10 + i) 1) (nI j) (I 0 4)) k) (nI c))), (4, .int (nI k)), (2, .ref (sa S (10 + i))), (0, .ref (sa S 0)), (1, .int (nI i))]) hx hb dX3_blow_64 hl (k := 2) rfl (nI_1 _) (by decide) rfl (fun ls hl => ?_)
              refine lv_goto (tgt := 21) hx hb dX3_blow_67 (by decide) ?_
              exact ih_21 (c + 1) (by omega) (by omega) _ _ hM ls (lv_sub hl [0, 3, 1, 4, 5, 6] rfl)
        exact LP_21 _ 0 (by omega) (Nat.lt_succ_self _) _ _ hM ls (lv_sub hl [0, 1, 2, 3, 4, 5] rfl)
  have eI0 : I = (va_up I 0 (upd (I 0) 6 (bly (V (200 + 2 * i)) (fun j => fl (I (10 + i) 1) (nI j) (I 0 4)) (I 0 6) 0))) := by refine (up_id _ _ _ ?_).symm; funext j; by_cases h : j = 6; (subst h; simp [upd, bly]); (simp [upd, h])
  have hM : fb_M D y A s (S, (blV V i (V (200 + 2 * i)) (fun j => fl (I (10 + i) 1) (nI j) (I 0 4)) 0 0), (sT (blV V i (V (200 + 2 * i)) (fun j => fl (I (10 + i) 1) (nI j) (I 0 4)) 0 0)), (va_up I 0 (upd (I 0) 6 (bly (V (200 + 2 * i)) (fun j => fl (I (10 + i) 1) (nI j) (I 0 4)) (I 0 6) 0)))) H locs := by rw [← eI0, blV_0]; exact hM
  exact LP_11 _ 0 (by omega) (Nat.lt_succ_self _) _ _ hM ls (lv_sub hl [0, 1, 2, 3, 4] rfl)
