abbrev rm_X2_prickInAll : Room := { frames := 2, cells := 0, slots := 0, locals := 47 }
set_option maxHeartbeats 4000000 in
set_option maxRecDepth 100000 in
theorem c_X2_prickInAll (D : va_G) (y : Nat → ClassId) (l : Launch) (S : fb_Sh) (V I : fb_V) (t b c r d : Nat) (ht : TickAt S t b) (hf : TF I t c r d) (X : fb_V) (hX : ∀ q, q < 36 → V (b + 2 * q) = X q) : CI D y l yX2_prickInAll wsX2_prickInAll rm_X2_prickInAll [.ref (sa S t)] (S, V, (sT V), I) (fun z u => z = pkS (nI d) X 36 ∧ u = (S, (stv V b (pkX (nI d) X 36)), sT (stv V b (pkX (nI d) X 36)), I)) 0 0 := by
  refine CI.of (cc := cX2_prickInAll) (maxL := 3) (ret := (some .int)) (by decide) rfl (Nat.le_of_ble_eq_true rfl) ?_
  intro pv ev s mv below meth cv A hx hb hml hr hown hts hlocks hname hM ls hl
  have hown : s.vm.findClass RX2 = some mv.cls := hown
  have hl : lv_has ls 3 [(0, .ref (sa S t))] := hl
  have hin2 : ∀ x ∈ wsX20, x ∈ wsX2_prickInAll := by decide +kernel
  obtain ⟨Q, hQ⟩ : ∃ Q, Q = MQ below (va_Qi (fun z u => z = pkS (nI d) X 36 ∧ u = (S, (stv V b (pkX (nI d) X 36)), sT (stv V b (pkX (nI d) X 36)), I)) (fun u t => fb_P D y A u t) A) (([.ref (sa S t)] : List Value).toArray) s 0 0 A := ⟨_, rfl⟩
  rw [← hQ]
  have hn := hf.le
  have hc1 : 1 ≤ c := hf.2.2.2.2.1
  have hc6 : c ≤ 6 := hf.2.2.2.2.2.1
  refine lv_iconst (v := 0) hx hb dX2_prickInAll_0 (by decide) ?_
  refine lv_istore_n (lv' := [(1, .int 0), (0, .ref (sa S t))]) hx hb dX2_prickInAll_1 rfl hl (by decide) rfl (fun ls hl => ?_)
  refine lv_iconst (v := 0) hx hb dX2_prickInAll_2 (by decide) ?_
  refine lv_istore_n (lv' := [(2, .int 0), (1, .int 0), (0, .ref (sa S t))]) hx hb dX2_prickInAll_3 rfl hl (by decide) rfl (fun ls hl => ?_)
  have LP_4 : ∀ (n : Nat) (i : Nat) (hi : i ≤ 36), 36 - i < n → ∀ (H : Heap) (locs : List Loc), fb_M D y A s (S, (stv V b (pkX (nI d) X i)), (sT (stv V b (pkX (nI d) X i))), I) H locs → ∀ ls, lv_has ls 3 [(2, .int (nI i)), (1, .int (pkS (nI d) X i)), (0, .ref (sa S t))] → W pv l ev rm_X2_prickInAll s mv ([.ref (sa S t)] : List Value).toArray below meth cv H locs 0 0 Q (F0 mv 4 ls []) := by
    intro n_4
    induction n_4 with
    | zero => intro i hi hmu; exact absurd hmu (Nat.not_lt_zero _)
    | succ n_4 ih_4 =>
      intro i hi hmu H locs hM ls hl
      refine lv_iload_n hx hb dX2_prickInAll_4 rfl (lv_at hl 0 rfl) ?_
      refine lv_aload_n hx hb dX2_prickInAll_5 rfl (lv_at hl 2 rfl) ?_
      refine fb_get (r := t) hx hb hown hts hin2 hM ((ht.1)) (ce2 ((ht.2.1))) rfl 4 (by decide) (hts (.fieldLink RX2 26 "FeatherBeds$Tick" "heaps" "[LFeatherBeds$Heap;") (by decide +kernel)) (fun _ h9 => h9) (v := .ref (sa S (t + 1))) (congrArg (fun z => some (va_rf z)) ((ht.2.2.1))) dX2_prickInAll_6 ?_
      refine fb_alen (r := (t + 1)) hx hb hM ((ht.2.2.2.2.2.1)) (ce8 ((ht.2.2.2.2.2.2.1))) 2 rfl (v := nI 36) (congrArg Int32.ofNat ((ht.2.2.2.2.2.2.2.1))) dX2_prickInAll_9 ?_
      refine lv_icmp_ge (tgt := 35) hx hb dX2_prickInAll_10 (by decide) (fun c_1 => ?_) (fun c_1 => ?_)
      · skip
        have e6 : i = 36 := by have := (nI_leI (a := 36) (b := i) (by omega) (by omega)).mp c_1; omega
        subst e6
        refine lv_iload_n hx hb dX2_prickInAll_35 rfl (lv_at hl 1 rfl) ?_
        rw [hQ]
        exact fb_iret hx hb hr hlocks hM (⟨rfl, rfl⟩) dX2_prickInAll_36
      · skip
        have hi6 : i < 36 := Nat.lt_of_not_le (fun z => c_1 (nI_le z (by omega)))
        refine lv_iload_n hx hb dX2_prickInAll_13 rfl (lv_at hl 1 rfl) ?_
        refine lv_aload_n hx hb dX2_prickInAll_14 rfl (lv_at hl 2 rfl) ?_
        refine fb_get (r := t) hx hb hown hts hin2 hM ((ht.1)) (ce2 ((ht.2.1))) rfl 4 (by decide) (hts (.fieldLink RX2 26 "FeatherBeds$Tick" "heaps" "[LFeatherBeds$Heap;") (by decide +kernel)) (fun _ h9 => h9) (v := .ref (sa S (t + 1))) (congrArg (fun z => some (va_rf z)) ((ht.2.2.1))) dX2_prickInAll_15 ?_
        refine lv_iload_n hx hb dX2_prickInAll_18 rfl (lv_at hl 0 rfl) ?_
        refine fb_aald (r := (t + 1)) hx hb hM ((ht.2.2.2.2.2.1)) (ce8 ((ht.2.2.2.2.2.2.1))) 2 rfl (k := i) (nI_clamp (by omega)) (b := sa S (b + 2 * i)) (((ht.2.2.2.2.2.2.2.2.2.2.2.2.2.2) i (by omega)).1) (by rw [(ht.2.2.2.2.2.2.2.1)]; exact vp_in_nI (by omega) (by omega)) dX2_prickInAll_19 ?_
        refine lv_aload_n hx hb dX2_prickInAll_20 rfl (lv_at hl 2 rfl) ?_
        refine fb_get (r := t) hx hb hown hts hin2 hM ((ht.1)) (ce2 ((ht.2.1))) rfl 2 (by decide) (hts (.fieldLink RX2 18 "FeatherBeds$Tick" "density" "I") (by decide +kernel)) (fun _ h9 => h9) (v := .int (nI d)) (congrArg (fun z => some (Value.int z)) (hf.2.2.1)) dX2_prickInAll_21 ?_
        refine fb_callVi (r := (b + 2 * i)) hx hb hml hown hts hM ((((ht.2.2.2.2.2.2.2.2.2.2.2.2.2.2) i (by omega)).2).1) (ce0 ((((ht.2.2.2.2.2.2.2.2.2.2.2.2.2.2) i (by omega)).2).2.1)) rfl (As := [.int (nI d)]) (rest := [.int (pkS (nI d) X i)]) (c_X0_prick D y l S (stv V b (pkX (nI d) X i)) I (b + 2 * i) (ht.hp hi6) (nI d)) (cwV 1 hts gX2_prickInAll_X0_prick rfl rfl rfl (by decide +kernel) ⟨Nat.le_of_ble_eq_true rfl, Nat.le_of_ble_eq_true rfl⟩) rfl hl.1 rfl (Nat.le_of_ble_eq_true rfl) dX2_prickInAll_24 ⟨Nat.le_of_ble_eq_true rfl, Nat.le_of_ble_eq_true rfl⟩ (fun v_2 u H locs hp hM => ?_)
        obtain ⟨hv, hu⟩ := hp
        have hv := Eq.symm hv
        have hu := Eq.symm hu
        subst hv
        subst hu
        have eV : (va_up (stv V b (pkX (nI d) X i)) (b + 2 * i) (pkv (nI d) ((stv V b (pkX (nI d) X i)) (b + 2 * i)) 6)) = (stv V b (pkX (nI d) X (i + 1))) := by rw [stv_at V b _ hi6, stv_up V b _ hi6, pkX_i, pkX_s]
        rw [eV] at hM
        clear eV
        rw [stv_at V b _ hi6, pkX_i]
        refine lv_iadd hx hb dX2_prickInAll_27 ?_
        refine lv_istore_n (lv' := [(1, .int ((pkS (nI d) X i) + (pkl (nI d) (X i) 6))), (2, .int (nI i)), (0, .ref (sa S t))]) hx hb dX2_prickInAll_28 rfl hl (by decide) rfl (fun ls hl => ?_)
        refine lv_iinc (v := nI (i + 1)) (lv' := [(2, .int (nI (i + 1))), (1, .int ((pkS (nI d) X i) + (pkl (nI d) (X i) 6))), (0, .ref (sa S t))]) hx hb dX2_prickInAll_29 hl (k := 1) rfl (nI_1 _) (by decide) rfl (fun ls hl => ?_)
        refine lv_goto (tgt := 4) hx hb dX2_prickInAll_32 (by decide) ?_
        exact ih_4 (i + 1) (by omega) (by omega) _ _ hM ls (lv_sub hl [0, 1, 2] rfl)
  rw [show V = stv V b (pkX (nI d) X 0) from (stv_id V b (fun q hq => by rw [pkX_0]; exact (hX q hq).symm)).symm] at hM
  exact LP_4 _ 0 (by omega) (Nat.lt_succ_self _) _ _ hM ls (lv_sub hl [0, 1, 2] rfl)

abbrev rm_X2_shiftBetween : Room := { frames := 2, cells := 0, slots := 0, locals := 50 }
set_option maxHeartbeats 4000000 in
set_option maxRecDepth 100000 in
theorem c_X2_shiftBetween (D : va_G) (y : Nat → ClassId) (l : Launch) (S : fb_Sh) (V I : fb_V) (t b : Nat) (ht : TickAt S t b) (f z : Nat) (hf : f < 36) (hz : z < 36) (hne : f ≠ z) : CI D y l yX2_shiftBetween wsX2_shiftBetween rm_X2_shiftBetween [.ref (sa S t), .int (nI f), .int (nI z)] (S, V, (sT V), I) (fun v u => v = hrr (V (b + 2 * f)) (V (b + 2 * z)) ∧ u = (S, (va_up (va_up V (b + 2 * f) (hff (V (b + 2 * f)) (V (b + 2 * z)))) (b + 2 * z) (hss (V (b + 2 * f)) (V (b + 2 * z)))), sT (va_up (va_up V (b + 2 * f) (hff (V (b + 2 * f)) (V (b + 2 * z)))) (b + 2 * z) (hss (V (b + 2 * f)) (V (b + 2 * z)))), I)) 0 0 := by
  refine CI.of (cc := cX2_shiftBetween) (maxL := 4) (ret := (some .int)) (by decide) rfl (Nat.le_of_ble_eq_true rfl) ?_
  intro pv ev s mv below meth cv A hx hb hml hr hown hts hlocks hname hM ls hl
  have hown : s.vm.findClass RX2 = some mv.cls := hown
  have hl : lv_has ls 4 [(0, .ref (sa S t)), (1, .int (nI f)), (2, .int (nI z))] := hl
  have hin2 : ∀ x ∈ wsX20, x ∈ wsX2_shiftBetween := by decide +kernel
  have hin0 : ∀ x ∈ wsX00, x ∈ wsX2_shiftBetween := by decide +kernel
  obtain ⟨Q, hQ⟩ : ∃ Q, Q = MQ below (va_Qi (fun v u => v = hrr (V (b + 2 * f)) (V (b + 2 * z)) ∧ u = (S, (va_up (va_up V (b + 2 * f) (hff (V (b + 2 * f)) (V (b + 2 * z)))) (b + 2 * z) (hss (V (b + 2 * f)) (V (b + 2 * z)))), sT (va_up (va_up V (b + 2 * f) (hff (V (b + 2 * f)) (V (b + 2 * z)))) (b + 2 * z) (hss (V (b + 2 * f)) (V (b + 2 * z)))), I)) (fun u t => fb_P D y A u t) A) (([.ref (sa S t), .int (nI f), .int (nI z)] : List Value).toArray) s 0 0 A := ⟨_, rfl⟩
  rw [← hQ]
  refine lv_iload_n hx hb dX2_shiftBetween_0 rfl (lv_at hl 1 rfl) ?_
  refine lv_if_lt (tgt := 26) hx hb dX2_shiftBetween_1 (by decide) (fun c_1 => absurd c_1 (nI_pos (by omega))) (fun c_1 => ?_)
  refine lv_iload_n hx hb dX2_shiftBetween_4 rfl (lv_at hl 1 rfl) ?_
  refine lv_aload_n hx hb dX2_shiftBetween_5 rfl (lv_at hl 0 rfl) ?_
  refine fb_get (r := t) hx hb hown hts hin2 hM ((ht.1)) (ce2 ((ht.2.1))) rfl 4 (by decide) (hts (.fieldLink RX2 26 "FeatherBeds$Tick" "heaps" "[LFeatherBeds$Heap;") (by decide +kernel)) (fun _ h9 => h9) (v := .ref (sa S (t + 1))) (congrArg (fun z => some (va_rf z)) ((ht.2.2.1))) dX2_shiftBetween_6 ?_
  refine fb_alen (r := (t + 1)) hx hb hM ((ht.2.2.2.2.2.1)) (ce8 ((ht.2.2.2.2.2.2.1))) 2 rfl (v := nI 36) (congrArg Int32.ofNat ((ht.2.2.2.2.2.2.2.1))) dX2_shiftBetween_9 ?_
  refine lv_icmp_ge (tgt := 26) hx hb dX2_shiftBetween_10 (by decide) (fun c_2 => absurd c_2 (nI_ge hf (by omega))) (fun c_2 => ?_)
  refine lv_iload_n hx hb dX2_shiftBetween_13 rfl (lv_at hl 2 rfl) ?_
  refine lv_if_lt (tgt := 26) hx hb dX2_shiftBetween_14 (by decide) (fun c_3 => absurd c_3 (nI_pos (by omega))) (fun c_3 => ?_)
  refine lv_iload_n hx hb dX2_shiftBetween_17 rfl (lv_at hl 2 rfl) ?_
  refine lv_aload_n hx hb dX2_shiftBetween_18 rfl (lv_at hl 0 rfl) ?_
  refine fb_get (r := t) hx hb hown hts hin2 hM ((ht.1)) (ce2 ((ht.2.1))) rfl 4 (by decide) (hts (.fieldLink RX2 26 "FeatherBeds$Tick" "heaps" "[LFeatherBeds$Heap;") (by decide +kernel)) (fun _ h9 => h9) (v := .ref (sa S (t + 1))) (congrArg (fun z => some (va_rf z)) ((ht.2.2.1))) dX2_shiftBetween_19 ?_
  refine fb_alen (r := (t + 1)) hx hb hM ((ht.2.2.2.2.2.1)) (ce8 ((ht.2.2.2.2.2.2.1))) 2 rfl (v := nI 36) (congrArg Int32.ofNat ((ht.2.2.2.2.2.2.2.1))) dX2_shiftBetween_22 ?_
  refine lv_icmp_lt (tgt := 28) hx hb dX2_shiftBetween_23 (by decide) (fun c_4 => ?_) (fun c_4 => absurd (nI_lt hz (by omega)) c_4)
  refine lv_aload_n hx hb dX2_shiftBetween_28 rfl (lv_at hl 0 rfl) ?_
  refine fb_get (r := t) hx hb hown hts hin2 hM ((ht.1)) (ce2 ((ht.2.1))) rfl 4 (by decide) (hts (.fieldLink RX2 26 "FeatherBeds$Tick" "heaps" "[LFeatherBeds$Heap;") (by decide +kernel)) (fun _ h9 => h9) (v := .ref (sa S (t + 1))) (congrArg (fun z => some (va_rf z)) ((ht.2.2.1))) dX2_shiftBetween_29 ?_
  refine lv_iload_n hx hb dX2_shiftBetween_32 rfl (lv_at hl 1 rfl) ?_
  refine fb_aald (r := (t + 1)) hx hb hM ((ht.2.2.2.2.2.1)) (ce8 ((ht.2.2.2.2.2.2.1))) 2 rfl (k := f) (nI_clamp (by omega)) (b := sa S (b + 2 * f)) (((ht.2.2.2.2.2.2.2.2.2.2.2.2.2.2) f (by omega)).1) (by rw [(ht.2.2.2.2.2.2.2.1)]; exact vp_in_nI (by omega) (by omega)) dX2_shiftBetween_33 ?_
  refine fb_getN (r := (b + 2 * f)) hx hb hown hts hin0 hM ((((ht.2.2.2.2.2.2.2.2.2.2.2.2.2.2) f (by omega)).2).1) (ce0 ((((ht.2.2.2.2.2.2.2.2.2.2.2.2.2.2) f (by omega)).2).2.1)) rfl 1 (by decide) (host := "FeatherBeds") (by decide +kernel) (fun _ h9 => h9) (v := .int ((sT V) (b + 2 * f))) rfl dX2_shiftBetween_34 ?_
  refine lv_aload_n hx hb dX2_shiftBetween_37 rfl (lv_at hl 0 rfl) ?_
  refine fb_get (r := t) hx hb hown hts hin2 hM ((ht.1)) (ce2 ((ht.2.1))) rfl 4 (by decide) (hts (.fieldLink RX2 26 "FeatherBeds$Tick" "heaps" "[LFeatherBeds$Heap;") (by decide +kernel)) (fun _ h9 => h9) (v := .ref (sa S (t + 1))) (congrArg (fun z => some (va_rf z)) ((ht.2.2.1))) dX2_shiftBetween_38 ?_
  refine lv_iload_n hx hb dX2_shiftBetween_41 rfl (lv_at hl 2 rfl) ?_
  refine fb_aald (r := (t + 1)) hx hb hM ((ht.2.2.2.2.2.1)) (ce8 ((ht.2.2.2.2.2.2.1))) 2 rfl (k := z) (nI_clamp (by omega)) (b := sa S (b + 2 * z)) (((ht.2.2.2.2.2.2.2.2.2.2.2.2.2.2) z (by omega)).1) (by rw [(ht.2.2.2.2.2.2.2.1)]; exact vp_in_nI (by omega) (by omega)) dX2_shiftBetween_42 ?_
  refine fb_getN (r := (b + 2 * z)) hx hb hown hts hin0 hM ((((ht.2.2.2.2.2.2.2.2.2.2.2.2.2.2) z (by omega)).2).1) (ce0 ((((ht.2.2.2.2.2.2.2.2.2.2.2.2.2.2) z (by omega)).2).2.1)) rfl 1 (by decide) (host := "FeatherBeds") (by decide +kernel) (fun _ h9 => h9) (v := .int ((sT V) (b + 2 * z))) rfl dX2_shiftBetween_43 ?_
  refine lv_isub hx hb dX2_shiftBetween_46 ?_
  refine W.eq (g2 := F0 mv _ ls (.int (hdf (V (b + 2 * f)) (V (b + 2 * z))) :: [])) (by first | rfl | rw [show (((sT V) (b + 2 * f)) - ((sT V) (b + 2 * z)) : Int32) = hdf (V (b + 2 * f)) (V (b + 2 * z)) from rfl]) ?_
  refine lv_istore_n (lv' := [(3, .int (hdf (V (b + 2 * f)) (V (b + 2 * z)))), (0, .ref (sa S t)), (1, .int (nI f)), (2, .int (nI z))]) hx hb dX2_shiftBetween_47 rfl hl (by decide) rfl (fun ls hl => ?_)
  refine lv_iload_n hx hb dX2_shiftBetween_48 rfl (lv_at hl 0 rfl) ?_
  refine lv_if_le (tgt := 75) hx hb dX2_shiftBetween_49 (by decide) (fun c_5 => ?_) (fun c_5 => ?_)
  · skip
    have c_br := c_5
    refine lv_aload_n hx hb dX2_shiftBetween_75 rfl (lv_at hl 1 rfl) ?_
    refine fb_get (r := t) hx hb hown hts hin2 hM ((ht.1)) (ce2 ((ht.2.1))) rfl 4 (by decide) (hts (.fieldLink RX2 26 "FeatherBeds$Tick" "heaps" "[LFeatherBeds$Heap;") (by decide +kernel)) (fun _ h9 => h9) (v := .ref (sa S (t + 1))) (congrArg (fun z => some (va_rf z)) ((ht.2.2.1))) dX2_shiftBetween_76 ?_
    refine lv_iload_n hx hb dX2_shiftBetween_79 rfl (lv_at hl 3 rfl) ?_
    refine fb_aald (r := (t + 1)) hx hb hM ((ht.2.2.2.2.2.1)) (ce8 ((ht.2.2.2.2.2.2.1))) 2 rfl (k := z) (nI_clamp (by omega)) (b := sa S (b + 2 * z)) (((ht.2.2.2.2.2.2.2.2.2.2.2.2.2.2) z (by omega)).1) (by rw [(ht.2.2.2.2.2.2.2.1)]; exact vp_in_nI (by omega) (by omega)) dX2_shiftBetween_80 ?_
    refine lv_aload_n hx hb dX2_shiftBetween_81 rfl (lv_at hl 1 rfl) ?_
    refine fb_get (r := t) hx hb hown hts hin2 hM ((ht.1)) (ce2 ((ht.2.1))) rfl 4 (by decide) (hts (.fieldLink RX2 26 "FeatherBeds$Tick" "heaps" "[LFeatherBeds$Heap;") (by decide +kernel)) (fun _ h9 => h9) (v := .ref (sa S (t + 1))) (congrArg (fun z => some (va_rf z)) ((ht.2.2.1))) dX2_shiftBetween_82 ?_
    refine lv_iload_n hx hb dX2_shiftBetween_85 rfl (lv_at hl 2 rfl) ?_
    refine fb_aald (r := (t + 1)) hx hb hM ((ht.2.2.2.2.2.1)) (ce8 ((ht.2.2.2.2.2.2.1))) 2 rfl (k := f) (nI_clamp (by omega)) (b := sa S (b + 2 * f)) (((ht.2.2.2.2.2.2.2.2.2.2.2.2.2.2) f (by omega)).1) (by rw [(ht.2.2.2.2.2.2.2.1)]; exact vp_in_nI (by omega) (by omega)) dX2_shiftBetween_86 ?_
    refine lv_iload_n hx hb dX2_shiftBetween_87 rfl (lv_at hl 0 rfl) ?_
    refine lv_ineg hx hb dX2_shiftBetween_88 ?_
    refine lv_bipush (v := 8) hx hb dX2_shiftBetween_89 (by decide) ?_
    refine lv_idiv hx hb dX2_shiftBetween_91 (by decide) ?_
    refine lv_iconst (v := 2) hx hb dX2_shiftBetween_92 (by decide) ?_
    refine fb_callVi (r := (b + 2 * z)) hx hb hml hown hts hM ((((ht.2.2.2.2.2.2.2.2.2.2.2.2.2.2) z (by omega)).2).1) (ce0 ((((ht.2.2.2.2.2.2.2.2.2.2.2.2.2.2) z (by omega)).2).2.1)) rfl (As := [.ref (sa S (b + 2 * f)), .int ((-(hdf (V (b + 2 * f)) (V (b + 2 * z)))) / 8), .int 2]) (rest := []) (c_X0_moveTo D y l S V I (b + 2 * z) (b + 2 * f) (ht.hp hz) (ht.hp hf) (by omega) ((-(hdf (V (b + 2 * f)) (V (b + 2 * z)))) / 8) 2 (by omega)) (cwV 3 hts gX2_shiftBetween_X0_moveTo rfl rfl rfl (by decide +kernel) ⟨Nat.le_of_ble_eq_true rfl, Nat.le_of_ble_eq_true rfl⟩) rfl hl.1 rfl (Nat.le_of_ble_eq_true rfl) dX2_shiftBetween_93 ⟨Nat.le_of_ble_eq_true rfl, Nat.le_of_ble_eq_true rfl⟩ (fun v_6 u H locs hp hM => ?_)
    obtain ⟨hv, hu⟩ := hp
    have hv := Eq.symm hv
    have hu := Eq.symm hu
    subst hv
    subst hu
    rw [hQ]
    exact fb_iret hx hb hr hlocks hM (⟨by unfold hrr; first | exact (if_pos c_br).symm | exact (if_neg c_br).symm, w_eq (by unfold hff hss; first | (rw [if_neg c_br, if_neg c_br]; done) | (rw [if_pos c_br, if_pos c_br]; exact up_sw _ _ _ (by omega)))⟩) dX2_shiftBetween_96
  · skip
    have c_br := c_5
    refine lv_aload_n hx hb dX2_shiftBetween_52 rfl (lv_at hl 1 rfl) ?_
    refine fb_get (r := t) hx hb hown hts hin2 hM ((ht.1)) (ce2 ((ht.2.1))) rfl 4 (by decide) (hts (.fieldLink RX2 26 "FeatherBeds$Tick" "heaps" "[LFeatherBeds$Heap;") (by decide +kernel)) (fun _ h9 => h9) (v := .ref (sa S (t + 1))) (congrArg (fun z => some (va_rf z)) ((ht.2.2.1))) dX2_shiftBetween_53 ?_
    refine lv_iload_n hx hb dX2_shiftBetween_56 rfl (lv_at hl 2 rfl) ?_
    refine fb_aald (r := (t + 1)) hx hb hM ((ht.2.2.2.2.2.1)) (ce8 ((ht.2.2.2.2.2.2.1))) 2 rfl (k := f) (nI_clamp (by omega)) (b := sa S (b + 2 * f)) (((ht.2.2.2.2.2.2.2.2.2.2.2.2.2.2) f (by omega)).1) (by rw [(ht.2.2.2.2.2.2.2.1)]; exact vp_in_nI (by omega) (by omega)) dX2_shiftBetween_57 ?_
    refine lv_aload_n hx hb dX2_shiftBetween_58 rfl (lv_at hl 1 rfl) ?_
    refine fb_get (r := t) hx hb hown hts hin2 hM ((ht.1)) (ce2 ((ht.2.1))) rfl 4 (by decide) (hts (.fieldLink RX2 26 "FeatherBeds$Tick" "heaps" "[LFeatherBeds$Heap;") (by decide +kernel)) (fun _ h9 => h9) (v := .ref (sa S (t + 1))) (congrArg (fun z => some (va_rf z)) ((ht.2.2.1))) dX2_shiftBetween_59 ?_
    refine lv_iload_n hx hb dX2_shiftBetween_62 rfl (lv_at hl 3 rfl) ?_
    refine fb_aald (r := (t + 1)) hx hb hM ((ht.2.2.2.2.2.1)) (ce8 ((ht.2.2.2.2.2.2.1))) 2 rfl (k := z) (nI_clamp (by omega)) (b := sa S (b + 2 * z)) (((ht.2.2.2.2.2.2.2.2.2.2.2.2.2.2) z (by omega)).1) (by rw [(ht.2.2.2.2.2.2.2.1)]; exact vp_in_nI (by omega) (by omega)) dX2_shiftBetween_63 ?_
    refine lv_iload_n hx hb dX2_shiftBetween_64 rfl (lv_at hl 0 rfl) ?_
    refine lv_bipush (v := 8) hx hb dX2_shiftBetween_65 (by decide) ?_
    refine lv_idiv hx hb dX2_shiftBetween_67 (by decide) ?_
    refine lv_iconst (v := 2) hx hb dX2_shiftBetween_68 (by decide) ?_
    refine fb_callVi (r := (b + 2 * f)) hx hb hml hown hts hM ((((ht.2.2.2.2.2.2.2.2.2.2.2.2.2.2) f (by omega)).2).1) (ce0 ((((ht.2.2.2.2.2.2.2.2.2.2.2.2.2.2) f (by omega)).2).2.1)) rfl (As := [.ref (sa S (b + 2 * z)), .int ((hdf (V (b + 2 * f)) (V (b + 2 * z))) / 8), .int 2]) (rest := []) (c_X0_moveTo D y l S V I (b + 2 * f) (b + 2 * z) (ht.hp hf) (ht.hp hz) (by omega) ((hdf (V (b + 2 * f)) (V (b + 2 * z))) / 8) 2 (by omega)) (cwV 3 hts gX2_shiftBetween_X0_moveTo rfl rfl rfl (by decide +kernel) ⟨Nat.le_of_ble_eq_true rfl, Nat.le_of_ble_eq_true rfl⟩) rfl hl.1 rfl (Nat.le_of_ble_eq_true rfl) dX2_shiftBetween_69 ⟨Nat.le_of_ble_eq_true rfl, Nat.le_of_ble_eq_true rfl⟩ (fun v_7 u H locs hp hM => ?_)
    obtain ⟨hv, hu⟩ := hp
    have hv := Eq.symm hv
    have hu := Eq.symm hu
    subst hv
    subst hu
    refine lv_goto (tgt := 96) hx hb dX2_shiftBetween_72 (by decide) ?_
    rw [hQ]
    exact fb_iret hx hb hr hlocks hM (⟨by unfold hrr; first | exact (if_pos c_br).symm | exact (if_neg c_br).symm, w_eq (by unfold hff hss; first | (rw [if_neg c_br, if_neg c_br]; done) | (rw [if_pos c_br, if_pos c_br]; exact up_sw _ _ _ (by omega)))⟩) dX2_shiftBetween_96

abbrev rm_X2_shiftInAll : Room := { frames := 3, cells := 0, slots := 0, locals := 73 }
set_option maxHeartbeats 4000000 in
set_option maxRecDepth 100000 in
theorem c_X2_shiftInAll (D : va_G) (y : Nat → ClassId) (l : Launch) (S : fb_Sh) (V I : fb_V) (t b c r d : Nat) (ht : TickAt S t b) (hf : TF I t c r d) (X : fb_V) (hX : ∀ q, q < 36 → V (b + 2 * q) = X q) : CI D y l yX2_shiftInAll wsX2_shiftInAll rm_X2_shiftInAll [.ref (sa S t)] (S, V, (sT V), I) (fun z u => z = (shs c (c * r) (I (t + 2)) X (2 * (c * r))).2 ∧ u = (S, (stv V b (shs c (c * r) (I (t + 2)) X (2 * (c * r))).1), sT (stv V b (shs c (c * r) (I (t + 2)) X (2 * (c * r))).1), I)) 0 0 := by
  refine CI.of (cc := cX2_shiftInAll) (maxL := 4) (ret := (some .int)) (by decide) rfl (Nat.le_of_ble_eq_true rfl) ?_
  intro pv ev s mv below meth cv A hx hb hml hr hown hts hlocks hname hM ls hl
  have hown : s.vm.findClass RX2 = some mv.cls := hown
  have hl : lv_has ls 4 [(0, .ref (sa S t))] := hl
  have hin2 : ∀ x ∈ wsX20, x ∈ wsX2_shiftInAll := by decide +kernel
  obtain ⟨Q, hQ⟩ : ∃ Q, Q = MQ below (va_Qi (fun z u => z = (shs c (c * r) (I (t + 2)) X (2 * (c * r))).2 ∧ u = (S, (stv V b (shs c (c * r) (I (t + 2)) X (2 * (c * r))).1), sT (stv V b (shs c (c * r) (I (t + 2)) X (2 * (c * r))).1), I)) (fun u t => fb_P D y A u t) A) (([.ref (sa S t)] : List Value).toArray) s 0 0 A := ⟨_, rfl⟩
  rw [← hQ]
  have hn := hf.le
  have hc1 : 1 ≤ c := hf.2.2.2.2.1
  have hc6 : c ≤ 6 := hf.2.2.2.2.2.1
  refine lv_iconst (v := 0) hx hb dX2_shiftInAll_0 (by decide) ?_
  refine lv_istore_n (lv' := [(1, .int 0), (0, .ref (sa S t))]) hx hb dX2_shiftInAll_1 rfl hl (by decide) rfl (fun ls hl => ?_)
  refine lv_iconst (v := 0) hx hb dX2_shiftInAll_2 (by decide) ?_
  refine lv_istore_n (lv' := [(2, .int 0), (1, .int 0), (0, .ref (sa S t))]) hx hb dX2_shiftInAll_3 rfl hl (by decide) rfl (fun ls hl => ?_)
  have LP_4 : ∀ (n : Nat) (i : Nat) (hi : i ≤ c * r), c * r - i < n → ∀ (H : Heap) (locs : List Loc), fb_M D y A s (S, (stv V b (shs c (c * r) (I (t + 2)) X (2 * i)).1), (sT (stv V b (shs c (c * r) (I (t + 2)) X (2 * i)).1)), I) H locs → ∀ ls, lv_has ls 4 [(2, .int (nI i)), (1, .int ((shs c (c * r) (I (t + 2)) X (2 * i)).2)), (0, .ref (sa S t))] → W pv l ev rm_X2_shiftInAll s mv ([.ref (sa S t)] : List Value).toArray below meth cv H locs 0 0 Q (F0 mv 4 ls []) := by
    intro n_4
    induction n_4 with
    | zero => intro i hi hmu; exact absurd hmu (Nat.not_lt_zero _)
    | succ n_4 ih_4 =>
      intro i hi hmu H locs hM ls hl
      refine lv_iload_n hx hb dX2_shiftInAll_4 rfl (lv_at hl 0 rfl) ?_
      refine lv_aload_n hx hb dX2_shiftInAll_5 rfl (lv_at hl 2 rfl) ?_
      refine fb_get (r := t) hx hb hown hts hin2 hM ((ht.1)) (ce2 ((ht.2.1))) rfl 3 (by decide) (hts (.fieldLink RX2 21 "FeatherBeds$Tick" "squares" "I") (by decide +kernel)) (fun _ h9 => h9) (v := .int (nI ((c * r)))) (congrArg (fun z => some (Value.int z)) (hf.2.2.2.1)) dX2_shiftInAll_6 ?_
      refine lv_icmp_ge (tgt := 54) hx hb dX2_shiftInAll_9 (by decide) (fun c_1 => ?_) (fun c_1 => ?_)
      · skip
        have e_i : i = c * r := by have := (nI_leI (a := c * r) (b := i) (by omega) (by omega)).mp c_1; omega
        subst e_i
        refine lv_iload_n hx hb dX2_shiftInAll_54 rfl (lv_at hl 1 rfl) ?_
        rw [hQ]
        exact fb_iret hx hb hr hlocks hM (⟨rfl, rfl⟩) dX2_shiftInAll_55
      · skip
        have hq : i < c * r := Nat.lt_of_not_le (fun z => c_1 (nI_le z (by omega)))
        refine lv_iconst (v := 0) hx hb dX2_shiftInAll_12 (by decide) ?_
        refine lv_istore_n (lv' := [(3, .int 0), (2, .int (nI i)), (1, .int ((shs c (c * r) (I (t + 2)) X (2 * i)).2)), (0, .ref (sa S t))]) hx hb dX2_shiftInAll_13 rfl hl (by decide) rfl (fun ls hl => ?_)
        have LP_14 : ∀ (n : Nat) (j : Nat) (hj : j ≤ 2), 2 - j < n → ∀ (H : Heap) (locs : List Loc), fb_M D y A s (S, (stv V b (shs c (c * r) (I (t + 2)) X (2 * i + j)).1), (sT (stv V b (shs c (c * r) (I (t + 2)) X (2 * i + j)).1)), I) H locs → ∀ ls, lv_has ls 4 [(3, .int (nI j)), (2, .int (nI i)), (1, .int ((shs c (c * r) (I (t + 2)) X (2 * i + j)).2)), (0, .ref (sa S t))] → W pv l ev rm_X2_shiftInAll s mv ([.ref (sa S t)] : List Value).toArray below meth cv H locs 0 0 Q (F0 mv 14 ls []) := by
          intro n_14
          induction n_14 with
          | zero => intro j hj hmu; exact absurd hmu (Nat.not_lt_zero _)
          | succ n_14 ih_14 =>
            intro j hj hmu H locs hM ls hl
            refine lv_iload_n hx hb dX2_shiftInAll_14 rfl (lv_at hl 0 rfl) ?_
            refine lv_iconst (v := 2) hx hb dX2_shiftInAll_15 (by decide) ?_
            refine lv_icmp_ge (tgt := 48) hx hb dX2_shiftInAll_16 (by decide) (fun c_2 => ?_) (fun c_2 => ?_)
            · skip
              have e_j : j = 2 := by have := (nI_leI (a := 2) (b := j) (by omega) (by omega)).mp c_2; omega
              subst e_j
              refine lv_iinc (v := nI (i + 1)) (lv' := [(2, .int (nI (i + 1))), (3, .int (nI 2)), (1, .int ((shs c (c * r) (I (t + 2)) X (2 * i + 2)).2)), (0, .ref (sa S t))]) hx hb dX2_shiftInAll_48 hl (k := 1) rfl (nI_1 _) (by decide) rfl (fun ls hl => ?_)
              refine lv_goto (tgt := 4) hx hb dX2_shiftInAll_51 (by decide) ?_
              exact ih_4 (i + 1) (by omega) (by omega) _ _ hM ls (lv_sub hl [0, 2, 3] rfl)
            · skip
              have hjk : j < 2 := Nat.lt_of_not_le (fun z => c_2 (nI_le z (by omega)))
              refine lv_aload_n hx hb dX2_shiftInAll_19 rfl (lv_at hl 3 rfl) ?_
              refine lv_iload_n hx hb dX2_shiftInAll_20 rfl (lv_at hl 1 rfl) ?_
              refine lv_iload_n hx hb dX2_shiftInAll_21 rfl (lv_at hl 0 rfl) ?_
              refine fb_callVi (r := t) hx hb hml hown hts hM ((ht.1)) (ce2 ((ht.2.1))) rfl (As := [.int (nI i), .int (nI j)]) (rest := []) (c_X2_isOpen D y l S (stv V b (shs c (c * r) (I (t + 2)) X (2 * i + j)).1) I t b c r d ht hf i hq j hjk) (cwV 2 hts gX2_shiftInAll_X2_isOpen rfl rfl rfl (by decide +kernel) ⟨Nat.le_of_ble_eq_true rfl, Nat.le_of_ble_eq_true rfl⟩) rfl hl.1 rfl (Nat.le_of_ble_eq_true rfl) dX2_shiftInAll_22 ⟨Nat.le_of_ble_eq_true rfl, Nat.le_of_ble_eq_true rfl⟩ (fun v_3 u H locs hp hM => ?_)
              obtain ⟨hv, hu⟩ := hp
              have hv := Eq.symm hv
              have hu := Eq.symm hu
              subst hv
              subst hu
              refine lv_if_eq (tgt := 42) hx hb dX2_shiftInAll_25 (by decide) (fun c_4 => ?_) (fun c_4 => ?_)
              · skip
                have hop := ob_0 c_4
                refine lv_iinc (v := nI (j + 1)) (lv' := [(3, .int (nI (j + 1))), (2, .int (nI i)), (1, .int ((shs c (c * r) (I (t + 2)) X (2 * i + j)).2)), (0, .ref (sa S t))]) hx hb dX2_shiftInAll_42 hl (k := 0) rfl (nI_1 _) (by decide) rfl (fun ls hl => ?_)
                refine lv_goto (tgt := 14) hx hb dX2_shiftInAll_45 (by decide) ?_
                rw [show (shs c (c * r) (I (t + 2)) X (2 * i + j)) = shs c (c * r) (I (t + 2)) X (2 * i + (j + 1)) from (shs_n _ _ _ _ _ hjk hop).symm] at hM hl
                exact ih_14 (j + 1) (by omega) (by omega) _ _ hM ls (lv_sub hl [0, 1, 2, 3] rfl)
              · skip
                have hop := ob_1 c_4
                have hofx := (opn_x hop).1
                have hol := oft_lt (n := c * r) rfl hc1 hq hofx
                refine lv_iload_n hx hb dX2_shiftInAll_28 rfl (lv_at hl 2 rfl) ?_
                refine lv_aload_n hx hb dX2_shiftInAll_29 rfl (lv_at hl 3 rfl) ?_
                refine lv_iload_n hx hb dX2_shiftInAll_30 rfl (lv_at hl 1 rfl) ?_
                refine lv_aload_n hx hb dX2_shiftInAll_31 rfl (lv_at hl 3 rfl) ?_
                refine lv_iload_n hx hb dX2_shiftInAll_32 rfl (lv_at hl 1 rfl) ?_
                refine lv_iload_n hx hb dX2_shiftInAll_33 rfl (lv_at hl 0 rfl) ?_
                refine fb_callVi (r := t) hx hb hml hown hts hM ((ht.1)) (ce2 ((ht.2.1))) rfl (As := [.int (nI i), .int (nI j)]) (rest := [.int (nI i), .ref (sa S t), .int ((shs c (c * r) (I (t + 2)) X (2 * i + j)).2)]) (c_X2_otherOfPair D y l S (stv V b (shs c (c * r) (I (t + 2)) X (2 * i + j)).1) I t b c r d ht hf i hq (nI j)) (cwV 2 hts gX2_shiftInAll_X2_otherOfPair rfl rfl rfl (by decide +kernel) ⟨Nat.le_of_ble_eq_true rfl, Nat.le_of_ble_eq_true rfl⟩) rfl hl.1 rfl (Nat.le_of_ble_eq_true rfl) dX2_shiftInAll_34 ⟨Nat.le_of_ble_eq_true rfl, Nat.le_of_ble_eq_true rfl⟩ (fun v_5 u H locs hp hM => ?_)
                obtain ⟨hv, hu⟩ := hp
                have hv := Eq.symm hv
                have hu := Eq.symm hu
                subst hv
                subst hu
                rw [oth_d (c := c) (n := c * r) (q := i) hjk, if_pos hofx]
                refine fb_callVi (r := t) hx hb hml hown hts hM ((ht.1)) (ce2 ((ht.2.1))) rfl (As := [.int (nI i), .int (nI (oft c i j))]) (rest := [.int ((shs c (c * r) (I (t + 2)) X (2 * i + j)).2)]) (c_X2_shiftBetween D y l S (stv V b (shs c (c * r) (I (t + 2)) X (2 * i + j)).1) I t b ht i (oft c i j) (by omega) (by omega) (by omega)) (cwV 2 hts gX2_shiftInAll_X2_shiftBetween rfl rfl rfl (by decide +kernel) ⟨Nat.le_of_ble_eq_true rfl, Nat.le_of_ble_eq_true rfl⟩) rfl hl.1 rfl (Nat.le_of_ble_eq_true rfl) dX2_shiftInAll_37 ⟨Nat.le_of_ble_eq_true rfl, Nat.le_of_ble_eq_true rfl⟩ (fun v_6 u H locs hp hM => ?_)
                obtain ⟨hv, hu⟩ := hp
                have hv := Eq.symm hv
                have hu := Eq.symm hu
                subst hv
                subst hu
                have ei : stv V b (shs c (c * r) (I (t + 2)) X (2 * i + j)).1 (b + 2 * i) = (shs c (c * r) (I (t + 2)) X (2 * i + j)).1 i := stv_at V b _ (by omega)
                have eo : stv V b (shs c (c * r) (I (t + 2)) X (2 * i + j)).1 (b + 2 * oft c i j) = (shs c (c * r) (I (t + 2)) X (2 * i + j)).1 (oft c i j) := stv_at V b _ (by omega)
                have eV : (va_up (va_up (stv V b (shs c (c * r) (I (t + 2)) X (2 * i + j)).1) (b + 2 * i) (hff ((stv V b (shs c (c * r) (I (t + 2)) X (2 * i + j)).1) (b + 2 * i)) ((stv V b (shs c (c * r) (I (t + 2)) X (2 * i + j)).1) (b + 2 * oft c i j)))) (b + 2 * oft c i j) (hss ((stv V b (shs c (c * r) (I (t + 2)) X (2 * i + j)).1) (b + 2 * i)) ((stv V b (shs c (c * r) (I (t + 2)) X (2 * i + j)).1) (b + 2 * oft c i j)))) = (stv V b (shs c (c * r) (I (t + 2)) X (2 * i + (j + 1))).1) := by rw [ei, eo, stv_up V b _ (by omega), stv_up V b _ (by omega), shs_o _ _ _ _ _ hjk hop]
                rw [eV] at hM
                clear eV
                rw [ei, eo]
                refine lv_iadd hx hb dX2_shiftInAll_40 ?_
                rw [show (((shs c (c * r) (I (t + 2)) X (2 * i + j)).2) + (hrr ((shs c (c * r) (I (t + 2)) X (2 * i + j)).1 i) ((shs c (c * r) (I (t + 2)) X (2 * i + j)).1 (oft c i j))) : Int32) = (shs c (c * r) (I (t + 2)) X (2 * i + (j + 1))).2 from by rw [shs_o _ _ _ _ _ hjk hop]]
                refine lv_istore_n (lv' := [(1, .int ((shs c (c * r) (I (t + 2)) X (2 * i + (j + 1))).2)), (3, .int (nI j)), (2, .int (nI i)), (0, .ref (sa S t))]) hx hb dX2_shiftInAll_41 rfl hl (by decide) rfl (fun ls hl => ?_)
                refine lv_iinc (v := nI (j + 1)) (lv' := [(3, .int (nI (j + 1))), (1, .int ((shs c (c * r) (I (t + 2)) X (2 * i + (j + 1))).2)), (2, .int (nI i)), (0, .ref (sa S t))]) hx hb dX2_shiftInAll_42 hl (k := 1) rfl (nI_1 _) (by decide) rfl (fun ls hl => ?_)
                refine lv_goto (tgt := 14) hx hb dX2_shiftInAll_45 (by decide) ?_
                exact ih_14 (j + 1) (by omega) (by omega) _ _ hM ls (lv_sub hl [0, 2, 1, 3] rfl)
        exact LP_14 _ 0 (by omega) (Nat.lt_succ_self _) _ _ hM ls (lv_sub hl [0, 1, 2, 3] rfl)
  rw [show V = stv V b (shs c (c * r) (I (t + 2)) X (2 * 0)).1 from (stv_id V b (fun q hq => (hX q hq).symm)).symm] at hM
  exact LP_4 _ 0 (by omega) (Nat.lt_succ_self _) _ _ hM ls (lv_sub hl [0, 1, 2] rfl)

abbrev rm_X2_sleep : Room := { frames := 4, cells := 0, slots := 0, locals := 96 }
set_option maxHeartbeats 4000000 in
set_option maxRecDepth 100000 in
theorem c_X2_sleep (D : va_G) (y : Nat → ClassId) (l : Launch) (S : fb_Sh) (V I : fb_V) (t b c r d : Nat) (ht : TickAt S t b) (hf : TF I t c r d) (X : fb_V) (hX : ∀ q, q < 36 → V (b + 2 * q) = X q) (z : Nat) (hz : z ≤ 200) (hfix : ∀ i, i < z → pkS (nI d) (ngs c (c * r) d (I (t + 2)) X i) 36 = 0 → (shs c (c * r) (I (t + 2)) (pkX (nI d) (ngs c (c * r) d (I (t + 2)) X i) 36) (2 * (c * r))).2 = 0 → ngl c (c * r) d (I (t + 2)) X (i + 1) = ngl c (c * r) d (I (t + 2)) X z ∧ (∀ q, q < 36 → ngs c (c * r) d (I (t + 2)) X (i + 1) q = ngs c (c * r) d (I (t + 2)) X z q)) : CI D y l yX2_sleep wsX2_sleep rm_X2_sleep [.ref (sa S t), .int (nI z)] (S, V, (sT V), I) (fun v u => v = ngl c (c * r) d (I (t + 2)) X z ∧ u = (S, (stv V b (ngs c (c * r) d (I (t + 2)) X z)), sT (stv V b (ngs c (c * r) d (I (t + 2)) X z)), I)) 0 0 := by
  refine CI.of (cc := cX2_sleep) (maxL := 6) (ret := (some .int)) (by decide) rfl (Nat.le_of_ble_eq_true rfl) ?_
  intro pv ev s mv below meth cv A hx hb hml hr hown hts hlocks hname hM ls hl
  have hown : s.vm.findClass RX2 = some mv.cls := hown
  have hl : lv_has ls 6 [(0, .ref (sa S t)), (1, .int (nI z))] := hl
  have hin2 : ∀ x ∈ wsX20, x ∈ wsX2_sleep := by decide +kernel
  obtain ⟨Q, hQ⟩ : ∃ Q, Q = MQ below (va_Qi (fun v u => v = ngl c (c * r) d (I (t + 2)) X z ∧ u = (S, (stv V b (ngs c (c * r) d (I (t + 2)) X z)), sT (stv V b (ngs c (c * r) d (I (t + 2)) X z)), I)) (fun u t => fb_P D y A u t) A) (([.ref (sa S t), .int (nI z)] : List Value).toArray) s 0 0 A := ⟨_, rfl⟩
  rw [← hQ]
  have hn := hf.le
  have hc1 : 1 ≤ c := hf.2.2.2.2.1
  have hc6 : c ≤ 6 := hf.2.2.2.2.2.1
  refine lv_iconst (v := 0) hx hb dX2_sleep_0 (by decide) ?_
  refine lv_istore_n (lv' := [(2, .int 0), (0, .ref (sa S t)), (1, .int (nI z))]) hx hb dX2_sleep_1 rfl hl (by decide) rfl (fun ls hl => ?_)
  refine lv_iconst (v := 0) hx hb dX2_sleep_2 (by decide) ?_
  refine lv_istore_n (lv' := [(3, .int 0), (2, .int 0), (0, .ref (sa S t)), (1, .int (nI z))]) hx hb dX2_sleep_3 rfl hl (by decide) rfl (fun ls hl => ?_)
  have LP_4 : ∀ (n : Nat) (i : Nat) (hi : i ≤ z), z - i < n → ∀ (H : Heap) (locs : List Loc), fb_M D y A s (S, (stv V b (ngs c (c * r) d (I (t + 2)) X i)), (sT (stv V b (ngs c (c * r) d (I (t + 2)) X i))), I) H locs → ∀ ls, lv_has ls 6 [(3, .int (nI i)), (2, .int (ngl c (c * r) d (I (t + 2)) X i)), (0, .ref (sa S t)), (1, .int (nI z))] → W pv l ev rm_X2_sleep s mv ([.ref (sa S t), .int (nI z)] : List Value).toArray below meth cv H locs 0 0 Q (F0 mv 4 ls []) := by
    intro n_4
    induction n_4 with
    | zero => intro i hi hmu; exact absurd hmu (Nat.not_lt_zero _)
    | succ n_4 ih_4 =>
      intro i hi hmu H locs hM ls hl
      refine lv_iload_n hx hb dX2_sleep_4 rfl (lv_at hl 0 rfl) ?_
      refine lv_iload_n hx hb dX2_sleep_5 rfl (lv_at hl 3 rfl) ?_
      refine lv_icmp_ge (tgt := 44) hx hb dX2_sleep_6 (by decide) (fun c_1 => ?_) (fun c_1 => ?_)
      · skip
        have e_i : i = z := by have := (nI_leI (a := z) (b := i) (by omega) (by omega)).mp c_1; omega
        subst e_i
        refine lv_iload_n hx hb dX2_sleep_44 rfl (lv_at hl 1 rfl) ?_
        rw [hQ]
        exact fb_iret hx hb hr hlocks hM (⟨rfl, rfl⟩) dX2_sleep_45
      · skip
        have hiz : i < z := Nat.lt_of_not_le (fun h => c_1 (nI_le h (by omega)))
        refine lv_aload_n hx hb dX2_sleep_9 rfl (lv_at hl 2 rfl) ?_
        refine fb_callVi (r := t) hx hb hml hown hts hM ((ht.1)) (ce2 ((ht.2.1))) rfl (As := []) (rest := []) (c_X2_prickInAll D y l S (stv V b (ngs c (c * r) d (I (t + 2)) X i)) I t b c r d ht hf (ngs c (c * r) d (I (t + 2)) X i) (fun q hq => stv_at V b _ hq)) (cwV 0 hts gX2_sleep_X2_prickInAll rfl rfl rfl (by decide +kernel) ⟨Nat.le_of_ble_eq_true rfl, Nat.le_of_ble_eq_true rfl⟩) rfl hl.1 rfl (Nat.le_of_ble_eq_true rfl) dX2_sleep_10 ⟨Nat.le_of_ble_eq_true rfl, Nat.le_of_ble_eq_true rfl⟩ (fun v_2 u H locs hp hM => ?_)
        obtain ⟨hv, hu⟩ := hp
        have hv := Eq.symm hv
        have hu := Eq.symm hu
        subst hv
        subst hu
        have eV : (stv (stv V b (ngs c (c * r) d (I (t + 2)) X i)) b (pkX (nI d) (ngs c (c * r) d (I (t + 2)) X i) 36)) = (stv V b (pkX (nI d) (ngs c (c * r) d (I (t + 2)) X i) 36)) := stv_stv _ _ _ _
        rw [eV] at hM
        clear eV
        refine lv_istore (lv' := [(4, .int (pkS (nI d) (ngs c (c * r) d (I (t + 2)) X i) 36)), (3, .int (nI i)), (2, .int (ngl c (c * r) d (I (t + 2)) X i)), (0, .ref (sa S t)), (1, .int (nI z))]) hx hb dX2_sleep_13 hl (by decide) rfl (fun ls hl => ?_)
        refine lv_aload_n hx hb dX2_sleep_15 rfl (lv_at hl 3 rfl) ?_
        refine fb_callVi (r := t) hx hb hml hown hts hM ((ht.1)) (ce2 ((ht.2.1))) rfl (As := []) (rest := []) (c_X2_shiftInAll D y l S (stv V b (pkX (nI d) (ngs c (c * r) d (I (t + 2)) X i) 36)) I t b c r d ht hf (pkX (nI d) (ngs c (c * r) d (I (t + 2)) X i) 36) (fun q hq => stv_at V b _ hq)) (cwV 0 hts gX2_sleep_X2_shiftInAll rfl rfl rfl (by decide +kernel) ⟨Nat.le_of_ble_eq_true rfl, Nat.le_of_ble_eq_true rfl⟩) rfl hl.1 rfl (Nat.le_of_ble_eq_true rfl) dX2_sleep_16 ⟨Nat.le_of_ble_eq_true rfl, Nat.le_of_ble_eq_true rfl⟩ (fun v_3 u H locs hp hM => ?_)
        obtain ⟨hv, hu⟩ := hp
        have hv := Eq.symm hv
        have hu := Eq.symm hu
        subst hv
        subst hu
        have eV : (stv (stv V b (pkX (nI d) (ngs c (c * r) d (I (t + 2)) X i) 36)) b (shs c (c * r) (I (t + 2)) (pkX (nI d) (ngs c (c * r) d (I (t + 2)) X i) 36) (2 * (c * r))).1) = (stv V b (ngs c (c * r) d (I (t + 2)) X (i + 1))) := stv_stv _ _ _ _
        rw [eV] at hM
        clear eV
        refine lv_istore (lv' := [(5, .int ((shs c (c * r) (I (t + 2)) (pkX (nI d) (ngs c (c * r) d (I (t + 2)) X i) 36) (2 * (c * r))).2)), (4, .int (pkS (nI d) (ngs c (c * r) d (I (t + 2)) X i) 36)), (3, .int (nI i)), (2, .int (ngl c (c * r) d (I (t + 2)) X i)), (0, .ref (sa S t)), (1, .int (nI z))]) hx hb dX2_sleep_19 hl (by decide) rfl (fun ls hl => ?_)
        refine lv_iload_n hx hb dX2_sleep_21 rfl (lv_at hl 3 rfl) ?_
        refine lv_iload hx hb dX2_sleep_22 (lv_at hl 1 rfl) ?_
        refine lv_iadd hx hb dX2_sleep_24 ?_
        rw [show ((ngl c (c * r) d (I (t + 2)) X i) + (pkS (nI d) (ngs c (c * r) d (I (t + 2)) X i) 36) : Int32) = ngl c (c * r) d (I (t + 2)) X (i + 1) from rfl]
        refine lv_istore_n (lv' := [(2, .int (ngl c (c * r) d (I (t + 2)) X (i + 1))), (5, .int ((shs c (c * r) (I (t + 2)) (pkX (nI d) (ngs c (c * r) d (I (t + 2)) X i) 36) (2 * (c * r))).2)), (4, .int (pkS (nI d) (ngs c (c * r) d (I (t + 2)) X i) 36)), (3, .int (nI i)), (0, .ref (sa S t)), (1, .int (nI z))]) hx hb dX2_sleep_25 rfl hl (by decide) rfl (fun ls hl => ?_)
        refine lv_iload hx hb dX2_sleep_26 (lv_at hl 2 rfl) ?_
        refine lv_if_ne (tgt := 38) hx hb dX2_sleep_28 (by decide) (fun c_4 => ?_) (fun c_4 => ?_)
        · skip
          refine lv_iinc (v := nI (i + 1)) (lv' := [(3, .int (nI (i + 1))), (2, .int (ngl c (c * r) d (I (t + 2)) X (i + 1))), (5, .int ((shs c (c * r) (I (t + 2)) (pkX (nI d) (ngs c (c * r) d (I (t + 2)) X i) 36) (2 * (c * r))).2)), (4, .int (pkS (nI d) (ngs c (c * r) d (I (t + 2)) X i) 36)), (0, .ref (sa S t)), (1, .int (nI z))]) hx hb dX2_sleep_38 hl (k := 3) rfl (nI_1 _) (by decide) rfl (fun ls hl => ?_)
          refine lv_goto (tgt := 4) hx hb dX2_sleep_41 (by decide) ?_
          exact ih_4 (i + 1) (by omega) (by omega) _ _ hM ls (lv_sub hl [0, 1, 4, 5] rfl)
        · skip
          have c_p := c_4
          refine lv_iload hx hb dX2_sleep_31 (lv_at hl 1 rfl) ?_
          refine lv_if_ne (tgt := 38) hx hb dX2_sleep_33 (by decide) (fun c_5 => ?_) (fun c_5 => ?_)
          · skip
            refine lv_iinc (v := nI (i + 1)) (lv' := [(3, .int (nI (i + 1))), (2, .int (ngl c (c * r) d (I (t + 2)) X (i + 1))), (5, .int ((shs c (c * r) (I (t + 2)) (pkX (nI d) (ngs c (c * r) d (I (t + 2)) X i) 36) (2 * (c * r))).2)), (4, .int (pkS (nI d) (ngs c (c * r) d (I (t + 2)) X i) 36)), (0, .ref (sa S t)), (1, .int (nI z))]) hx hb dX2_sleep_38 hl (k := 3) rfl (nI_1 _) (by decide) rfl (fun ls hl => ?_)
            refine lv_goto (tgt := 4) hx hb dX2_sleep_41 (by decide) ?_
            exact ih_4 (i + 1) (by omega) (by omega) _ _ hM ls (lv_sub hl [0, 1, 4, 5] rfl)
          · skip
            have c_s := c_5
            refine lv_iload_n hx hb dX2_sleep_36 rfl (lv_at hl 0 rfl) ?_
            rw [hQ]
            exact fb_iret hx hb hr hlocks hM (⟨(hfix i hiz c_p c_s).1, w_eq (stv_ext V b (hfix i hiz c_p c_s).2)⟩) dX2_sleep_37
  rw [show V = stv V b (ngs c (c * r) d (I (t + 2)) X 0) from (stv_id V b (fun q hq => (hX q hq).symm)).symm] at hM
  exact LP_4 _ 0 (by omega) (Nat.lt_succ_self _) _ _ hM ls (lv_sub hl [0, 1, 2, 3] rfl)

abbrev rm_X2_joinParts : Room := { frames := 0, cells := 0, slots := 0, locals := 0 }
set_option maxHeartbeats 4000000 in
set_option maxRecDepth 100000 in
theorem c_X2_joinParts (D : va_G) (y : Nat → ClassId) (l : Launch) (S : fb_Sh) (V I : fb_V) (t b : Nat) (ht : TickAt S t b) (f z : Nat) (hf : f < 36) (hz : z < 36) : CI D y l yX2_joinParts wsX2_joinParts rm_X2_joinParts [.ref (sa S t), .int (nI f), .int (nI z)] (S, V, (sT V), I) (fun v u => (I (t + 3) f = I (t + 3) z → v = 0 ∧ u = (S, V, sT V, I)) ∧ (¬ I (t + 3) f = I (t + 3) z → v = 1 ∧ u = (S, V, sT V, (va_up I (t + 3) (rel (I (t + 3)) f z 36))))) 0 0 := by
  refine CI.of (cc := cX2_joinParts) (maxL := 6) (ret := (some .boolean)) (by decide) rfl (Nat.le_of_ble_eq_true rfl) ?_
  intro pv ev s mv below meth cv A hx hb hml hr hown hts hlocks hname hM ls hl
  have hown : s.vm.findClass RX2 = some mv.cls := hown
  have hl : lv_has ls 6 [(0, .ref (sa S t)), (1, .int (nI f)), (2, .int (nI z))] := hl
  have hin2 : ∀ x ∈ wsX20, x ∈ wsX2_joinParts := by decide +kernel
  obtain ⟨Q, hQ⟩ : ∃ Q, Q = MQ below (va_Qi (fun v u => (I (t + 3) f = I (t + 3) z → v = 0 ∧ u = (S, V, sT V, I)) ∧ (¬ I (t + 3) f = I (t + 3) z → v = 1 ∧ u = (S, V, sT V, (va_up I (t + 3) (rel (I (t + 3)) f z 36))))) (fun u t => fb_P D y A u t) A) (([.ref (sa S t), .int (nI f), .int (nI z)] : List Value).toArray) s 0 0 A := ⟨_, rfl⟩
  rw [← hQ]
  refine lv_iload_n hx hb dX2_joinParts_0 rfl (lv_at hl 1 rfl) ?_
  refine lv_if_lt (tgt := 26) hx hb dX2_joinParts_1 (by decide) (fun c_1 => absurd c_1 (nI_pos (by omega))) (fun c_1 => ?_)
  refine lv_iload_n hx hb dX2_joinParts_4 rfl (lv_at hl 1 rfl) ?_
  refine lv_aload_n hx hb dX2_joinParts_5 rfl (lv_at hl 0 rfl) ?_
  refine fb_get (r := t) hx hb hown hts hin2 hM ((ht.1)) (ce2 ((ht.2.1))) rfl 6 (by decide) (hts (.fieldLink RX2 35 "FeatherBeds$Tick" "partOf" "[I") (by decide +kernel)) (fun _ h9 => h9) (v := .ref (sa S (t + 3))) (congrArg (fun z => some (va_rf z)) ((ht.2.2.2.2.1))) dX2_joinParts_6 ?_
  refine fb_alen (r := (t + 3)) hx hb hM ((ht.2.2.2.2.2.2.2.2.2.2.2.1)) (ce6 ((ht.2.2.2.2.2.2.2.2.2.2.2.2.1))) 0 rfl (v := nI 36) (congrArg Int32.ofNat ((ht.2.2.2.2.2.2.2.2.2.2.2.2.2.1))) dX2_joinParts_9 ?_
  refine lv_icmp_ge (tgt := 26) hx hb dX2_joinParts_10 (by decide) (fun c_2 => absurd c_2 (nI_ge hf (by omega))) (fun c_2 => ?_)
  refine lv_iload_n hx hb dX2_joinParts_13 rfl (lv_at hl 2 rfl) ?_
  refine lv_if_lt (tgt := 26) hx hb dX2_joinParts_14 (by decide) (fun c_3 => absurd c_3 (nI_pos (by omega))) (fun c_3 => ?_)
  refine lv_iload_n hx hb dX2_joinParts_17 rfl (lv_at hl 2 rfl) ?_
  refine lv_aload_n hx hb dX2_joinParts_18 rfl (lv_at hl 0 rfl) ?_
  refine fb_get (r := t) hx hb hown hts hin2 hM ((ht.1)) (ce2 ((ht.2.1))) rfl 6 (by decide) (hts (.fieldLink RX2 35 "FeatherBeds$Tick" "partOf" "[I") (by decide +kernel)) (fun _ h9 => h9) (v := .ref (sa S (t + 3))) (congrArg (fun z => some (va_rf z)) ((ht.2.2.2.2.1))) dX2_joinParts_19 ?_
  refine fb_alen (r := (t + 3)) hx hb hM ((ht.2.2.2.2.2.2.2.2.2.2.2.1)) (ce6 ((ht.2.2.2.2.2.2.2.2.2.2.2.2.1))) 0 rfl (v := nI 36) (congrArg Int32.ofNat ((ht.2.2.2.2.2.2.2.2.2.2.2.2.2.1))) dX2_joinParts_22 ?_
  refine lv_icmp_lt (tgt := 28) hx hb dX2_joinParts_23 (by decide) (fun c_4 => ?_) (fun c_4 => absurd (nI_lt hz (by omega)) c_4)
  refine lv_aload_n hx hb dX2_joinParts_28 rfl (lv_at hl 0 rfl) ?_
  refine fb_get (r := t) hx hb hown hts hin2 hM ((ht.1)) (ce2 ((ht.2.1))) rfl 6 (by decide) (hts (.fieldLink RX2 35 "FeatherBeds$Tick" "partOf" "[I") (by decide +kernel)) (fun _ h9 => h9) (v := .ref (sa S (t + 3))) (congrArg (fun z => some (va_rf z)) ((ht.2.2.2.2.1))) dX2_joinParts_29 ?_
  refine lv_iload_n hx hb dX2_joinParts_32 rfl (lv_at hl 1 rfl) ?_
  refine fb_iald (r := (t + 3)) hx hb hM ((ht.2.2.2.2.2.2.2.2.2.2.2.1)) (ce6 ((ht.2.2.2.2.2.2.2.2.2.2.2.2.1))) (k := f) (nI_clamp (by omega)) (by rw [(ht.2.2.2.2.2.2.2.2.2.2.2.2.2.1)]; exact vp_in_nI (by omega) (by omega)) dX2_joinParts_33 ?_
  refine lv_istore_n (lv' := [(3, .int (I (t + 3) f)), (0, .ref (sa S t)), (1, .int (nI f)), (2, .int (nI z))]) hx hb dX2_joinParts_34 rfl hl (by decide) rfl (fun ls hl => ?_)
  refine lv_aload_n hx hb dX2_joinParts_35 rfl (lv_at hl 1 rfl) ?_
  refine fb_get (r := t) hx hb hown hts hin2 hM ((ht.1)) (ce2 ((ht.2.1))) rfl 6 (by decide) (hts (.fieldLink RX2 35 "FeatherBeds$Tick" "partOf" "[I") (by decide +kernel)) (fun _ h9 => h9) (v := .ref (sa S (t + 3))) (congrArg (fun z => some (va_rf z)) ((ht.2.2.2.2.1))) dX2_joinParts_36 ?_
  refine lv_iload_n hx hb dX2_joinParts_39 rfl (lv_at hl 3 rfl) ?_
  refine fb_iald (r := (t + 3)) hx hb hM ((ht.2.2.2.2.2.2.2.2.2.2.2.1)) (ce6 ((ht.2.2.2.2.2.2.2.2.2.2.2.2.1))) (k := z) (nI_clamp (by omega)) (by rw [(ht.2.2.2.2.2.2.2.2.2.2.2.2.2.1)]; exact vp_in_nI (by omega) (by omega)) dX2_joinParts_40 ?_
  refine lv_istore (lv' := [(4, .int (I (t + 3) z)), (3, .int (I (t + 3) f)), (0, .ref (sa S t)), (1, .int (nI f)), (2, .int (nI z))]) hx hb dX2_joinParts_41 hl (by decide) rfl (fun ls hl => ?_)
  refine lv_iload_n hx hb dX2_joinParts_43 rfl (lv_at hl 1 rfl) ?_
  refine lv_iload hx hb dX2_joinParts_44 (lv_at hl 0 rfl) ?_
  refine lv_icmp_ne (tgt := 51) hx hb dX2_joinParts_46 (by decide) (fun c_5 => ?_) (fun c_5 => ?_)
  · skip
    have c_ne := c_5
    refine lv_iconst (v := 0) hx hb dX2_joinParts_51 (by decide) ?_
    refine lv_istore (lv' := [(5, .int 0), (4, .int (I (t + 3) z)), (3, .int (I (t + 3) f)), (0, .ref (sa S t)), (1, .int (nI f)), (2, .int (nI z))]) hx hb dX2_joinParts_52 hl (by decide) rfl (fun ls hl => ?_)
    have LP_54 : ∀ (n : Nat) (i : Nat) (hi : i ≤ 36), 36 - i < n → ∀ (H : Heap) (locs : List Loc), fb_M D y A s (S, V, (sT V), (va_up I (t + 3) (rel (I (t + 3)) f z i))) H locs → ∀ ls, lv_has ls 6 [(5, .int (nI i)), (4, .int (I (t + 3) z)), (3, .int (I (t + 3) f)), (0, .ref (sa S t)), (1, .int (nI f)), (2, .int (nI z))] → W pv l ev rm_X2_joinParts s mv ([.ref (sa S t), .int (nI f), .int (nI z)] : List Value).toArray below meth cv H locs 0 0 Q (F0 mv 54 ls []) := by
      intro n_54
      induction n_54 with
      | zero => intro i hi hmu; exact absurd hmu (Nat.not_lt_zero _)
      | succ n_54 ih_54 =>
        intro i hi hmu H locs hM ls hl
        refine lv_iload hx hb dX2_joinParts_54 (lv_at hl 0 rfl) ?_
        refine lv_aload_n hx hb dX2_joinParts_56 rfl (lv_at hl 3 rfl) ?_
        refine fb_get (r := t) hx hb hown hts hin2 hM ((ht.1)) (ce2 ((ht.2.1))) rfl 6 (by decide) (hts (.fieldLink RX2 35 "FeatherBeds$Tick" "partOf" "[I") (by decide +kernel)) (fun _ h9 => h9) (v := .ref (sa S (t + 3))) (congrArg (fun z => some (va_rf z)) ((ht.2.2.2.2.1))) dX2_joinParts_57 ?_
        refine fb_alen (r := (t + 3)) hx hb hM ((ht.2.2.2.2.2.2.2.2.2.2.2.1)) (ce6 ((ht.2.2.2.2.2.2.2.2.2.2.2.2.1))) 0 rfl (v := nI 36) (congrArg Int32.ofNat ((ht.2.2.2.2.2.2.2.2.2.2.2.2.2.1))) dX2_joinParts_60 ?_
        refine lv_icmp_ge (tgt := 90) hx hb dX2_joinParts_61 (by decide) (fun c_6 => ?_) (fun c_6 => ?_)
        · skip
          have e6 : i = 36 := by have := (nI_leI (a := 36) (b := i) (by omega) (by omega)).mp c_6; omega
          subst e6
          refine lv_iconst (v := 1) hx hb dX2_joinParts_90 (by decide) ?_
          rw [hQ]
          exact fb_zret hx hb hr (by first | rfl | decide | assumption) hlocks hM (⟨fun h9 => absurd h9 c_ne, fun _ => ⟨rfl, rfl⟩⟩) dX2_joinParts_91
        · skip
          have hi6 : i < 36 := Nat.lt_of_not_le (fun z => c_6 (nI_le z (by omega)))
          refine lv_aload_n hx hb dX2_joinParts_64 rfl (lv_at hl 3 rfl) ?_
          refine fb_get (r := t) hx hb hown hts hin2 hM ((ht.1)) (ce2 ((ht.2.1))) rfl 6 (by decide) (hts (.fieldLink RX2 35 "FeatherBeds$Tick" "partOf" "[I") (by decide +kernel)) (fun _ h9 => h9) (v := .ref (sa S (t + 3))) (congrArg (fun z => some (va_rf z)) ((ht.2.2.2.2.1))) dX2_joinParts_65 ?_
          refine lv_iload hx hb dX2_joinParts_68 (lv_at hl 0 rfl) ?_
          refine fb_iald (r := (t + 3)) hx hb hM ((ht.2.2.2.2.2.2.2.2.2.2.2.1)) (ce6 ((ht.2.2.2.2.2.2.2.2.2.2.2.2.1))) (k := i) (nI_clamp (by omega)) (by rw [(ht.2.2.2.2.2.2.2.2.2.2.2.2.2.1)]; exact vp_in_nI (by omega) (by omega)) dX2_joinParts_70 ?_
          refine lv_iload hx hb dX2_joinParts_71 (lv_at hl 1 rfl) ?_
          refine lv_icmp_ne (tgt := 84) hx hb dX2_joinParts_73 (by decide) (fun c_7 => ?_) (fun c_7 => ?_)
          · skip
            have c_br := c_7
            rw [va_up_self, rel_i] at c_br
            refine lv_iinc (v := nI (i + 1)) (lv' := [(5, .int (nI (i + 1))), (4, .int (I (t + 3) z)), (3, .int (I (t + 3) f)), (0, .ref (sa S t)), (1, .int (nI f)), (2, .int (nI z))]) hx hb dX2_joinParts_84 hl (k := 0) rfl (nI_1 _) (by decide) rfl (fun ls hl => ?_)
            refine lv_goto (tgt := 54) hx hb dX2_joinParts_87 (by decide) ?_
            have eI : (va_up I (t + 3) (rel (I (t + 3)) f z i)) = va_up I (t + 3) (rel (I (t + 3)) f z (i + 1)) := by rw [rel_s, if_neg c_br]
            rw [eI] at hM
            exact ih_54 (i + 1) (by omega) (by omega) _ _ hM ls (lv_sub hl [0, 1, 2, 3, 4, 5] rfl)
          · skip
            have c_br := c_7
            rw [va_up_self, rel_i] at c_br
            refine lv_aload_n hx hb dX2_joinParts_76 rfl (lv_at hl 3 rfl) ?_
            refine fb_get (r := t) hx hb hown hts hin2 hM ((ht.1)) (ce2 ((ht.2.1))) rfl 6 (by decide) (hts (.fieldLink RX2 35 "FeatherBeds$Tick" "partOf" "[I") (by decide +kernel)) (fun _ h9 => h9) (v := .ref (sa S (t + 3))) (congrArg (fun z => some (va_rf z)) ((ht.2.2.2.2.1))) dX2_joinParts_77 ?_
            refine lv_iload hx hb dX2_joinParts_80 (lv_at hl 0 rfl) ?_
            refine lv_iload_n hx hb dX2_joinParts_82 rfl (lv_at hl 2 rfl) ?_
            refine fb_iast (r := (t + 3)) hx hb hM ((ht.2.2.2.2.2.2.2.2.2.2.2.1)) (ce6 ((ht.2.2.2.2.2.2.2.2.2.2.2.2.1))) (k := i) (nI_clamp (by omega)) (by rw [(ht.2.2.2.2.2.2.2.2.2.2.2.2.2.1)]; exact vp_in_nI (by omega) (by omega)) dX2_joinParts_83 (up_I (j := i) (by rw [ce6 ((ht.2.2.2.2.2.2.2.2.2.2.2.2.1))]; simp [va_up])) (w' := (S, V, (sT V), (va_up (va_up I (t + 3) (rel (I (t + 3)) f z i)) (t + 3) (upd ((va_up I (t + 3) (rel (I (t + 3)) f z i)) (t + 3)) i (I (t + 3) f))))) ⟨rfl, rfl, rfl⟩ (fun H locs hM => ?_)
            refine lv_iinc (v := nI (i + 1)) (lv' := [(5, .int (nI (i + 1))), (4, .int (I (t + 3) z)), (3, .int (I (t + 3) f)), (0, .ref (sa S t)), (1, .int (nI f)), (2, .int (nI z))]) hx hb dX2_joinParts_84 hl (k := 0) rfl (nI_1 _) (by decide) rfl (fun ls hl => ?_)
            refine lv_goto (tgt := 54) hx hb dX2_joinParts_87 (by decide) ?_
            have eI : (va_up (va_up I (t + 3) (rel (I (t + 3)) f z i)) (t + 3) (upd ((va_up I (t + 3) (rel (I (t + 3)) f z i)) (t + 3)) i (I (t + 3) f))) = va_up I (t + 3) (rel (I (t + 3)) f z (i + 1)) := by rw [up_up, va_up_self, rel_s, if_pos c_br]
            rw [eI] at hM
            exact ih_54 (i + 1) (by omega) (by omega) _ _ hM ls (lv_sub hl [0, 1, 2, 3, 4, 5] rfl)
    rw [show I = va_up I (t + 3) (rel (I (t + 3)) f z 0) from (up_id _ _ _ (rel_0 _ _ _)).symm] at hM
    exact LP_54 _ 0 (by omega) (Nat.lt_succ_self _) _ _ hM ls (lv_sub hl [0, 1, 2, 3, 4, 5] rfl)
  · skip
    have c_eq := c_5
    refine lv_iconst (v := 0) hx hb dX2_joinParts_49 (by decide) ?_
    rw [hQ]
    exact fb_zret hx hb hr (by first | rfl | decide | assumption) hlocks hM (⟨fun _ => ⟨rfl, rfl⟩, fun h9 => absurd c_eq h9⟩) dX2_joinParts_50

abbrev rm_X2_parts : Room := { frames := 2, cells := 0, slots := 0, locals := 45 }
set_option maxHeartbeats 4000000 in
set_option maxRecDepth 100000 in
theorem c_X2_parts (D : va_G) (y : Nat → ClassId) (l : Launch) (S : fb_Sh) (V I : fb_V) (t b c r d : Nat) (ht : TickAt S t b) (hf : TF I t c r d) : CI D y l yX2_parts wsX2_parts rm_X2_parts [.ref (sa S t)] (S, V, (sT V), I) (fun z u => z = (prt c (c * r) (I (t + 2)) (cpn 36 (fun j9 => nI j9) (I (t + 3))) (2 * (c * r))).2 ∧ u = (S, V, sT V, (va_up I (t + 3) (prt c (c * r) (I (t + 2)) (cpn 36 (fun j9 => nI j9) (I (t + 3))) (2 * (c * r))).1))) 0 0 := by
  refine CI.of (cc := cX2_parts) (maxL := 4) (ret := (some .int)) (by decide) rfl (Nat.le_of_ble_eq_true rfl) ?_
  intro pv ev s mv below meth cv A hx hb hml hr hown hts hlocks hname hM ls hl
  have hown : s.vm.findClass RX2 = some mv.cls := hown
  have hl : lv_has ls 4 [(0, .ref (sa S t))] := hl
  have hin2 : ∀ x ∈ wsX20, x ∈ wsX2_parts := by decide +kernel
  obtain ⟨Q, hQ⟩ : ∃ Q, Q = MQ below (va_Qi (fun z u => z = (prt c (c * r) (I (t + 2)) (cpn 36 (fun j9 => nI j9) (I (t + 3))) (2 * (c * r))).2 ∧ u = (S, V, sT V, (va_up I (t + 3) (prt c (c * r) (I (t + 2)) (cpn 36 (fun j9 => nI j9) (I (t + 3))) (2 * (c * r))).1))) (fun u t => fb_P D y A u t) A) (([.ref (sa S t)] : List Value).toArray) s 0 0 A := ⟨_, rfl⟩
  rw [← hQ]
  have hn := hf.le
  have hc1 : 1 ≤ c := hf.2.2.2.2.1
  have hc6 : c ≤ 6 := hf.2.2.2.2.2.1
  refine lv_iconst (v := 0) hx hb dX2_parts_0 (by decide) ?_
  refine lv_istore_n (lv' := [(1, .int 0), (0, .ref (sa S t))]) hx hb dX2_parts_1 rfl hl (by decide) rfl (fun ls hl => ?_)
  have LP_2 : ∀ (n : Nat) (i : Nat) (hi : i ≤ 36), 36 - i < n → ∀ (H : Heap) (locs : List Loc), fb_M D y A s (S, V, (sT V), (va_up I (t + 3) (cpn i (fun j9 => nI j9) (I (t + 3))))) H locs → ∀ ls, lv_has ls 4 [(1, .int (nI i)), (0, .ref (sa S t))] → W pv l ev rm_X2_parts s mv ([.ref (sa S t)] : List Value).toArray below meth cv H locs 0 0 Q (F0 mv 2 ls []) := by
    intro n_2
    induction n_2 with
    | zero => intro i hi hmu; exact absurd hmu (Nat.not_lt_zero _)
    | succ n_2 ih_2 =>
      intro i hi hmu H locs hM ls hl
      refine lv_iload_n hx hb dX2_parts_2 rfl (lv_at hl 0 rfl) ?_
      refine lv_aload_n hx hb dX2_parts_3 rfl (lv_at hl 1 rfl) ?_
      refine fb_get (r := t) hx hb hown hts hin2 hM ((ht.1)) (ce2 ((ht.2.1))) rfl 6 (by decide) (hts (.fieldLink RX2 35 "FeatherBeds$Tick" "partOf" "[I") (by decide +kernel)) (fun _ h9 => h9) (v := .ref (sa S (t + 3))) (congrArg (fun z => some (va_rf z)) ((ht.2.2.2.2.1))) dX2_parts_4 ?_
      refine fb_alen (r := (t + 3)) hx hb hM ((ht.2.2.2.2.2.2.2.2.2.2.2.1)) (ce6 ((ht.2.2.2.2.2.2.2.2.2.2.2.2.1))) 0 rfl (v := nI 36) (congrArg Int32.ofNat ((ht.2.2.2.2.2.2.2.2.2.2.2.2.2.1))) dX2_parts_7 ?_
      refine lv_icmp_ge (tgt := 24) hx hb dX2_parts_8 (by decide) (fun c_1 => ?_) (fun c_1 => ?_)
      · skip
        have e6 : i = 36 := by have := (nI_leI (a := 36) (b := i) (by omega) (by omega)).mp c_1; omega
        subst e6
        refine lv_aload_n hx hb dX2_parts_24 rfl (lv_at hl 1 rfl) ?_
        refine fb_get (r := t) hx hb hown hts hin2 hM ((ht.1)) (ce2 ((ht.2.1))) rfl 3 (by decide) (hts (.fieldLink RX2 21 "FeatherBeds$Tick" "squares" "I") (by decide +kernel)) (fun _ h9 => h9) (v := .int (nI ((c * r)))) (congrArg (fun z => some (Value.int z)) ((congrFun (va_up_ne _ _ (show t ≠ t + 3 by omega)) _).trans (hf.2.2.2.1))) dX2_parts_25 ?_
        refine lv_istore_n (lv' := [(1, .int (nI ((c * r)))), (0, .ref (sa S t))]) hx hb dX2_parts_28 rfl hl (by decide) rfl (fun ls hl => ?_)
        refine lv_iconst (v := 0) hx hb dX2_parts_29 (by decide) ?_
        refine lv_istore_n (lv' := [(2, .int 0), (1, .int (nI ((c * r)))), (0, .ref (sa S t))]) hx hb dX2_parts_30 rfl hl (by decide) rfl (fun ls hl => ?_)
        have LP_31 : ∀ (n : Nat) (i : Nat) (hi : i ≤ c * r), c * r - i < n → ∀ (H : Heap) (locs : List Loc), fb_M D y A s (S, V, (sT V), (va_up I (t + 3) (prt c (c * r) (I (t + 2)) (cpn 36 (fun j9 => nI j9) (I (t + 3))) (2 * i)).1)) H locs → ∀ ls, lv_has ls 4 [(2, .int (nI i)), (1, .int ((prt c (c * r) (I (t + 2)) (cpn 36 (fun j9 => nI j9) (I (t + 3))) (2 * i)).2)), (0, .ref (sa S t))] → W pv l ev rm_X2_parts s mv ([.ref (sa S t)] : List Value).toArray below meth cv H locs 0 0 Q (F0 mv 31 ls []) := by
          intro n_31
          induction n_31 with
          | zero => intro i hi hmu; exact absurd hmu (Nat.not_lt_zero _)
          | succ n_31 ih_31 =>
            intro i hi hmu H locs hM ls hl
            refine lv_iload_n hx hb dX2_parts_31 rfl (lv_at hl 0 rfl) ?_
            refine lv_aload_n hx hb dX2_parts_32 rfl (lv_at hl 2 rfl) ?_
            refine fb_get (r := t) hx hb hown hts hin2 hM ((ht.1)) (ce2 ((ht.2.1))) rfl 3 (by decide) (hts (.fieldLink RX2 21 "FeatherBeds$Tick" "squares" "I") (by decide +kernel)) (fun _ h9 => h9) (v := .int (nI ((c * r)))) (congrArg (fun z => some (Value.int z)) ((congrFun (va_up_ne _ _ (show t ≠ t + 3 by omega)) _).trans (hf.2.2.2.1))) dX2_parts_33 ?_
            refine lv_icmp_ge (tgt := 84) hx hb dX2_parts_36 (by decide) (fun c_2 => ?_) (fun c_2 => ?_)
            · skip
              have e_i : i = c * r := by have := (nI_leI (a := c * r) (b := i) (by omega) (by omega)).mp c_2; omega
              subst e_i
              refine lv_iload_n hx hb dX2_parts_84 rfl (lv_at hl 1 rfl) ?_
              rw [hQ]
              exact fb_iret hx hb hr hlocks hM (⟨rfl, rfl⟩) dX2_parts_85
            · skip
              have hq : i < c * r := Nat.lt_of_not_le (fun z => c_2 (nI_le z (by omega)))
              refine lv_iconst (v := 0) hx hb dX2_parts_39 (by decide) ?_
              refine lv_istore_n (lv' := [(3, .int 0), (2, .int (nI i)), (1, .int ((prt c (c * r) (I (t + 2)) (cpn 36 (fun j9 => nI j9) (I (t + 3))) (2 * i)).2)), (0, .ref (sa S t))]) hx hb dX2_parts_40 rfl hl (by decide) rfl (fun ls hl => ?_)
              have LP_41 : ∀ (n : Nat) (j : Nat) (hj : j ≤ 2), 2 - j < n → ∀ (H : Heap) (locs : List Loc), fb_M D y A s (S, V, (sT V), (va_up I (t + 3) (prt c (c * r) (I (t + 2)) (cpn 36 (fun j9 => nI j9) (I (t + 3))) (2 * i + j)).1)) H locs → ∀ ls, lv_has ls 4 [(3, .int (nI j)), (2, .int (nI i)), (1, .int ((prt c (c * r) (I (t + 2)) (cpn 36 (fun j9 => nI j9) (I (t + 3))) (2 * i + j)).2)), (0, .ref (sa S t))] → W pv l ev rm_X2_parts s mv ([.ref (sa S t)] : List Value).toArray below meth cv H locs 0 0 Q (F0 mv 41 ls []) := by
                intro n_41
                induction n_41 with
                | zero => intro j hj hmu; exact absurd hmu (Nat.not_lt_zero _)
                | succ n_41 ih_41 =>
                  intro j hj hmu H locs hM ls hl
                  refine lv_iload_n hx hb dX2_parts_41 rfl (lv_at hl 0 rfl) ?_
                  refine lv_iconst (v := 2) hx hb dX2_parts_42 (by decide) ?_
                  refine lv_icmp_ge (tgt := 78) hx hb dX2_parts_43 (by decide) (fun c_3 => ?_) (fun c_3 => ?_)
                  · skip
                    have e_j : j = 2 := by have := (nI_leI (a := 2) (b := j) (by omega) (by omega)).mp c_3; omega
                    subst e_j
                    refine lv_iinc (v := nI (i + 1)) (lv' := [(2, .int (nI (i + 1))), (3, .int (nI 2)), (1, .int ((prt c (c * r) (I (t + 2)) (cpn 36 (fun j9 => nI j9) (I (t + 3))) (2 * i + 2)).2)), (0, .ref (sa S t))]) hx hb dX2_parts_78 hl (k := 1) rfl (nI_1 _) (by decide) rfl (fun ls hl => ?_)
                    refine lv_goto (tgt := 31) hx hb dX2_parts_81 (by decide) ?_
                    exact ih_31 (i + 1) (by omega) (by omega) _ _ hM ls (lv_sub hl [0, 2, 3] rfl)
                  · skip
                    have hjk : j < 2 := Nat.lt_of_not_le (fun z => c_3 (nI_le z (by omega)))
                    refine lv_aload_n hx hb dX2_parts_46 rfl (lv_at hl 3 rfl) ?_
                    refine lv_iload_n hx hb dX2_parts_47 rfl (lv_at hl 1 rfl) ?_
                    refine lv_iload_n hx hb dX2_parts_48 rfl (lv_at hl 0 rfl) ?_
                    refine fb_callVi (r := t) hx hb hml hown hts hM ((ht.1)) (ce2 ((ht.2.1))) rfl (As := [.int (nI i), .int (nI j)]) (rest := []) (c_X2_isOpen D y l S V (va_up I (t + 3) (prt c (c * r) (I (t + 2)) (cpn 36 (fun j9 => nI j9) (I (t + 3))) (2 * i + j)).1) t b c r d ht (TF.up3 hf _) i hq j hjk) (cwV 2 hts gX2_parts_X2_isOpen rfl rfl rfl (by decide +kernel) ⟨Nat.le_of_ble_eq_true rfl, Nat.le_of_ble_eq_true rfl⟩) rfl hl.1 rfl (Nat.le_of_ble_eq_true rfl) dX2_parts_49 ⟨Nat.le_of_ble_eq_true rfl, Nat.le_of_ble_eq_true rfl⟩ (fun v_4 u H locs hp hM => ?_)
                    obtain ⟨hv, hu⟩ := hp
                    have hv := Eq.symm hv
                    have hu := Eq.symm hu
                    subst hv
                    subst hu
                    rw [va_up_ne _ _ (show t + 2 ≠ t + 3 by omega)]
                    refine lv_if_eq (tgt := 72) hx hb dX2_parts_52 (by decide) (fun c_5 => ?_) (fun c_5 => ?_)
                    · skip
                      have hop := ob_0 c_5
                      refine lv_iinc (v := nI (j + 1)) (lv' := [(3, .int (nI (j + 1))), (2, .int (nI i)), (1, .int ((prt c (c * r) (I (t + 2)) (cpn 36 (fun j9 => nI j9) (I (t + 3))) (2 * i + j)).2)), (0, .ref (sa S t))]) hx hb dX2_parts_72 hl (k := 0) rfl (nI_1 _) (by decide) rfl (fun ls hl => ?_)
                      refine lv_goto (tgt := 41) hx hb dX2_parts_75 (by decide) ?_
                      rw [show prt c (c * r) (I (t + 2)) (cpn 36 (fun j9 => nI j9) (I (t + 3))) (2 * i + j) = prt c (c * r) (I (t + 2)) (cpn 36 (fun j9 => nI j9) (I (t + 3))) (2 * i + (j + 1)) from (prt_n _ _ _ _ _ hjk (by first | exact Or.inl hop | exact Or.inr hje)).symm] at hM hl
                      exact ih_41 (j + 1) (by omega) (by omega) _ _ hM ls (lv_sub hl [0, 1, 2, 3] rfl)
                    · skip
                      have hop := ob_1 c_5
                      have hofx := (opn_x hop).1
                      have hol := oft_lt (n := c * r) rfl hc1 hq hofx
                      refine lv_aload_n hx hb dX2_parts_55 rfl (lv_at hl 3 rfl) ?_
                      refine lv_iload_n hx hb dX2_parts_56 rfl (lv_at hl 1 rfl) ?_
                      refine lv_aload_n hx hb dX2_parts_57 rfl (lv_at hl 3 rfl) ?_
                      refine lv_iload_n hx hb dX2_parts_58 rfl (lv_at hl 1 rfl) ?_
                      refine lv_iload_n hx hb dX2_parts_59 rfl (lv_at hl 0 rfl) ?_
                      refine fb_callVi (r := t) hx hb hml hown hts hM ((ht.1)) (ce2 ((ht.2.1))) rfl (As := [.int (nI i), .int (nI j)]) (rest := [.int (nI i), .ref (sa S t)]) (c_X2_otherOfPair D y l S V (va_up I (t + 3) (prt c (c * r) (I (t + 2)) (cpn 36 (fun j9 => nI j9) (I (t + 3))) (2 * i + j)).1) t b c r d ht (TF.up3 hf _) i hq (nI j)) (cwV 2 hts gX2_parts_X2_otherOfPair rfl rfl rfl (by decide +kernel) ⟨Nat.le_of_ble_eq_true rfl, Nat.le_of_ble_eq_true rfl⟩) rfl hl.1 rfl (Nat.le_of_ble_eq_true rfl) dX2_parts_60 ⟨Nat.le_of_ble_eq_true rfl, Nat.le_of_ble_eq_true rfl⟩ (fun v_6 u H locs hp hM => ?_)
                      obtain ⟨hv, hu⟩ := hp
                      have hv := Eq.symm hv
                      have hu := Eq.symm hu
                      subst hv
                      subst hu
                      rw [oth_d (c := c) (n := c * r) (q := i) hjk, if_pos hofx]
                      refine fb_callVi (r := t) hx hb hml hown hts hM ((ht.1)) (ce2 ((ht.2.1))) rfl (As := [.int (nI i), .int (nI (oft c i j))]) (rest := []) (c_X2_joinParts D y l S V (va_up I (t + 3) (prt c (c * r) (I (t + 2)) (cpn 36 (fun j9 => nI j9) (I (t + 3))) (2 * i + j)).1) t b ht i (oft c i j) (by omega) (by omega)) (cwV 2 hts gX2_parts_X2_joinParts rfl rfl rfl (by decide +kernel) ⟨Nat.le_of_ble_eq_true rfl, Nat.le_of_ble_eq_true rfl⟩) rfl hl.1 rfl (Nat.le_of_ble_eq_true rfl) dX2_parts_63 ⟨Nat.le_of_ble_eq_true rfl, Nat.le_of_ble_eq_true rfl⟩ (fun v_7 u H locs hp hM => ?_)
                      rw [va_up_self] at hp
                      refine lv_if_eq (tgt := 72) hx hb dX2_parts_66 (by decide) (fun c_8 => ?_) (fun c_8 => ?_)
                      · skip
                        have hje : (prt c (c * r) (I (t + 2)) (cpn 36 (fun j9 => nI j9) (I (t + 3))) (2 * i + j)).1 i = (prt c (c * r) (I (t + 2)) (cpn 36 (fun j9 => nI j9) (I (t + 3))) (2 * i + j)).1 (oft c i j) := by
                          by_cases h9 : (prt c (c * r) (I (t + 2)) (cpn 36 (fun j9 => nI j9) (I (t + 3))) (2 * i + j)).1 i = (prt c (c * r) (I (t + 2)) (cpn 36 (fun j9 => nI j9) (I (t + 3))) (2 * i + j)).1 (oft c i j)
                          · exact h9
                          · exact absurd c_8 (by rw [(hp.2 h9).1]; decide)
                        obtain ⟨-, rfl⟩ := hp.1 hje
                        refine lv_iinc (v := nI (j + 1)) (lv' := [(3, .int (nI (j + 1))), (2, .int (nI i)), (1, .int ((prt c (c * r) (I (t + 2)) (cpn 36 (fun j9 => nI j9) (I (t + 3))) (2 * i + j)).2)), (0, .ref (sa S t))]) hx hb dX2_parts_72 hl (k := 0) rfl (nI_1 _) (by decide) rfl (fun ls hl => ?_)
                        refine lv_goto (tgt := 41) hx hb dX2_parts_75 (by decide) ?_
                        rw [show prt c (c * r) (I (t + 2)) (cpn 36 (fun j9 => nI j9) (I (t + 3))) (2 * i + j) = prt c (c * r) (I (t + 2)) (cpn 36 (fun j9 => nI j9) (I (t + 3))) (2 * i + (j + 1)) from (prt_n _ _ _ _ _ hjk (by first | exact Or.inl hop | exact Or.inr hje)).symm] at hM hl
                        exact ih_41 (j + 1) (by omega) (by omega) _ _ hM ls (lv_sub hl [0, 1, 2, 3] rfl)
                      · skip
                        have hjn : ¬ (prt c (c * r) (I (t + 2)) (cpn 36 (fun j9 => nI j9) (I (t + 3))) (2 * i + j)).1 i = (prt c (c * r) (I (t + 2)) (cpn 36 (fun j9 => nI j9) (I (t + 3))) (2 * i + j)).1 (oft c i j) := fun h9 => c_8 (hp.1 h9).1
                        obtain ⟨-, rfl⟩ := hp.2 hjn
                        rw [up_up] at hM
                        have prtE : prt c (c * r) (I (t + 2)) (cpn 36 (fun j9 => nI j9) (I (t + 3))) (2 * i + (j + 1)) = (rel (prt c (c * r) (I (t + 2)) (cpn 36 (fun j9 => nI j9) (I (t + 3))) (2 * i + j)).1 i (oft c i j) 36, (prt c (c * r) (I (t + 2)) (cpn 36 (fun j9 => nI j9) (I (t + 3))) (2 * i + j)).2 + (-1)) := prt_j _ _ _ _ _ hjk hop hjn
                        refine lv_iinc (v := ((prt c (c * r) (I (t + 2)) (cpn 36 (fun j9 => nI j9) (I (t + 3))) (2 * i + j)).2) + (-1)) (lv' := [(1, .int (((prt c (c * r) (I (t + 2)) (cpn 36 (fun j9 => nI j9) (I (t + 3))) (2 * i + j)).2) + (-1))), (3, .int (nI j)), (2, .int (nI i)), (0, .ref (sa S t))]) hx hb dX2_parts_69 hl (k := 2) rfl rfl (by decide) rfl (fun ls hl => ?_)
                        refine lv_iinc (v := nI (j + 1)) (lv' := [(3, .int (nI (j + 1))), (1, .int (((prt c (c * r) (I (t + 2)) (cpn 36 (fun j9 => nI j9) (I (t + 3))) (2 * i + j)).2) + (-1))), (2, .int (nI i)), (0, .ref (sa S t))]) hx hb dX2_parts_72 hl (k := 1) rfl (nI_1 _) (by decide) rfl (fun ls hl => ?_)
                        refine lv_goto (tgt := 41) hx hb dX2_parts_75 (by decide) ?_
                        rw [show (rel (prt c (c * r) (I (t + 2)) (cpn 36 (fun j9 => nI j9) (I (t + 3))) (2 * i + j)).1 i (oft c i j) 36) = (prt c (c * r) (I (t + 2)) (cpn 36 (fun j9 => nI j9) (I (t + 3))) (2 * i + (j + 1))).1 by rw [prtE]] at hM
                        rw [show (prt c (c * r) (I (t + 2)) (cpn 36 (fun j9 => nI j9) (I (t + 3))) (2 * i + j)).2 + (-1) = (prt c (c * r) (I (t + 2)) (cpn 36 (fun j9 => nI j9) (I (t + 3))) (2 * i + (j + 1))).2 by rw [prtE]] at hl
                        exact ih_41 (j + 1) (by omega) (by omega) _ _ hM ls (lv_sub hl [0, 2, 1, 3] rfl)
              exact LP_41 _ 0 (by omega) (Nat.lt_succ_self _) _ _ hM ls (lv_sub hl [0, 1, 2, 3] rfl)
        rw [show (va_up I (t + 3) (cpn 36 (fun j9 => nI j9) (I (t + 3)))) = va_up I (t + 3) (prt c (c * r) (I (t + 2)) (cpn 36 (fun j9 => nI j9) (I (t + 3))) (2 * 0)).1 from rfl] at hM
        exact LP_31 _ 0 (by omega) (Nat.lt_succ_self _) _ _ hM ls (lv_sub hl [0, 1, 2] rfl)
      · skip
        have hi6 : i < 36 := Nat.lt_of_not_le (fun z => c_1 (nI_le z (by omega)))
        refine lv_aload_n hx hb dX2_parts_11 rfl (lv_at hl 1 rfl) ?_
        refine fb_get (r := t) hx hb hown hts hin2 hM ((ht.1)) (ce2 ((ht.2.1))) rfl 6 (by decide) (hts (.fieldLink RX2 35 "FeatherBeds$Tick" "partOf" "[I") (by decide +kernel)) (fun _ h9 => h9) (v := .ref (sa S (t + 3))) (congrArg (fun z => some (va_rf z)) ((ht.2.2.2.2.1))) dX2_parts_12 ?_
        refine lv_iload_n hx hb dX2_parts_15 rfl (lv_at hl 0 rfl) ?_
        refine lv_iload_n hx hb dX2_parts_16 rfl (lv_at hl 0 rfl) ?_
        refine fb_iast (r := (t + 3)) hx hb hM ((ht.2.2.2.2.2.2.2.2.2.2.2.1)) (ce6 ((ht.2.2.2.2.2.2.2.2.2.2.2.2.1))) (k := i) (nI_clamp (by omega)) (by rw [(ht.2.2.2.2.2.2.2.2.2.2.2.2.2.1)]; exact vp_in_nI (by omega) (by omega)) dX2_parts_17 (up_I (j := i) (by rw [ce6 ((ht.2.2.2.2.2.2.2.2.2.2.2.2.1))]; simp [va_up])) (w' := (S, V, (sT V), (va_up (va_up I (t + 3) (cpn i (fun j9 => nI j9) (I (t + 3)))) (t + 3) (upd ((va_up I (t + 3) (cpn i (fun j9 => nI j9) (I (t + 3)))) (t + 3)) i (nI i))))) ⟨rfl, rfl, rfl⟩ (fun H locs hM => ?_)
        refine lv_iinc (v := nI (i + 1)) (lv' := [(1, .int (nI (i + 1))), (0, .ref (sa S t))]) hx hb dX2_parts_18 hl (k := 0) rfl (nI_1 _) (by decide) rfl (fun ls hl => ?_)
        refine lv_goto (tgt := 2) hx hb dX2_parts_21 (by decide) ?_
        rw [show (va_up (va_up I (t + 3) (cpn i (fun j9 => nI j9) (I (t + 3)))) (t + 3) (upd ((va_up I (t + 3) (cpn i (fun j9 => nI j9) (I (t + 3)))) (t + 3)) i (nI i))) = (va_up I (t + 3) (cpn (i + 1) (fun j9 => nI j9) (I (t + 3)))) by rw [up_up, va_up_self]; exact congrArg (fun x => va_up I (t + 3) x) (cpn_u _ _ _)] at hM
        exact ih_2 (i + 1) (by omega) (by omega) _ _ hM ls (lv_sub hl [0, 1] rfl)
  rw [show I = va_up I (t + 3) (cpn 0 (fun j9 => nI j9) (I (t + 3))) from (up_id _ _ _ (cpn_0 _ _)).symm] at hM
  exact LP_2 _ 0 (by omega) (Nat.lt_succ_self _) _ _ hM ls (lv_sub hl [0, 1] rfl)
