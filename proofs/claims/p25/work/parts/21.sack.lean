abbrev rm_X1_tells : Room := { frames := 1, cells := 0, slots := 0, locals := 21 }
set_option maxHeartbeats 4000000 in
set_option maxRecDepth 100000 in
theorem c_X1_tells (D : va_G) (y : Nat → ClassId) (l : Launch) (S : fb_Sh) (V I : fb_V) (q h : Nat) (hs : SackAt S q h) (p0 : Int32) : CI D y l yX1_tells wsX1_tells rm_X1_tells [.ref (sa S q), .int p0] (S, V, (sT V), I) (fun r u => r = sckT (V h) (I q 1) p0 ∧ u = (S, V, sT V, I)) 0 0 := by
  refine CI.of (cc := cX1_tells) (maxL := 2) (ret := (some .int)) (by decide) rfl (Nat.le_of_ble_eq_true rfl) ?_
  intro pv ev s mv below meth cv A hx hb hml hr hown hts hlocks hname hM ls hl
  have hown : s.vm.findClass RX1 = some mv.cls := hown
  have hl : lv_has ls 2 [(0, .ref (sa S q)), (1, .int p0)] := hl
  have hin0 : ∀ x ∈ wsX00, x ∈ wsX1_tells := by decide +kernel
  have hin1 : ∀ x ∈ wsX10, x ∈ wsX1_tells := by decide +kernel
  obtain ⟨Q, hQ⟩ : ∃ Q, Q = MQ below (va_Qi (fun r u => r = sckT (V h) (I q 1) p0 ∧ u = (S, V, sT V, I)) (fun u t => fb_P D y A u t) A) (([.ref (sa S q), .int p0] : List Value).toArray) s 0 0 A := ⟨_, rfl⟩
  rw [← hQ]
  obtain ⟨ks1, ks2, ks3, hh⟩ := hs
  have hh0 := hh
  obtain ⟨hh1, hh2, hh3, hh4, hh5, hh6⟩ := hh
  refine lv_iload_n hx hb dX1_tells_0 rfl (lv_at hl 1 rfl) ?_
  refine lv_bipush (v := 6) hx hb dX1_tells_1 (by decide) ?_
  refine lv_icmp_ge (tgt := 15) hx hb dX1_tells_3 (by decide) (fun c_1 => ?_) (fun c_1 => ?_)
  · skip
    refine lv_iload_n hx hb dX1_tells_15 rfl (lv_at hl 1 rfl) ?_
    refine lv_bipush (v := 6) hx hb dX1_tells_16 (by decide) ?_
    refine lv_icmp_ne (tgt := 31) hx hb dX1_tells_18 (by decide) (fun c_2 => ?_) (fun c_2 => ?_)
    · skip
      refine lv_aload_n hx hb dX1_tells_31 rfl (lv_at hl 0 rfl) ?_
      refine fb_get (r := q) hx hb hown hts hin1 hM (ks1) (ce1 (ks2)) rfl 1 (by decide) (hts (.fieldLink RX1 18 "FeatherBeds$Sack" "damp" "I") (by decide +kernel)) (fun _ h9 => h9) (v := .int (I q 1)) rfl dX1_tells_32 ?_
      rw [hQ]
      exact fb_iret hx hb hr hlocks hM (⟨by unfold sckT; rw [if_pos c_1]; first | exact (if_pos c_2).symm | exact (if_neg c_2).symm, rfl⟩) dX1_tells_35
    · skip
      refine lv_aload_n hx hb dX1_tells_21 rfl (lv_at hl 0 rfl) ?_
      refine fb_get (r := q) hx hb hown hts hin1 hM (ks1) (ce1 (ks2)) rfl 0 (by decide) (hts (.fieldLink RX1 12 "FeatherBeds$Sack" "heap" "LFeatherBeds$Heap;") (by decide +kernel)) (fun _ h9 => h9) (v := .ref (sa S h)) (congrArg (fun z => some (va_rf z)) (ks3)) dX1_tells_22 ?_
      refine fb_getN (r := h) hx hb hown hts hin0 hM (hh1) (ce0 (hh2)) rfl 1 (by decide) (host := "FeatherBeds") (by decide +kernel) (fun _ h9 => h9) (v := .int ((sT V) h)) rfl dX1_tells_25 ?_
      refine lv_goto (tgt := 35) hx hb dX1_tells_28 (by decide) ?_
      rw [hQ]
      exact fb_iret hx hb hr hlocks hM (⟨by unfold sckT; rw [if_pos c_1]; first | exact (if_pos c_2).symm | exact (if_neg c_2).symm, rfl⟩) dX1_tells_35
  · skip
    refine lv_aload_n hx hb dX1_tells_6 rfl (lv_at hl 0 rfl) ?_
    refine fb_get (r := q) hx hb hown hts hin1 hM (ks1) (ce1 (ks2)) rfl 0 (by decide) (hts (.fieldLink RX1 12 "FeatherBeds$Sack" "heap" "LFeatherBeds$Heap;") (by decide +kernel)) (fun _ h9 => h9) (v := .ref (sa S h)) (congrArg (fun z => some (va_rf z)) (ks3)) dX1_tells_7 ?_
    refine lv_iload_n hx hb dX1_tells_10 rfl (lv_at hl 1 rfl) ?_
    refine fb_callVi (r := h) hx hb hml hown hts hM (hh1) (ce0 (hh2)) rfl (As := [.int p0]) (rest := []) (c_X0_of D y l S V I h hh0 p0) (cwV 1 hts gX1_tells_X0_of rfl rfl rfl (by decide +kernel) ⟨Nat.le_of_ble_eq_true rfl, Nat.le_of_ble_eq_true rfl⟩) rfl hl.1 rfl (Nat.le_of_ble_eq_true rfl) dX1_tells_11 ⟨Nat.le_of_ble_eq_true rfl, Nat.le_of_ble_eq_true rfl⟩ (fun v_3 u H locs hp hM => ?_)
    obtain ⟨hv, hu⟩ := hp
    have hv := Eq.symm hv
    have hu := Eq.symm hu
    subst hv
    subst hu
    rw [hQ]
    exact fb_iret hx hb hr hlocks hM (⟨by unfold sckT; rw [if_neg c_1], rfl⟩) dX1_tells_14

abbrev rm_X1_flight : Room := { frames := 1, cells := 0, slots := 0, locals := 24 }
set_option maxHeartbeats 4000000 in
set_option maxRecDepth 100000 in
theorem c_X1_flight (D : va_G) (y : Nat → ClassId) (l : Launch) (S : fb_Sh) (V I : fb_V) (q h : Nat) (hs : SackAt S q h) (p0 p1 : Int32) : CI D y l yX1_flight wsX1_flight rm_X1_flight [.ref (sa S q), .int p0, .int p1] (S, V, (sT V), I) (fun r u => r = fl (I q 1) p0 p1 ∧ u = (S, V, sT V, I)) 0 0 := by
  refine CI.of (cc := cX1_flight) (maxL := 5) (ret := (some .int)) (by decide) rfl (Nat.le_of_ble_eq_true rfl) ?_
  intro pv ev s mv below meth cv A hx hb hml hr hown hts hlocks hname hM ls hl
  have hown : s.vm.findClass RX1 = some mv.cls := hown
  have hl : lv_has ls 5 [(0, .ref (sa S q)), (1, .int p0), (2, .int p1)] := hl
  have hin1 : ∀ x ∈ wsX10, x ∈ wsX1_flight := by decide +kernel
  obtain ⟨Q, hQ⟩ : ∃ Q, Q = MQ below (va_Qi (fun r u => r = fl (I q 1) p0 p1 ∧ u = (S, V, sT V, I)) (fun u t => fb_P D y A u t) A) (([.ref (sa S q), .int p0, .int p1] : List Value).toArray) s 0 0 A := ⟨_, rfl⟩
  rw [← hQ]
  obtain ⟨ks1, ks2, ks3, hh⟩ := hs
  have hh0 := hh
  obtain ⟨hh1, hh2, hh3, hh4, hh5, hh6⟩ := hh
  refine lv_iload_n hx hb dX1_flight_0 rfl (lv_at hl 1 rfl) ?_
  refine lv_iconst (v := 1) hx hb dX1_flight_1 (by decide) ?_
  refine lv_iadd hx hb dX1_flight_2 ?_
  refine lv_iconst (v := 4) hx hb dX1_flight_3 (by decide) ?_
  refine lv_aload_n hx hb dX1_flight_4 rfl (lv_at hl 0 rfl) ?_
  refine fb_get (r := q) hx hb hown hts hin1 hM (ks1) (ce1 (ks2)) rfl 1 (by decide) (hts (.fieldLink RX1 18 "FeatherBeds$Sack" "damp" "I") (by decide +kernel)) (fun _ h9 => h9) (v := .int (I q 1)) rfl dX1_flight_5 ?_
  refine lv_iadd hx hb dX1_flight_8 ?_
  refine lv_imul hx hb dX1_flight_9 ?_
  refine lv_istore_n (lv' := [(3, .int ((p0 + 1) * (4 + (I q 1)))), (0, .ref (sa S q)), (1, .int p0), (2, .int p1)]) hx hb dX1_flight_10 rfl hl (by decide) rfl (fun ls hl => ?_)
  refine lv_iconst (v := 4) hx hb dX1_flight_11 (by decide) ?_
  refine lv_istore (lv' := [(4, .int 4), (3, .int ((p0 + 1) * (4 + (I q 1)))), (0, .ref (sa S q)), (1, .int p0), (2, .int p1)]) hx hb dX1_flight_12 hl (by decide) rfl (fun ls hl => ?_)
  refine lv_iload_n hx hb dX1_flight_14 rfl (lv_at hl 1 rfl) ?_
  refine lv_if_le (tgt := 32) hx hb dX1_flight_15 (by decide) (fun c_1 => ?_) (fun c_1 => ?_)
  · skip
    refine lv_iload hx hb dX1_flight_32 (lv_at hl 0 rfl) ?_
    rw [hQ]
    exact fb_iret hx hb hr hlocks hM (⟨by unfold fl mn; first | exact (if_pos c_1).symm | exact (if_neg c_1).symm, rfl⟩) dX1_flight_34
  · skip
    refine lv_iload_n hx hb dX1_flight_18 rfl (lv_at hl 4 rfl) ?_
    refine lv_bipush (v := 12) hx hb dX1_flight_19 (by decide) ?_
    refine lv_imul hx hb dX1_flight_21 ?_
    refine lv_iload_n hx hb dX1_flight_22 rfl (lv_at hl 1 rfl) ?_
    refine lv_idiv hx hb dX1_flight_23 (fun z => c_1 (by rw [z]; decide)) ?_
    refine lv_iload hx hb dX1_flight_24 (lv_at hl 0 rfl) ?_
    refine va_mmin hx hb (hml.trans hl.1.symm) hown (hts (.methodLink RX1 29 Lib.Math.min.name) (by decide +kernel)) (hts (.static Lib.Math.min.name) (by decide +kernel)) (hts (.initialized "java/lang/Math") (by decide +kernel)) (hts (.code Lib.Math.min.name Lib.Math.min.code 2 (some .int)) (by decide +kernel)) (Nat.le_of_ble_eq_true rfl) (Nat.le_of_ble_eq_true rfl) (Nat.le_of_ble_eq_true rfl) (Nat.le_of_ble_eq_true rfl) dX1_flight_26 ?_
    refine lv_goto (tgt := 34) hx hb dX1_flight_29 (by decide) ?_
    rw [hQ]
    exact fb_iret hx hb hr hlocks hM (⟨by unfold fl mn; first | exact (if_pos c_1).symm | exact (if_neg c_1).symm, rfl⟩) dX1_flight_34

abbrev rm_X1_brings : Room := { frames := 2, cells := 0, slots := 0, locals := 48 }
set_option maxHeartbeats 4000000 in
set_option maxRecDepth 100000 in
theorem c_X1_brings (D : va_G) (y : Nat → ClassId) (l : Launch) (S : fb_Sh) (V I : fb_V) (q h : Nat) (hs : SackAt S q h) (p0 p1 p2 : Int32) : CI D y l yX1_brings wsX1_brings rm_X1_brings [.ref (sa S q), .int p0, .int p1, .int p2] (S, V, (sT V), I) (fun r u => r = brn (of6 (V h) p0) (fl (I q 1) p0 p1) p2 ∧ u = (S, V, sT V, I)) 0 0 := by
  refine CI.of (cc := cX1_brings) (maxL := 8) (ret := (some .int)) (by decide) rfl (Nat.le_of_ble_eq_true rfl) ?_
  intro pv ev s mv below meth cv A hx hb hml hr hown hts hlocks hname hM ls hl
  have hown : s.vm.findClass RX1 = some mv.cls := hown
  have hl : lv_has ls 8 [(0, .ref (sa S q)), (1, .int p0), (2, .int p1), (3, .int p2)] := hl
  have hin0 : ∀ x ∈ wsX00, x ∈ wsX1_brings := by decide +kernel
  have hin1 : ∀ x ∈ wsX10, x ∈ wsX1_brings := by decide +kernel
  obtain ⟨Q, hQ⟩ : ∃ Q, Q = MQ below (va_Qi (fun r u => r = brn (of6 (V h) p0) (fl (I q 1) p0 p1) p2 ∧ u = (S, V, sT V, I)) (fun u t => fb_P D y A u t) A) (([.ref (sa S q), .int p0, .int p1, .int p2] : List Value).toArray) s 0 0 A := ⟨_, rfl⟩
  rw [← hQ]
  have hs0 := hs
  obtain ⟨ks1, ks2, ks3, hh⟩ := hs
  have hh0 := hh
  obtain ⟨hh1, hh2, hh3, hh4, hh5, hh6⟩ := hh
  refine lv_aload_n hx hb dX1_brings_0 rfl (lv_at hl 0 rfl) ?_
  refine fb_get (r := q) hx hb hown hts hin1 hM (ks1) (ce1 (ks2)) rfl 0 (by decide) (hts (.fieldLink RX1 12 "FeatherBeds$Sack" "heap" "LFeatherBeds$Heap;") (by decide +kernel)) (fun _ h9 => h9) (v := .ref (sa S h)) (congrArg (fun z => some (va_rf z)) (ks3)) dX1_brings_1 ?_
  refine lv_iload_n hx hb dX1_brings_4 rfl (lv_at hl 1 rfl) ?_
  refine fb_callVi (r := h) hx hb hml hown hts hM (hh1) (ce0 (hh2)) rfl (As := [.int p0]) (rest := []) (c_X0_of D y l S V I h hh0 p0) (cwV 1 hts gX1_brings_X0_of rfl rfl rfl (by decide +kernel) ⟨Nat.le_of_ble_eq_true rfl, Nat.le_of_ble_eq_true rfl⟩) rfl hl.1 rfl (Nat.le_of_ble_eq_true rfl) dX1_brings_5 ⟨Nat.le_of_ble_eq_true rfl, Nat.le_of_ble_eq_true rfl⟩ (fun v_1 u H locs hp hM => ?_)
  obtain ⟨hv, hu⟩ := hp
  have hv := Eq.symm hv
  have hu := Eq.symm hu
  subst hv
  subst hu
  refine lv_istore (lv' := [(4, .int (of6 (V h) p0)), (0, .ref (sa S q)), (1, .int p0), (2, .int p1), (3, .int p2)]) hx hb dX1_brings_8 hl (by decide) rfl (fun ls hl => ?_)
  refine lv_aload_n hx hb dX1_brings_10 rfl (lv_at hl 1 rfl) ?_
  refine lv_iload_n hx hb dX1_brings_11 rfl (lv_at hl 2 rfl) ?_
  refine lv_iload_n hx hb dX1_brings_12 rfl (lv_at hl 3 rfl) ?_
  refine fb_callVi (r := q) hx hb hml hown hts hM (ks1) (ce1 (ks2)) rfl (As := [.int p0, .int p1]) (rest := []) (c_X1_flight D y l S V I q h hs0 p0 p1) (cwV 2 hts gX1_brings_X1_flight rfl rfl rfl (by decide +kernel) ⟨Nat.le_of_ble_eq_true rfl, Nat.le_of_ble_eq_true rfl⟩) rfl hl.1 rfl (Nat.le_of_ble_eq_true rfl) dX1_brings_13 ⟨Nat.le_of_ble_eq_true rfl, Nat.le_of_ble_eq_true rfl⟩ (fun v_2 u H locs hp hM => ?_)
  obtain ⟨hv, hu⟩ := hp
  have hv := Eq.symm hv
  have hu := Eq.symm hu
  subst hv
  subst hu
  refine lv_istore (lv' := [(5, .int (fl (I q 1) p0 p1)), (4, .int (of6 (V h) p0)), (0, .ref (sa S q)), (1, .int p0), (2, .int p1), (3, .int p2)]) hx hb dX1_brings_16 hl (by decide) rfl (fun ls hl => ?_)
  refine lv_iload hx hb dX1_brings_18 (lv_at hl 1 rfl) ?_
  refine lv_bipush (v := 6) hx hb dX1_brings_20 (by decide) ?_
  refine lv_imul hx hb dX1_brings_22 ?_
  refine lv_bipush (v := 10) hx hb dX1_brings_23 (by decide) ?_
  refine lv_idiv hx hb dX1_brings_25 (by decide) ?_
  refine lv_istore (lv' := [(6, .int (((of6 (V h) p0) * 6) / 10)), (5, .int (fl (I q 1) p0 p1)), (4, .int (of6 (V h) p0)), (0, .ref (sa S q)), (1, .int p0), (2, .int p1), (3, .int p2)]) hx hb dX1_brings_26 hl (by decide) rfl (fun ls hl => ?_)
  refine lv_iload hx hb dX1_brings_28 (lv_at hl 2 rfl) ?_
  refine lv_iconst (v := 4) hx hb dX1_brings_30 (by decide) ?_
  refine lv_idiv hx hb dX1_brings_31 (by decide) ?_
  refine lv_istore (lv' := [(7, .int ((of6 (V h) p0) / 4)), (6, .int (((of6 (V h) p0) * 6) / 10)), (5, .int (fl (I q 1) p0 p1)), (4, .int (of6 (V h) p0)), (0, .ref (sa S q)), (1, .int p0), (2, .int p1), (3, .int p2)]) hx hb dX1_brings_32 hl (by decide) rfl (fun ls hl => ?_)
  refine lv_iload_n hx hb dX1_brings_34 rfl (lv_at hl 7 rfl) ?_
  refine lv_iload hx hb dX1_brings_35 (lv_at hl 2 rfl) ?_
  refine lv_icmp_ne (tgt := 43) hx hb dX1_brings_37 (by decide) (fun c_3 => ?_) (fun c_3 => ?_)
  · skip
    refine lv_iload_n hx hb dX1_brings_43 rfl (lv_at hl 7 rfl) ?_
    refine lv_iload hx hb dX1_brings_44 (lv_at hl 2 rfl) ?_
    refine lv_iconst (v := 1) hx hb dX1_brings_46 (by decide) ?_
    refine lv_iadd hx hb dX1_brings_47 ?_
    refine lv_icmp_ne (tgt := 54) hx hb dX1_brings_48 (by decide) (fun c_4 => ?_) (fun c_4 => ?_)
    · skip
      refine lv_iload_n hx hb dX1_brings_54 rfl (lv_at hl 7 rfl) ?_
      refine lv_iload hx hb dX1_brings_55 (lv_at hl 2 rfl) ?_
      refine lv_iconst (v := 1) hx hb dX1_brings_57 (by decide) ?_
      refine lv_isub hx hb dX1_brings_58 ?_
      refine lv_icmp_ne (tgt := 73) hx hb dX1_brings_59 (by decide) (fun c_5 => ?_) (fun c_5 => ?_)
      · skip
        refine lv_iconst (v := 0) hx hb dX1_brings_73 (by decide) ?_
        rw [hQ]
        exact fb_iret hx hb hr hlocks hM (⟨by unfold brn; first | rw [if_neg c_3, if_neg c_4, if_pos c_5] | rw [if_neg c_3, if_neg c_4, if_neg c_5], rfl⟩) dX1_brings_74
      · skip
        refine lv_iload hx hb dX1_brings_62 (lv_at hl 3 rfl) ?_
        refine lv_iload hx hb dX1_brings_64 (lv_at hl 1 rfl) ?_
        refine lv_isub hx hb dX1_brings_66 ?_
        refine lv_iload hx hb dX1_brings_67 (lv_at hl 0 rfl) ?_
        refine lv_isub hx hb dX1_brings_69 ?_
        refine lv_goto (tgt := 74) hx hb dX1_brings_70 (by decide) ?_
        rw [hQ]
        exact fb_iret hx hb hr hlocks hM (⟨by unfold brn; first | rw [if_neg c_3, if_neg c_4, if_pos c_5] | rw [if_neg c_3, if_neg c_4, if_neg c_5], rfl⟩) dX1_brings_74
    · skip
      refine lv_iload hx hb dX1_brings_51 (lv_at hl 0 rfl) ?_
      rw [hQ]
      exact fb_iret hx hb hr hlocks hM (⟨by unfold brn; rw [if_neg c_3, if_pos c_4], rfl⟩) dX1_brings_53
  · skip
    refine lv_iload hx hb dX1_brings_40 (lv_at hl 1 rfl) ?_
    rw [hQ]
    exact fb_iret hx hb hr hlocks hM (⟨by unfold brn; rw [if_pos c_3], rfl⟩) dX1_brings_42
