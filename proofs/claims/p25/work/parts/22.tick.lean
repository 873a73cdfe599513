abbrev rm_X2_otherOfPair : Room := { frames := 0, cells := 0, slots := 0, locals := 0 }
set_option maxHeartbeats 4000000 in
set_option maxRecDepth 100000 in
theorem c_X2_otherOfPair (D : va_G) (y : Nat → ClassId) (l : Launch) (S : fb_Sh) (V I : fb_V) (t b c r d : Nat) (ht : TickAt S t b) (hf : TF I t c r d) (q : Nat) (hq : q < c * r) (p2 : Int32) : CI D y l yX2_otherOfPair wsX2_otherOfPair rm_X2_otherOfPair [.ref (sa S t), .int (nI q), .int p2] (S, V, (sT V), I) (fun z u => z = oth c (c * r) q p2 ∧ u = (S, V, sT V, I)) 0 0 := by
  refine CI.of (cc := cX2_otherOfPair) (maxL := 3) (ret := (some .int)) (by decide) rfl (Nat.le_of_ble_eq_true rfl) ?_
  intro pv ev s mv below meth cv A hx hb hml hr hown hts hlocks hname hM ls hl
  have hown : s.vm.findClass RX2 = some mv.cls := hown
  have hl : lv_has ls 3 [(0, .ref (sa S t)), (1, .int (nI q)), (2, .int p2)] := hl
  have hin2 : ∀ x ∈ wsX20, x ∈ wsX2_otherOfPair := by decide +kernel
  obtain ⟨Q, hQ⟩ : ∃ Q, Q = MQ below (va_Qi (fun z u => z = oth c (c * r) q p2 ∧ u = (S, V, sT V, I)) (fun u t => fb_P D y A u t) A) (([.ref (sa S t), .int (nI q), .int p2] : List Value).toArray) s 0 0 A := ⟨_, rfl⟩
  rw [← hQ]
  have hn := hf.le
  have hc1 : 1 ≤ c := hf.2.2.2.2.1
  have hc6 : c ≤ 6 := hf.2.2.2.2.2.1
  have hm : q % c < c := Nat.mod_lt _ (by omega)
  refine lv_iload_n hx hb dX2_otherOfPair_0 rfl (lv_at hl 1 rfl) ?_
  refine lv_if_lt (tgt := 20) hx hb dX2_otherOfPair_1 (by decide) (fun c_1 => absurd c_1 (nI_pos (by omega))) (fun c_1 => ?_)
  refine lv_iload_n hx hb dX2_otherOfPair_4 rfl (lv_at hl 1 rfl) ?_
  refine lv_aload_n hx hb dX2_otherOfPair_5 rfl (lv_at hl 0 rfl) ?_
  refine fb_get (r := t) hx hb hown hts hin2 hM ((ht.1)) (ce2 ((ht.2.1))) rfl 3 (by decide) (hts (.fieldLink RX2 21 "FeatherBeds$Tick" "squares" "I") (by decide +kernel)) (fun _ h9 => h9) (v := .int (nI ((c * r)))) (congrArg (fun z => some (Value.int z)) (hf.2.2.2.1)) dX2_otherOfPair_6 ?_
  refine lv_icmp_ge (tgt := 20) hx hb dX2_otherOfPair_9 (by decide) (fun c_2 => absurd c_2 (nI_ge hq (by omega))) (fun c_2 => ?_)
  refine lv_aload_n hx hb dX2_otherOfPair_12 rfl (lv_at hl 0 rfl) ?_
  refine fb_get (r := t) hx hb hown hts hin2 hM ((ht.1)) (ce2 ((ht.2.1))) rfl 0 (by decide) (hts (.fieldLink RX2 9 "FeatherBeds$Tick" "columns" "I") (by decide +kernel)) (fun _ h9 => h9) (v := .int (nI c)) (congrArg (fun z => some (Value.int z)) (hf.1)) dX2_otherOfPair_13 ?_
  refine lv_iconst (v := 1) hx hb dX2_otherOfPair_16 (by decide) ?_
  refine lv_icmp_ge (tgt := 22) hx hb dX2_otherOfPair_17 (by decide) (fun c_3 => ?_) (fun c_3 => absurd (nI_le (a := 1) hc1 (by omega)) c_3)
  refine lv_iload_n hx hb dX2_otherOfPair_22 rfl (lv_at hl 2 rfl) ?_
  refine lv_if_ne (tgt := 49) hx hb dX2_otherOfPair_23 (by decide) (fun c_4 => ?_) (fun c_4 => ?_)
  · skip
    refine lv_iload_n hx hb dX2_otherOfPair_49 rfl (lv_at hl 2 rfl) ?_
    refine lv_iconst (v := 1) hx hb dX2_otherOfPair_50 (by decide) ?_
    refine lv_icmp_ne (tgt := 76) hx hb dX2_otherOfPair_51 (by decide) (fun c_5 => ?_) (fun c_5 => ?_)
    · skip
      refine lv_iconst (v := (-1)) hx hb dX2_otherOfPair_76 (by decide) ?_
      rw [hQ]
      exact fb_iret hx hb hr hlocks hM (⟨by unfold oth; rw [if_neg c_4]; first | exact (if_neg c_5).symm | (rw [if_pos c_5]; first | exact (if_pos (ofx_1 hyy)).symm | exact (if_neg (ofx_1n hyy)).symm), rfl⟩) dX2_otherOfPair_77
    · skip
      refine lv_iload_n hx hb dX2_otherOfPair_54 rfl (lv_at hl 1 rfl) ?_
      refine lv_aload_n hx hb dX2_otherOfPair_55 rfl (lv_at hl 0 rfl) ?_
      refine fb_get (r := t) hx hb hown hts hin2 hM ((ht.1)) (ce2 ((ht.2.1))) rfl 0 (by decide) (hts (.fieldLink RX2 9 "FeatherBeds$Tick" "columns" "I") (by decide +kernel)) (fun _ h9 => h9) (v := .int (nI c)) (congrArg (fun z => some (Value.int z)) (hf.1)) dX2_otherOfPair_56 ?_
      refine lv_iadd hx hb dX2_otherOfPair_59 ?_
      refine W.eq (g2 := F0 mv _ ls (.int (nI (q + c)) :: [])) (by first | rfl | rw [show ((nI q) + (nI c) : Int32) = nI (q + c) from nI_add _ _]) ?_
      refine lv_aload_n hx hb dX2_otherOfPair_60 rfl (lv_at hl 0 rfl) ?_
      refine fb_get (r := t) hx hb hown hts hin2 hM ((ht.1)) (ce2 ((ht.2.1))) rfl 3 (by decide) (hts (.fieldLink RX2 21 "FeatherBeds$Tick" "squares" "I") (by decide +kernel)) (fun _ h9 => h9) (v := .int (nI ((c * r)))) (congrArg (fun z => some (Value.int z)) (hf.2.2.2.1)) dX2_otherOfPair_61 ?_
      refine lv_icmp_ge (tgt := 76) hx hb dX2_otherOfPair_64 (by decide) (fun c_6 => ?_) (fun c_6 => ?_)
      · skip
        have hyy : ¬ q + c < c * r := by have := (nI_leI (a := c * r) (b := q + c) (by omega) (by omega)).mp c_6; omega
        refine lv_iconst (v := (-1)) hx hb dX2_otherOfPair_76 (by decide) ?_
        rw [hQ]
        exact fb_iret hx hb hr hlocks hM (⟨by unfold oth; rw [if_neg c_4]; first | exact (if_neg c_5).symm | (rw [if_pos c_5]; first | exact (if_pos (ofx_1 hyy)).symm | exact (if_neg (ofx_1n hyy)).symm), rfl⟩) dX2_otherOfPair_77
      · skip
        have hyy : q + c < c * r := Nat.lt_of_not_le (fun z => c_6 (nI_le z (by omega)))
        refine lv_iload_n hx hb dX2_otherOfPair_67 rfl (lv_at hl 1 rfl) ?_
        refine lv_aload_n hx hb dX2_otherOfPair_68 rfl (lv_at hl 0 rfl) ?_
        refine fb_get (r := t) hx hb hown hts hin2 hM ((ht.1)) (ce2 ((ht.2.1))) rfl 0 (by decide) (hts (.fieldLink RX2 9 "FeatherBeds$Tick" "columns" "I") (by decide +kernel)) (fun _ h9 => h9) (v := .int (nI c)) (congrArg (fun z => some (Value.int z)) (hf.1)) dX2_otherOfPair_69 ?_
        refine lv_iadd hx hb dX2_otherOfPair_72 ?_
        refine W.eq (g2 := F0 mv _ ls (.int (nI (q + c)) :: [])) (by first | rfl | rw [show ((nI q) + (nI c) : Int32) = nI (q + c) from nI_add _ _]) ?_
        refine lv_goto (tgt := 77) hx hb dX2_otherOfPair_73 (by decide) ?_
        rw [hQ]
        exact fb_iret hx hb hr hlocks hM (⟨by unfold oth; rw [if_neg c_4]; first | exact (if_neg c_5).symm | (rw [if_pos c_5]; first | exact (if_pos (ofx_1 hyy)).symm | exact (if_neg (ofx_1n hyy)).symm), rfl⟩) dX2_otherOfPair_77
  · skip
    refine lv_iload_n hx hb dX2_otherOfPair_26 rfl (lv_at hl 1 rfl) ?_
    refine lv_aload_n hx hb dX2_otherOfPair_27 rfl (lv_at hl 0 rfl) ?_
    refine fb_get (r := t) hx hb hown hts hin2 hM ((ht.1)) (ce2 ((ht.2.1))) rfl 0 (by decide) (hts (.fieldLink RX2 9 "FeatherBeds$Tick" "columns" "I") (by decide +kernel)) (fun _ h9 => h9) (v := .int (nI c)) (congrArg (fun z => some (Value.int z)) (hf.1)) dX2_otherOfPair_28 ?_
    refine lv_irem hx hb dX2_otherOfPair_31 (nI_ne0 (by omega) (by omega)) ?_
    refine W.eq (g2 := F0 mv _ ls (.int (nI (q % c)) :: [])) (by first | rfl | rw [show ((nI q) - (nI q) / (nI c) * (nI c) : Int32) = nI (q % c) from pk_rem (by omega) (by omega) (by omega)]) ?_
    refine lv_iconst (v := 1) hx hb dX2_otherOfPair_32 (by decide) ?_
    refine lv_iadd hx hb dX2_otherOfPair_33 ?_
    refine W.eq (g2 := F0 mv _ ls (.int (nI (q % c + 1)) :: [])) (by first | rfl | rw [show ((nI (q % c)) + 1 : Int32) = nI (q % c + 1) from nI_1 _]) ?_
    refine lv_aload_n hx hb dX2_otherOfPair_34 rfl (lv_at hl 0 rfl) ?_
    refine fb_get (r := t) hx hb hown hts hin2 hM ((ht.1)) (ce2 ((ht.2.1))) rfl 0 (by decide) (hts (.fieldLink RX2 9 "FeatherBeds$Tick" "columns" "I") (by decide +kernel)) (fun _ h9 => h9) (v := .int (nI c)) (congrArg (fun z => some (Value.int z)) (hf.1)) dX2_otherOfPair_35 ?_
    refine lv_icmp_ge (tgt := 47) hx hb dX2_otherOfPair_38 (by decide) (fun c_7 => ?_) (fun c_7 => ?_)
    · skip
      have hxx : ¬ q % c + 1 < c := by have := (nI_leI (a := c) (b := q % c + 1) (by omega) (by omega)).mp c_7; omega
      refine lv_iconst (v := (-1)) hx hb dX2_otherOfPair_47 (by decide) ?_
      rw [hQ]
      exact fb_iret hx hb hr hlocks hM (⟨by unfold oth; rw [if_pos c_4]; first | exact (if_pos (ofx_0 hxx)).symm | exact (if_neg (ofx_0n hxx)).symm, rfl⟩) dX2_otherOfPair_48
    · skip
      have hxx : q % c + 1 < c := Nat.lt_of_not_le (fun z => c_7 (nI_le z (by omega)))
      refine lv_iload_n hx hb dX2_otherOfPair_41 rfl (lv_at hl 1 rfl) ?_
      refine lv_iconst (v := 1) hx hb dX2_otherOfPair_42 (by decide) ?_
      refine lv_iadd hx hb dX2_otherOfPair_43 ?_
      refine W.eq (g2 := F0 mv _ ls (.int (nI (q + 1)) :: [])) (by first | rfl | rw [show ((nI q) + 1 : Int32) = nI (q + 1) from nI_1 _]) ?_
      refine lv_goto (tgt := 48) hx hb dX2_otherOfPair_44 (by decide) ?_
      rw [hQ]
      exact fb_iret hx hb hr hlocks hM (⟨by unfold oth; rw [if_pos c_4]; first | exact (if_pos (ofx_0 hxx)).symm | exact (if_neg (ofx_0n hxx)).symm, rfl⟩) dX2_otherOfPair_48

abbrev rm_X2_isOpen : Room := { frames := 1, cells := 0, slots := 0, locals := 22 }
set_option maxHeartbeats 4000000 in
set_option maxRecDepth 100000 in
theorem c_X2_isOpen (D : va_G) (y : Nat → ClassId) (l : Launch) (S : fb_Sh) (V I : fb_V) (t b c r d : Nat) (ht : TickAt S t b) (hf : TF I t c r d) (q : Nat) (hq : q < c * r) (k : Nat) (hk : k < 2) : CI D y l yX2_isOpen wsX2_isOpen rm_X2_isOpen [.ref (sa S t), .int (nI q), .int (nI k)] (S, V, (sT V), I) (fun z u => z = ob c (c * r) (I (t + 2)) q k ∧ u = (S, V, sT V, I)) 0 0 := by
  refine CI.of (cc := cX2_isOpen) (maxL := 4) (ret := (some .boolean)) (by decide) rfl (Nat.le_of_ble_eq_true rfl) ?_
  intro pv ev s mv below meth cv A hx hb hml hr hown hts hlocks hname hM ls hl
  have hown : s.vm.findClass RX2 = some mv.cls := hown
  have hl : lv_has ls 4 [(0, .ref (sa S t)), (1, .int (nI q)), (2, .int (nI k))] := hl
  have hin2 : ∀ x ∈ wsX20, x ∈ wsX2_isOpen := by decide +kernel
  obtain ⟨Q, hQ⟩ : ∃ Q, Q = MQ below (va_Qi (fun z u => z = ob c (c * r) (I (t + 2)) q k ∧ u = (S, V, sT V, I)) (fun u t => fb_P D y A u t) A) (([.ref (sa S t), .int (nI q), .int (nI k)] : List Value).toArray) s 0 0 A := ⟨_, rfl⟩
  rw [← hQ]
  have hn := hf.le
  have hc1 : 1 ≤ c := hf.2.2.2.2.1
  have hc6 : c ≤ 6 := hf.2.2.2.2.2.1
  refine lv_iconst (v := 2) hx hb dX2_isOpen_0 (by decide) ?_
  refine lv_iload_n hx hb dX2_isOpen_1 rfl (lv_at hl 1 rfl) ?_
  refine lv_imul hx hb dX2_isOpen_2 ?_
  refine W.eq (g2 := F0 mv _ ls (.int (nI (2 * q)) :: [])) (by first | rfl | rw [show (2 * (nI q) : Int32) = nI (2 * q) from pk_mul 2 q]) ?_
  refine lv_iload_n hx hb dX2_isOpen_3 rfl (lv_at hl 2 rfl) ?_
  refine lv_iadd hx hb dX2_isOpen_4 ?_
  refine W.eq (g2 := F0 mv _ ls (.int (nI (2 * q + k)) :: [])) (by first | rfl | rw [show ((nI (2 * q)) + (nI k) : Int32) = nI (2 * q + k) from nI_add _ _]) ?_
  refine lv_istore_n (lv' := [(3, .int (nI (2 * q + k))), (0, .ref (sa S t)), (1, .int (nI q)), (2, .int (nI k))]) hx hb dX2_isOpen_5 rfl hl (by decide) rfl (fun ls hl => ?_)
  refine lv_aload_n hx hb dX2_isOpen_6 rfl (lv_at hl 1 rfl) ?_
  refine lv_iload_n hx hb dX2_isOpen_7 rfl (lv_at hl 2 rfl) ?_
  refine lv_iload_n hx hb dX2_isOpen_8 rfl (lv_at hl 3 rfl) ?_
  refine fb_callVi (r := t) hx hb hml hown hts hM ((ht.1)) (ce2 ((ht.2.1))) rfl (As := [.int (nI q), .int (nI k)]) (rest := []) (c_X2_otherOfPair D y l S V I t b c r d ht hf q hq (nI k)) (cwV 2 hts gX2_isOpen_X2_otherOfPair rfl rfl rfl (by decide +kernel) ⟨Nat.le_of_ble_eq_true rfl, Nat.le_of_ble_eq_true rfl⟩) rfl hl.1 rfl (Nat.le_of_ble_eq_true rfl) dX2_isOpen_9 ⟨Nat.le_of_ble_eq_true rfl, Nat.le_of_ble_eq_true rfl⟩ (fun v_1 u H locs hp hM => ?_)
  obtain ⟨hv, hu⟩ := hp
  have hv := Eq.symm hv
  have hu := Eq.symm hu
  subst hv
  subst hu
  rw [oth_d (c := c) (n := c * r) (q := q) hk]
  refine lv_if_lt (tgt := 41) hx hb dX2_isOpen_12 (by decide) (fun c_2 => ?_) (fun c_2 => ?_)
  · skip
    have hxx : ofx c (c * r) q k = false := by
      cases ee : ofx c (c * r) q k with
      | false => rfl
      | true => rw [if_pos ee] at c_2; exact absurd c_2 (nI_pos (by have := (oft_lt (n := c * r) rfl hc1 hq ee).1; omega))
    refine lv_iconst (v := 0) hx hb dX2_isOpen_41 (by decide) ?_
    rw [hQ]
    exact fb_zret hx hb hr (by first | rfl | decide | assumption) hlocks hM (⟨by unfold ob opn; first | (simp [hxx]; done) | (simp [hxx, c_5]; done), rfl⟩) dX2_isOpen_42
  · skip
    have hxx : ofx c (c * r) q k = true := by
      cases ee : ofx c (c * r) q k with
      | true => rfl
      | false => rw [if_neg (by rw [ee]; decide)] at c_2; exact absurd (by decide) c_2
    refine lv_iload_n hx hb dX2_isOpen_15 rfl (lv_at hl 0 rfl) ?_
    refine lv_if_lt (tgt := 41) hx hb dX2_isOpen_16 (by decide) (fun c_3 => absurd c_3 (nI_pos (by omega))) (fun c_3 => ?_)
    refine lv_iload_n hx hb dX2_isOpen_19 rfl (lv_at hl 0 rfl) ?_
    refine lv_aload_n hx hb dX2_isOpen_20 rfl (lv_at hl 1 rfl) ?_
    refine fb_get (r := t) hx hb hown hts hin2 hM ((ht.1)) (ce2 ((ht.2.1))) rfl 5 (by decide) (hts (.fieldLink RX2 31 "FeatherBeds$Tick" "sewn" "[Z") (by decide +kernel)) (fun _ h9 => h9) (v := .ref (sa S (t + 2))) (congrArg (fun z => some (va_rf z)) ((ht.2.2.2.1))) dX2_isOpen_21 ?_
    refine fb_alen (r := (t + 2)) hx hb hM ((ht.2.2.2.2.2.2.2.2.1)) (ce7 ((ht.2.2.2.2.2.2.2.2.2.1))) 1 rfl (v := nI 72) (congrArg Int32.ofNat ((ht.2.2.2.2.2.2.2.2.2.2.1))) dX2_isOpen_24 ?_
    refine lv_icmp_ge (tgt := 41) hx hb dX2_isOpen_25 (by decide) (fun c_4 => absurd c_4 (nI_ge (b := 72) (by omega) (by omega))) (fun c_4 => ?_)
    refine lv_aload_n hx hb dX2_isOpen_28 rfl (lv_at hl 1 rfl) ?_
    refine fb_get (r := t) hx hb hown hts hin2 hM ((ht.1)) (ce2 ((ht.2.1))) rfl 5 (by decide) (hts (.fieldLink RX2 31 "FeatherBeds$Tick" "sewn" "[Z") (by decide +kernel)) (fun _ h9 => h9) (v := .ref (sa S (t + 2))) (congrArg (fun z => some (va_rf z)) ((ht.2.2.2.1))) dX2_isOpen_29 ?_
    refine lv_iload_n hx hb dX2_isOpen_32 rfl (lv_at hl 0 rfl) ?_
    refine fb_zald (r := (t + 2)) hx hb hM ((ht.2.2.2.2.2.2.2.2.1)) (ce7 ((ht.2.2.2.2.2.2.2.2.2.1))) (k := 2 * q + k) (nI_clamp (by omega)) (by rw [(ht.2.2.2.2.2.2.2.2.2.2.1)]; exact vp_in_nI (by omega) (by omega)) dX2_isOpen_33 ?_
    refine lv_if_ne (tgt := 41) hx hb dX2_isOpen_34 (by decide) (fun c_5 => ?_) (fun c_5 => ?_)
    · skip
      refine lv_iconst (v := 0) hx hb dX2_isOpen_41 (by decide) ?_
      rw [hQ]
      exact fb_zret hx hb hr (by first | rfl | decide | assumption) hlocks hM (⟨by unfold ob opn; first | (simp [hxx]; done) | (simp [hxx, c_5]; done), rfl⟩) dX2_isOpen_42
    · skip
      refine lv_iconst (v := 1) hx hb dX2_isOpen_37 (by decide) ?_
      refine lv_goto (tgt := 42) hx hb dX2_isOpen_38 (by decide) ?_
      rw [hQ]
      exact fb_zret hx hb hr (by first | rfl | decide | assumption) hlocks hM (⟨by unfold ob opn; first | (simp [hxx]; done) | (simp [hxx, c_5]; done), rfl⟩) dX2_isOpen_42

abbrev rm_X2_setSeam : Room := { frames := 0, cells := 0, slots := 0, locals := 0 }
set_option maxHeartbeats 4000000 in
set_option maxRecDepth 100000 in
theorem c_X2_setSeam (D : va_G) (y : Nat → ClassId) (l : Launch) (S : fb_Sh) (V I : fb_V) (t b : Nat) (ht : TickAt S t b) (q : Nat) (hq : q < 36) (k : Nat) (hk : k < 2) (p2 : Int32) : CV D y l yX2_setSeam wsX2_setSeam rm_X2_setSeam [.ref (sa S t), .int (nI q), .int (nI k), .int p2] (S, V, (sT V), I) (fun u => u = (S, V, sT V, (va_up I (t + 2) (upd (I (t + 2)) (2 * q + k) (vp_nar .boolean p2))))) 0 0 := by
  refine CV.of (cc := cX2_setSeam) (maxL := 5) (ret := none) (by decide) rfl (Nat.le_of_ble_eq_true rfl) ?_
  intro pv ev s mv below meth cv A hx hb hml hr hown hts hlocks hname hM ls hl
  have hown : s.vm.findClass RX2 = some mv.cls := hown
  have hl : lv_has ls 5 [(0, .ref (sa S t)), (1, .int (nI q)), (2, .int (nI k)), (3, .int p2)] := hl
  have hin2 : ∀ x ∈ wsX20, x ∈ wsX2_setSeam := by decide +kernel
  obtain ⟨Q, hQ⟩ : ∃ Q, Q = MQ below (va_Qv (fun u => u = (S, V, sT V, (va_up I (t + 2) (upd (I (t + 2)) (2 * q + k) (vp_nar .boolean p2))))) (fun u t => fb_P D y A u t) A) (([.ref (sa S t), .int (nI q), .int (nI k), .int p2] : List Value).toArray) s 0 0 A := ⟨_, rfl⟩
  rw [← hQ]
  refine lv_iconst (v := 2) hx hb dX2_setSeam_0 (by decide) ?_
  refine lv_iload_n hx hb dX2_setSeam_1 rfl (lv_at hl 1 rfl) ?_
  refine lv_imul hx hb dX2_setSeam_2 ?_
  refine W.eq (g2 := F0 mv _ ls (.int (nI (2 * q)) :: [])) (by first | rfl | rw [show (2 * (nI q) : Int32) = nI (2 * q) from pk_mul 2 q]) ?_
  refine lv_iload_n hx hb dX2_setSeam_3 rfl (lv_at hl 2 rfl) ?_
  refine lv_iadd hx hb dX2_setSeam_4 ?_
  refine W.eq (g2 := F0 mv _ ls (.int (nI (2 * q + k)) :: [])) (by first | rfl | rw [show ((nI (2 * q)) + (nI k) : Int32) = nI (2 * q + k) from nI_add _ _]) ?_
  refine lv_istore (lv' := [(4, .int (nI (2 * q + k))), (0, .ref (sa S t)), (1, .int (nI q)), (2, .int (nI k)), (3, .int p2)]) hx hb dX2_setSeam_5 hl (by decide) rfl (fun ls hl => ?_)
  refine lv_iload hx hb dX2_setSeam_7 (lv_at hl 0 rfl) ?_
  refine lv_if_lt (tgt := 30) hx hb dX2_setSeam_9 (by decide) (fun c_1 => absurd c_1 (nI_pos (by omega))) (fun c_1 => ?_)
  refine lv_iload hx hb dX2_setSeam_12 (lv_at hl 0 rfl) ?_
  refine lv_aload_n hx hb dX2_setSeam_14 rfl (lv_at hl 1 rfl) ?_
  refine fb_get (r := t) hx hb hown hts hin2 hM ((ht.1)) (ce2 ((ht.2.1))) rfl 5 (by decide) (hts (.fieldLink RX2 31 "FeatherBeds$Tick" "sewn" "[Z") (by decide +kernel)) (fun _ h9 => h9) (v := .ref (sa S (t + 2))) (congrArg (fun z => some (va_rf z)) ((ht.2.2.2.1))) dX2_setSeam_15 ?_
  refine fb_alen (r := (t + 2)) hx hb hM ((ht.2.2.2.2.2.2.2.2.1)) (ce7 ((ht.2.2.2.2.2.2.2.2.2.1))) 1 rfl (v := nI 72) (congrArg Int32.ofNat ((ht.2.2.2.2.2.2.2.2.2.2.1))) dX2_setSeam_18 ?_
  refine lv_icmp_ge (tgt := 30) hx hb dX2_setSeam_19 (by decide) (fun c_2 => absurd c_2 (nI_ge (b := 72) (by omega) (by omega))) (fun c_2 => ?_)
  refine lv_aload_n hx hb dX2_setSeam_22 rfl (lv_at hl 1 rfl) ?_
  refine fb_get (r := t) hx hb hown hts hin2 hM ((ht.1)) (ce2 ((ht.2.1))) rfl 5 (by decide) (hts (.fieldLink RX2 31 "FeatherBeds$Tick" "sewn" "[Z") (by decide +kernel)) (fun _ h9 => h9) (v := .ref (sa S (t + 2))) (congrArg (fun z => some (va_rf z)) ((ht.2.2.2.1))) dX2_setSeam_23 ?_
  refine lv_iload hx hb dX2_setSeam_26 (lv_at hl 0 rfl) ?_
  refine lv_iload_n hx hb dX2_setSeam_28 rfl (lv_at hl 4 rfl) ?_
  refine fb_zast (r := (t + 2)) hx hb hM ((ht.2.2.2.2.2.2.2.2.1)) (ce7 ((ht.2.2.2.2.2.2.2.2.2.1))) (k := 2 * q + k) (nI_clamp (by omega)) (by rw [(ht.2.2.2.2.2.2.2.2.2.2.1)]; exact vp_in_nI (by omega) (by omega)) dX2_setSeam_29 (up_I (j := 2 * q + k) (by rw [ce7 ((ht.2.2.2.2.2.2.2.2.2.1))]; simp [va_up])) (w' := (S, V, (sT V), (va_up I (t + 2) (upd (I (t + 2)) (2 * q + k) (vp_nar .boolean p2))))) ⟨rfl, rfl, rfl⟩ (fun H locs hM => ?_)
  rw [hQ]
  exact fb_vret hx hb hr hlocks hM (rfl) dX2_setSeam_30

abbrev rm_X2_openPairs : Room := { frames := 2, cells := 0, slots := 0, locals := 45 }
set_option maxHeartbeats 4000000 in
set_option maxRecDepth 100000 in
theorem c_X2_openPairs (D : va_G) (y : Nat → ClassId) (l : Launch) (S : fb_Sh) (V I : fb_V) (t b c r d : Nat) (ht : TickAt S t b) (hf : TF I t c r d) : CI D y l yX2_openPairs wsX2_openPairs rm_X2_openPairs [.ref (sa S t)] (S, V, (sT V), I) (fun z u => z = opc c (c * r) (I (t + 2)) (2 * (c * r)) ∧ u = (S, V, sT V, I)) 0 0 := by
  refine CI.of (cc := cX2_openPairs) (maxL := 4) (ret := (some .int)) (by decide) rfl (Nat.le_of_ble_eq_true rfl) ?_
  intro pv ev s mv below meth cv A hx hb hml hr hown hts hlocks hname hM ls hl
  have hown : s.vm.findClass RX2 = some mv.cls := hown
  have hl : lv_has ls 4 [(0, .ref (sa S t))] := hl
  have hin2 : ∀ x ∈ wsX20, x ∈ wsX2_openPairs := by decide +kernel
  obtain ⟨Q, hQ⟩ : ∃ Q, Q = MQ below (va_Qi (fun z u => z = opc c (c * r) (I (t + 2)) (2 * (c * r)) ∧ u = (S, V, sT V, I)) (fun u t => fb_P D y A u t) A) (([.ref (sa S t)] : List Value).toArray) s 0 0 A := ⟨_, rfl⟩
  rw [← hQ]
  have hn := hf.le
  have hc1 : 1 ≤ c := hf.2.2.2.2.1
  have hc6 : c ≤ 6 := hf.2.2.2.2.2.1
  refine lv_iconst (v := 0) hx hb dX2_openPairs_0 (by decide) ?_
  refine lv_istore_n (lv' := [(1, .int 0), (0, .ref (sa S t))]) hx hb dX2_openPairs_1 rfl hl (by decide) rfl (fun ls hl => ?_)
  refine lv_iconst (v := 0) hx hb dX2_openPairs_2 (by decide) ?_
  refine lv_istore_n (lv' := [(2, .int 0), (1, .int 0), (0, .ref (sa S t))]) hx hb dX2_openPairs_3 rfl hl (by decide) rfl (fun ls hl => ?_)
  have LP_4 : ∀ (n : Nat) (i : Nat) (hi : i ≤ c * r), c * r - i < n → ∀ (H : Heap) (locs : List Loc), fb_M D y A s (S, V, (sT V), I) H locs → ∀ ls, lv_has ls 4 [(2, .int (nI i)), (1, .int (opc c (c * r) (I (t + 2)) (2 * i))), (0, .ref (sa S t))] → W pv l ev rm_X2_openPairs s mv ([.ref (sa S t)] : List Value).toArray below meth cv H locs 0 0 Q (F0 mv 4 ls []) := by
    intro n_4
    induction n_4 with
    | zero => intro i hi hmu; exact absurd hmu (Nat.not_lt_zero _)
    | succ n_4 ih_4 =>
      intro i hi hmu H locs hM ls hl
      refine lv_iload_n hx hb dX2_openPairs_4 rfl (lv_at hl 0 rfl) ?_
      refine lv_aload_n hx hb dX2_openPairs_5 rfl (lv_at hl 2 rfl) ?_
      refine fb_get (r := t) hx hb hown hts hin2 hM ((ht.1)) (ce2 ((ht.2.1))) rfl 3 (by decide) (hts (.fieldLink RX2 21 "FeatherBeds$Tick" "squares" "I") (by decide +kernel)) (fun _ h9 => h9) (v := .int (nI ((c * r)))) (congrArg (fun z => some (Value.int z)) (hf.2.2.2.1)) dX2_openPairs_6 ?_
      refine lv_icmp_ge (tgt := 48) hx hb dX2_openPairs_9 (by decide) (fun c_1 => ?_) (fun c_1 => ?_)
      · skip
        have e_i : i = c * r := by have := (nI_leI (a := c * r) (b := i) (by omega) (by omega)).mp c_1; omega
        subst e_i
        refine lv_iload_n hx hb dX2_openPairs_48 rfl (lv_at hl 1 rfl) ?_
        rw [hQ]
        exact fb_iret hx hb hr hlocks hM (⟨rfl, rfl⟩) dX2_openPairs_49
      · skip
        have hq : i < c * r := Nat.lt_of_not_le (fun z => c_1 (nI_le z (by omega)))
        refine lv_iconst (v := 0) hx hb dX2_openPairs_12 (by decide) ?_
        refine lv_istore_n (lv' := [(3, .int 0), (2, .int (nI i)), (1, .int (opc c (c * r) (I (t + 2)) (2 * i))), (0, .ref (sa S t))]) hx hb dX2_openPairs_13 rfl hl (by decide) rfl (fun ls hl => ?_)
        have LP_14 : ∀ (n : Nat) (j : Nat) (hj : j ≤ 2), 2 - j < n → ∀ (H : Heap) (locs : List Loc), fb_M D y A s (S, V, (sT V), I) H locs → ∀ ls, lv_has ls 4 [(3, .int (nI j)), (2, .int (nI i)), (1, .int (opc c (c * r) (I (t + 2)) (2 * i + j))), (0, .ref (sa S t))] → W pv l ev rm_X2_openPairs s mv ([.ref (sa S t)] : List Value).toArray below meth cv H locs 0 0 Q (F0 mv 14 ls []) := by
          intro n_14
          induction n_14 with
          | zero => intro j hj hmu; exact absurd hmu (Nat.not_lt_zero _)
          | succ n_14 ih_14 =>
            intro j hj hmu H locs hM ls hl
            refine lv_iload_n hx hb dX2_openPairs_14 rfl (lv_at hl 0 rfl) ?_
            refine lv_iconst (v := 2) hx hb dX2_openPairs_15 (by decide) ?_
            refine lv_icmp_ge (tgt := 42) hx hb dX2_openPairs_16 (by decide) (fun c_2 => ?_) (fun c_2 => ?_)
            · skip
              have e_j : j = 2 := by have := (nI_leI (a := 2) (b := j) (by omega) (by omega)).mp c_2; omega
              subst e_j
              refine lv_iinc (v := nI (i + 1)) (lv' := [(2, .int (nI (i + 1))), (3, .int (nI 2)), (1, .int (opc c (c * r) (I (t + 2)) (2 * i + 2))), (0, .ref (sa S t))]) hx hb dX2_openPairs_42 hl (k := 1) rfl (nI_1 _) (by decide) rfl (fun ls hl => ?_)
              refine lv_goto (tgt := 4) hx hb dX2_openPairs_45 (by decide) ?_
              exact ih_4 (i + 1) (by omega) (by omega) _ _ hM ls (lv_sub hl [0, 2, 3] rfl)
            · skip
              have hjk : j < 2 := Nat.lt_of_not_le (fun z => c_2 (nI_le z (by omega)))
              refine lv_iload_n hx hb dX2_openPairs_19 rfl (lv_at hl 2 rfl) ?_
              refine lv_aload_n hx hb dX2_openPairs_20 rfl (lv_at hl 3 rfl) ?_
              refine lv_iload_n hx hb dX2_openPairs_21 rfl (lv_at hl 1 rfl) ?_
              refine lv_iload_n hx hb dX2_openPairs_22 rfl (lv_at hl 0 rfl) ?_
              refine fb_callVi (r := t) hx hb hml hown hts hM ((ht.1)) (ce2 ((ht.2.1))) rfl (As := [.int (nI i), .int (nI j)]) (rest := [.int (opc c (c * r) (I (t + 2)) (2 * i + j))]) (c_X2_isOpen D y l S V I t b c r d ht hf i hq j hjk) (cwV 2 hts gX2_openPairs_X2_isOpen rfl rfl rfl (by decide +kernel) ⟨Nat.le_of_ble_eq_true rfl, Nat.le_of_ble_eq_true rfl⟩) rfl hl.1 rfl (Nat.le_of_ble_eq_true rfl) dX2_openPairs_23 ⟨Nat.le_of_ble_eq_true rfl, Nat.le_of_ble_eq_true rfl⟩ (fun v_3 u H locs hp hM => ?_)
              obtain ⟨hv, hu⟩ := hp
              have hv := Eq.symm hv
              have hu := Eq.symm hu
              subst hv
              subst hu
              refine lv_if_eq (tgt := 33) hx hb dX2_openPairs_26 (by decide) (fun c_4 => ?_) (fun c_4 => ?_)
              · skip
                have hob := c_4
                refine lv_iconst (v := 0) hx hb dX2_openPairs_33 (by decide) ?_
                refine lv_iadd hx hb dX2_openPairs_34 ?_
                rw [show ((opc c (c * r) (I (t + 2)) (2 * i + j)) + 0 : Int32) = opc c (c * r) (I (t + 2)) (2 * i + (j + 1)) from by rw [opc_s _ _ _ _ hjk]; unfold ob; first | rw [if_neg (by rw [ob_0 hob]; decide)] | rw [if_pos (ob_1 hob)]]
                refine lv_istore_n (lv' := [(1, .int (opc c (c * r) (I (t + 2)) (2 * i + (j + 1)))), (3, .int (nI j)), (2, .int (nI i)), (0, .ref (sa S t))]) hx hb dX2_openPairs_35 rfl hl (by decide) rfl (fun ls hl => ?_)
                refine lv_iinc (v := nI (j + 1)) (lv' := [(3, .int (nI (j + 1))), (1, .int (opc c (c * r) (I (t + 2)) (2 * i + (j + 1)))), (2, .int (nI i)), (0, .ref (sa S t))]) hx hb dX2_openPairs_36 hl (k := 1) rfl (nI_1 _) (by decide) rfl (fun ls hl => ?_)
                refine lv_goto (tgt := 14) hx hb dX2_openPairs_39 (by decide) ?_
                exact ih_14 (j + 1) (by omega) (by omega) _ _ hM ls (lv_sub hl [0, 2, 1, 3] rfl)
              · skip
                have hob := c_4
                refine lv_iconst (v := 1) hx hb dX2_openPairs_29 (by decide) ?_
                refine lv_goto (tgt := 34) hx hb dX2_openPairs_30 (by decide) ?_
                refine lv_iadd hx hb dX2_openPairs_34 ?_
                rw [show ((opc c (c * r) (I (t + 2)) (2 * i + j)) + 1 : Int32) = opc c (c * r) (I (t + 2)) (2 * i + (j + 1)) from by rw [opc_s _ _ _ _ hjk]; unfold ob; first | rw [if_neg (by rw [ob_0 hob]; decide)] | rw [if_pos (ob_1 hob)]]
                refine lv_istore_n (lv' := [(1, .int (opc c (c * r) (I (t + 2)) (2 * i + (j + 1)))), (3, .int (nI j)), (2, .int (nI i)), (0, .ref (sa S t))]) hx hb dX2_openPairs_35 rfl hl (by decide) rfl (fun ls hl => ?_)
                refine lv_iinc (v := nI (j + 1)) (lv' := [(3, .int (nI (j + 1))), (1, .int (opc c (c * r) (I (t + 2)) (2 * i + (j + 1)))), (2, .int (nI i)), (0, .ref (sa S t))]) hx hb dX2_openPairs_36 hl (k := 1) rfl (nI_1 _) (by decide) rfl (fun ls hl => ?_)
                refine lv_goto (tgt := 14) hx hb dX2_openPairs_39 (by decide) ?_
                exact ih_14 (j + 1) (by omega) (by omega) _ _ hM ls (lv_sub hl [0, 2, 1, 3] rfl)
        exact LP_14 _ 0 (by omega) (Nat.lt_succ_self _) _ _ hM ls (lv_sub hl [0, 1, 2, 3] rfl)
  exact LP_4 _ 0 (by omega) (Nat.lt_succ_self _) _ _ hM ls (lv_sub hl [0, 1, 2] rfl)

abbrev rm_X2_feathers : Room := { frames := 0, cells := 0, slots := 0, locals := 0 }
set_option maxHeartbeats 4000000 in
set_option maxRecDepth 100000 in
theorem c_X2_feathers (D : va_G) (y : Nat → ClassId) (l : Launch) (S : fb_Sh) (V I : fb_V) (t b : Nat) (ht : TickAt S t b) (X : fb_V) (hX : ∀ q, q < 36 → V (b + 2 * q) = X q) : CI D y l yX2_feathers wsX2_feathers rm_X2_feathers [.ref (sa S t)] (S, V, (sT V), I) (fun z u => z = fsum X 36 ∧ u = (S, V, sT V, I)) 0 0 := by
  refine CI.of (cc := cX2_feathers) (maxL := 3) (ret := (some .int)) (by decide) rfl (Nat.le_of_ble_eq_true rfl) ?_
  intro pv ev s mv below meth cv A hx hb hml hr hown hts hlocks hname hM ls hl
  have hown : s.vm.findClass RX2 = some mv.cls := hown
  have hl : lv_has ls 3 [(0, .ref (sa S t))] := hl
  have hin2 : ∀ x ∈ wsX20, x ∈ wsX2_feathers := by decide +kernel
  have hin0 : ∀ x ∈ wsX00, x ∈ wsX2_feathers := by decide +kernel
  obtain ⟨Q, hQ⟩ : ∃ Q, Q = MQ below (va_Qi (fun z u => z = fsum X 36 ∧ u = (S, V, sT V, I)) (fun u t => fb_P D y A u t) A) (([.ref (sa S t)] : List Value).toArray) s 0 0 A := ⟨_, rfl⟩
  rw [← hQ]
  refine lv_iconst (v := 0) hx hb dX2_feathers_0 (by decide) ?_
  refine lv_istore_n (lv' := [(1, .int 0), (0, .ref (sa S t))]) hx hb dX2_feathers_1 rfl hl (by decide) rfl (fun ls hl => ?_)
  refine lv_iconst (v := 0) hx hb dX2_feathers_2 (by decide) ?_
  refine lv_istore_n (lv' := [(2, .int 0), (1, .int 0), (0, .ref (sa S t))]) hx hb dX2_feathers_3 rfl hl (by decide) rfl (fun ls hl => ?_)
  have LP_4 : ∀ (n : Nat) (i : Nat) (hi : i ≤ 36), 36 - i < n → ∀ (H : Heap) (locs : List Loc), fb_M D y A s (S, V, (sT V), I) H locs → ∀ ls, lv_has ls 3 [(2, .int (nI i)), (1, .int (fsum X i)), (0, .ref (sa S t))] → W pv l ev rm_X2_feathers s mv ([.ref (sa S t)] : List Value).toArray below meth cv H locs 0 0 Q (F0 mv 4 ls []) := by
    intro n_4
    induction n_4 with
    | zero => intro i hi hmu; exact absurd hmu (Nat.not_lt_zero _)
    | succ n_4 ih_4 =>
      intro i hi hmu H locs hM ls hl
      refine lv_iload_n hx hb dX2_feathers_4 rfl (lv_at hl 0 rfl) ?_
      refine lv_aload_n hx hb dX2_feathers_5 rfl (lv_at hl 2 rfl) ?_
      refine fb_get (r := t) hx hb hown hts hin2 hM ((ht.1)) (ce2 ((ht.2.1))) rfl 4 (by decide) (hts (.fieldLink RX2 26 "FeatherBeds$Tick" "heaps" "[LFeatherBeds$Heap;") (by decide +kernel)) (fun _ h9 => h9) (v := .ref (sa S (t + 1))) (congrArg (fun z => some (va_rf z)) ((ht.2.2.1))) dX2_feathers_6 ?_
      refine fb_alen (r := (t + 1)) hx hb hM ((ht.2.2.2.2.2.1)) (ce8 ((ht.2.2.2.2.2.2.1))) 2 rfl (v := nI 36) (congrArg Int32.ofNat ((ht.2.2.2.2.2.2.2.1))) dX2_feathers_9 ?_
      refine lv_icmp_ge (tgt := 31) hx hb dX2_feathers_10 (by decide) (fun c_1 => ?_) (fun c_1 => ?_)
      · skip
        have e6 : i = 36 := by have := (nI_leI (a := 36) (b := i) (by omega) (by omega)).mp c_1; omega
        subst e6
        refine lv_iload_n hx hb dX2_feathers_31 rfl (lv_at hl 1 rfl) ?_
        rw [hQ]
        exact fb_iret hx hb hr hlocks hM (⟨rfl, rfl⟩) dX2_feathers_32
      · skip
        have hi6 : i < 36 := Nat.lt_of_not_le (fun z => c_1 (nI_le z (by omega)))
        refine lv_iload_n hx hb dX2_feathers_13 rfl (lv_at hl 1 rfl) ?_
        refine lv_aload_n hx hb dX2_feathers_14 rfl (lv_at hl 2 rfl) ?_
        refine fb_get (r := t) hx hb hown hts hin2 hM ((ht.1)) (ce2 ((ht.2.1))) rfl 4 (by decide) (hts (.fieldLink RX2 26 "FeatherBeds$Tick" "heaps" "[LFeatherBeds$Heap;") (by decide +kernel)) (fun _ h9 => h9) (v := .ref (sa S (t + 1))) (congrArg (fun z => some (va_rf z)) ((ht.2.2.1))) dX2_feathers_15 ?_
        refine lv_iload_n hx hb dX2_feathers_18 rfl (lv_at hl 0 rfl) ?_
        refine fb_aald (r := (t + 1)) hx hb hM ((ht.2.2.2.2.2.1)) (ce8 ((ht.2.2.2.2.2.2.1))) 2 rfl (k := i) (nI_clamp (by omega)) (b := sa S (b + 2 * i)) (((ht.2.2.2.2.2.2.2.2.2.2.2.2.2.2) i (by omega)).1) (by rw [(ht.2.2.2.2.2.2.2.1)]; exact vp_in_nI (by omega) (by omega)) dX2_feathers_19 ?_
        refine fb_getN (r := (b + 2 * i)) hx hb hown hts hin0 hM ((((ht.2.2.2.2.2.2.2.2.2.2.2.2.2.2) i (by omega)).2).1) (ce0 ((((ht.2.2.2.2.2.2.2.2.2.2.2.2.2.2) i (by omega)).2).2.1)) rfl 1 (by decide) (host := "FeatherBeds") (by decide +kernel) (fun _ h9 => h9) (v := .int ((sT V) (b + 2 * i))) rfl dX2_feathers_20 ?_
        refine lv_iadd hx hb dX2_feathers_23 ?_
        rw [show ((fsum X i) + ((sT V) (b + 2 * i)) : Int32) = fsum X (i + 1) from congrArg (fun x => fsum X i + s6 x) (hX i hi6)]
        refine lv_istore_n (lv' := [(1, .int (fsum X (i + 1))), (2, .int (nI i)), (0, .ref (sa S t))]) hx hb dX2_feathers_24 rfl hl (by decide) rfl (fun ls hl => ?_)
        refine lv_iinc (v := nI (i + 1)) (lv' := [(2, .int (nI (i + 1))), (1, .int (fsum X (i + 1))), (0, .ref (sa S t))]) hx hb dX2_feathers_25 hl (k := 1) rfl (nI_1 _) (by decide) rfl (fun ls hl => ?_)
        refine lv_goto (tgt := 4) hx hb dX2_feathers_28 (by decide) ?_
        exact ih_4 (i + 1) (by omega) (by omega) _ _ hM ls (lv_sub hl [0, 1, 2] rfl)
  exact LP_4 _ 0 (by omega) (Nat.lt_succ_self _) _ _ hM ls (lv_sub hl [0, 1, 2] rfl)

abbrev rm_X2_warmthInAll : Room := { frames := 2, cells := 0, slots := 0, locals := 46 }
set_option maxHeartbeats 4000000 in
set_option maxRecDepth 100000 in
theorem c_X2_warmthInAll (D : va_G) (y : Nat → ClassId) (l : Launch) (S : fb_Sh) (V I : fb_V) (t b : Nat) (ht : TickAt S t b) (X : fb_V) (hX : ∀ q, q < 36 → V (b + 2 * q) = X q) : CI D y l yX2_warmthInAll wsX2_warmthInAll rm_X2_warmthInAll [.ref (sa S t)] (S, V, (sT V), I) (fun z u => z = wsm X 36 ∧ u = (S, V, sT V, I)) 0 0 := by
  refine CI.of (cc := cX2_warmthInAll) (maxL := 3) (ret := (some .int)) (by decide) rfl (Nat.le_of_ble_eq_true rfl) ?_
  intro pv ev s mv below meth cv A hx hb hml hr hown hts hlocks hname hM ls hl
  have hown : s.vm.findClass RX2 = some mv.cls := hown
  have hl : lv_has ls 3 [(0, .ref (sa S t))] := hl
  have hin2 : ∀ x ∈ wsX20, x ∈ wsX2_warmthInAll := by decide +kernel
  have hin0 : ∀ x ∈ wsX00, x ∈ wsX2_warmthInAll := by decide +kernel
  obtain ⟨Q, hQ⟩ : ∃ Q, Q = MQ below (va_Qi (fun z u => z = wsm X 36 ∧ u = (S, V, sT V, I)) (fun u t => fb_P D y A u t) A) (([.ref (sa S t)] : List Value).toArray) s 0 0 A := ⟨_, rfl⟩
  rw [← hQ]
  refine lv_iconst (v := 0) hx hb dX2_warmthInAll_0 (by decide) ?_
  refine lv_istore_n (lv' := [(1, .int 0), (0, .ref (sa S t))]) hx hb dX2_warmthInAll_1 rfl hl (by decide) rfl (fun ls hl => ?_)
  refine lv_iconst (v := 0) hx hb dX2_warmthInAll_2 (by decide) ?_
  refine lv_istore_n (lv' := [(2, .int 0), (1, .int 0), (0, .ref (sa S t))]) hx hb dX2_warmthInAll_3 rfl hl (by decide) rfl (fun ls hl => ?_)
  have LP_4 : ∀ (n : Nat) (i : Nat) (hi : i ≤ 36), 36 - i < n → ∀ (H : Heap) (locs : List Loc), fb_M D y A s (S, V, (sT V), I) H locs → ∀ ls, lv_has ls 3 [(2, .int (nI i)), (1, .int (wsm X i)), (0, .ref (sa S t))] → W pv l ev rm_X2_warmthInAll s mv ([.ref (sa S t)] : List Value).toArray below meth cv H locs 0 0 Q (F0 mv 4 ls []) := by
    intro n_4
    induction n_4 with
    | zero => intro i hi hmu; exact absurd hmu (Nat.not_lt_zero _)
    | succ n_4 ih_4 =>
      intro i hi hmu H locs hM ls hl
      refine lv_iload_n hx hb dX2_warmthInAll_4 rfl (lv_at hl 0 rfl) ?_
      refine lv_aload_n hx hb dX2_warmthInAll_5 rfl (lv_at hl 2 rfl) ?_
      refine fb_get (r := t) hx hb hown hts hin2 hM ((ht.1)) (ce2 ((ht.2.1))) rfl 4 (by decide) (hts (.fieldLink RX2 26 "FeatherBeds$Tick" "heaps" "[LFeatherBeds$Heap;") (by decide +kernel)) (fun _ h9 => h9) (v := .ref (sa S (t + 1))) (congrArg (fun z => some (va_rf z)) ((ht.2.2.1))) dX2_warmthInAll_6 ?_
      refine fb_alen (r := (t + 1)) hx hb hM ((ht.2.2.2.2.2.1)) (ce8 ((ht.2.2.2.2.2.2.1))) 2 rfl (v := nI 36) (congrArg Int32.ofNat ((ht.2.2.2.2.2.2.2.1))) dX2_warmthInAll_9 ?_
      refine lv_icmp_ge (tgt := 31) hx hb dX2_warmthInAll_10 (by decide) (fun c_1 => ?_) (fun c_1 => ?_)
      · skip
        have e6 : i = 36 := by have := (nI_leI (a := 36) (b := i) (by omega) (by omega)).mp c_1; omega
        subst e6
        refine lv_iload_n hx hb dX2_warmthInAll_31 rfl (lv_at hl 1 rfl) ?_
        rw [hQ]
        exact fb_iret hx hb hr hlocks hM (⟨rfl, rfl⟩) dX2_warmthInAll_32
      · skip
        have hi6 : i < 36 := Nat.lt_of_not_le (fun z => c_1 (nI_le z (by omega)))
        refine lv_iload_n hx hb dX2_warmthInAll_13 rfl (lv_at hl 1 rfl) ?_
        refine lv_aload_n hx hb dX2_warmthInAll_14 rfl (lv_at hl 2 rfl) ?_
        refine fb_get (r := t) hx hb hown hts hin2 hM ((ht.1)) (ce2 ((ht.2.1))) rfl 4 (by decide) (hts (.fieldLink RX2 26 "FeatherBeds$Tick" "heaps" "[LFeatherBeds$Heap;") (by decide +kernel)) (fun _ h9 => h9) (v := .ref (sa S (t + 1))) (congrArg (fun z => some (va_rf z)) ((ht.2.2.1))) dX2_warmthInAll_15 ?_
        refine lv_iload_n hx hb dX2_warmthInAll_18 rfl (lv_at hl 0 rfl) ?_
        refine fb_aald (r := (t + 1)) hx hb hM ((ht.2.2.2.2.2.1)) (ce8 ((ht.2.2.2.2.2.2.1))) 2 rfl (k := i) (nI_clamp (by omega)) (b := sa S (b + 2 * i)) (((ht.2.2.2.2.2.2.2.2.2.2.2.2.2.2) i (by omega)).1) (by rw [(ht.2.2.2.2.2.2.2.1)]; exact vp_in_nI (by omega) (by omega)) dX2_warmthInAll_19 ?_
        refine fb_callVi (r := (b + 2 * i)) hx hb hml hown hts hM ((((ht.2.2.2.2.2.2.2.2.2.2.2.2.2.2) i (by omega)).2).1) (ce0 ((((ht.2.2.2.2.2.2.2.2.2.2.2.2.2.2) i (by omega)).2).2.1)) rfl (As := []) (rest := [.int (wsm X i)]) (c_X0_warmth D y l S V I (b + 2 * i) (ht.hp hi6)) (cwV 0 hts gX2_warmthInAll_X0_warmth rfl rfl rfl (by decide +kernel) ⟨Nat.le_of_ble_eq_true rfl, Nat.le_of_ble_eq_true rfl⟩) rfl hl.1 rfl (Nat.le_of_ble_eq_true rfl) dX2_warmthInAll_20 ⟨Nat.le_of_ble_eq_true rfl, Nat.le_of_ble_eq_true rfl⟩ (fun v_2 u H locs hp hM => ?_)
        obtain ⟨hv, hu⟩ := hp
        have hv := Eq.symm hv
        have hu := Eq.symm hu
        subst hv
        subst hu
        refine lv_iadd hx hb dX2_warmthInAll_23 ?_
        rw [show ((wsm X i) + (wm (V (b + 2 * i))) : Int32) = wsm X (i + 1) from congrArg (fun x => wsm X i + wm x) (hX i hi6)]
        refine lv_istore_n (lv' := [(1, .int (wsm X (i + 1))), (2, .int (nI i)), (0, .ref (sa S t))]) hx hb dX2_warmthInAll_24 rfl hl (by decide) rfl (fun ls hl => ?_)
        refine lv_iinc (v := nI (i + 1)) (lv' := [(2, .int (nI (i + 1))), (1, .int (wsm X (i + 1))), (0, .ref (sa S t))]) hx hb dX2_warmthInAll_25 hl (k := 1) rfl (nI_1 _) (by decide) rfl (fun ls hl => ?_)
        refine lv_goto (tgt := 4) hx hb dX2_warmthInAll_28 (by decide) ?_
        exact ih_4 (i + 1) (by omega) (by omega) _ _ hM ls (lv_sub hl [0, 1, 2] rfl)
  exact LP_4 _ 0 (by omega) (Nat.lt_succ_self _) _ _ hM ls (lv_sub hl [0, 1, 2] rfl)

abbrev rm_X2_warmthAt : Room := { frames := 2, cells := 0, slots := 0, locals := 46 }
set_option maxHeartbeats 4000000 in
set_option maxRecDepth 100000 in
theorem c_X2_warmthAt (D : va_G) (y : Nat → ClassId) (l : Launch) (S : fb_Sh) (V I : fb_V) (t b : Nat) (ht : TickAt S t b) (q : Nat) (hq : q < 36) : CI D y l yX2_warmthAt wsX2_warmthAt rm_X2_warmthAt [.ref (sa S t), .int (nI q)] (S, V, (sT V), I) (fun z u => z = wm (V (b + 2 * q)) ∧ u = (S, V, sT V, I)) 0 0 := by
  refine CI.of (cc := cX2_warmthAt) (maxL := 2) (ret := (some .int)) (by decide) rfl (Nat.le_of_ble_eq_true rfl) ?_
  intro pv ev s mv below meth cv A hx hb hml hr hown hts hlocks hname hM ls hl
  have hown : s.vm.findClass RX2 = some mv.cls := hown
  have hl : lv_has ls 2 [(0, .ref (sa S t)), (1, .int (nI q))] := hl
  have hin2 : ∀ x ∈ wsX20, x ∈ wsX2_warmthAt := by decide +kernel
  have hin0 : ∀ x ∈ wsX00, x ∈ wsX2_warmthAt := by decide +kernel
  obtain ⟨Q, hQ⟩ : ∃ Q, Q = MQ below (va_Qi (fun z u => z = wm (V (b + 2 * q)) ∧ u = (S, V, sT V, I)) (fun u t => fb_P D y A u t) A) (([.ref (sa S t), .int (nI q)] : List Value).toArray) s 0 0 A := ⟨_, rfl⟩
  rw [← hQ]
  refine lv_iload_n hx hb dX2_warmthAt_0 rfl (lv_at hl 1 rfl) ?_
  refine lv_if_lt (tgt := 25) hx hb dX2_warmthAt_1 (by decide) (fun c_1 => absurd c_1 (nI_pos (by omega))) (fun c_1 => ?_)
  refine lv_iload_n hx hb dX2_warmthAt_4 rfl (lv_at hl 1 rfl) ?_
  refine lv_aload_n hx hb dX2_warmthAt_5 rfl (lv_at hl 0 rfl) ?_
  refine fb_get (r := t) hx hb hown hts hin2 hM ((ht.1)) (ce2 ((ht.2.1))) rfl 4 (by decide) (hts (.fieldLink RX2 26 "FeatherBeds$Tick" "heaps" "[LFeatherBeds$Heap;") (by decide +kernel)) (fun _ h9 => h9) (v := .ref (sa S (t + 1))) (congrArg (fun z => some (va_rf z)) ((ht.2.2.1))) dX2_warmthAt_6 ?_
  refine fb_alen (r := (t + 1)) hx hb hM ((ht.2.2.2.2.2.1)) (ce8 ((ht.2.2.2.2.2.2.1))) 2 rfl (v := nI 36) (congrArg Int32.ofNat ((ht.2.2.2.2.2.2.2.1))) dX2_warmthAt_9 ?_
  refine lv_icmp_ge (tgt := 25) hx hb dX2_warmthAt_10 (by decide) (fun c_2 => absurd c_2 (nI_ge hq (by omega))) (fun c_2 => ?_)
  refine lv_aload_n hx hb dX2_warmthAt_13 rfl (lv_at hl 0 rfl) ?_
  refine fb_get (r := t) hx hb hown hts hin2 hM ((ht.1)) (ce2 ((ht.2.1))) rfl 4 (by decide) (hts (.fieldLink RX2 26 "FeatherBeds$Tick" "heaps" "[LFeatherBeds$Heap;") (by decide +kernel)) (fun _ h9 => h9) (v := .ref (sa S (t + 1))) (congrArg (fun z => some (va_rf z)) ((ht.2.2.1))) dX2_warmthAt_14 ?_
  refine lv_iload_n hx hb dX2_warmthAt_17 rfl (lv_at hl 1 rfl) ?_
  refine fb_aald (r := (t + 1)) hx hb hM ((ht.2.2.2.2.2.1)) (ce8 ((ht.2.2.2.2.2.2.1))) 2 rfl (k := q) (nI_clamp (by omega)) (b := sa S (b + 2 * q)) (((ht.2.2.2.2.2.2.2.2.2.2.2.2.2.2) q (by omega)).1) (by rw [(ht.2.2.2.2.2.2.2.1)]; exact vp_in_nI (by omega) (by omega)) dX2_warmthAt_18 ?_
  refine fb_callVi (r := (b + 2 * q)) hx hb hml hown hts hM ((((ht.2.2.2.2.2.2.2.2.2.2.2.2.2.2) q (by omega)).2).1) (ce0 ((((ht.2.2.2.2.2.2.2.2.2.2.2.2.2.2) q (by omega)).2).2.1)) rfl (As := []) (rest := []) (c_X0_warmth D y l S V I (b + 2 * q) (ht.hp hq)) (cwV 0 hts gX2_warmthAt_X0_warmth rfl rfl rfl (by decide +kernel) ⟨Nat.le_of_ble_eq_true rfl, Nat.le_of_ble_eq_true rfl⟩) rfl hl.1 rfl (Nat.le_of_ble_eq_true rfl) dX2_warmthAt_19 ⟨Nat.le_of_ble_eq_true rfl, Nat.le_of_ble_eq_true rfl⟩ (fun v_3 u H locs hp hM => ?_)
  obtain ⟨hv, hu⟩ := hp
  have hv := Eq.symm hv
  have hu := Eq.symm hu
  subst hv
  subst hu
  refine lv_goto (tgt := 26) hx hb dX2_warmthAt_22 (by decide) ?_
  rw [hQ]
  exact fb_iret hx hb hr hlocks hM (⟨rfl, rfl⟩) dX2_warmthAt_26

abbrev rm_X2_coldestSquare : Room := { frames := 3, cells := 0, slots := 0, locals := 67 }
set_option maxHeartbeats 4000000 in
set_option maxRecDepth 100000 in
theorem c_X2_coldestSquare (D : va_G) (y : Nat → ClassId) (l : Launch) (S : fb_Sh) (V I : fb_V) (t b c r d : Nat) (ht : TickAt S t b) (hf : TF I t c r d) (X : fb_V) (hX : ∀ q, q < 36 → V (b + 2 * q) = X q) : CI D y l yX2_coldestSquare wsX2_coldestSquare rm_X2_coldestSquare [.ref (sa S t)] (S, V, (sT V), I) (fun z u => z = nI (cld X (c * r)) ∧ u = (S, V, sT V, I)) 0 0 := by
  refine CI.of (cc := cX2_coldestSquare) (maxL := 3) (ret := (some .int)) (by decide) rfl (Nat.le_of_ble_eq_true rfl) ?_
  intro pv ev s mv below meth cv A hx hb hml hr hown hts hlocks hname hM ls hl
  have hown : s.vm.findClass RX2 = some mv.cls := hown
  have hl : lv_has ls 3 [(0, .ref (sa S t))] := hl
  have hin2 : ∀ x ∈ wsX20, x ∈ wsX2_coldestSquare := by decide +kernel
  obtain ⟨Q, hQ⟩ : ∃ Q, Q = MQ below (va_Qi (fun z u => z = nI (cld X (c * r)) ∧ u = (S, V, sT V, I)) (fun u t => fb_P D y A u t) A) (([.ref (sa S t)] : List Value).toArray) s 0 0 A := ⟨_, rfl⟩
  rw [← hQ]
  have hn := hf.le
  have hc1 : 1 ≤ c := hf.2.2.2.2.1
  have hc6 : c ≤ 6 := hf.2.2.2.2.2.1
  refine lv_iconst (v := 0) hx hb dX2_coldestSquare_0 (by decide) ?_
  refine lv_istore_n (lv' := [(1, .int 0), (0, .ref (sa S t))]) hx hb dX2_coldestSquare_1 rfl hl (by decide) rfl (fun ls hl => ?_)
  refine lv_iconst (v := 1) hx hb dX2_coldestSquare_2 (by decide) ?_
  refine lv_istore_n (lv' := [(2, .int 1), (1, .int 0), (0, .ref (sa S t))]) hx hb dX2_coldestSquare_3 rfl hl (by decide) rfl (fun ls hl => ?_)
  have LP_4 : ∀ (n : Nat) (i : Nat) (hi : i ≤ c * r) (hi1 : 1 ≤ i), c * r - i < n → ∀ (H : Heap) (locs : List Loc), fb_M D y A s (S, V, (sT V), I) H locs → ∀ ls, lv_has ls 3 [(2, .int (nI i)), (1, .int (nI (cld X i))), (0, .ref (sa S t))] → W pv l ev rm_X2_coldestSquare s mv ([.ref (sa S t)] : List Value).toArray below meth cv H locs 0 0 Q (F0 mv 4 ls []) := by
    intro n_4
    induction n_4 with
    | zero => intro i hi hi1 hmu; exact absurd hmu (Nat.not_lt_zero _)
    | succ n_4 ih_4 =>
      intro i hi hi1 hmu H locs hM ls hl
      refine lv_iload_n hx hb dX2_coldestSquare_4 rfl (lv_at hl 0 rfl) ?_
      refine lv_aload_n hx hb dX2_coldestSquare_5 rfl (lv_at hl 2 rfl) ?_
      refine fb_get (r := t) hx hb hown hts hin2 hM ((ht.1)) (ce2 ((ht.2.1))) rfl 3 (by decide) (hts (.fieldLink RX2 21 "FeatherBeds$Tick" "squares" "I") (by decide +kernel)) (fun _ h9 => h9) (v := .int (nI ((c * r)))) (congrArg (fun z => some (Value.int z)) (hf.2.2.2.1)) dX2_coldestSquare_6 ?_
      refine lv_icmp_ge (tgt := 33) hx hb dX2_coldestSquare_9 (by decide) (fun c_1 => ?_) (fun c_1 => ?_)
      · skip
        have e_i : i = c * r := by have := (nI_leI (a := c * r) (b := i) (by omega) (by omega)).mp c_1; omega
        subst e_i
        refine lv_iload_n hx hb dX2_coldestSquare_33 rfl (lv_at hl 1 rfl) ?_
        rw [hQ]
        exact fb_iret hx hb hr hlocks hM (⟨rfl, rfl⟩) dX2_coldestSquare_34
      · skip
        have hq : i < c * r := Nat.lt_of_not_le (fun z => c_1 (nI_le z (by omega)))
        have hcl := cld_lt X i
        refine lv_aload_n hx hb dX2_coldestSquare_12 rfl (lv_at hl 2 rfl) ?_
        refine lv_iload_n hx hb dX2_coldestSquare_13 rfl (lv_at hl 0 rfl) ?_
        refine fb_callVi (r := t) hx hb hml hown hts hM ((ht.1)) (ce2 ((ht.2.1))) rfl (As := [.int (nI i)]) (rest := []) (c_X2_warmthAt D y l S V I t b ht i (by omega)) (cwV 1 hts gX2_coldestSquare_X2_warmthAt rfl rfl rfl (by decide +kernel) ⟨Nat.le_of_ble_eq_true rfl, Nat.le_of_ble_eq_true rfl⟩) rfl hl.1 rfl (Nat.le_of_ble_eq_true rfl) dX2_coldestSquare_14 ⟨Nat.le_of_ble_eq_true rfl, Nat.le_of_ble_eq_true rfl⟩ (fun v_2 u H locs hp hM => ?_)
        obtain ⟨hv, hu⟩ := hp
        have hv := Eq.symm hv
        have hu := Eq.symm hu
        subst hv
        subst hu
        rw [show (wm (V (b + 2 * i)) : Int32) = wm (X i) from congrArg wm (hX _ (by omega))]
        refine lv_aload_n hx hb dX2_coldestSquare_17 rfl (lv_at hl 2 rfl) ?_
        refine lv_iload_n hx hb dX2_coldestSquare_18 rfl (lv_at hl 1 rfl) ?_
        refine fb_callVi (r := t) hx hb hml hown hts hM ((ht.1)) (ce2 ((ht.2.1))) rfl (As := [.int (nI (cld X i))]) (rest := [.int (wm (X i))]) (c_X2_warmthAt D y l S V I t b ht (cld X i) (by omega)) (cwV 1 hts gX2_coldestSquare_X2_warmthAt rfl rfl rfl (by decide +kernel) ⟨Nat.le_of_ble_eq_true rfl, Nat.le_of_ble_eq_true rfl⟩) rfl hl.1 rfl (Nat.le_of_ble_eq_true rfl) dX2_coldestSquare_19 ⟨Nat.le_of_ble_eq_true rfl, Nat.le_of_ble_eq_true rfl⟩ (fun v_3 u H locs hp hM => ?_)
        obtain ⟨hv, hu⟩ := hp
        have hv := Eq.symm hv
        have hu := Eq.symm hu
        subst hv
        subst hu
        rw [show (wm (V (b + 2 * (cld X i))) : Int32) = wm (X (cld X i)) from congrArg wm (hX _ (by omega))]
        refine lv_icmp_ge (tgt := 27) hx hb dX2_coldestSquare_22 (by decide) (fun c_4 => ?_) (fun c_4 => ?_)
        · skip
          have c_br := c_4
          refine lv_iinc (v := nI (i + 1)) (lv' := [(2, .int (nI (i + 1))), (1, .int (nI (cld X i))), (0, .ref (sa S t))]) hx hb dX2_coldestSquare_27 hl (k := 0) rfl (nI_1 _) (by decide) rfl (fun ls hl => ?_)
          refine lv_goto (tgt := 4) hx hb dX2_coldestSquare_30 (by decide) ?_
          have eF : nI (cld X i) = nI (cld X (i + 1)) := by show _ = nI (if wm (X (cld X i)) ≤ wm (X i) then cld X i else i); first | rw [if_pos c_br] | rw [if_neg c_br]
          rw [eF] at hl
          exact ih_4 (i + 1) (by omega) (by omega) (by omega) _ _ hM ls (lv_sub hl [0, 1, 2] rfl)
        · skip
          have c_br := c_4
          refine lv_iload_n hx hb dX2_coldestSquare_25 rfl (lv_at hl 0 rfl) ?_
          refine lv_istore_n (lv' := [(1, .int (nI i)), (2, .int (nI i)), (0, .ref (sa S t))]) hx hb dX2_coldestSquare_26 rfl hl (by decide) rfl (fun ls hl => ?_)
          refine lv_iinc (v := nI (i + 1)) (lv' := [(2, .int (nI (i + 1))), (1, .int (nI i)), (0, .ref (sa S t))]) hx hb dX2_coldestSquare_27 hl (k := 1) rfl (nI_1 _) (by decide) rfl (fun ls hl => ?_)
          refine lv_goto (tgt := 4) hx hb dX2_coldestSquare_30 (by decide) ?_
          have eF : nI i = nI (cld X (i + 1)) := by show _ = nI (if wm (X (cld X i)) ≤ wm (X i) then cld X i else i); first | rw [if_pos c_br] | rw [if_neg c_br]
          rw [eF] at hl
          exact ih_4 (i + 1) (by omega) (by omega) (by omega) _ _ hM ls (lv_sub hl [0, 1, 2] rfl)
  have e0 : (0 : Int32) = nI (cld X 1) := by rw [cld_1]; rfl
  rw [e0] at hl
  exact LP_4 _ 1 (by omega) (by omega) (Nat.lt_succ_self _) _ _ hM ls (lv_sub hl [0, 1, 2] rfl)

abbrev rm_X2_coldestWarmth : Room := { frames := 4, cells := 0, slots := 0, locals := 89 }
set_option maxHeartbeats 4000000 in
set_option maxRecDepth 100000 in
theorem c_X2_coldestWarmth (D : va_G) (y : Nat → ClassId) (l : Launch) (S : fb_Sh) (V I : fb_V) (t b c r d : Nat) (ht : TickAt S t b) (hf : TF I t c r d) (X : fb_V) (hX : ∀ q, q < 36 → V (b + 2 * q) = X q) : CI D y l yX2_coldestWarmth wsX2_coldestWarmth rm_X2_coldestWarmth [.ref (sa S t)] (S, V, (sT V), I) (fun z u => z = wm (X (cld X (c * r))) ∧ u = (S, V, sT V, I)) 0 0 := by
  refine CI.of (cc := cX2_coldestWarmth) (maxL := 1) (ret := (some .int)) (by decide) rfl (Nat.le_of_ble_eq_true rfl) ?_
  intro pv ev s mv below meth cv A hx hb hml hr hown hts hlocks hname hM ls hl
  have hown : s.vm.findClass RX2 = some mv.cls := hown
  have hl : lv_has ls 1 [(0, .ref (sa S t))] := hl
  have hin2 : ∀ x ∈ wsX20, x ∈ wsX2_coldestWarmth := by decide +kernel
  obtain ⟨Q, hQ⟩ : ∃ Q, Q = MQ below (va_Qi (fun z u => z = wm (X (cld X (c * r))) ∧ u = (S, V, sT V, I)) (fun u t => fb_P D y A u t) A) (([.ref (sa S t)] : List Value).toArray) s 0 0 A := ⟨_, rfl⟩
  rw [← hQ]
  have hn := hf.le
  have hc1 : 1 ≤ c := hf.2.2.2.2.1
  have hc6 : c ≤ 6 := hf.2.2.2.2.2.1
  have hcl := cld_lt X (c * r)
  refine lv_aload_n hx hb dX2_coldestWarmth_0 rfl (lv_at hl 0 rfl) ?_
  refine lv_aload_n hx hb dX2_coldestWarmth_1 rfl (lv_at hl 0 rfl) ?_
  refine fb_callVi (r := t) hx hb hml hown hts hM ((ht.1)) (ce2 ((ht.2.1))) rfl (As := []) (rest := [.ref (sa S t)]) (c_X2_coldestSquare D y l S V I t b c r d ht hf X hX) (cwV 0 hts gX2_coldestWarmth_X2_coldestSquare rfl rfl rfl (by decide +kernel) ⟨Nat.le_of_ble_eq_true rfl, Nat.le_of_ble_eq_true rfl⟩) rfl hl.1 rfl (Nat.le_of_ble_eq_true rfl) dX2_coldestWarmth_2 ⟨Nat.le_of_ble_eq_true rfl, Nat.le_of_ble_eq_true rfl⟩ (fun v_1 u H locs hp hM => ?_)
  obtain ⟨hv, hu⟩ := hp
  have hv := Eq.symm hv
  have hu := Eq.symm hu
  subst hv
  subst hu
  refine fb_callVi (r := t) hx hb hml hown hts hM ((ht.1)) (ce2 ((ht.2.1))) rfl (As := [.int (nI (cld X (c * r)))]) (rest := []) (c_X2_warmthAt D y l S V I t b ht (cld X (c * r)) (by omega)) (cwV 1 hts gX2_coldestWarmth_X2_warmthAt rfl rfl rfl (by decide +kernel) ⟨Nat.le_of_ble_eq_true rfl, Nat.le_of_ble_eq_true rfl⟩) rfl hl.1 rfl (Nat.le_of_ble_eq_true rfl) dX2_coldestWarmth_5 ⟨Nat.le_of_ble_eq_true rfl, Nat.le_of_ble_eq_true rfl⟩ (fun v_2 u H locs hp hM => ?_)
  obtain ⟨hv, hu⟩ := hp
  have hv := Eq.symm hv
  have hu := Eq.symm hu
  subst hv
  subst hu
  rw [show (wm (V (b + 2 * (cld X (c * r)))) : Int32) = wm (X (cld X (c * r))) from congrArg wm (hX _ (by omega))]
  rw [hQ]
  exact fb_iret hx hb hr hlocks hM (⟨rfl, rfl⟩) dX2_coldestWarmth_8
