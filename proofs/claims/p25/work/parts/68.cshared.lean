abbrev rm_X3_moveByHand : Room := { frames := 2, cells := 0, slots := 0, locals := 50 }
set_option maxHeartbeats 4000000 in
set_option maxRecDepth 100000 in
theorem c_X3_moveByHand (D : va_G) (y : Nat → ClassId) (l : Launch) (S : fb_Sh) (V I : fb_V) (h g : Nat) (hh : HeapAt S h) (hg : HeapAt S g) (hne : h ≠ g) (mm : Int32) : CI D y l yX3_moveByHand wsX3_moveByHand rm_X3_moveByHand [.ref (sa S h), .ref (sa S g), .int mm] (S, V, (sT V), I) (fun z u => z = mvm (V h) (mn mm (300 - s6 (V g))) 6 ∧ u = (S, (va_up (va_up V h (mva (V h) (mn mm (300 - s6 (V g))) 6)) g (mvb (V h) (V g) (mn mm (300 - s6 (V g))) 6)), sT (va_up (va_up V h (mva (V h) (mn mm (300 - s6 (V g))) 6)) g (mvb (V h) (V g) (mn mm (300 - s6 (V g))) 6)), I)) 0 0 := by
  refine CI.of (cc := cX3_moveByHand) (maxL := 3) (ret := (some .int)) (by decide) rfl (Nat.le_of_ble_eq_true rfl) ?_
  intro pv ev s mv below meth cv A hx hb hml hr hown hts hlocks hname hM ls hl
  have hown : s.vm.findClass RX3 = some mv.cls := hown
  have hl : lv_has ls 3 [(0, .ref (sa S h)), (1, .ref (sa S g)), (2, .int mm)] := hl
  have hin0 : ∀ x ∈ wsX00, x ∈ wsX3_moveByHand := by decide +kernel
  obtain ⟨Q, hQ⟩ : ∃ Q, Q = MQ below (va_Qi (fun z u => z = mvm (V h) (mn mm (300 - s6 (V g))) 6 ∧ u = (S, (va_up (va_up V h (mva (V h) (mn mm (300 - s6 (V g))) 6)) g (mvb (V h) (V g) (mn mm (300 - s6 (V g))) 6)), sT (va_up (va_up V h (mva (V h) (mn mm (300 - s6 (V g))) 6)) g (mvb (V h) (V g) (mn mm (300 - s6 (V g))) 6)), I)) (fun u t => fb_P D y A u t) A) (([.ref (sa S h), .ref (sa S g), .int mm] : List Value).toArray) s 0 0 A := ⟨_, rfl⟩
  rw [← hQ]
  refine lv_aload_n hx hb dX3_moveByHand_0 rfl (lv_at hl 0 rfl) ?_
  refine lv_aload_n hx hb dX3_moveByHand_1 rfl (lv_at hl 1 rfl) ?_
  refine lv_iload_n hx hb dX3_moveByHand_2 rfl (lv_at hl 2 rfl) ?_
  refine lv_sipush (v := 300) hx hb dX3_moveByHand_3 (by decide) ?_
  refine lv_aload_n hx hb dX3_moveByHand_6 rfl (lv_at hl 1 rfl) ?_
  refine fb_getN (r := g) hx hb hown hts hin0 hM ((hg).1) (ce0 ((hg).2.1)) rfl 1 (by decide) (host := "FeatherBeds") (by decide +kernel) (fun _ h9 => h9) (v := .int ((sT V) g)) rfl dX3_moveByHand_7 ?_
  refine lv_isub hx hb dX3_moveByHand_10 ?_
  refine va_mmin hx hb (hml.trans hl.1.symm) hown (hts (.methodLink RX3 106 Lib.Math.min.name) (by decide +kernel)) (hts (.static Lib.Math.min.name) (by decide +kernel)) (hts (.initialized "java/lang/Math") (by decide +kernel)) (hts (.code Lib.Math.min.name Lib.Math.min.code 2 (some .int)) (by decide +kernel)) (Nat.le_of_ble_eq_true rfl) (Nat.le_of_ble_eq_true rfl) (Nat.le_of_ble_eq_true rfl) (Nat.le_of_ble_eq_true rfl) dX3_moveByHand_11 ?_
  refine W.eq (g2 := F0 mv _ ls (.int ((mn mm (300 - s6 (V g)))) :: .ref (sa S g) :: .ref (sa S h) :: [])) (by first | rfl | rw [show (if 300 - ((sT V) g) < mm then 300 - ((sT V) g) else mm : Int32) = (mn mm (300 - s6 (V g))) from rfl]) ?_
  refine lv_bipush (v := 6) hx hb dX3_moveByHand_14 (by decide) ?_
  refine fb_callVi (r := h) hx hb hml hown hts hM ((hh).1) (ce0 ((hh).2.1)) rfl (As := [.ref (sa S g), .int ((mn mm (300 - s6 (V g)))), .int 6]) (rest := []) (c_X0_moveTo D y l S V I h g hh hg hne (mn mm (300 - s6 (V g))) 6 (by decide)) (cwV 3 hts gX3_moveByHand_X0_moveTo rfl rfl rfl (by decide +kernel) ⟨Nat.le_of_ble_eq_true rfl, Nat.le_of_ble_eq_true rfl⟩) rfl hl.1 rfl (Nat.le_of_ble_eq_true rfl) dX3_moveByHand_16 ⟨Nat.le_of_ble_eq_true rfl, Nat.le_of_ble_eq_true rfl⟩ (fun v_1 u_ H locs hp hM => ?_)
  obtain ⟨hv_, hu_⟩ := hp
  have hv_ := Eq.symm hv_
  have hu_ := Eq.symm hu_
  subst hv_
  subst hu_
  rw [hQ]
  exact fb_iret hx hb hr hlocks hM (⟨rfl, rfl⟩) dX3_moveByHand_19

abbrev rm_X3_inSacks : Room := { frames := 3, cells := 0, slots := 0, locals := 64 }
set_option maxHeartbeats 4000000 in
set_option maxRecDepth 100000 in
theorem c_X3_inSacks (D : va_G) (y : Nat → ClassId) (l : Launch) (S : fb_Sh) (V I : fb_V) (a1 ns nt es na : Nat) (hC : CpAt S a1 ns nt es na) (cf rf df : Nat → Nat) (hF : CF I ns nt cf rf df) : CI D y l yX3_inSacks wsX3_inSacks rm_X3_inSacks [.ref (sa S 0)] (S, V, (sT V), I) (fun z u => z = csum V 200 ns ∧ u = (S, V, sT V, I)) 0 0 := by
  refine CI.of (cc := cX3_inSacks) (maxL := 3) (ret := (some .int)) (by decide) rfl (Nat.le_of_ble_eq_true rfl) ?_
  intro pv ev s mv below meth cv A hx hb hml hr hown hts hlocks hname hM ls hl
  have hown : s.vm.findClass RX3 = some mv.cls := hown
  have hl : lv_has ls 3 [(0, .ref (sa S 0))] := hl
  have hin3 : ∀ x ∈ wsX30, x ∈ wsX3_inSacks := by decide +kernel
  have hin1 : ∀ x ∈ wsX10, x ∈ wsX3_inSacks := by decide +kernel
  have hin0 : ∀ x ∈ wsX00, x ∈ wsX3_inSacks := by decide +kernel
  obtain ⟨Q, hQ⟩ : ∃ Q, Q = MQ below (va_Qi (fun z u => z = csum V 200 ns ∧ u = (S, V, sT V, I)) (fun u t => fb_P D y A u t) A) (([.ref (sa S 0)] : List Value).toArray) s 0 0 A := ⟨_, rfl⟩
  rw [← hQ]
  have hns : ns ≤ 12 := hF.2.2.1
  have hnt : nt ≤ 6 := hF.2.2.2.1
  refine lv_iconst (v := 0) hx hb dX3_inSacks_0 (by decide) ?_
  refine lv_istore_n (lv' := [(1, .int 0), (0, .ref (sa S 0))]) hx hb dX3_inSacks_1 rfl hl (by decide) rfl (fun ls hl => ?_)
  refine lv_iconst (v := 0) hx hb dX3_inSacks_2 (by decide) ?_
  refine lv_istore_n (lv' := [(2, .int 0), (1, .int 0), (0, .ref (sa S 0))]) hx hb dX3_inSacks_3 rfl hl (by decide) rfl (fun ls hl => ?_)
  have LP_4 : ∀ (n : Nat) (i : Nat) (hi : i ≤ ns), ns - i < n → ∀ (H : Heap) (locs : List Loc), fb_M D y A s (S, V, (sT V), I) H locs → ∀ ls, lv_has ls 3 [(2, .int (nI i)), (1, .int (csum V 200 i)), (0, .ref (sa S 0))] → W pv l ev rm_X3_inSacks s mv ([.ref (sa S 0)] : List Value).toArray below meth cv H locs 0 0 Q (F0 mv 4 ls []) := by
    intro n_4
    induction n_4 with
    | zero => intro i hi hmu; exact absurd hmu (Nat.not_lt_zero _)
    | succ n_4 ih_4 =>
      intro i hi hmu H locs hM ls hl
      refine lv_iload_n hx hb dX3_inSacks_4 rfl (lv_at hl 0 rfl) ?_
      refine lv_aload_n hx hb dX3_inSacks_5 rfl (lv_at hl 2 rfl) ?_
      refine fb_get (r := 0) hx hb hown hts hin3 hM ((hC.1).1) (ce3 ((hC.1).2)) rfl 0 (by decide) (hts (.fieldLink RX3 12 "FeatherBeds" "sacks" "Ljava/util/ArrayList;") (by decide +kernel)) (fun _ h9 => h9) (v := .ref (sa S 1)) (congrArg (fun z => some (va_rf z)) ((hC.2.1).1)) dX3_inSacks_6 ?_
      refine fb_callVi (r := 1) hx hb hml hown hts hM ((hC.2.2.1).1) (ce5 ((hC.2.2.1).2)) rfl (As := []) (rest := [.int (nI i)]) (c_Jx4a65c_size_8abf5 D y l S V I 1 (hC.2.2.1).1 (hC.2.2.1).2) (cwV 0 hts gX3_inSacks_Jx4a65c_size_8abf5 rfl rfl rfl (by decide +kernel) ⟨Nat.le_of_ble_eq_true rfl, Nat.le_of_ble_eq_true rfl⟩) rfl hl.1 rfl (Nat.le_of_ble_eq_true rfl) dX3_inSacks_9 ⟨Nat.le_of_ble_eq_true rfl, Nat.le_of_ble_eq_true rfl⟩ (fun v_1 u_ H locs hp hM => ?_)
      obtain ⟨hv_, hu_⟩ := hp
      have hv_ := Eq.symm hv_
      have hu_ := Eq.symm hu_
      subst hv_
      subst hu_
      rw [show (I 1 2 : Int32) = nI ns from hF.1]
      refine lv_icmp_ge (tgt := 41) hx hb dX3_inSacks_12 (by decide) (fun c_2 => ?_) (fun c_2 => ?_)
      · skip
        have e_i : i = ns := by have := (nI_leI (a := ns) (b := i) (by omega) (by omega)).mp c_2; omega
        have e_i := Eq.symm e_i
        subst e_i
        refine lv_iload_n hx hb dX3_inSacks_41 rfl (lv_at hl 1 rfl) ?_
        rw [hQ]
        exact fb_iret hx hb hr hlocks hM (⟨rfl, rfl⟩) dX3_inSacks_42
      · skip
        have hik : i < ns := Nat.lt_of_not_le (fun h => c_2 (nI_le h (by omega)))
        refine lv_iload_n hx hb dX3_inSacks_15 rfl (lv_at hl 1 rfl) ?_
        refine lv_aload_n hx hb dX3_inSacks_16 rfl (lv_at hl 2 rfl) ?_
        refine fb_get (r := 0) hx hb hown hts hin3 hM ((hC.1).1) (ce3 ((hC.1).2)) rfl 0 (by decide) (hts (.fieldLink RX3 12 "FeatherBeds" "sacks" "Ljava/util/ArrayList;") (by decide +kernel)) (fun _ h9 => h9) (v := .ref (sa S 1)) (congrArg (fun z => some (va_rf z)) ((hC.2.1).1)) dX3_inSacks_17 ?_
        refine lv_iload_n hx hb dX3_inSacks_20 rfl (lv_at hl 0 rfl) ?_
        refine fb_callVr (r := 1) hx hb hml hown hts hM ((hC.2.2.1).1) (ce5 ((hC.2.2.1).2)) rfl (As := [.int (nI i)]) (rest := [.int (csum V 200 i)]) (c_Jx4a65c_get_915e3 D y l S V I 1 es na (hC.l1 hik).1 ns i (10 + i) hik (hC.l1 hik).2.1 (hC.l1 hik).2.2 ((hC.2.2.2.2.2.2.2.1) i hik).1 hF.1) (cwV 1 hts gX3_inSacks_Jx4a65c_get_915e3 rfl rfl rfl (by decide +kernel) ⟨Nat.le_of_ble_eq_true rfl, Nat.le_of_ble_eq_true rfl⟩) rfl hl.1 rfl (Nat.le_of_ble_eq_true rfl) dX3_inSacks_21 ⟨Nat.le_of_ble_eq_true rfl, Nat.le_of_ble_eq_true rfl⟩ (fun v_3 u_ H locs hp hM => ?_)
        obtain ⟨hv_, hu_⟩ := hp
        have hv_ := Eq.symm hv_
        have hu_ := Eq.symm hu_
        subst hv_
        subst hu_
        refine fb_castS (q := (RX1, TX1, 2)) hx hb hown (hts (.classLink RX3 53 "FeatherBeds$Sack") (by decide +kernel)) hM (r := 10 + i) (hC.sk hik).1 (ce1 (hC.sk hik).2.1) rfl dX3_inSacks_24 ?_
        refine fb_getN (r := (10 + i)) hx hb hown hts hin1 hM ((hC.sk hik).1) (ce1 ((hC.sk hik).2.1)) rfl 0 (by decide) (host := "FeatherBeds") (by decide +kernel) (fun _ h9 => h9) (v := .ref (sa S (200 + 2 * i))) (congrArg (fun z => some (va_rf z)) ((hC.sk hik).2.2.1)) dX3_inSacks_27 ?_
        refine fb_getN (r := (200 + 2 * i)) hx hb hown hts hin0 hM (((hC.sk hik).2.2.2).1) (ce0 (((hC.sk hik).2.2.2).2.1)) rfl 1 (by decide) (host := "FeatherBeds") (by decide +kernel) (fun _ h9 => h9) (v := .int ((sT V) (200 + 2 * i))) rfl dX3_inSacks_30 ?_
        refine lv_iadd hx hb dX3_inSacks_33 ?_
        refine lv_istore_n (lv' := [(1, .int ((csum V 200 i) + ((sT V) (200 + 2 * i)))), (2, .int (nI i)), (0, .ref (sa S 0))]) hx hb dX3_inSacks_34 rfl hl (by decide) rfl (fun ls hl => ?_)
        refine lv_iinc (v := nI (i + 1)) (lv' := [(2, .int (nI (i + 1))), (1, .int ((csum V 200 i) + ((sT V) (200 + 2 * i)))), (0, .ref (sa S 0))]) hx hb dX3_inSacks_35 hl (k := 1) rfl (nI_1 _) (by decide) rfl (fun ls hl => ?_)
        refine lv_goto (tgt := 4) hx hb dX3_inSacks_38 (by decide) ?_
        exact ih_4 (i + 1) (by omega) (by omega) _ _ hM ls (lv_sub hl [0, 1, 2] rfl)
  exact LP_4 _ 0 (by omega) (Nat.lt_succ_self _) _ _ hM ls (lv_sub hl [0, 1, 2] rfl)

abbrev rm_X3_inChambers : Room := { frames := 0, cells := 0, slots := 0, locals := 0 }
set_option maxHeartbeats 4000000 in
set_option maxRecDepth 100000 in
theorem c_X3_inChambers (D : va_G) (y : Nat → ClassId) (l : Launch) (S : fb_Sh) (V I : fb_V) (a1 ns nt es na : Nat) (hC : CpAt S a1 ns nt es na) (cf rf df : Nat → Nat) (hF : CF I ns nt cf rf df) : CI D y l yX3_inChambers wsX3_inChambers rm_X3_inChambers [.ref (sa S 0)] (S, V, (sT V), I) (fun z u => z = csum V 100 5 ∧ u = (S, V, sT V, I)) 0 0 := by
  refine CI.of (cc := cX3_inChambers) (maxL := 3) (ret := (some .int)) (by decide) rfl (Nat.le_of_ble_eq_true rfl) ?_
  intro pv ev s mv below meth cv A hx hb hml hr hown hts hlocks hname hM ls hl
  have hown : s.vm.findClass RX3 = some mv.cls := hown
  have hl : lv_has ls 3 [(0, .ref (sa S 0))] := hl
  have hin3 : ∀ x ∈ wsX30, x ∈ wsX3_inChambers := by decide +kernel
  have hin0 : ∀ x ∈ wsX00, x ∈ wsX3_inChambers := by decide +kernel
  obtain ⟨Q, hQ⟩ : ∃ Q, Q = MQ below (va_Qi (fun z u => z = csum V 100 5 ∧ u = (S, V, sT V, I)) (fun u t => fb_P D y A u t) A) (([.ref (sa S 0)] : List Value).toArray) s 0 0 A := ⟨_, rfl⟩
  rw [← hQ]
  have hns : ns ≤ 12 := hF.2.2.1
  have hnt : nt ≤ 6 := hF.2.2.2.1
  refine lv_iconst (v := 0) hx hb dX3_inChambers_0 (by decide) ?_
  refine lv_istore_n (lv' := [(1, .int 0), (0, .ref (sa S 0))]) hx hb dX3_inChambers_1 rfl hl (by decide) rfl (fun ls hl => ?_)
  refine lv_iconst (v := 0) hx hb dX3_inChambers_2 (by decide) ?_
  refine lv_istore_n (lv' := [(2, .int 0), (1, .int 0), (0, .ref (sa S 0))]) hx hb dX3_inChambers_3 rfl hl (by decide) rfl (fun ls hl => ?_)
  have LP_4 : ∀ (n : Nat) (c : Nat) (hc : c ≤ 5), 5 - c < n → ∀ (H : Heap) (locs : List Loc), fb_M D y A s (S, V, (sT V), I) H locs → ∀ ls, lv_has ls 3 [(2, .int (nI c)), (1, .int (csum V 100 c)), (0, .ref (sa S 0))] → W pv l ev rm_X3_inChambers s mv ([.ref (sa S 0)] : List Value).toArray below meth cv H locs 0 0 Q (F0 mv 4 ls []) := by
    intro n_4
    induction n_4 with
    | zero => intro c hc hmu; exact absurd hmu (Nat.not_lt_zero _)
    | succ n_4 ih_4 =>
      intro c hc hmu H locs hM ls hl
      refine lv_iload_n hx hb dX3_inChambers_4 rfl (lv_at hl 0 rfl) ?_
      refine lv_aload_n hx hb dX3_inChambers_5 rfl (lv_at hl 2 rfl) ?_
      refine fb_get (r := 0) hx hb hown hts hin3 hM ((hC.1).1) (ce3 ((hC.1).2)) rfl 2 (by decide) (hts (.fieldLink RX3 21 "FeatherBeds" "chambers" "[LFeatherBeds$Heap;") (by decide +kernel)) (fun _ h9 => h9) (v := .ref (sa S 3)) (congrArg (fun z => some (va_rf z)) ((hC.2.1).2.2.1)) dX3_inChambers_6 ?_
      refine fb_alen (r := 3) hx hb hM ((hC.2.2.2.2.1).1.1) (ce8 ((hC.2.2.2.2.1).1.2.1)) 2 rfl (v := nI 5) (congrArg Int32.ofNat ((hC.2.2.2.2.1).1.2.2)) dX3_inChambers_9 ?_
      refine lv_icmp_ge (tgt := 31) hx hb dX3_inChambers_10 (by decide) (fun c_1 => ?_) (fun c_1 => ?_)
      · skip
        have e_c : c = 5 := by have := (nI_leI (a := 5) (b := c) (by omega) (by omega)).mp c_1; omega
        have e_c := Eq.symm e_c
        subst e_c
        refine lv_iload_n hx hb dX3_inChambers_31 rfl (lv_at hl 1 rfl) ?_
        rw [hQ]
        exact fb_iret hx hb hr hlocks hM (⟨rfl, rfl⟩) dX3_inChambers_32
      · skip
        have hck : c < 5 := Nat.lt_of_not_le (fun h => c_1 (nI_le h (by omega)))
        refine lv_iload_n hx hb dX3_inChambers_13 rfl (lv_at hl 1 rfl) ?_
        refine lv_aload_n hx hb dX3_inChambers_14 rfl (lv_at hl 2 rfl) ?_
        refine fb_get (r := 0) hx hb hown hts hin3 hM ((hC.1).1) (ce3 ((hC.1).2)) rfl 2 (by decide) (hts (.fieldLink RX3 21 "FeatherBeds" "chambers" "[LFeatherBeds$Heap;") (by decide +kernel)) (fun _ h9 => h9) (v := .ref (sa S 3)) (congrArg (fun z => some (va_rf z)) ((hC.2.1).2.2.1)) dX3_inChambers_15 ?_
        refine lv_iload_n hx hb dX3_inChambers_18 rfl (lv_at hl 0 rfl) ?_
        refine fb_aald (r := 3) hx hb hM ((hC.2.2.2.2.1).1.1) (ce8 ((hC.2.2.2.2.1).1.2.1)) 2 rfl (k := c) (nI_clamp (by omega)) (b := sa S (100 + 2 * c)) (((hC.2.2.2.2.1).2 c (by omega)).1) (by rw [(hC.2.2.2.2.1).1.2.2]; exact vp_in_nI (by omega) (by omega)) dX3_inChambers_19 ?_
        refine fb_getN (r := (100 + 2 * c)) hx hb hown hts hin0 hM ((((hC.2.2.2.2.1).2 c (by omega)).2).1) (ce0 ((((hC.2.2.2.2.1).2 c (by omega)).2).2.1)) rfl 1 (by decide) (host := "FeatherBeds") (by decide +kernel) (fun _ h9 => h9) (v := .int ((sT V) (100 + 2 * c))) rfl dX3_inChambers_20 ?_
        refine lv_iadd hx hb dX3_inChambers_23 ?_
        refine lv_istore_n (lv' := [(1, .int ((csum V 100 c) + ((sT V) (100 + 2 * c)))), (2, .int (nI c)), (0, .ref (sa S 0))]) hx hb dX3_inChambers_24 rfl hl (by decide) rfl (fun ls hl => ?_)
        refine lv_iinc (v := nI (c + 1)) (lv' := [(2, .int (nI (c + 1))), (1, .int ((csum V 100 c) + ((sT V) (100 + 2 * c)))), (0, .ref (sa S 0))]) hx hb dX3_inChambers_25 hl (k := 1) rfl (nI_1 _) (by decide) rfl (fun ls hl => ?_)
        refine lv_goto (tgt := 4) hx hb dX3_inChambers_28 (by decide) ?_
        exact ih_4 (c + 1) (by omega) (by omega) _ _ hM ls (lv_sub hl [0, 1, 2] rfl)
  exact LP_4 _ 0 (by omega) (Nat.lt_succ_self _) _ _ hM ls (lv_sub hl [0, 1, 2] rfl)

abbrev rm_X3_inTicks : Room := { frames := 3, cells := 0, slots := 0, locals := 64 }
set_option maxHeartbeats 4000000 in
set_option maxRecDepth 100000 in
theorem c_X3_inTicks (D : va_G) (y : Nat → ClassId) (l : Launch) (S : fb_Sh) (V I : fb_V) (a1 ns nt es na : Nat) (hC : CpAt S a1 ns nt es na) (cf rf df : Nat → Nat) (hF : CF I ns nt cf rf df) : CI D y l yX3_inTicks wsX3_inTicks rm_X3_inTicks [.ref (sa S 0)] (S, V, (sT V), I) (fun z u => z = tsum V nt ∧ u = (S, V, sT V, I)) 0 0 := by
  refine CI.of (cc := cX3_inTicks) (maxL := 3) (ret := (some .int)) (by decide) rfl (Nat.le_of_ble_eq_true rfl) ?_
  intro pv ev s mv below meth cv A hx hb hml hr hown hts hlocks hname hM ls hl
  have hown : s.vm.findClass RX3 = some mv.cls := hown
  have hl : lv_has ls 3 [(0, .ref (sa S 0))] := hl
  have hin3 : ∀ x ∈ wsX30, x ∈ wsX3_inTicks := by decide +kernel
  obtain ⟨Q, hQ⟩ : ∃ Q, Q = MQ below (va_Qi (fun z u => z = tsum V nt ∧ u = (S, V, sT V, I)) (fun u t => fb_P D y A u t) A) (([.ref (sa S 0)] : List Value).toArray) s 0 0 A := ⟨_, rfl⟩
  rw [← hQ]
  have hns : ns ≤ 12 := hF.2.2.1
  have hnt : nt ≤ 6 := hF.2.2.2.1
  refine lv_iconst (v := 0) hx hb dX3_inTicks_0 (by decide) ?_
  refine lv_istore_n (lv' := [(1, .int 0), (0, .ref (sa S 0))]) hx hb dX3_inTicks_1 rfl hl (by decide) rfl (fun ls hl => ?_)
  refine lv_iconst (v := 0) hx hb dX3_inTicks_2 (by decide) ?_
  refine lv_istore_n (lv' := [(2, .int 0), (1, .int 0), (0, .ref (sa S 0))]) hx hb dX3_inTicks_3 rfl hl (by decide) rfl (fun ls hl => ?_)
  have LP_4 : ∀ (n : Nat) (t : Nat) (ht : t ≤ nt), nt - t < n → ∀ (H : Heap) (locs : List Loc), fb_M D y A s (S, V, (sT V), I) H locs → ∀ ls, lv_has ls 3 [(2, .int (nI t)), (1, .int (tsum V t)), (0, .ref (sa S 0))] → W pv l ev rm_X3_inTicks s mv ([.ref (sa S 0)] : List Value).toArray below meth cv H locs 0 0 Q (F0 mv 4 ls []) := by
    intro n_4
    induction n_4 with
    | zero => intro t ht hmu; exact absurd hmu (Nat.not_lt_zero _)
    | succ n_4 ih_4 =>
      intro t ht hmu H locs hM ls hl
      refine lv_iload_n hx hb dX3_inTicks_4 rfl (lv_at hl 0 rfl) ?_
      refine lv_aload_n hx hb dX3_inTicks_5 rfl (lv_at hl 2 rfl) ?_
      refine fb_get (r := 0) hx hb hown hts hin3 hM ((hC.1).1) (ce3 ((hC.1).2)) rfl 1 (by decide) (hts (.fieldLink RX3 16 "FeatherBeds" "ticks" "Ljava/util/ArrayList;") (by decide +kernel)) (fun _ h9 => h9) (v := .ref (sa S 2)) (congrArg (fun z => some (va_rf z)) ((hC.2.1).2.1)) dX3_inTicks_6 ?_
      refine fb_callVi (r := 2) hx hb hml hown hts hM ((hC.2.2.2.1).1) (ce5 ((hC.2.2.2.1).2)) rfl (As := []) (rest := [.int (nI t)]) (c_Jx4a65c_size_8abf5 D y l S V I 2 (hC.2.2.2.1).1 (hC.2.2.2.1).2) (cwV 0 hts gX3_inTicks_Jx4a65c_size_8abf5 rfl rfl rfl (by decide +kernel) ⟨Nat.le_of_ble_eq_true rfl, Nat.le_of_ble_eq_true rfl⟩) rfl hl.1 rfl (Nat.le_of_ble_eq_true rfl) dX3_inTicks_9 ⟨Nat.le_of_ble_eq_true rfl, Nat.le_of_ble_eq_true rfl⟩ (fun v_1 u_ H locs hp hM => ?_)
      obtain ⟨hv_, hu_⟩ := hp
      have hv_ := Eq.symm hv_
      have hu_ := Eq.symm hu_
      subst hv_
      subst hu_
      rw [show (I 2 2 : Int32) = nI nt from hF.2.1]
      refine lv_icmp_ge (tgt := 38) hx hb dX3_inTicks_12 (by decide) (fun c_2 => ?_) (fun c_2 => ?_)
      · skip
        have e_t : t = nt := by have := (nI_leI (a := nt) (b := t) (by omega) (by omega)).mp c_2; omega
        have e_t := Eq.symm e_t
        subst e_t
        refine lv_iload_n hx hb dX3_inTicks_38 rfl (lv_at hl 1 rfl) ?_
        rw [hQ]
        exact fb_iret hx hb hr hlocks hM (⟨rfl, rfl⟩) dX3_inTicks_39
      · skip
        have htk : t < nt := Nat.lt_of_not_le (fun h => c_2 (nI_le h (by omega)))
        refine lv_iload_n hx hb dX3_inTicks_15 rfl (lv_at hl 1 rfl) ?_
        refine lv_aload_n hx hb dX3_inTicks_16 rfl (lv_at hl 2 rfl) ?_
        refine fb_get (r := 0) hx hb hown hts hin3 hM ((hC.1).1) (ce3 ((hC.1).2)) rfl 1 (by decide) (hts (.fieldLink RX3 16 "FeatherBeds" "ticks" "Ljava/util/ArrayList;") (by decide +kernel)) (fun _ h9 => h9) (v := .ref (sa S 2)) (congrArg (fun z => some (va_rf z)) ((hC.2.1).2.1)) dX3_inTicks_17 ?_
        refine lv_iload_n hx hb dX3_inTicks_20 rfl (lv_at hl 0 rfl) ?_
        refine fb_callVr (r := 2) hx hb hml hown hts hM ((hC.2.2.2.1).1) (ce5 ((hC.2.2.2.1).2)) rfl (As := [.int (nI t)]) (rest := [.int (tsum V t)]) (c_Jx4a65c_get_915e3 D y l S V I 2 5 10 (hC.l2 htk) nt t (30 + 4 * t) htk (by omega) (by omega) ((hC.2.2.2.2.2.2.2.2.2) t htk).1 hF.2.1) (cwV 1 hts gX3_inTicks_Jx4a65c_get_915e3 rfl rfl rfl (by decide +kernel) ⟨Nat.le_of_ble_eq_true rfl, Nat.le_of_ble_eq_true rfl⟩) rfl hl.1 rfl (Nat.le_of_ble_eq_true rfl) dX3_inTicks_21 ⟨Nat.le_of_ble_eq_true rfl, Nat.le_of_ble_eq_true rfl⟩ (fun v_3 u_ H locs hp hM => ?_)
        obtain ⟨hv_, hu_⟩ := hp
        have hv_ := Eq.symm hv_
        have hu_ := Eq.symm hu_
        subst hv_
        subst hu_
        refine fb_castS (q := (RX2, TX2, 7)) hx hb hown (hts (.classLink RX3 26 "FeatherBeds$Tick") (by decide +kernel)) hM (r := 30 + 4 * t) (hC.tk htk).1 (ce2 (hC.tk htk).2.1) rfl dX3_inTicks_24 ?_
        refine fb_callVi (r := (30 + 4 * t)) hx hb hml hown hts hM (((hC.tk htk).1)) (ce2 (((hC.tk htk).2.1))) rfl (As := []) (rest := [.int (tsum V t)]) (c_X2_feathers D y l S V I (30 + 4 * t) (300 + 72 * t) (hC.tk htk) (tv V (300 + 72 * t)) (fun _ _ => rfl)) (cwV 0 hts gX3_inTicks_X2_feathers rfl rfl rfl (by decide +kernel) ⟨Nat.le_of_ble_eq_true rfl, Nat.le_of_ble_eq_true rfl⟩) rfl hl.1 rfl (Nat.le_of_ble_eq_true rfl) dX3_inTicks_27 ⟨Nat.le_of_ble_eq_true rfl, Nat.le_of_ble_eq_true rfl⟩ (fun v_4 u_ H locs hp hM => ?_)
        obtain ⟨hv_, hu_⟩ := hp
        have hv_ := Eq.symm hv_
        have hu_ := Eq.symm hu_
        subst hv_
        subst hu_
        refine lv_iadd hx hb dX3_inTicks_30 ?_
        refine lv_istore_n (lv' := [(1, .int ((tsum V t) + (fsum (tv V (300 + 72 * t)) 36))), (2, .int (nI t)), (0, .ref (sa S 0))]) hx hb dX3_inTicks_31 rfl hl (by decide) rfl (fun ls hl => ?_)
        refine lv_iinc (v := nI (t + 1)) (lv' := [(2, .int (nI (t + 1))), (1, .int ((tsum V t) + (fsum (tv V (300 + 72 * t)) 36))), (0, .ref (sa S 0))]) hx hb dX3_inTicks_32 hl (k := 1) rfl (nI_1 _) (by decide) rfl (fun ls hl => ?_)
        refine lv_goto (tgt := 4) hx hb dX3_inTicks_35 (by decide) ?_
        exact ih_4 (t + 1) (by omega) (by omega) _ _ hM ls (lv_sub hl [0, 1, 2] rfl)
  exact LP_4 _ 0 (by omega) (Nat.lt_succ_self _) _ _ hM ls (lv_sub hl [0, 1, 2] rfl)

abbrev rm_X3_countTells : Room := { frames := 4, cells := 0, slots := 0, locals := 86 }
set_option maxHeartbeats 4000000 in
set_option maxRecDepth 100000 in
theorem c_X3_countTells_0 (D : va_G) (y : Nat → ClassId) (l : Launch) (S : fb_Sh) (V I : fb_V) (a1 ns nt es na : Nat) (hC : CpAt S a1 ns nt es na) (cf rf df : Nat → Nat) (hF : CF I ns nt cf rf df) : CI D y l yX3_countTells wsX3_countTells rm_X3_countTells [.ref (sa S 0), .int 0] (S, V, (sT V), I) (fun z u => z = cnc V I ns nt 0 ∧ u = (S, V, sT V, I)) 0 0 := by
  refine CI.of (cc := cX3_countTells) (maxL := 2) (ret := (some .int)) (by decide) rfl (Nat.le_of_ble_eq_true rfl) ?_
  intro pv ev s mv below meth cv A hx hb hml hr hown hts hlocks hname hM ls hl
  have hown : s.vm.findClass RX3 = some mv.cls := hown
  have hl : lv_has ls 2 [(0, .ref (sa S 0)), (1, .int 0)] := hl
  have hin3 : ∀ x ∈ wsX30, x ∈ wsX3_countTells := by decide +kernel
  obtain ⟨Q, hQ⟩ : ∃ Q, Q = MQ below (va_Qi (fun z u => z = cnc V I ns nt 0 ∧ u = (S, V, sT V, I)) (fun u t => fb_P D y A u t) A) (([.ref (sa S 0), .int 0] : List Value).toArray) s 0 0 A := ⟨_, rfl⟩
  rw [← hQ]
  have hns : ns ≤ 12 := hF.2.2.1
  have hnt : nt ≤ 6 := hF.2.2.2.1
  refine lv_iload_n hx hb dX3_countTells_0 rfl (lv_at hl 1 rfl) ?_
  refine lv_tableIn (off := 47) (tgt := 48) hx hb dX3_countTells_1 (by decide) (by decide) rfl (by decide) ?_
  refine lv_aload_n hx hb dX3_countTells_48 rfl (lv_at hl 0 rfl) ?_
  refine fb_get (r := 0) hx hb hown hts hin3 hM ((hC.1).1) (ce3 ((hC.1).2)) rfl 5 (by decide) (hts (.fieldLink RX3 161 "FeatherBeds" "nightsGone" "I") (by decide +kernel)) (fun _ h9 => h9) (v := .int (I 0 5)) rfl dX3_countTells_49 ?_
  rw [hQ]
  exact fb_iret hx hb hr hlocks hM (⟨rfl, rfl⟩) dX3_countTells_52

set_option maxHeartbeats 4000000 in
set_option maxRecDepth 100000 in
theorem c_X3_countTells_1 (D : va_G) (y : Nat → ClassId) (l : Launch) (S : fb_Sh) (V I : fb_V) (a1 ns nt es na : Nat) (hC : CpAt S a1 ns nt es na) (cf rf df : Nat → Nat) (hF : CF I ns nt cf rf df) : CI D y l yX3_countTells wsX3_countTells rm_X3_countTells [.ref (sa S 0), .int 1] (S, V, (sT V), I) (fun z u => z = cnc V I ns nt 1 ∧ u = (S, V, sT V, I)) 0 0 := by
  refine CI.of (cc := cX3_countTells) (maxL := 2) (ret := (some .int)) (by decide) rfl (Nat.le_of_ble_eq_true rfl) ?_
  intro pv ev s mv below meth cv A hx hb hml hr hown hts hlocks hname hM ls hl
  have hown : s.vm.findClass RX3 = some mv.cls := hown
  have hl : lv_has ls 2 [(0, .ref (sa S 0)), (1, .int 1)] := hl
  have hin3 : ∀ x ∈ wsX30, x ∈ wsX3_countTells := by decide +kernel
  obtain ⟨Q, hQ⟩ : ∃ Q, Q = MQ below (va_Qi (fun z u => z = cnc V I ns nt 1 ∧ u = (S, V, sT V, I)) (fun u t => fb_P D y A u t) A) (([.ref (sa S 0), .int 1] : List Value).toArray) s 0 0 A := ⟨_, rfl⟩
  rw [← hQ]
  have hns : ns ≤ 12 := hF.2.2.1
  have hnt : nt ≤ 6 := hF.2.2.2.1
  refine lv_iload_n hx hb dX3_countTells_0 rfl (lv_at hl 1 rfl) ?_
  refine lv_tableIn (off := 52) (tgt := 53) hx hb dX3_countTells_1 (by decide) (by decide) rfl (by decide) ?_
  refine lv_aload_n hx hb dX3_countTells_53 rfl (lv_at hl 0 rfl) ?_
  refine fb_get (r := 0) hx hb hown hts hin3 hM ((hC.1).1) (ce3 ((hC.1).2)) rfl 0 (by decide) (hts (.fieldLink RX3 12 "FeatherBeds" "sacks" "Ljava/util/ArrayList;") (by decide +kernel)) (fun _ h9 => h9) (v := .ref (sa S 1)) (congrArg (fun z => some (va_rf z)) ((hC.2.1).1)) dX3_countTells_54 ?_
  refine fb_callVi (r := 1) hx hb hml hown hts hM ((hC.2.2.1).1) (ce5 ((hC.2.2.1).2)) rfl (As := []) (rest := []) (c_Jx4a65c_size_8abf5 D y l S V I 1 (hC.2.2.1).1 (hC.2.2.1).2) (cwV 0 hts gX3_countTells_Jx4a65c_size_8abf5 rfl rfl rfl (by decide +kernel) ⟨Nat.le_of_ble_eq_true rfl, Nat.le_of_ble_eq_true rfl⟩) rfl hl.1 rfl (Nat.le_of_ble_eq_true rfl) dX3_countTells_57 ⟨Nat.le_of_ble_eq_true rfl, Nat.le_of_ble_eq_true rfl⟩ (fun v_1 u_ H locs hp hM => ?_)
  obtain ⟨hv_, hu_⟩ := hp
  have hv_ := Eq.symm hv_
  have hu_ := Eq.symm hu_
  subst hv_
  subst hu_
  rw [show (I 1 2 : Int32) = nI ns from hF.1]
  rw [hQ]
  exact fb_iret hx hb hr hlocks hM (⟨rfl, rfl⟩) dX3_countTells_60

set_option maxHeartbeats 4000000 in
set_option maxRecDepth 100000 in
theorem c_X3_countTells_2 (D : va_G) (y : Nat → ClassId) (l : Launch) (S : fb_Sh) (V I : fb_V) (a1 ns nt es na : Nat) (hC : CpAt S a1 ns nt es na) (cf rf df : Nat → Nat) (hF : CF I ns nt cf rf df) : CI D y l yX3_countTells wsX3_countTells rm_X3_countTells [.ref (sa S 0), .int 2] (S, V, (sT V), I) (fun z u => z = cnc V I ns nt 2 ∧ u = (S, V, sT V, I)) 0 0 := by
  refine CI.of (cc := cX3_countTells) (maxL := 2) (ret := (some .int)) (by decide) rfl (Nat.le_of_ble_eq_true rfl) ?_
  intro pv ev s mv below meth cv A hx hb hml hr hown hts hlocks hname hM ls hl
  have hown : s.vm.findClass RX3 = some mv.cls := hown
  have hl : lv_has ls 2 [(0, .ref (sa S 0)), (1, .int 2)] := hl
  have hin3 : ∀ x ∈ wsX30, x ∈ wsX3_countTells := by decide +kernel
  obtain ⟨Q, hQ⟩ : ∃ Q, Q = MQ below (va_Qi (fun z u => z = cnc V I ns nt 2 ∧ u = (S, V, sT V, I)) (fun u t => fb_P D y A u t) A) (([.ref (sa S 0), .int 2] : List Value).toArray) s 0 0 A := ⟨_, rfl⟩
  rw [← hQ]
  have hns : ns ≤ 12 := hF.2.2.1
  have hnt : nt ≤ 6 := hF.2.2.2.1
  refine lv_iload_n hx hb dX3_countTells_0 rfl (lv_at hl 1 rfl) ?_
  refine lv_tableIn (off := 60) (tgt := 61) hx hb dX3_countTells_1 (by decide) (by decide) rfl (by decide) ?_
  refine lv_aload_n hx hb dX3_countTells_61 rfl (lv_at hl 0 rfl) ?_
  refine fb_get (r := 0) hx hb hown hts hin3 hM ((hC.1).1) (ce3 ((hC.1).2)) rfl 1 (by decide) (hts (.fieldLink RX3 16 "FeatherBeds" "ticks" "Ljava/util/ArrayList;") (by decide +kernel)) (fun _ h9 => h9) (v := .ref (sa S 2)) (congrArg (fun z => some (va_rf z)) ((hC.2.1).2.1)) dX3_countTells_62 ?_
  refine fb_callVi (r := 2) hx hb hml hown hts hM ((hC.2.2.2.1).1) (ce5 ((hC.2.2.2.1).2)) rfl (As := []) (rest := []) (c_Jx4a65c_size_8abf5 D y l S V I 2 (hC.2.2.2.1).1 (hC.2.2.2.1).2) (cwV 0 hts gX3_countTells_Jx4a65c_size_8abf5 rfl rfl rfl (by decide +kernel) ⟨Nat.le_of_ble_eq_true rfl, Nat.le_of_ble_eq_true rfl⟩) rfl hl.1 rfl (Nat.le_of_ble_eq_true rfl) dX3_countTells_65 ⟨Nat.le_of_ble_eq_true rfl, Nat.le_of_ble_eq_true rfl⟩ (fun v_1 u_ H locs hp hM => ?_)
  obtain ⟨hv_, hu_⟩ := hp
  have hv_ := Eq.symm hv_
  have hu_ := Eq.symm hu_
  subst hv_
  subst hu_
  rw [show (I 2 2 : Int32) = nI nt from hF.2.1]
  rw [hQ]
  exact fb_iret hx hb hr hlocks hM (⟨rfl, rfl⟩) dX3_countTells_68

set_option maxHeartbeats 4000000 in
set_option maxRecDepth 100000 in
theorem c_X3_countTells_3 (D : va_G) (y : Nat → ClassId) (l : Launch) (S : fb_Sh) (V I : fb_V) (a1 ns nt es na : Nat) (hC : CpAt S a1 ns nt es na) (cf rf df : Nat → Nat) (hF : CF I ns nt cf rf df) : CI D y l yX3_countTells wsX3_countTells rm_X3_countTells [.ref (sa S 0), .int 3] (S, V, (sT V), I) (fun z u => z = cnc V I ns nt 3 ∧ u = (S, V, sT V, I)) 0 0 := by
  refine CI.of (cc := cX3_countTells) (maxL := 2) (ret := (some .int)) (by decide) rfl (Nat.le_of_ble_eq_true rfl) ?_
  intro pv ev s mv below meth cv A hx hb hml hr hown hts hlocks hname hM ls hl
  have hown : s.vm.findClass RX3 = some mv.cls := hown
  have hl : lv_has ls 2 [(0, .ref (sa S 0)), (1, .int 3)] := hl
  have hin3 : ∀ x ∈ wsX30, x ∈ wsX3_countTells := by decide +kernel
  obtain ⟨Q, hQ⟩ : ∃ Q, Q = MQ below (va_Qi (fun z u => z = cnc V I ns nt 3 ∧ u = (S, V, sT V, I)) (fun u t => fb_P D y A u t) A) (([.ref (sa S 0), .int 3] : List Value).toArray) s 0 0 A := ⟨_, rfl⟩
  rw [← hQ]
  have hns : ns ≤ 12 := hF.2.2.1
  have hnt : nt ≤ 6 := hF.2.2.2.1
  refine lv_iload_n hx hb dX3_countTells_0 rfl (lv_at hl 1 rfl) ?_
  refine lv_tableIn (off := 68) (tgt := 69) hx hb dX3_countTells_1 (by decide) (by decide) rfl (by decide) ?_
  refine lv_aload_n hx hb dX3_countTells_69 rfl (lv_at hl 0 rfl) ?_
  refine fb_callVi (r := 0) hx hb hml hown hts hM ((hC.1).1) (ce3 ((hC.1).2)) rfl (As := []) (rest := []) (c_X3_inSacks D y l S V I a1 ns nt es na hC cf rf df hF) (cwV 0 hts gX3_countTells_X3_inSacks rfl rfl rfl (by decide +kernel) ⟨Nat.le_of_ble_eq_true rfl, Nat.le_of_ble_eq_true rfl⟩) rfl hl.1 rfl (Nat.le_of_ble_eq_true rfl) dX3_countTells_70 ⟨Nat.le_of_ble_eq_true rfl, Nat.le_of_ble_eq_true rfl⟩ (fun v_1 u_ H locs hp hM => ?_)
  obtain ⟨hv_, hu_⟩ := hp
  have hv_ := Eq.symm hv_
  have hu_ := Eq.symm hu_
  subst hv_
  subst hu_
  rw [hQ]
  exact fb_iret hx hb hr hlocks hM (⟨rfl, rfl⟩) dX3_countTells_73

set_option maxHeartbeats 4000000 in
set_option maxRecDepth 100000 in
theorem c_X3_countTells_4 (D : va_G) (y : Nat → ClassId) (l : Launch) (S : fb_Sh) (V I : fb_V) (a1 ns nt es na : Nat) (hC : CpAt S a1 ns nt es na) (cf rf df : Nat → Nat) (hF : CF I ns nt cf rf df) : CI D y l yX3_countTells wsX3_countTells rm_X3_countTells [.ref (sa S 0), .int 4] (S, V, (sT V), I) (fun z u => z = cnc V I ns nt 4 ∧ u = (S, V, sT V, I)) 0 0 := by
  refine CI.of (cc := cX3_countTells) (maxL := 2) (ret := (some .int)) (by decide) rfl (Nat.le_of_ble_eq_true rfl) ?_
  intro pv ev s mv below meth cv A hx hb hml hr hown hts hlocks hname hM ls hl
  have hown : s.vm.findClass RX3 = some mv.cls := hown
  have hl : lv_has ls 2 [(0, .ref (sa S 0)), (1, .int 4)] := hl
  have hin3 : ∀ x ∈ wsX30, x ∈ wsX3_countTells := by decide +kernel
  obtain ⟨Q, hQ⟩ : ∃ Q, Q = MQ below (va_Qi (fun z u => z = cnc V I ns nt 4 ∧ u = (S, V, sT V, I)) (fun u t => fb_P D y A u t) A) (([.ref (sa S 0), .int 4] : List Value).toArray) s 0 0 A := ⟨_, rfl⟩
  rw [← hQ]
  have hns : ns ≤ 12 := hF.2.2.1
  have hnt : nt ≤ 6 := hF.2.2.2.1
  refine lv_iload_n hx hb dX3_countTells_0 rfl (lv_at hl 1 rfl) ?_
  refine lv_tableIn (off := 73) (tgt := 74) hx hb dX3_countTells_1 (by decide) (by decide) rfl (by decide) ?_
  refine lv_aload_n hx hb dX3_countTells_74 rfl (lv_at hl 0 rfl) ?_
  refine fb_callVi (r := 0) hx hb hml hown hts hM ((hC.1).1) (ce3 ((hC.1).2)) rfl (As := []) (rest := []) (c_X3_inChambers D y l S V I a1 ns nt es na hC cf rf df hF) (cwV 0 hts gX3_countTells_X3_inChambers rfl rfl rfl (by decide +kernel) ⟨Nat.le_of_ble_eq_true rfl, Nat.le_of_ble_eq_true rfl⟩) rfl hl.1 rfl (Nat.le_of_ble_eq_true rfl) dX3_countTells_75 ⟨Nat.le_of_ble_eq_true rfl, Nat.le_of_ble_eq_true rfl⟩ (fun v_1 u_ H locs hp hM => ?_)
  obtain ⟨hv_, hu_⟩ := hp
  have hv_ := Eq.symm hv_
  have hu_ := Eq.symm hu_
  subst hv_
  subst hu_
  rw [hQ]
  exact fb_iret hx hb hr hlocks hM (⟨rfl, rfl⟩) dX3_countTells_78

set_option maxHeartbeats 4000000 in
set_option maxRecDepth 100000 in
theorem c_X3_countTells_5 (D : va_G) (y : Nat → ClassId) (l : Launch) (S : fb_Sh) (V I : fb_V) (a1 ns nt es na : Nat) (hC : CpAt S a1 ns nt es na) (cf rf df : Nat → Nat) (hF : CF I ns nt cf rf df) : CI D y l yX3_countTells wsX3_countTells rm_X3_countTells [.ref (sa S 0), .int 5] (S, V, (sT V), I) (fun z u => z = cnc V I ns nt 5 ∧ u = (S, V, sT V, I)) 0 0 := by
  refine CI.of (cc := cX3_countTells) (maxL := 2) (ret := (some .int)) (by decide) rfl (Nat.le_of_ble_eq_true rfl) ?_
  intro pv ev s mv below meth cv A hx hb hml hr hown hts hlocks hname hM ls hl
  have hown : s.vm.findClass RX3 = some mv.cls := hown
  have hl : lv_has ls 2 [(0, .ref (sa S 0)), (1, .int 5)] := hl
  have hin3 : ∀ x ∈ wsX30, x ∈ wsX3_countTells := by decide +kernel
  obtain ⟨Q, hQ⟩ : ∃ Q, Q = MQ below (va_Qi (fun z u => z = cnc V I ns nt 5 ∧ u = (S, V, sT V, I)) (fun u t => fb_P D y A u t) A) (([.ref (sa S 0), .int 5] : List Value).toArray) s 0 0 A := ⟨_, rfl⟩
  rw [← hQ]
  have hns : ns ≤ 12 := hF.2.2.1
  have hnt : nt ≤ 6 := hF.2.2.2.1
  refine lv_iload_n hx hb dX3_countTells_0 rfl (lv_at hl 1 rfl) ?_
  refine lv_tableIn (off := 78) (tgt := 79) hx hb dX3_countTells_1 (by decide) (by decide) rfl (by decide) ?_
  refine lv_aload_n hx hb dX3_countTells_79 rfl (lv_at hl 0 rfl) ?_
  refine fb_callVi (r := 0) hx hb hml hown hts hM ((hC.1).1) (ce3 ((hC.1).2)) rfl (As := []) (rest := []) (c_X3_inTicks D y l S V I a1 ns nt es na hC cf rf df hF) (cwV 0 hts gX3_countTells_X3_inTicks rfl rfl rfl (by decide +kernel) ⟨Nat.le_of_ble_eq_true rfl, Nat.le_of_ble_eq_true rfl⟩) rfl hl.1 rfl (Nat.le_of_ble_eq_true rfl) dX3_countTells_80 ⟨Nat.le_of_ble_eq_true rfl, Nat.le_of_ble_eq_true rfl⟩ (fun v_1 u_ H locs hp hM => ?_)
  obtain ⟨hv_, hu_⟩ := hp
  have hv_ := Eq.symm hv_
  have hu_ := Eq.symm hu_
  subst hv_
  subst hu_
  rw [hQ]
  exact fb_iret hx hb hr hlocks hM (⟨rfl, rfl⟩) dX3_countTells_83

set_option maxHeartbeats 4000000 in
set_option maxRecDepth 100000 in
theorem c_X3_countTells_6 (D : va_G) (y : Nat → ClassId) (l : Launch) (S : fb_Sh) (V I : fb_V) (a1 ns nt es na : Nat) (hC : CpAt S a1 ns nt es na) (cf rf df : Nat → Nat) (hF : CF I ns nt cf rf df) : CI D y l yX3_countTells wsX3_countTells rm_X3_countTells [.ref (sa S 0), .int 6] (S, V, (sT V), I) (fun z u => z = cnc V I ns nt 6 ∧ u = (S, V, sT V, I)) 0 0 := by
  refine CI.of (cc := cX3_countTells) (maxL := 2) (ret := (some .int)) (by decide) rfl (Nat.le_of_ble_eq_true rfl) ?_
  intro pv ev s mv below meth cv A hx hb hml hr hown hts hlocks hname hM ls hl
  have hown : s.vm.findClass RX3 = some mv.cls := hown
  have hl : lv_has ls 2 [(0, .ref (sa S 0)), (1, .int 6)] := hl
  have hin3 : ∀ x ∈ wsX30, x ∈ wsX3_countTells := by decide +kernel
  obtain ⟨Q, hQ⟩ : ∃ Q, Q = MQ below (va_Qi (fun z u => z = cnc V I ns nt 6 ∧ u = (S, V, sT V, I)) (fun u t => fb_P D y A u t) A) (([.ref (sa S 0), .int 6] : List Value).toArray) s 0 0 A := ⟨_, rfl⟩
  rw [← hQ]
  have hns : ns ≤ 12 := hF.2.2.1
  have hnt : nt ≤ 6 := hF.2.2.2.1
  refine lv_iload_n hx hb dX3_countTells_0 rfl (lv_at hl 1 rfl) ?_
  refine lv_tableIn (off := 83) (tgt := 84) hx hb dX3_countTells_1 (by decide) (by decide) rfl (by decide) ?_
  refine lv_aload_n hx hb dX3_countTells_84 rfl (lv_at hl 0 rfl) ?_
  refine fb_get (r := 0) hx hb hown hts hin3 hM ((hC.1).1) (ce3 ((hC.1).2)) rfl 6 (by decide) (hts (.fieldLink RX3 99 "FeatherBeds" "lostInYard" "I") (by decide +kernel)) (fun _ h9 => h9) (v := .int (I 0 6)) rfl dX3_countTells_85 ?_
  rw [hQ]
  exact fb_iret hx hb hr hlocks hM (⟨rfl, rfl⟩) dX3_countTells_88

set_option maxHeartbeats 4000000 in
set_option maxRecDepth 100000 in
theorem c_X3_countTells_7 (D : va_G) (y : Nat → ClassId) (l : Launch) (S : fb_Sh) (V I : fb_V) (a1 ns nt es na : Nat) (hC : CpAt S a1 ns nt es na) (cf rf df : Nat → Nat) (hF : CF I ns nt cf rf df) : CI D y l yX3_countTells wsX3_countTells rm_X3_countTells [.ref (sa S 0), .int 7] (S, V, (sT V), I) (fun z u => z = cnc V I ns nt 7 ∧ u = (S, V, sT V, I)) 0 0 := by
  refine CI.of (cc := cX3_countTells) (maxL := 2) (ret := (some .int)) (by decide) rfl (Nat.le_of_ble_eq_true rfl) ?_
  intro pv ev s mv below meth cv A hx hb hml hr hown hts hlocks hname hM ls hl
  have hown : s.vm.findClass RX3 = some mv.cls := hown
  have hl : lv_has ls 2 [(0, .ref (sa S 0)), (1, .int 7)] := hl
  have hin3 : ∀ x ∈ wsX30, x ∈ wsX3_countTells := by decide +kernel
  obtain ⟨Q, hQ⟩ : ∃ Q, Q = MQ below (va_Qi (fun z u => z = cnc V I ns nt 7 ∧ u = (S, V, sT V, I)) (fun u t => fb_P D y A u t) A) (([.ref (sa S 0), .int 7] : List Value).toArray) s 0 0 A := ⟨_, rfl⟩
  rw [← hQ]
  have hns : ns ≤ 12 := hF.2.2.1
  have hnt : nt ≤ 6 := hF.2.2.2.1
  refine lv_iload_n hx hb dX3_countTells_0 rfl (lv_at hl 1 rfl) ?_
  refine lv_tableIn (off := 88) (tgt := 89) hx hb dX3_countTells_1 (by decide) (by decide) rfl (by decide) ?_
  refine lv_aload_n hx hb dX3_countTells_89 rfl (lv_at hl 0 rfl) ?_
  refine fb_get (r := 0) hx hb hown hts hin3 hM ((hC.1).1) (ce3 ((hC.1).2)) rfl 7 (by decide) (hts (.fieldLink RX3 164 "FeatherBeds" "lostByPricking" "I") (by decide +kernel)) (fun _ h9 => h9) (v := .int (I 0 7)) rfl dX3_countTells_90 ?_
  rw [hQ]
  exact fb_iret hx hb hr hlocks hM (⟨rfl, rfl⟩) dX3_countTells_93

set_option maxHeartbeats 4000000 in
set_option maxRecDepth 100000 in
theorem c_X3_countTells_8 (D : va_G) (y : Nat → ClassId) (l : Launch) (S : fb_Sh) (V I : fb_V) (a1 ns nt es na : Nat) (hC : CpAt S a1 ns nt es na) (cf rf df : Nat → Nat) (hF : CF I ns nt cf rf df) : CI D y l yX3_countTells wsX3_countTells rm_X3_countTells [.ref (sa S 0), .int 8] (S, V, (sT V), I) (fun z u => z = cnc V I ns nt 8 ∧ u = (S, V, sT V, I)) 0 0 := by
  refine CI.of (cc := cX3_countTells) (maxL := 2) (ret := (some .int)) (by decide) rfl (Nat.le_of_ble_eq_true rfl) ?_
  intro pv ev s mv below meth cv A hx hb hml hr hown hts hlocks hname hM ls hl
  have hown : s.vm.findClass RX3 = some mv.cls := hown
  have hl : lv_has ls 2 [(0, .ref (sa S 0)), (1, .int 8)] := hl
  have hin3 : ∀ x ∈ wsX30, x ∈ wsX3_countTells := by decide +kernel
  obtain ⟨Q, hQ⟩ : ∃ Q, Q = MQ below (va_Qi (fun z u => z = cnc V I ns nt 8 ∧ u = (S, V, sT V, I)) (fun u t => fb_P D y A u t) A) (([.ref (sa S 0), .int 8] : List Value).toArray) s 0 0 A := ⟨_, rfl⟩
  rw [← hQ]
  have hns : ns ≤ 12 := hF.2.2.1
  have hnt : nt ≤ 6 := hF.2.2.2.1
  refine lv_iload_n hx hb dX3_countTells_0 rfl (lv_at hl 1 rfl) ?_
  refine lv_tableOut (tgt := 94) hx hb dX3_countTells_1 (by decide) (by decide) ?_
  refine lv_aload_n hx hb dX3_countTells_94 rfl (lv_at hl 0 rfl) ?_
  refine fb_get (r := 0) hx hb hown hts hin3 hM ((hC.1).1) (ce3 ((hC.1).2)) rfl 4 (by decide) (hts (.fieldLink RX3 35 "FeatherBeds" "wind" "I") (by decide +kernel)) (fun _ h9 => h9) (v := .int (I 0 4)) rfl dX3_countTells_95 ?_
  rw [hQ]
  exact fb_iret hx hb hr hlocks hM (⟨rfl, rfl⟩) dX3_countTells_98
