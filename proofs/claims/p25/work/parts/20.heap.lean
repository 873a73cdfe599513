abbrev rm_X0_of : Room := { frames := 0, cells := 0, slots := 0, locals := 0 }
set_option maxHeartbeats 4000000 in
set_option maxRecDepth 100000 in
theorem c_X0_of (D : va_G) (y : Nat → ClassId) (l : Launch) (S : fb_Sh) (V I : fb_V) (h : Nat) (hh : HeapAt S h) (p0 : Int32) : CI D y l yX0_of wsX0_of rm_X0_of [.ref (sa S h), .int p0] (S, V, (sT V), I) (fun r u => r = of6 (V h) p0 ∧ u = (S, V, sT V, I)) 0 0 := by
  refine CI.of (cc := cX0_of) (maxL := 2) (ret := (some .int)) (by decide) rfl (Nat.le_of_ble_eq_true rfl) ?_
  intro pv ev s mv below meth cv A hx hb hml hr hown hts hlocks hname hM ls hl
  have hown : s.vm.findClass RX0 = some mv.cls := hown
  have hl : lv_has ls 2 [(0, .ref (sa S h)), (1, .int p0)] := hl
  have hin0 : ∀ x ∈ wsX00, x ∈ wsX0_of := by decide +kernel
  obtain ⟨Q, hQ⟩ : ∃ Q, Q = MQ below (va_Qi (fun r u => r = of6 (V h) p0 ∧ u = (S, V, sT V, I)) (fun u t => fb_P D y A u t) A) (([.ref (sa S h), .int p0] : List Value).toArray) s 0 0 A := ⟨_, rfl⟩
  rw [← hQ]
  obtain ⟨hh1, hh2, hh3, hh4, hh5, hh6⟩ := hh
  refine lv_iload_n hx hb dX0_of_0 rfl (lv_at hl 1 rfl) ?_
  refine lv_if_lt (tgt := 22) hx hb dX0_of_1 (by decide) (fun c_1 => ?_) (fun c_1 => ?_)
  · skip
    refine lv_iconst (v := 0) hx hb dX0_of_22 (by decide) ?_
    rw [hQ]
    exact fb_iret hx hb hr hlocks hM (⟨by unfold of6; first | rw [if_pos c_1] | rw [if_neg c_1, if_pos c_2] | rw [if_neg c_1, if_neg c_2], rfl⟩) dX0_of_23
  · skip
    refine lv_iload_n hx hb dX0_of_4 rfl (lv_at hl 1 rfl) ?_
    refine lv_aload_n hx hb dX0_of_5 rfl (lv_at hl 0 rfl) ?_
    refine fb_get (r := h) hx hb hown hts hin0 hM (hh1) (ce0 (hh2)) rfl 0 (by decide) (hts (.fieldLink RX0 9 "FeatherBeds$Heap" "ofSize" "[I") (by decide +kernel)) (fun _ h9 => h9) (v := .ref (sa S (h + 1))) (congrArg (fun z => some (va_rf z)) (hh3)) dX0_of_6 ?_
    refine fb_alen (r := (h + 1)) hx hb hM (hh4) (ce12 (hh5)) 0 rfl (v := nI 6) (congrArg Int32.ofNat (hh6)) dX0_of_9 ?_
    refine lv_icmp_ge (tgt := 22) hx hb dX0_of_10 (by decide) (fun c_2 => ?_) (fun c_2 => ?_)
    · skip
      refine lv_iconst (v := 0) hx hb dX0_of_22 (by decide) ?_
      rw [hQ]
      exact fb_iret hx hb hr hlocks hM (⟨by unfold of6; first | rw [if_pos c_1] | rw [if_neg c_1, if_pos c_2] | rw [if_neg c_1, if_neg c_2], rfl⟩) dX0_of_23
    · skip
      refine lv_aload_n hx hb dX0_of_13 rfl (lv_at hl 0 rfl) ?_
      refine fb_get (r := h) hx hb hown hts hin0 hM (hh1) (ce0 (hh2)) rfl 0 (by decide) (hts (.fieldLink RX0 9 "FeatherBeds$Heap" "ofSize" "[I") (by decide +kernel)) (fun _ h9 => h9) (v := .ref (sa S (h + 1))) (congrArg (fun z => some (va_rf z)) (hh3)) dX0_of_14 ?_
      refine lv_iload_n hx hb dX0_of_17 rfl (lv_at hl 1 rfl) ?_
      refine fb_iald (r := (h + 1)) hx hb hM (hh4) (ce12 (hh5)) (k := p0.toNatClampNeg) rfl (fb_inS hh6 (fb_in (by decide) c_1 c_2)) dX0_of_18 ?_
      refine lv_goto (tgt := 23) hx hb dX0_of_19 (by decide) ?_
      rw [hQ]
      exact fb_iret hx hb hr hlocks hM (⟨by unfold of6; first | rw [if_pos c_1] | rw [if_neg c_1, if_pos c_2] | rw [if_neg c_1, if_neg c_2], rfl⟩) dX0_of_23

abbrev rm_X0_change : Room := { frames := 0, cells := 0, slots := 0, locals := 0 }
set_option maxHeartbeats 4000000 in
set_option maxRecDepth 100000 in
theorem c_X0_change (D : va_G) (y : Nat → ClassId) (l : Launch) (S : fb_Sh) (V I : fb_V) (h : Nat) (hh : HeapAt S h) (k : Nat) (hk : k < 6) (d : Int32) : CV D y l yX0_change wsX0_change rm_X0_change [.ref (sa S h), .int (nI k), .int d] (S, V, (sT V), I) (fun u => u = (S, (va_up V h (chv (V h) k d)), sT (va_up V h (chv (V h) k d)), I)) 0 0 := by
  refine CV.of (cc := cX0_change) (maxL := 3) (ret := none) (by decide) rfl (Nat.le_of_ble_eq_true rfl) ?_
  intro pv ev s mv below meth cv A hx hb hml hr hown hts hlocks hname hM ls hl
  have hown : s.vm.findClass RX0 = some mv.cls := hown
  have hl : lv_has ls 3 [(0, .ref (sa S h)), (1, .int (nI k)), (2, .int d)] := hl
  have hin0 : ∀ x ∈ wsX00, x ∈ wsX0_change := by decide +kernel
  obtain ⟨Q, hQ⟩ : ∃ Q, Q = MQ below (va_Qv (fun u => u = (S, (va_up V h (chv (V h) k d)), sT (va_up V h (chv (V h) k d)), I)) (fun u t => fb_P D y A u t) A) (([.ref (sa S h), .int (nI k), .int d] : List Value).toArray) s 0 0 A := ⟨_, rfl⟩
  rw [← hQ]
  obtain ⟨hh1, hh2, hh3, hh4, hh5, hh6⟩ := hh
  refine lv_iload_n hx hb dX0_change_0 rfl (lv_at hl 1 rfl) ?_
  refine lv_if_lt (tgt := 33) hx hb dX0_change_1 (by decide) (fun c_1 => absurd c_1 (nI_pos (by omega))) (fun c_1 => ?_)
  refine lv_iload_n hx hb dX0_change_4 rfl (lv_at hl 1 rfl) ?_
  refine lv_aload_n hx hb dX0_change_5 rfl (lv_at hl 0 rfl) ?_
  refine fb_get (r := h) hx hb hown hts hin0 hM (hh1) (ce0 (hh2)) rfl 0 (by decide) (hts (.fieldLink RX0 9 "FeatherBeds$Heap" "ofSize" "[I") (by decide +kernel)) (fun _ h9 => h9) (v := .ref (sa S (h + 1))) (congrArg (fun z => some (va_rf z)) (hh3)) dX0_change_6 ?_
  refine fb_alen (r := (h + 1)) hx hb hM (hh4) (ce12 (hh5)) 0 rfl (v := nI 6) (congrArg Int32.ofNat (hh6)) dX0_change_9 ?_
  refine lv_icmp_ge (tgt := 33) hx hb dX0_change_10 (by decide) (fun c_2 => absurd c_2 (nI_ge hk (by omega))) (fun c_2 => ?_)
  refine lv_aload_n hx hb dX0_change_13 rfl (lv_at hl 0 rfl) ?_
  refine fb_get (r := h) hx hb hown hts hin0 hM (hh1) (ce0 (hh2)) rfl 0 (by decide) (hts (.fieldLink RX0 9 "FeatherBeds$Heap" "ofSize" "[I") (by decide +kernel)) (fun _ h9 => h9) (v := .ref (sa S (h + 1))) (congrArg (fun z => some (va_rf z)) (hh3)) dX0_change_14 ?_
  refine lv_iload_n hx hb dX0_change_17 rfl (lv_at hl 1 rfl) ?_
  refine lv_dup2_11 hx hb dX0_change_18 rfl rfl ?_
  refine fb_iald (r := (h + 1)) hx hb hM (hh4) (ce12 (hh5)) (k := k) (nI_clamp (by omega)) (by rw [hh6]; exact vp_in_nI (by omega) (by omega)) dX0_change_19 ?_
  refine lv_iload_n hx hb dX0_change_20 rfl (lv_at hl 2 rfl) ?_
  refine lv_iadd hx hb dX0_change_21 ?_
  refine fb_iast (r := (h + 1)) hx hb hM (hh4) (ce12 (hh5)) (k := k) (nI_clamp (by omega)) (by rw [hh6]; exact vp_in_nI (by omega) (by omega)) dX0_change_22 (up_V (hh5)) (w' := (S, (va_up V h (upd (V h) k ((V h k) + d))), (sT V), I)) ⟨rfl, rfl, rfl⟩ (fun H locs hM => ?_)
  refine lv_aload_n hx hb dX0_change_23 rfl (lv_at hl 0 rfl) ?_
  refine lv_dup hx hb dX0_change_24 rfl ?_
  refine fb_get (r := h) hx hb hown hts hin0 hM (hh1) (ce0 (hh2)) rfl 1 (by decide) (hts (.fieldLink RX0 15 "FeatherBeds$Heap" "all" "I") (by decide +kernel)) (fun _ h9 => h9) (v := .int ((sT V) h)) rfl dX0_change_25 ?_
  refine lv_iload_n hx hb dX0_change_28 rfl (lv_at hl 2 rfl) ?_
  refine lv_iadd hx hb dX0_change_29 ?_
  refine fb_put (r := h) hx hb hown hts hin0 tyX0 tyX0_ok nmX0 hM (hh1) (ce0 (hh2)) rfl 1 (by decide) (hts (.fieldLink RX0 15 "FeatherBeds$Heap" "all" "I") (by decide +kernel)) (fun _ h9 => h9) rfl (ty := .int) (by decide +kernel) rfl rfl (Nat.le_of_ble_eq_true rfl) dX0_change_30 (up_T (hh2)) (w' := (S, (va_up V h (upd (V h) k ((V h k) + d))), (va_up (sT V) h (((sT V) h) + d)), I)) ⟨rfl, rfl, rfl⟩ (fun H locs hM => ?_)
  rw [hQ]
  exact fb_vret hx hb hr hlocks hM (ch_w hk) dX0_change_33

abbrev rm_X0_become : Room := { frames := 1, cells := 0, slots := 0, locals := 22 }
set_option maxHeartbeats 4000000 in
set_option maxRecDepth 100000 in
theorem c_X0_become (D : va_G) (y : Nat → ClassId) (l : Launch) (S : fb_Sh) (V I : fb_V) (h g : Nat) (hh : HeapAt S h) (hg : HeapAt S g) (hne : h ≠ g) : CV D y l yX0_become wsX0_become rm_X0_become [.ref (sa S h), .ref (sa S g)] (S, V, (sT V), I) (fun u => u = (S, (va_up V h (cpn 6 (V g) (V h))), sT (va_up V h (cpn 6 (V g) (V h))), I)) 0 0 := by
  refine CV.of (cc := cX0_become) (maxL := 3) (ret := none) (by decide) rfl (Nat.le_of_ble_eq_true rfl) ?_
  intro pv ev s mv below meth cv A hx hb hml hr hown hts hlocks hname hM ls hl
  have hown : s.vm.findClass RX0 = some mv.cls := hown
  have hl : lv_has ls 3 [(0, .ref (sa S h)), (1, .ref (sa S g))] := hl
  have hin0 : ∀ x ∈ wsX00, x ∈ wsX0_become := by decide +kernel
  obtain ⟨Q, hQ⟩ : ∃ Q, Q = MQ below (va_Qv (fun u => u = (S, (va_up V h (cpn 6 (V g) (V h))), sT (va_up V h (cpn 6 (V g) (V h))), I)) (fun u t => fb_P D y A u t) A) (([.ref (sa S h), .ref (sa S g)] : List Value).toArray) s 0 0 A := ⟨_, rfl⟩
  rw [← hQ]
  have hh0 := hh
  have hg0 := hg
  obtain ⟨hh1, hh2, hh3, hh4, hh5, hh6⟩ := hh
  obtain ⟨hg1, hg2, hg3, hg4, hg5, hg6⟩ := hg
  refine lv_iconst (v := 0) hx hb dX0_become_0 (by decide) ?_
  refine lv_istore_n (lv' := [(2, .int 0), (0, .ref (sa S h)), (1, .ref (sa S g))]) hx hb dX0_become_1 rfl hl (by decide) rfl (fun ls hl => ?_)
  have LP_2 : ∀ (n : Nat) (i : Nat) (hi : i ≤ 6), 6 - i < n → ∀ (H : Heap) (locs : List Loc), fb_M D y A s (S, (va_up V h (cpn i (V g) (V h))), (sT (va_up V h (cpn i (V g) (V h)))), I) H locs → ∀ ls, lv_has ls 3 [(2, .int (nI i)), (0, .ref (sa S h)), (1, .ref (sa S g))] → W pv l ev rm_X0_become s mv ([.ref (sa S h), .ref (sa S g)] : List Value).toArray below meth cv H locs 0 0 Q (F0 mv 2 ls []) := by
    intro n_2
    induction n_2 with
    | zero => intro i hi hmu; exact absurd hmu (Nat.not_lt_zero _)
    | succ n_2 ih_2 =>
      intro i hi hmu H locs hM ls hl
      refine lv_iload_n hx hb dX0_become_2 rfl (lv_at hl 0 rfl) ?_
      refine lv_bipush (v := 6) hx hb dX0_become_3 (by decide) ?_
      refine lv_icmp_ge (tgt := 30) hx hb dX0_become_5 (by decide) (fun c_1 => ?_) (fun c_1 => ?_)
      · skip
        have e6 : i = 6 := by have := (nI_leI (a := 6) (b := i) (by omega) (by omega)).mp c_1; omega
        subst e6
        rw [hQ]
        exact fb_vret hx hb hr hlocks hM (rfl) dX0_become_30
      · skip
        have hi6 : i < 6 := by rcases Nat.lt_or_ge i 6 with h9 | h9; exact h9; exact absurd (nI_le h9 (by omega)) c_1
        refine lv_aload_n hx hb dX0_become_8 rfl (lv_at hl 1 rfl) ?_
        refine lv_iload_n hx hb dX0_become_9 rfl (lv_at hl 0 rfl) ?_
        refine lv_aload_n hx hb dX0_become_10 rfl (lv_at hl 2 rfl) ?_
        refine lv_iload_n hx hb dX0_become_11 rfl (lv_at hl 0 rfl) ?_
        refine fb_callVi (r := g) hx hb hml hown hts hM (hg1) (ce0 (hg2)) rfl (As := [.int (nI i)]) (rest := [.int (nI i), .ref (sa S h)]) (c_X0_of D y l S (va_up V h (cpn i (V g) (V h))) I g hg0 (nI i)) (cwV 1 hts gX0_become_X0_of rfl rfl rfl (by decide +kernel) ⟨Nat.le_of_ble_eq_true rfl, Nat.le_of_ble_eq_true rfl⟩) rfl hl.1 rfl (Nat.le_of_ble_eq_true rfl) dX0_become_12 ⟨Nat.le_of_ble_eq_true rfl, Nat.le_of_ble_eq_true rfl⟩ (fun v_2 u H locs hp hM => ?_)
        obtain ⟨hv, hu⟩ := hp
        have hv := Eq.symm hv
        have hu := Eq.symm hu
        subst hv
        subst hu
        rw [of6_n ((va_up V h (cpn i (V g) (V h))) g) (k := i) (by omega)]
        refine lv_aload_n hx hb dX0_become_15 rfl (lv_at hl 1 rfl) ?_
        refine lv_iload_n hx hb dX0_become_16 rfl (lv_at hl 0 rfl) ?_
        refine fb_callVi (r := h) hx hb hml hown hts hM (hh1) (ce0 (hh2)) rfl (As := [.int (nI i)]) (rest := [.int ((va_up V h (cpn i (V g) (V h))) g i), .int (nI i), .ref (sa S h)]) (c_X0_of D y l S (va_up V h (cpn i (V g) (V h))) I h hh0 (nI i)) (cwV 1 hts gX0_become_X0_of rfl rfl rfl (by decide +kernel) ⟨Nat.le_of_ble_eq_true rfl, Nat.le_of_ble_eq_true rfl⟩) rfl hl.1 rfl (Nat.le_of_ble_eq_true rfl) dX0_become_17 ⟨Nat.le_of_ble_eq_true rfl, Nat.le_of_ble_eq_true rfl⟩ (fun v_3 u H locs hp hM => ?_)
        obtain ⟨hv, hu⟩ := hp
        have hv := Eq.symm hv
        have hu := Eq.symm hu
        subst hv
        subst hu
        rw [of6_n ((va_up V h (cpn i (V g) (V h))) h) (k := i) (by omega)]
        refine lv_isub hx hb dX0_become_20 ?_
        refine fb_callVv (r := h) hx hb hml hown hts hM (hh1) (ce0 (hh2)) rfl (As := [.int (nI i), .int (((va_up V h (cpn i (V g) (V h))) g i) - ((va_up V h (cpn i (V g) (V h))) h i))]) (rest := []) (c_X0_change D y l S (va_up V h (cpn i (V g) (V h))) I h hh0 i (by omega) (((va_up V h (cpn i (V g) (V h))) g i) - ((va_up V h (cpn i (V g) (V h))) h i))) (cwV 2 hts gX0_become_X0_change rfl rfl rfl (by decide +kernel) ⟨Nat.le_of_ble_eq_true rfl, Nat.le_of_ble_eq_true rfl⟩) rfl hl.1 rfl (Nat.le_of_ble_eq_true rfl) dX0_become_21 ⟨Nat.le_of_ble_eq_true rfl, Nat.le_of_ble_eq_true rfl⟩ (fun u H locs hp hM => ?_)
        have hp := Eq.symm hp
        subst hp
        have eV : (va_up (va_up V h (cpn i (V g) (V h))) h (chv ((va_up V h (cpn i (V g) (V h))) h) i (((va_up V h (cpn i (V g) (V h))) g i) - ((va_up V h (cpn i (V g) (V h))) h i)))) = (va_up V h (cpn (i + 1) (V g) (V h))) := by rw [up_up, va_up_ne _ _ (Ne.symm hne), va_up_self, cpn_s]
        rw [eV] at hM
        clear eV
        refine lv_iinc (v := nI (i + 1)) (lv' := [(2, .int (nI (i + 1))), (0, .ref (sa S h)), (1, .ref (sa S g))]) hx hb dX0_become_24 hl (k := 0) rfl (nI_1 _) (by decide) rfl (fun ls hl => ?_)
        refine lv_goto (tgt := 2) hx hb dX0_become_27 (by decide) ?_
        exact ih_2 (i + 1) (by omega) (by omega) _ _ hM ls (lv_sub hl [0, 1, 2] rfl)
  rw [show V = va_up V h (cpn 0 (V g) (V h)) from (up_id _ _ _ (cpn_0 _ _)).symm] at hM
  exact LP_2 _ 0 (by omega) (Nat.lt_succ_self _) _ _ hM ls (lv_sub hl [0, 1, 2] rfl)

abbrev rm_X0_moveTo : Room := { frames := 1, cells := 0, slots := 0, locals := 24 }
set_option maxHeartbeats 4000000 in
set_option maxRecDepth 100000 in
theorem c_X0_moveTo (D : va_G) (y : Nat → ClassId) (l : Launch) (S : fb_Sh) (V I : fb_V) (h g : Nat) (hh : HeapAt S h) (hg : HeapAt S g) (hne : h ≠ g) (m : Int32) (z : Nat) (hz : z ≤ 6) : CI D y l yX0_moveTo wsX0_moveTo rm_X0_moveTo [.ref (sa S h), .ref (sa S g), .int m, .int (nI z)] (S, V, (sT V), I) (fun r u => r = mvm (V h) m z ∧ u = (S, (va_up (va_up V h (mva (V h) m z)) g (mvb (V h) (V g) m z)), sT (va_up (va_up V h (mva (V h) m z)) g (mvb (V h) (V g) m z)), I)) 0 0 := by
  refine CI.of (cc := cX0_moveTo) (maxL := 7) (ret := (some .int)) (by decide) rfl (Nat.le_of_ble_eq_true rfl) ?_
  intro pv ev s mv below meth cv A hx hb hml hr hown hts hlocks hname hM ls hl
  have hown : s.vm.findClass RX0 = some mv.cls := hown
  have hl : lv_has ls 7 [(0, .ref (sa S h)), (1, .ref (sa S g)), (2, .int m), (3, .int (nI z))] := hl
  have hin0 : ∀ x ∈ wsX00, x ∈ wsX0_moveTo := by decide +kernel
  obtain ⟨Q, hQ⟩ : ∃ Q, Q = MQ below (va_Qi (fun r u => r = mvm (V h) m z ∧ u = (S, (va_up (va_up V h (mva (V h) m z)) g (mvb (V h) (V g) m z)), sT (va_up (va_up V h (mva (V h) m z)) g (mvb (V h) (V g) m z)), I)) (fun u t => fb_P D y A u t) A) (([.ref (sa S h), .ref (sa S g), .int m, .int (nI z)] : List Value).toArray) s 0 0 A := ⟨_, rfl⟩
  rw [← hQ]
  have hh0 := hh
  have hg0 := hg
  obtain ⟨hh1, hh2, hh3, hh4, hh5, hh6⟩ := hh
  obtain ⟨hg1, hg2, hg3, hg4, hg5, hg6⟩ := hg
  refine lv_iconst (v := 0) hx hb dX0_moveTo_0 (by decide) ?_
  refine lv_istore (lv' := [(4, .int 0), (0, .ref (sa S h)), (1, .ref (sa S g)), (2, .int m), (3, .int (nI z))]) hx hb dX0_moveTo_1 hl (by decide) rfl (fun ls hl => ?_)
  refine lv_iconst (v := 0) hx hb dX0_moveTo_3 (by decide) ?_
  refine lv_istore (lv' := [(5, .int 0), (4, .int 0), (0, .ref (sa S h)), (1, .ref (sa S g)), (2, .int m), (3, .int (nI z))]) hx hb dX0_moveTo_4 hl (by decide) rfl (fun ls hl => ?_)
  have LP_6 : ∀ (n : Nat) (i : Nat) (hi : i ≤ z), z - i < n → ∀ (H : Heap) (locs : List Loc), fb_M D y A s (S, (va_up (va_up V h (mva (V h) m i)) g (mvb (V h) (V g) m i)), (sT (va_up (va_up V h (mva (V h) m i)) g (mvb (V h) (V g) m i))), I) H locs → ∀ ls, lv_has ls 7 [(5, .int (nI i)), (4, .int (mvm (V h) m i)), (0, .ref (sa S h)), (1, .ref (sa S g)), (2, .int m), (3, .int (nI z))] → W pv l ev rm_X0_moveTo s mv ([.ref (sa S h), .ref (sa S g), .int m, .int (nI z)] : List Value).toArray below meth cv H locs 0 0 Q (F0 mv 6 ls []) := by
    intro n_6
    induction n_6 with
    | zero => intro i hi hmu; exact absurd hmu (Nat.not_lt_zero _)
    | succ n_6 ih_6 =>
      intro i hi hmu H locs hM ls hl
      refine lv_iload hx hb dX0_moveTo_6 (lv_at hl 0 rfl) ?_
      refine lv_iload_n hx hb dX0_moveTo_8 rfl (lv_at hl 5 rfl) ?_
      refine lv_icmp_ge (tgt := 57) hx hb dX0_moveTo_9 (by decide) (fun c_1 => ?_) (fun c_1 => ?_)
      · skip
        have e6 : i = z := by have := (nI_leI (a := z) (b := i) (by omega) (by omega)).mp c_1; omega
        subst e6
        refine lv_iload hx hb dX0_moveTo_57 (lv_at hl 1 rfl) ?_
        rw [hQ]
        exact fb_iret hx hb hr hlocks hM (⟨rfl, rfl⟩) dX0_moveTo_59
      · skip
        have hi6 : i < z := by rcases Nat.lt_or_ge i z with h9 | h9; exact h9; exact absurd (nI_le h9 (by omega)) c_1
        refine lv_aload_n hx hb dX0_moveTo_12 rfl (lv_at hl 2 rfl) ?_
        refine lv_iload hx hb dX0_moveTo_13 (lv_at hl 0 rfl) ?_
        refine fb_callVi (r := h) hx hb hml hown hts hM (hh1) (ce0 (hh2)) rfl (As := [.int (nI i)]) (rest := []) (c_X0_of D y l S (va_up (va_up V h (mva (V h) m i)) g (mvb (V h) (V g) m i)) I h hh0 (nI i)) (cwV 1 hts gX0_moveTo_X0_of rfl rfl rfl (by decide +kernel) ⟨Nat.le_of_ble_eq_true rfl, Nat.le_of_ble_eq_true rfl⟩) rfl hl.1 rfl (Nat.le_of_ble_eq_true rfl) dX0_moveTo_15 ⟨Nat.le_of_ble_eq_true rfl, Nat.le_of_ble_eq_true rfl⟩ (fun v_2 u H locs hp hM => ?_)
        obtain ⟨hv, hu⟩ := hp
        have hv := Eq.symm hv
        have hu := Eq.symm hu
        subst hv
        subst hu
        rw [of6_n ((va_up (va_up V h (mva (V h) m i)) g (mvb (V h) (V g) m i)) h) (k := i) (by omega)]
        rw [va_up_ne _ _ hne, va_up_self, mva_i]
        refine lv_iload_n hx hb dX0_moveTo_18 rfl (lv_at hl 4 rfl) ?_
        refine lv_iload hx hb dX0_moveTo_19 (lv_at hl 1 rfl) ?_
        refine lv_isub hx hb dX0_moveTo_21 ?_
        refine va_mmin hx hb (hml.trans hl.1.symm) hown (hts (.methodLink RX0 27 Lib.Math.min.name) (by decide +kernel)) (hts (.static Lib.Math.min.name) (by decide +kernel)) (hts (.initialized "java/lang/Math") (by decide +kernel)) (hts (.code Lib.Math.min.name Lib.Math.min.code 2 (some .int)) (by decide +kernel)) (Nat.le_of_ble_eq_true rfl) (Nat.le_of_ble_eq_true rfl) (Nat.le_of_ble_eq_true rfl) (Nat.le_of_ble_eq_true rfl) dX0_moveTo_22 ?_
        refine lv_istore (lv' := [(6, .int (if m - (mvm (V h) m i) < V h i then m - (mvm (V h) m i) else V h i)), (5, .int (nI i)), (4, .int (mvm (V h) m i)), (0, .ref (sa S h)), (1, .ref (sa S g)), (2, .int m), (3, .int (nI z))]) hx hb dX0_moveTo_25 hl (by decide) rfl (fun ls hl => ?_)
        refine lv_aload_n hx hb dX0_moveTo_27 rfl (lv_at hl 3 rfl) ?_
        refine lv_iload hx hb dX0_moveTo_28 (lv_at hl 1 rfl) ?_
        refine lv_iload hx hb dX0_moveTo_30 (lv_at hl 0 rfl) ?_
        refine lv_ineg hx hb dX0_moveTo_32 ?_
        refine fb_callVv (r := h) hx hb hml hown hts hM (hh1) (ce0 (hh2)) rfl (As := [.int (nI i), .int (-(if m - (mvm (V h) m i) < V h i then m - (mvm (V h) m i) else V h i))]) (rest := []) (c_X0_change D y l S (va_up (va_up V h (mva (V h) m i)) g (mvb (V h) (V g) m i)) I h hh0 i (by omega) (-(if m - (mvm (V h) m i) < V h i then m - (mvm (V h) m i) else V h i))) (cwV 2 hts gX0_moveTo_X0_change rfl rfl rfl (by decide +kernel) ⟨Nat.le_of_ble_eq_true rfl, Nat.le_of_ble_eq_true rfl⟩) rfl hl.1 rfl (Nat.le_of_ble_eq_true rfl) dX0_moveTo_33 ⟨Nat.le_of_ble_eq_true rfl, Nat.le_of_ble_eq_true rfl⟩ (fun u H locs hp hM => ?_)
        have hp := Eq.symm hp
        subst hp
        have eV : (va_up (va_up (va_up V h (mva (V h) m i)) g (mvb (V h) (V g) m i)) h (chv ((va_up (va_up V h (mva (V h) m i)) g (mvb (V h) (V g) m i)) h) i (-(if m - (mvm (V h) m i) < V h i then m - (mvm (V h) m i) else V h i)))) = (va_up (va_up V h (mva (V h) m (i + 1))) g (mvb (V h) (V g) m i)) := by rw [va_up_ne _ _ hne, va_up_self, up_sw _ _ _ (Ne.symm hne), up_up]; exact congrArg (fun x => va_up (va_up V h x) g _) (mva_s (V h) m i)
        rw [eV] at hM
        clear eV
        refine lv_aload_n hx hb dX0_moveTo_36 rfl (lv_at hl 4 rfl) ?_
        refine lv_iload hx hb dX0_moveTo_37 (lv_at hl 1 rfl) ?_
        refine lv_iload hx hb dX0_moveTo_39 (lv_at hl 0 rfl) ?_
        refine fb_callVv (r := g) hx hb hml hown hts hM (hg1) (ce0 (hg2)) rfl (As := [.int (nI i), .int (if m - (mvm (V h) m i) < V h i then m - (mvm (V h) m i) else V h i)]) (rest := []) (c_X0_change D y l S (va_up (va_up V h (mva (V h) m (i + 1))) g (mvb (V h) (V g) m i)) I g hg0 i (by omega) (if m - (mvm (V h) m i) < V h i then m - (mvm (V h) m i) else V h i)) (cwV 2 hts gX0_moveTo_X0_change rfl rfl rfl (by decide +kernel) ⟨Nat.le_of_ble_eq_true rfl, Nat.le_of_ble_eq_true rfl⟩) rfl hl.1 rfl (Nat.le_of_ble_eq_true rfl) dX0_moveTo_41 ⟨Nat.le_of_ble_eq_true rfl, Nat.le_of_ble_eq_true rfl⟩ (fun u H locs hp hM => ?_)
        have hp := Eq.symm hp
        subst hp
        have eV : (va_up (va_up (va_up V h (mva (V h) m (i + 1))) g (mvb (V h) (V g) m i)) g (chv ((va_up (va_up V h (mva (V h) m (i + 1))) g (mvb (V h) (V g) m i)) g) i (if m - (mvm (V h) m i) < V h i then m - (mvm (V h) m i) else V h i))) = (va_up (va_up V h (mva (V h) m (i + 1))) g (mvb (V h) (V g) m (i + 1))) := by rw [va_up_self, up_up]; exact congrArg (fun x => va_up _ g x) (mvb_s (V h) (V g) m i)
        rw [eV] at hM
        clear eV
        refine lv_iload hx hb dX0_moveTo_44 (lv_at hl 2 rfl) ?_
        refine lv_iload hx hb dX0_moveTo_46 (lv_at hl 0 rfl) ?_
        refine lv_iadd hx hb dX0_moveTo_48 ?_
        refine lv_istore (lv' := [(4, .int ((mvm (V h) m i) + (if m - (mvm (V h) m i) < V h i then m - (mvm (V h) m i) else V h i))), (6, .int (if m - (mvm (V h) m i) < V h i then m - (mvm (V h) m i) else V h i)), (5, .int (nI i)), (0, .ref (sa S h)), (1, .ref (sa S g)), (2, .int m), (3, .int (nI z))]) hx hb dX0_moveTo_49 hl (by decide) rfl (fun ls hl => ?_)
        refine lv_iinc (v := nI (i + 1)) (lv' := [(5, .int (nI (i + 1))), (4, .int ((mvm (V h) m i) + (if m - (mvm (V h) m i) < V h i then m - (mvm (V h) m i) else V h i))), (6, .int (if m - (mvm (V h) m i) < V h i then m - (mvm (V h) m i) else V h i)), (0, .ref (sa S h)), (1, .ref (sa S g)), (2, .int m), (3, .int (nI z))]) hx hb dX0_moveTo_51 hl (k := 2) rfl (nI_1 _) (by decide) rfl (fun ls hl => ?_)
        refine lv_goto (tgt := 6) hx hb dX0_moveTo_54 (by decide) ?_
        exact ih_6 (i + 1) (by omega) (by omega) _ _ hM ls (lv_sub hl [0, 1, 3, 4, 5, 6] rfl)
  rw [show V = va_up (va_up V h (mva (V h) m 0)) g (mvb (V h) (V g) m 0) by rw [mva_0, mvb_0, up_id V h _ rfl, up_id V g _ rfl]] at hM
  exact LP_6 _ 0 (by omega) (Nat.lt_succ_self _) _ _ hM ls (lv_sub hl [0, 1, 2, 3, 4, 5] rfl)

abbrev rm_X0_warmth : Room := { frames := 1, cells := 0, slots := 0, locals := 24 }
set_option maxHeartbeats 4000000 in
set_option maxRecDepth 100000 in
theorem c_X0_warmth (D : va_G) (y : Nat → ClassId) (l : Launch) (S : fb_Sh) (V I : fb_V) (h : Nat) (hh : HeapAt S h) : CI D y l yX0_warmth wsX0_warmth rm_X0_warmth [.ref (sa S h)] (S, V, (sT V), I) (fun r u => r = wm (V h) ∧ u = (S, V, sT V, I)) 0 0 := by
  refine CI.of (cc := cX0_warmth) (maxL := 3) (ret := (some .int)) (by decide) rfl (Nat.le_of_ble_eq_true rfl) ?_
  intro pv ev s mv below meth cv A hx hb hml hr hown hts hlocks hname hM ls hl
  have hown : s.vm.findClass RX0 = some mv.cls := hown
  have hl : lv_has ls 3 [(0, .ref (sa S h))] := hl
  have hin0 : ∀ x ∈ wsX00, x ∈ wsX0_warmth := by decide +kernel
  obtain ⟨Q, hQ⟩ : ∃ Q, Q = MQ below (va_Qi (fun r u => r = wm (V h) ∧ u = (S, V, sT V, I)) (fun u t => fb_P D y A u t) A) (([.ref (sa S h)] : List Value).toArray) s 0 0 A := ⟨_, rfl⟩
  rw [← hQ]
  obtain ⟨hh1, hh2, hh3, hh4, hh5, hh6⟩ := hh
  refine lv_iconst (v := 0) hx hb dX0_warmth_0 (by decide) ?_
  refine lv_istore_n (lv' := [(1, .int 0), (0, .ref (sa S h))]) hx hb dX0_warmth_1 rfl hl (by decide) rfl (fun ls hl => ?_)
  refine lv_iconst (v := 0) hx hb dX0_warmth_2 (by decide) ?_
  refine lv_istore_n (lv' := [(2, .int 0), (1, .int 0), (0, .ref (sa S h))]) hx hb dX0_warmth_3 rfl hl (by decide) rfl (fun ls hl => ?_)
  have LP_4 : ∀ (n : Nat) (i : Nat) (hi : i ≤ 6), 6 - i < n → ∀ (H : Heap) (locs : List Loc), fb_M D y A s (S, V, (sT V), I) H locs → ∀ ls, lv_has ls 3 [(2, .int (nI i)), (1, .int (wsum (V h) i)), (0, .ref (sa S h))] → W pv l ev rm_X0_warmth s mv ([.ref (sa S h)] : List Value).toArray below meth cv H locs 0 0 Q (F0 mv 4 ls []) := by
    intro n_4
    induction n_4 with
    | zero => intro i hi hmu; exact absurd hmu (Nat.not_lt_zero _)
    | succ n_4 ih_4 =>
      intro i hi hmu H locs hM ls hl
      refine lv_iload_n hx hb dX0_warmth_4 rfl (lv_at hl 0 rfl) ?_
      refine lv_aload_n hx hb dX0_warmth_5 rfl (lv_at hl 2 rfl) ?_
      refine fb_get (r := h) hx hb hown hts hin0 hM (hh1) (ce0 (hh2)) rfl 0 (by decide) (hts (.fieldLink RX0 9 "FeatherBeds$Heap" "ofSize" "[I") (by decide +kernel)) (fun _ h9 => h9) (v := .ref (sa S (h + 1))) (congrArg (fun z => some (va_rf z)) (hh3)) dX0_warmth_6 ?_
      refine fb_alen (r := (h + 1)) hx hb hM (hh4) (ce12 (hh5)) 0 rfl (v := nI 6) (congrArg Int32.ofNat (hh6)) dX0_warmth_9 ?_
      refine lv_icmp_ge (tgt := 33) hx hb dX0_warmth_10 (by decide) (fun c_1 => ?_) (fun c_1 => ?_)
      · skip
        have e6 : i = 6 := by have := (nI_leI (a := 6) (b := i) (by omega) (by omega)).mp c_1; omega
        subst e6
        refine lv_iload_n hx hb dX0_warmth_33 rfl (lv_at hl 1 rfl) ?_
        refine lv_sipush (v := 900) hx hb dX0_warmth_34 (by decide) ?_
        refine va_mmin hx hb (hml.trans hl.1.symm) hown (hts (.methodLink RX0 27 Lib.Math.min.name) (by decide +kernel)) (hts (.static Lib.Math.min.name) (by decide +kernel)) (hts (.initialized "java/lang/Math") (by decide +kernel)) (hts (.code Lib.Math.min.name Lib.Math.min.code 2 (some .int)) (by decide +kernel)) (Nat.le_of_ble_eq_true rfl) (Nat.le_of_ble_eq_true rfl) (Nat.le_of_ble_eq_true rfl) (Nat.le_of_ble_eq_true rfl) dX0_warmth_37 ?_
        rw [hQ]
        exact fb_iret hx hb hr hlocks hM (⟨rfl, rfl⟩) dX0_warmth_40
      · skip
        have hi6 : i < 6 := by rcases Nat.lt_or_ge i 6 with h9 | h9; exact h9; exact absurd (nI_le h9 (by omega)) c_1
        refine lv_iload_n hx hb dX0_warmth_13 rfl (lv_at hl 1 rfl) ?_
        refine lv_bipush (v := 6) hx hb dX0_warmth_14 (by decide) ?_
        refine lv_iload_n hx hb dX0_warmth_16 rfl (lv_at hl 0 rfl) ?_
        refine lv_isub hx hb dX0_warmth_17 ?_
        refine lv_aload_n hx hb dX0_warmth_18 rfl (lv_at hl 2 rfl) ?_
        refine fb_get (r := h) hx hb hown hts hin0 hM (hh1) (ce0 (hh2)) rfl 0 (by decide) (hts (.fieldLink RX0 9 "FeatherBeds$Heap" "ofSize" "[I") (by decide +kernel)) (fun _ h9 => h9) (v := .ref (sa S (h + 1))) (congrArg (fun z => some (va_rf z)) (hh3)) dX0_warmth_19 ?_
        refine lv_iload_n hx hb dX0_warmth_22 rfl (lv_at hl 0 rfl) ?_
        refine fb_iald (r := (h + 1)) hx hb hM (hh4) (ce12 (hh5)) (k := i) (nI_clamp (by omega)) (by rw [hh6]; exact vp_in_nI (by omega) (by omega)) dX0_warmth_23 ?_
        refine lv_imul hx hb dX0_warmth_24 ?_
        refine lv_iadd hx hb dX0_warmth_25 ?_
        refine lv_istore_n (lv' := [(1, .int ((wsum (V h) i) + ((6 - (nI i)) * (V h i)))), (2, .int (nI i)), (0, .ref (sa S h))]) hx hb dX0_warmth_26 rfl hl (by decide) rfl (fun ls hl => ?_)
        refine lv_iinc (v := nI (i + 1)) (lv' := [(2, .int (nI (i + 1))), (1, .int ((wsum (V h) i) + ((6 - (nI i)) * (V h i)))), (0, .ref (sa S h))]) hx hb dX0_warmth_27 hl (k := 1) rfl (nI_1 _) (by decide) rfl (fun ls hl => ?_)
        refine lv_goto (tgt := 4) hx hb dX0_warmth_30 (by decide) ?_
        exact ih_4 (i + 1) (by omega) (by omega) _ _ hM ls (lv_sub hl [0, 1, 2] rfl)
  exact LP_4 _ 0 (by omega) (Nat.lt_succ_self _) _ _ hM ls (lv_sub hl [0, 1, 2] rfl)

abbrev rm_X0_prick : Room := { frames := 1, cells := 0, slots := 0, locals := 22 }
set_option maxHeartbeats 4000000 in
set_option maxRecDepth 100000 in
theorem c_X0_prick (D : va_G) (y : Nat → ClassId) (l : Launch) (S : fb_Sh) (V I : fb_V) (h : Nat) (hh : HeapAt S h) (d : Int32) : CI D y l yX0_prick wsX0_prick rm_X0_prick [.ref (sa S h), .int d] (S, V, (sT V), I) (fun r u => r = pkl d (V h) 6 ∧ u = (S, (va_up V h (pkv d (V h) 6)), sT (va_up V h (pkv d (V h) 6)), I)) 0 0 := by
  refine CI.of (cc := cX0_prick) (maxL := 6) (ret := (some .int)) (by decide) rfl (Nat.le_of_ble_eq_true rfl) ?_
  intro pv ev s mv below meth cv A hx hb hml hr hown hts hlocks hname hM ls hl
  have hown : s.vm.findClass RX0 = some mv.cls := hown
  have hl : lv_has ls 6 [(0, .ref (sa S h)), (1, .int d)] := hl
  have hin0 : ∀ x ∈ wsX00, x ∈ wsX0_prick := by decide +kernel
  obtain ⟨Q, hQ⟩ : ∃ Q, Q = MQ below (va_Qi (fun r u => r = pkl d (V h) 6 ∧ u = (S, (va_up V h (pkv d (V h) 6)), sT (va_up V h (pkv d (V h) 6)), I)) (fun u t => fb_P D y A u t) A) (([.ref (sa S h), .int d] : List Value).toArray) s 0 0 A := ⟨_, rfl⟩
  rw [← hQ]
  have hh0 := hh
  obtain ⟨hh1, hh2, hh3, hh4, hh5, hh6⟩ := hh
  refine lv_iconst (v := 0) hx hb dX0_prick_0 (by decide) ?_
  refine lv_istore_n (lv' := [(2, .int 0), (0, .ref (sa S h)), (1, .int d)]) hx hb dX0_prick_1 rfl hl (by decide) rfl (fun ls hl => ?_)
  refine lv_iconst (v := 0) hx hb dX0_prick_2 (by decide) ?_
  refine lv_istore_n (lv' := [(3, .int 0), (2, .int 0), (0, .ref (sa S h)), (1, .int d)]) hx hb dX0_prick_3 rfl hl (by decide) rfl (fun ls hl => ?_)
  have LP_4 : ∀ (n : Nat) (i : Nat) (hi : i ≤ 6), 6 - i < n → ∀ (H : Heap) (locs : List Loc), fb_M D y A s (S, (va_up V h (pkv d (V h) i)), (sT (va_up V h (pkv d (V h) i))), I) H locs → ∀ ls, lv_has ls 6 [(3, .int (nI i)), (2, .int (pkl d (V h) i)), (0, .ref (sa S h)), (1, .int d)] → W pv l ev rm_X0_prick s mv ([.ref (sa S h), .int d] : List Value).toArray below meth cv H locs 0 0 Q (F0 mv 4 ls []) := by
    intro n_4
    induction n_4 with
    | zero => intro i hi hmu; exact absurd hmu (Nat.not_lt_zero _)
    | succ n_4 ih_4 =>
      intro i hi hmu H locs hM ls hl
      refine lv_iload_n hx hb dX0_prick_4 rfl (lv_at hl 0 rfl) ?_
      refine lv_bipush (v := 6) hx hb dX0_prick_5 (by decide) ?_
      refine lv_icmp_ge (tgt := 54) hx hb dX0_prick_7 (by decide) (fun c_1 => ?_) (fun c_1 => ?_)
      · skip
        have e6 : i = 6 := by have := (nI_leI (a := 6) (b := i) (by omega) (by omega)).mp c_1; omega
        subst e6
        refine lv_iload_n hx hb dX0_prick_54 rfl (lv_at hl 1 rfl) ?_
        rw [hQ]
        exact fb_iret hx hb hr hlocks hM (⟨rfl, rfl⟩) dX0_prick_55
      · skip
        have hi6 : i < 6 := by rcases Nat.lt_or_ge i 6 with h9 | h9; exact h9; exact absurd (nI_le h9 (by omega)) c_1
        refine lv_iconst (v := 2) hx hb dX0_prick_10 (by decide) ?_
        refine lv_iload_n hx hb dX0_prick_11 rfl (lv_at hl 0 rfl) ?_
        refine lv_imul hx hb dX0_prick_12 ?_
        refine lv_iload_n hx hb dX0_prick_13 rfl (lv_at hl 3 rfl) ?_
        refine lv_isub hx hb dX0_prick_14 ?_
        refine lv_istore (lv' := [(4, .int ((2 * (nI i)) - d)), (3, .int (nI i)), (2, .int (pkl d (V h) i)), (0, .ref (sa S h)), (1, .int d)]) hx hb dX0_prick_15 hl (by decide) rfl (fun ls hl => ?_)
        refine lv_iload hx hb dX0_prick_17 (lv_at hl 0 rfl) ?_
        refine lv_if_le (tgt := 48) hx hb dX0_prick_19 (by decide) (fun c_2 => ?_) (fun c_2 => ?_)
        · skip
          have ez : pkn d (V h) i = 0 := if_pos c_2
          refine lv_iinc (v := nI (i + 1)) (lv' := [(3, .int (nI (i + 1))), (4, .int ((2 * (nI i)) - d)), (2, .int (pkl d (V h) i)), (0, .ref (sa S h)), (1, .int d)]) hx hb dX0_prick_48 hl (k := 1) rfl (nI_1 _) (by decide) rfl (fun ls hl => ?_)
          refine lv_goto (tgt := 4) hx hb dX0_prick_51 (by decide) ?_
          have eF : pkl d (V h) i = pkl d (V h) (i + 1) := by show _ = pkl d (V h) i + pkn d (V h) i; rw [ez, Int32.add_zero]
          rw [eF] at hl
          rw [pkv_z d (V h) i ez] at hM
          exact ih_4 (i + 1) (by omega) (by omega) _ _ hM ls (lv_sub hl [0, 2, 3, 4] rfl)
        · skip
          have en : pkn d (V h) i = V h i * (2 * nI i - d) / 30 := if_neg c_2
          refine lv_aload_n hx hb dX0_prick_22 rfl (lv_at hl 3 rfl) ?_
          refine lv_iload_n hx hb dX0_prick_23 rfl (lv_at hl 1 rfl) ?_
          refine fb_callVi (r := h) hx hb hml hown hts hM (hh1) (ce0 (hh2)) rfl (As := [.int (nI i)]) (rest := []) (c_X0_of D y l S (va_up V h (pkv d (V h) i)) I h hh0 (nI i)) (cwV 1 hts gX0_prick_X0_of rfl rfl rfl (by decide +kernel) ⟨Nat.le_of_ble_eq_true rfl, Nat.le_of_ble_eq_true rfl⟩) rfl hl.1 rfl (Nat.le_of_ble_eq_true rfl) dX0_prick_24 ⟨Nat.le_of_ble_eq_true rfl, Nat.le_of_ble_eq_true rfl⟩ (fun v_3 u H locs hp hM => ?_)
          obtain ⟨hv, hu⟩ := hp
          have hv := Eq.symm hv
          have hu := Eq.symm hu
          subst hv
          subst hu
          rw [of6_n ((va_up V h (pkv d (V h) i)) h) (k := i) (by omega)]
          rw [va_up_self, pkv_i]
          refine lv_iload hx hb dX0_prick_27 (lv_at hl 0 rfl) ?_
          refine lv_imul hx hb dX0_prick_29 ?_
          refine lv_bipush (v := 30) hx hb dX0_prick_30 (by decide) ?_
          refine lv_idiv hx hb dX0_prick_32 (by decide) ?_
          refine W.eq (g2 := F0 mv _ ls (.int (pkn d (V h) i) :: [])) (by first | rfl | rw [show (((V h i) * ((2 * (nI i)) - d)) / 30 : Int32) = pkn d (V h) i from en.symm]) ?_
          refine lv_istore (lv' := [(5, .int (pkn d (V h) i)), (4, .int ((2 * (nI i)) - d)), (3, .int (nI i)), (2, .int (pkl d (V h) i)), (0, .ref (sa S h)), (1, .int d)]) hx hb dX0_prick_33 hl (by decide) rfl (fun ls hl => ?_)
          refine lv_aload_n hx hb dX0_prick_35 rfl (lv_at hl 4 rfl) ?_
          refine lv_iload_n hx hb dX0_prick_36 rfl (lv_at hl 2 rfl) ?_
          refine lv_iload hx hb dX0_prick_37 (lv_at hl 0 rfl) ?_
          refine lv_ineg hx hb dX0_prick_39 ?_
          refine fb_callVv (r := h) hx hb hml hown hts hM (hh1) (ce0 (hh2)) rfl (As := [.int (nI i), .int (-(pkn d (V h) i))]) (rest := []) (c_X0_change D y l S (va_up V h (pkv d (V h) i)) I h hh0 i (by omega) (-(pkn d (V h) i))) (cwV 2 hts gX0_prick_X0_change rfl rfl rfl (by decide +kernel) ⟨Nat.le_of_ble_eq_true rfl, Nat.le_of_ble_eq_true rfl⟩) rfl hl.1 rfl (Nat.le_of_ble_eq_true rfl) dX0_prick_40 ⟨Nat.le_of_ble_eq_true rfl, Nat.le_of_ble_eq_true rfl⟩ (fun u H locs hp hM => ?_)
          have hp := Eq.symm hp
          subst hp
          have eV : (va_up (va_up V h (pkv d (V h) i)) h (chv ((va_up V h (pkv d (V h) i)) h) i (-(pkn d (V h) i)))) = (va_up V h (pkv d (V h) (i + 1))) := by rw [up_up, va_up_self, pkv_s]
          rw [eV] at hM
          clear eV
          refine lv_iload_n hx hb dX0_prick_43 rfl (lv_at hl 3 rfl) ?_
          refine lv_iload hx hb dX0_prick_44 (lv_at hl 0 rfl) ?_
          refine lv_iadd hx hb dX0_prick_46 ?_
          refine lv_istore_n (lv' := [(2, .int ((pkl d (V h) i) + (pkn d (V h) i))), (5, .int (pkn d (V h) i)), (4, .int ((2 * (nI i)) - d)), (3, .int (nI i)), (0, .ref (sa S h)), (1, .int d)]) hx hb dX0_prick_47 rfl hl (by decide) rfl (fun ls hl => ?_)
          refine lv_iinc (v := nI (i + 1)) (lv' := [(3, .int (nI (i + 1))), (2, .int ((pkl d (V h) i) + (pkn d (V h) i))), (5, .int (pkn d (V h) i)), (4, .int ((2 * (nI i)) - d)), (0, .ref (sa S h)), (1, .int d)]) hx hb dX0_prick_48 hl (k := 3) rfl (nI_1 _) (by decide) rfl (fun ls hl => ?_)
          refine lv_goto (tgt := 4) hx hb dX0_prick_51 (by decide) ?_
          exact ih_4 (i + 1) (by omega) (by omega) _ _ hM ls (lv_sub hl [0, 1, 4, 5] rfl)
  rw [show V = va_up V h (pkv d (V h) 0) from (up_id _ _ _ (pkv_0 _ _)).symm] at hM
  exact LP_4 _ 0 (by omega) (Nat.lt_succ_self _) _ _ hM ls (lv_sub hl [0, 1, 2, 3] rfl)
