abbrev rm_X4_thrown : Room := { frames := 0, cells := 0, slots := 0, locals := 0 }
set_option maxHeartbeats 4000000 in
set_option maxRecDepth 100000 in
theorem c_X4_thrown (D : va_G) (y : Nat → ClassId) (l : Launch) (S : fb_Sh) (V I : fb_V) (o nt : Nat) (cf rf : Nat → Nat) (hA : MdAt S o nt cf rf) : CI D y l yX4_thrown wsX4_thrown rm_X4_thrown [.ref (sa S o)] (S, V, (sT V), I) (fun z u => z = I o 0 ∧ u = (S, V, sT V, I)) 0 0 := by
  refine CI.of (cc := cX4_thrown) (maxL := 1) (ret := (some .int)) (by decide) rfl (Nat.le_of_ble_eq_true rfl) ?_
  intro pv ev s mv below meth cv A hx hb hml hr hown hts hlocks hname hM ls hl
  have hown : s.vm.findClass RX4 = some mv.cls := hown
  have hl : lv_has ls 1 [(0, .ref (sa S o))] := hl
  have hin4 : ∀ x ∈ wsX40, x ∈ wsX4_thrown := by decide +kernel
  obtain ⟨Q, hQ⟩ : ∃ Q, Q = MQ below (va_Qi (fun z u => z = I o 0 ∧ u = (S, V, sT V, I)) (fun u t => fb_P D y A u t) A) (([.ref (sa S o)] : List Value).toArray) s 0 0 A := ⟨_, rfl⟩
  rw [← hQ]
  refine lv_aload_n hx hb dX4_thrown_0 rfl (lv_at hl 0 rfl) ?_
  refine fb_get (r := o) hx hb hown hts hin4 hM ((hA.1).1) (ce4 ((hA.1).2)) rfl 0 (by decide) (hts (.fieldLink RX4 40 "FeatherBedsModel" "thrown" "I") (by decide +kernel)) (fun _ h9 => h9) (v := .int (I o 0)) rfl dX4_thrown_1 ?_
  rw [hQ]
  exact fb_iret hx hb hr hlocks hM (⟨rfl, rfl⟩) dX4_thrown_4

abbrev rm_X4_fail : Room := { frames := 0, cells := 0, slots := 0, locals := 0 }
set_option maxHeartbeats 4000000 in
set_option maxRecDepth 100000 in
theorem c_X4_fail (D : va_G) (y : Nat → ClassId) (l : Launch) (S : fb_Sh) (V I : fb_V) (o nt : Nat) (cf rf : Nat → Nat) (hA : MdAt S o nt cf rf) (n : Int32) : CI D y l yX4_fail wsX4_fail rm_X4_fail [.ref (sa S o), .int n] (S, V, (sT V), I) (fun z u => z = 0 ∧ u = (S, V, sT V, tf I o n)) 0 0 := by
  refine CI.of (cc := cX4_fail) (maxL := 2) (ret := (some .int)) (by decide) rfl (Nat.le_of_ble_eq_true rfl) ?_
  intro pv ev s mv below meth cv A hx hb hml hr hown hts hlocks hname hM ls hl
  have hown : s.vm.findClass RX4 = some mv.cls := hown
  have hl : lv_has ls 2 [(0, .ref (sa S o)), (1, .int n)] := hl
  have hin4 : ∀ x ∈ wsX40, x ∈ wsX4_fail := by decide +kernel
  obtain ⟨Q, hQ⟩ : ∃ Q, Q = MQ below (va_Qi (fun z u => z = 0 ∧ u = (S, V, sT V, tf I o n)) (fun u t => fb_P D y A u t) A) (([.ref (sa S o), .int n] : List Value).toArray) s 0 0 A := ⟨_, rfl⟩
  rw [← hQ]
  refine lv_aload_n hx hb dX4_fail_0 rfl (lv_at hl 0 rfl) ?_
  refine lv_iload_n hx hb dX4_fail_1 rfl (lv_at hl 1 rfl) ?_
  refine fb_put (r := o) hx hb hown hts hin4 tyX4 tyX4_ok nmX4 hM ((hA.1).1) (ce4 ((hA.1).2)) rfl 0 (by decide) (hts (.fieldLink RX4 40 "FeatherBedsModel" "thrown" "I") (by decide +kernel)) (fun _ h9 => h9) rfl (ty := .int) (by decide +kernel) rfl rfl (Nat.le_of_ble_eq_true rfl) dX4_fail_2 (up_I (j := 0) (v := n) (by rw [ce4 ((hA.1).2)]; simp [va_up, upd])) (w' := (S, V, (sT V), (va_up I o (upd (I o) 0 n)))) ⟨rfl, rfl, rfl⟩ (fun H locs hM => ?_)
  refine lv_iconst (v := 0) hx hb dX4_fail_5 (by decide) ?_
  rw [hQ]
  exact fb_iret hx hb hr hlocks hM (⟨rfl, rfl⟩) dX4_fail_6

abbrev rm_X4_isIn : Room := { frames := 0, cells := 0, slots := 0, locals := 0 }
set_option maxHeartbeats 4000000 in
set_option maxRecDepth 100000 in
theorem c_X4_isIn (D : va_G) (y : Nat → ClassId) (l : Launch) (S : fb_Sh) (V I : fb_V) (p0 p1 p2 : Int32) : CI D y l yX4_isIn wsX4_isIn rm_X4_isIn [.int p0, .int p1, .int p2] (S, V, (sT V), I) (fun z u => z = isN p0 p1 p2 ∧ u = (S, V, sT V, I)) 0 0 := by
  refine CI.of (cc := cX4_isIn) (maxL := 3) (ret := (some .boolean)) (by decide) rfl (Nat.le_of_ble_eq_true rfl) ?_
  intro pv ev s mv below meth cv A hx hb hml hr hown hts hlocks hname hM ls hl
  have hown : s.vm.findClass RX4 = some mv.cls := hown
  have hl : lv_has ls 3 [(0, .int p0), (1, .int p1), (2, .int p2)] := hl
  obtain ⟨Q, hQ⟩ : ∃ Q, Q = MQ below (va_Qi (fun z u => z = isN p0 p1 p2 ∧ u = (S, V, sT V, I)) (fun u t => fb_P D y A u t) A) (([.int p0, .int p1, .int p2] : List Value).toArray) s 0 0 A := ⟨_, rfl⟩
  rw [← hQ]
  refine lv_iload_n hx hb dX4_isIn_0 rfl (lv_at hl 0 rfl) ?_
  refine lv_iload_n hx hb dX4_isIn_1 rfl (lv_at hl 1 rfl) ?_
  refine lv_icmp_lt (tgt := 14) hx hb dX4_isIn_2 (by decide) (fun c_1 => ?_) (fun c_1 => ?_)
  · skip
    refine lv_iconst (v := 0) hx hb dX4_isIn_14 (by decide) ?_
    rw [hQ]
    exact fb_zret hx hb hr (by first | rfl | decide | assumption) hlocks hM (⟨by unfold isN; first | (rw [if_pos c_1]; done) | (rw [if_neg c_1, if_pos c_2]; done) | (rw [if_neg c_1, if_neg c_2]; done), rfl⟩) dX4_isIn_15
  · skip
    refine lv_iload_n hx hb dX4_isIn_5 rfl (lv_at hl 0 rfl) ?_
    refine lv_iload_n hx hb dX4_isIn_6 rfl (lv_at hl 2 rfl) ?_
    refine lv_icmp_gt (tgt := 14) hx hb dX4_isIn_7 (by decide) (fun c_2 => ?_) (fun c_2 => ?_)
    · skip
      refine lv_iconst (v := 0) hx hb dX4_isIn_14 (by decide) ?_
      rw [hQ]
      exact fb_zret hx hb hr (by first | rfl | decide | assumption) hlocks hM (⟨by unfold isN; first | (rw [if_pos c_1]; done) | (rw [if_neg c_1, if_pos c_2]; done) | (rw [if_neg c_1, if_neg c_2]; done), rfl⟩) dX4_isIn_15
    · skip
      refine lv_iconst (v := 1) hx hb dX4_isIn_10 (by decide) ?_
      refine lv_goto (tgt := 15) hx hb dX4_isIn_11 (by decide) ?_
      rw [hQ]
      exact fb_zret hx hb hr (by first | rfl | decide | assumption) hlocks hM (⟨by unfold isN; first | (rw [if_pos c_1]; done) | (rw [if_neg c_1, if_pos c_2]; done) | (rw [if_neg c_1, if_neg c_2]; done), rfl⟩) dX4_isIn_15

abbrev rm_X4_isSack : Room := { frames := 1, cells := 0, slots := 0, locals := 22 }
set_option maxHeartbeats 4000000 in
set_option maxRecDepth 100000 in
theorem c_X4_isSack (D : va_G) (y : Nat → ClassId) (l : Launch) (S : fb_Sh) (V I : fb_V) (o nt : Nat) (cf rf : Nat → Nat) (hA : MdAt S o nt cf rf) (ns : Nat) (df : Nat → Nat) (hF : MF I o ns nt cf rf df) (p0 : Int32) : CI D y l yX4_isSack wsX4_isSack rm_X4_isSack [.ref (sa S o), .int p0] (S, V, (sT V), I) (fun z u => z = isN p0 0 (nI ns - 1) ∧ u = (S, V, sT V, I)) 0 0 := by
  refine CI.of (cc := cX4_isSack) (maxL := 2) (ret := (some .boolean)) (by decide) rfl (Nat.le_of_ble_eq_true rfl) ?_
  intro pv ev s mv below meth cv A hx hb hml hr hown hts hlocks hname hM ls hl
  have hown : s.vm.findClass RX4 = some mv.cls := hown
  have hl : lv_has ls 2 [(0, .ref (sa S o)), (1, .int p0)] := hl
  have hin4 : ∀ x ∈ wsX40, x ∈ wsX4_isSack := by decide +kernel
  obtain ⟨Q, hQ⟩ : ∃ Q, Q = MQ below (va_Qi (fun z u => z = isN p0 0 (nI ns - 1) ∧ u = (S, V, sT V, I)) (fun u t => fb_P D y A u t) A) (([.ref (sa S o), .int p0] : List Value).toArray) s 0 0 A := ⟨_, rfl⟩
  rw [← hQ]
  have hns : ns ≤ 12 := hF.2.2.1
  have hnt : nt ≤ 6 := hF.2.2.2.1
  refine lv_iload_n hx hb dX4_isSack_0 rfl (lv_at hl 1 rfl) ?_
  refine lv_iconst (v := 0) hx hb dX4_isSack_1 (by decide) ?_
  refine lv_aload_n hx hb dX4_isSack_2 rfl (lv_at hl 0 rfl) ?_
  refine fb_get (r := o) hx hb hown hts hin4 hM ((hA.1).1) (ce4 ((hA.1).2)) rfl 1 (by decide) (hts (.fieldLink RX4 43 "FeatherBedsModel" "sacks" "I") (by decide +kernel)) (fun _ h9 => h9) (v := .int (nI ns)) (congrArg (fun z => some (Value.int z)) (hF.1)) dX4_isSack_3 ?_
  refine lv_iconst (v := 1) hx hb dX4_isSack_6 (by decide) ?_
  refine lv_isub hx hb dX4_isSack_7 ?_
  refine fb_callSi hx hb hml hown hts hM (As := [.int p0, .int 0, .int ((nI ns) - 1)]) (rest := []) (c_X4_isIn D y l S V I p0 0 ((nI ns) - 1)) (cwS 3 hts gX4_isSack_X4_isIn rfl rfl rfl (by decide +kernel) ⟨Nat.le_of_ble_eq_true rfl, Nat.le_of_ble_eq_true rfl⟩) rfl hl.1 rfl (Nat.le_of_ble_eq_true rfl) dX4_isSack_8 ⟨Nat.le_of_ble_eq_true rfl, Nat.le_of_ble_eq_true rfl⟩ (fun v_1 u H locs hp hM => ?_)
  obtain ⟨hv, hu⟩ := hp
  have hv := Eq.symm hv
  have hu := Eq.symm hu
  subst hv
  subst hu
  rw [hQ]
  exact fb_zret hx hb hr (by unfold isN; split <;> first | rfl | (split <;> rfl)) hlocks hM (⟨rfl, rfl⟩) dX4_isSack_11

abbrev rm_X4_isTick : Room := { frames := 1, cells := 0, slots := 0, locals := 22 }
set_option maxHeartbeats 4000000 in
set_option maxRecDepth 100000 in
theorem c_X4_isTick (D : va_G) (y : Nat → ClassId) (l : Launch) (S : fb_Sh) (V I : fb_V) (o nt : Nat) (cf rf : Nat → Nat) (hA : MdAt S o nt cf rf) (ns : Nat) (df : Nat → Nat) (hF : MF I o ns nt cf rf df) (p0 : Int32) : CI D y l yX4_isTick wsX4_isTick rm_X4_isTick [.ref (sa S o), .int p0] (S, V, (sT V), I) (fun z u => z = isN p0 0 (nI nt - 1) ∧ u = (S, V, sT V, I)) 0 0 := by
  refine CI.of (cc := cX4_isTick) (maxL := 2) (ret := (some .boolean)) (by decide) rfl (Nat.le_of_ble_eq_true rfl) ?_
  intro pv ev s mv below meth cv A hx hb hml hr hown hts hlocks hname hM ls hl
  have hown : s.vm.findClass RX4 = some mv.cls := hown
  have hl : lv_has ls 2 [(0, .ref (sa S o)), (1, .int p0)] := hl
  have hin4 : ∀ x ∈ wsX40, x ∈ wsX4_isTick := by decide +kernel
  obtain ⟨Q, hQ⟩ : ∃ Q, Q = MQ below (va_Qi (fun z u => z = isN p0 0 (nI nt - 1) ∧ u = (S, V, sT V, I)) (fun u t => fb_P D y A u t) A) (([.ref (sa S o), .int p0] : List Value).toArray) s 0 0 A := ⟨_, rfl⟩
  rw [← hQ]
  have hns : ns ≤ 12 := hF.2.2.1
  have hnt : nt ≤ 6 := hF.2.2.2.1
  refine lv_iload_n hx hb dX4_isTick_0 rfl (lv_at hl 1 rfl) ?_
  refine lv_iconst (v := 0) hx hb dX4_isTick_1 (by decide) ?_
  refine lv_aload_n hx hb dX4_isTick_2 rfl (lv_at hl 0 rfl) ?_
  refine fb_get (r := o) hx hb hown hts hin4 hM ((hA.1).1) (ce4 ((hA.1).2)) rfl 6 (by decide) (hts (.fieldLink RX4 50 "FeatherBedsModel" "ticks" "I") (by decide +kernel)) (fun _ h9 => h9) (v := .int (nI nt)) (congrArg (fun z => some (Value.int z)) (hF.2.1)) dX4_isTick_3 ?_
  refine lv_iconst (v := 1) hx hb dX4_isTick_6 (by decide) ?_
  refine lv_isub hx hb dX4_isTick_7 ?_
  refine fb_callSi hx hb hml hown hts hM (As := [.int p0, .int 0, .int ((nI nt) - 1)]) (rest := []) (c_X4_isIn D y l S V I p0 0 ((nI nt) - 1)) (cwS 3 hts gX4_isTick_X4_isIn rfl rfl rfl (by decide +kernel) ⟨Nat.le_of_ble_eq_true rfl, Nat.le_of_ble_eq_true rfl⟩) rfl hl.1 rfl (Nat.le_of_ble_eq_true rfl) dX4_isTick_8 ⟨Nat.le_of_ble_eq_true rfl, Nat.le_of_ble_eq_true rfl⟩ (fun v_1 u H locs hp hM => ?_)
  obtain ⟨hv, hu⟩ := hp
  have hv := Eq.symm hv
  have hu := Eq.symm hu
  subst hv
  subst hu
  rw [hQ]
  exact fb_zret hx hb hr (by unfold isN; split <;> first | rfl | (split <;> rfl)) hlocks hM (⟨rfl, rfl⟩) dX4_isTick_11

abbrev rm_X4_ti : Room := { frames := 0, cells := 0, slots := 0, locals := 0 }
set_option maxHeartbeats 4000000 in
set_option maxRecDepth 100000 in
theorem c_X4_ti (D : va_G) (y : Nat → ClassId) (l : Launch) (S : fb_Sh) (V I : fb_V) (o nt : Nat) (cf rf : Nat → Nat) (hA : MdAt S o nt cf rf) (ns : Nat) (df : Nat → Nat) (hF : MF I o ns nt cf rf df) (t : Nat) (ht : t < nt) (k : Nat) (hk : k < 3) : CI D y l yX4_ti wsX4_ti rm_X4_ti [.ref (sa S o), .int (nI t), .int (nI k)] (S, V, (sT V), I) (fun z u => z = I (o + 4) (3 * t + k) ∧ u = (S, V, sT V, I)) 0 0 := by
  refine CI.of (cc := cX4_ti) (maxL := 3) (ret := (some .int)) (by decide) rfl (Nat.le_of_ble_eq_true rfl) ?_
  intro pv ev s mv below meth cv A hx hb hml hr hown hts hlocks hname hM ls hl
  have hown : s.vm.findClass RX4 = some mv.cls := hown
  have hl : lv_has ls 3 [(0, .ref (sa S o)), (1, .int (nI t)), (2, .int (nI k))] := hl
  have hin4 : ∀ x ∈ wsX40, x ∈ wsX4_ti := by decide +kernel
  obtain ⟨Q, hQ⟩ : ∃ Q, Q = MQ below (va_Qi (fun z u => z = I (o + 4) (3 * t + k) ∧ u = (S, V, sT V, I)) (fun u t => fb_P D y A u t) A) (([.ref (sa S o), .int (nI t), .int (nI k)] : List Value).toArray) s 0 0 A := ⟨_, rfl⟩
  rw [← hQ]
  have hns : ns ≤ 12 := hF.2.2.1
  have hnt : nt ≤ 6 := hF.2.2.2.1
  refine lv_aload_n hx hb dX4_ti_0 rfl (lv_at hl 0 rfl) ?_
  refine fb_get (r := o) hx hb hown hts hin4 hM ((hA.1).1) (ce4 ((hA.1).2)) rfl 7 (by decide) (hts (.fieldLink RX4 23 "FeatherBedsModel" "tickTable" "[I") (by decide +kernel)) (fun _ h9 => h9) (v := .ref (sa S (o + 4))) (congrArg (fun z => some (va_rf z)) ((hA.2.1).2.2.2.1)) dX4_ti_1 ?_
  refine lv_iconst (v := 3) hx hb dX4_ti_4 (by decide) ?_
  refine lv_iload_n hx hb dX4_ti_5 rfl (lv_at hl 1 rfl) ?_
  refine lv_imul hx hb dX4_ti_6 ?_
  refine W.eq (g2 := F0 mv _ ls (.int (nI (3 * t)) :: .ref (sa S (o + 4)) :: [])) (by first | rfl | rw [show (3 * (nI t) : Int32) = nI (3 * t) from pk_mul 3 t]) ?_
  refine lv_iload_n hx hb dX4_ti_7 rfl (lv_at hl 2 rfl) ?_
  refine lv_iadd hx hb dX4_ti_8 ?_
  refine W.eq (g2 := F0 mv _ ls (.int (nI (3 * t + k)) :: .ref (sa S (o + 4)) :: [])) (by first | rfl | rw [show ((nI (3 * t)) + (nI k) : Int32) = nI (3 * t + k) from nI_add _ _]) ?_
  refine fb_iald (r := (o + 4)) hx hb hM ((hA.2.2.2.2.2.1).1) (ce6 ((hA.2.2.2.2.2.1).2.1)) (k := 3 * t + k) (nI_clamp (by omega)) (by rw [(hA.2.2.2.2.2.1).2.2]; exact vp_in_nI (by omega) (by omega)) dX4_ti_9 ?_
  rw [hQ]
  exact fb_iret hx hb hr hlocks hM (⟨rfl, rfl⟩) dX4_ti_10

abbrev rm_X4_squaresOf : Room := { frames := 1, cells := 0, slots := 0, locals := 22 }
set_option maxHeartbeats 4000000 in
set_option maxRecDepth 100000 in
theorem c_X4_squaresOf (D : va_G) (y : Nat → ClassId) (l : Launch) (S : fb_Sh) (V I : fb_V) (o nt : Nat) (cf rf : Nat → Nat) (hA : MdAt S o nt cf rf) (ns : Nat) (df : Nat → Nat) (hF : MF I o ns nt cf rf df) (t : Nat) (ht : t < nt) : CI D y l yX4_squaresOf wsX4_squaresOf rm_X4_squaresOf [.ref (sa S o), .int (nI t)] (S, V, (sT V), I) (fun z u => z = nI (cf t * rf t) ∧ u = (S, V, sT V, I)) 0 0 := by
  refine CI.of (cc := cX4_squaresOf) (maxL := 2) (ret := (some .int)) (by decide) rfl (Nat.le_of_ble_eq_true rfl) ?_
  intro pv ev s mv below meth cv A hx hb hml hr hown hts hlocks hname hM ls hl
  have hown : s.vm.findClass RX4 = some mv.cls := hown
  have hl : lv_has ls 2 [(0, .ref (sa S o)), (1, .int (nI t))] := hl
  have hin4 : ∀ x ∈ wsX40, x ∈ wsX4_squaresOf := by decide +kernel
  obtain ⟨Q, hQ⟩ : ∃ Q, Q = MQ below (va_Qi (fun z u => z = nI (cf t * rf t) ∧ u = (S, V, sT V, I)) (fun u t => fb_P D y A u t) A) (([.ref (sa S o), .int (nI t)] : List Value).toArray) s 0 0 A := ⟨_, rfl⟩
  rw [← hQ]
  have hns : ns ≤ 12 := hF.2.2.1
  have hnt : nt ≤ 6 := hF.2.2.2.1
  refine lv_aload_n hx hb dX4_squaresOf_0 rfl (lv_at hl 0 rfl) ?_
  refine lv_iload_n hx hb dX4_squaresOf_1 rfl (lv_at hl 1 rfl) ?_
  refine lv_iconst (v := 0) hx hb dX4_squaresOf_2 (by decide) ?_
  refine fb_callVi (r := o) hx hb hml hown hts hM ((hA.1).1) (ce4 ((hA.1).2)) rfl (As := [.int (nI t), .int 0]) (rest := []) (c_X4_ti D y l S V I o nt cf rf hA ns df hF t ht 0 (by decide)) (cwV 2 hts gX4_squaresOf_X4_ti rfl rfl rfl (by decide +kernel) ⟨Nat.le_of_ble_eq_true rfl, Nat.le_of_ble_eq_true rfl⟩) rfl hl.1 rfl (Nat.le_of_ble_eq_true rfl) dX4_squaresOf_3 ⟨Nat.le_of_ble_eq_true rfl, Nat.le_of_ble_eq_true rfl⟩ (fun v_1 u H locs hp hM => ?_)
  obtain ⟨hv, hu⟩ := hp
  have hv := Eq.symm hv
  have hu := Eq.symm hu
  subst hv
  subst hu
  rw [show (I (o + 4) (3 * t + 0) : Int32) = nI (cf t) from (hF.2.2.2.2.1 t ht).1]
  refine lv_aload_n hx hb dX4_squaresOf_6 rfl (lv_at hl 0 rfl) ?_
  refine lv_iload_n hx hb dX4_squaresOf_7 rfl (lv_at hl 1 rfl) ?_
  refine lv_iconst (v := 1) hx hb dX4_squaresOf_8 (by decide) ?_
  refine fb_callVi (r := o) hx hb hml hown hts hM ((hA.1).1) (ce4 ((hA.1).2)) rfl (As := [.int (nI t), .int 1]) (rest := [.int (nI (cf t))]) (c_X4_ti D y l S V I o nt cf rf hA ns df hF t ht 1 (by decide)) (cwV 2 hts gX4_squaresOf_X4_ti rfl rfl rfl (by decide +kernel) ⟨Nat.le_of_ble_eq_true rfl, Nat.le_of_ble_eq_true rfl⟩) rfl hl.1 rfl (Nat.le_of_ble_eq_true rfl) dX4_squaresOf_9 ⟨Nat.le_of_ble_eq_true rfl, Nat.le_of_ble_eq_true rfl⟩ (fun v_2 u H locs hp hM => ?_)
  obtain ⟨hv, hu⟩ := hp
  have hv := Eq.symm hv
  have hu := Eq.symm hu
  subst hv
  subst hu
  rw [show (I (o + 4) (3 * t + 1) : Int32) = nI (rf t) from (hF.2.2.2.2.1 t ht).2.1]
  refine lv_imul hx hb dX4_squaresOf_12 ?_
  refine W.eq (g2 := F0 mv _ ls (.int (nI (cf t * rf t)) :: [])) (by first | rfl | rw [show ((nI (cf t)) * (nI (rf t)) : Int32) = nI (cf t * rf t) from pk_mul _ _]) ?_
  rw [hQ]
  exact fb_iret hx hb hr hlocks hM (⟨rfl, rfl⟩) dX4_squaresOf_13

abbrev rm_X4_isSquare : Room := { frames := 2, cells := 0, slots := 0, locals := 43 }
set_option maxHeartbeats 4000000 in
set_option maxRecDepth 100000 in
theorem c_X4_isSquare_in (D : va_G) (y : Nat → ClassId) (l : Launch) (S : fb_Sh) (V I : fb_V) (o nt : Nat) (cf rf : Nat → Nat) (hA : MdAt S o nt cf rf) (ns : Nat) (df : Nat → Nat) (hF : MF I o ns nt cf rf df) (t : Nat) (ht : t < nt) (q : Nat) (hq : q < cf t * rf t) : CI D y l yX4_isSquare wsX4_isSquare rm_X4_isSquare [.ref (sa S o), .int (nI t), .int (nI q)] (S, V, (sT V), I) (fun z u => z = 1 ∧ u = (S, V, sT V, I)) 0 0 := by
  refine CI.of (cc := cX4_isSquare) (maxL := 3) (ret := (some .boolean)) (by decide) rfl (Nat.le_of_ble_eq_true rfl) ?_
  intro pv ev s mv below meth cv A hx hb hml hr hown hts hlocks hname hM ls hl
  have hown : s.vm.findClass RX4 = some mv.cls := hown
  have hl : lv_has ls 3 [(0, .ref (sa S o)), (1, .int (nI t)), (2, .int (nI q))] := hl
  have hin4 : ∀ x ∈ wsX40, x ∈ wsX4_isSquare := by decide +kernel
  obtain ⟨Q, hQ⟩ : ∃ Q, Q = MQ below (va_Qi (fun z u => z = 1 ∧ u = (S, V, sT V, I)) (fun u t => fb_P D y A u t) A) (([.ref (sa S o), .int (nI t), .int (nI q)] : List Value).toArray) s 0 0 A := ⟨_, rfl⟩
  rw [← hQ]
  have hns : ns ≤ 12 := hF.2.2.1
  have hnt : nt ≤ 6 := hF.2.2.2.1
  have hcr := hF.cr ht
  refine lv_aload_n hx hb dX4_isSquare_0 rfl (lv_at hl 0 rfl) ?_
  refine lv_iload_n hx hb dX4_isSquare_1 rfl (lv_at hl 1 rfl) ?_
  refine fb_callVi (r := o) hx hb hml hown hts hM ((hA.1).1) (ce4 ((hA.1).2)) rfl (As := [.int (nI t)]) (rest := []) (c_X4_isTick D y l S V I o nt cf rf hA ns df hF (nI t)) (cwV 1 hts gX4_isSquare_X4_isTick rfl rfl rfl (by decide +kernel) ⟨Nat.le_of_ble_eq_true rfl, Nat.le_of_ble_eq_true rfl⟩) rfl hl.1 rfl (Nat.le_of_ble_eq_true rfl) dX4_isSquare_2 ⟨Nat.le_of_ble_eq_true rfl, Nat.le_of_ble_eq_true rfl⟩ (fun v_1 u H locs hp hM => ?_)
  obtain ⟨hv, hu⟩ := hp
  have hv := Eq.symm hv
  have hu := Eq.symm hu
  subst hv
  subst hu
  rw [show (isN (nI t) 0 (nI nt - 1) : Int32) = 1 from isN_in (by omega) ht]
  refine lv_if_eq (tgt := 27) hx hb dX4_isSquare_5 (by decide) (fun c_2 => absurd c_2 (by decide)) (fun c_2 => ?_)
  refine lv_iload_n hx hb dX4_isSquare_8 rfl (lv_at hl 2 rfl) ?_
  refine lv_iconst (v := 0) hx hb dX4_isSquare_9 (by decide) ?_
  refine lv_aload_n hx hb dX4_isSquare_10 rfl (lv_at hl 0 rfl) ?_
  refine lv_iload_n hx hb dX4_isSquare_11 rfl (lv_at hl 1 rfl) ?_
  refine fb_callVi (r := o) hx hb hml hown hts hM ((hA.1).1) (ce4 ((hA.1).2)) rfl (As := [.int (nI t)]) (rest := [.int 0, .int (nI q)]) (c_X4_squaresOf D y l S V I o nt cf rf hA ns df hF t ht) (cwV 1 hts gX4_isSquare_X4_squaresOf rfl rfl rfl (by decide +kernel) ⟨Nat.le_of_ble_eq_true rfl, Nat.le_of_ble_eq_true rfl⟩) rfl hl.1 rfl (Nat.le_of_ble_eq_true rfl) dX4_isSquare_12 ⟨Nat.le_of_ble_eq_true rfl, Nat.le_of_ble_eq_true rfl⟩ (fun v_3 u H locs hp hM => ?_)
  obtain ⟨hv, hu⟩ := hp
  have hv := Eq.symm hv
  have hu := Eq.symm hu
  subst hv
  subst hu
  refine lv_iconst (v := 1) hx hb dX4_isSquare_15 (by decide) ?_
  refine lv_isub hx hb dX4_isSquare_16 ?_
  refine fb_callSi hx hb hml hown hts hM (As := [.int (nI q), .int 0, .int ((nI (cf t * rf t)) - 1)]) (rest := []) (c_X4_isIn D y l S V I (nI q) 0 ((nI (cf t * rf t)) - 1)) (cwS 3 hts gX4_isSquare_X4_isIn rfl rfl rfl (by decide +kernel) ⟨Nat.le_of_ble_eq_true rfl, Nat.le_of_ble_eq_true rfl⟩) rfl hl.1 rfl (Nat.le_of_ble_eq_true rfl) dX4_isSquare_17 ⟨Nat.le_of_ble_eq_true rfl, Nat.le_of_ble_eq_true rfl⟩ (fun v_4 u H locs hp hM => ?_)
  obtain ⟨hv, hu⟩ := hp
  have hv := Eq.symm hv
  have hu := Eq.symm hu
  subst hv
  subst hu
  rw [show (isN (nI q) 0 ((nI (cf t * rf t)) - 1) : Int32) = 1 from isN_in (by omega) hq]
  refine lv_if_eq (tgt := 27) hx hb dX4_isSquare_20 (by decide) (fun c_5 => absurd c_5 (by decide)) (fun c_5 => ?_)
  refine lv_iconst (v := 1) hx hb dX4_isSquare_23 (by decide) ?_
  refine lv_goto (tgt := 28) hx hb dX4_isSquare_24 (by decide) ?_
  rw [hQ]
  exact fb_zret hx hb hr (by first | rfl | decide | assumption) hlocks hM (⟨rfl, rfl⟩) dX4_isSquare_28

set_option maxHeartbeats 4000000 in
set_option maxRecDepth 100000 in
theorem c_X4_isSquare_ot (D : va_G) (y : Nat → ClassId) (l : Launch) (S : fb_Sh) (V I : fb_V) (o nt : Nat) (cf rf : Nat → Nat) (hA : MdAt S o nt cf rf) (ns : Nat) (df : Nat → Nat) (hF : MF I o ns nt cf rf df) (p0 : Int32) (ho : p0 < 0 ∨ nI nt ≤ p0) (p1 : Int32) : CI D y l yX4_isSquare wsX4_isSquare rm_X4_isSquare [.ref (sa S o), .int p0, .int p1] (S, V, (sT V), I) (fun z u => z = 0 ∧ u = (S, V, sT V, I)) 0 0 := by
  refine CI.of (cc := cX4_isSquare) (maxL := 3) (ret := (some .boolean)) (by decide) rfl (Nat.le_of_ble_eq_true rfl) ?_
  intro pv ev s mv below meth cv A hx hb hml hr hown hts hlocks hname hM ls hl
  have hown : s.vm.findClass RX4 = some mv.cls := hown
  have hl : lv_has ls 3 [(0, .ref (sa S o)), (1, .int p0), (2, .int p1)] := hl
  have hin4 : ∀ x ∈ wsX40, x ∈ wsX4_isSquare := by decide +kernel
  obtain ⟨Q, hQ⟩ : ∃ Q, Q = MQ below (va_Qi (fun z u => z = 0 ∧ u = (S, V, sT V, I)) (fun u t => fb_P D y A u t) A) (([.ref (sa S o), .int p0, .int p1] : List Value).toArray) s 0 0 A := ⟨_, rfl⟩
  rw [← hQ]
  have hns : ns ≤ 12 := hF.2.2.1
  have hnt : nt ≤ 6 := hF.2.2.2.1
  refine lv_aload_n hx hb dX4_isSquare_0 rfl (lv_at hl 0 rfl) ?_
  refine lv_iload_n hx hb dX4_isSquare_1 rfl (lv_at hl 1 rfl) ?_
  refine fb_callVi (r := o) hx hb hml hown hts hM ((hA.1).1) (ce4 ((hA.1).2)) rfl (As := [.int p0]) (rest := []) (c_X4_isTick D y l S V I o nt cf rf hA ns df hF p0) (cwV 1 hts gX4_isSquare_X4_isTick rfl rfl rfl (by decide +kernel) ⟨Nat.le_of_ble_eq_true rfl, Nat.le_of_ble_eq_true rfl⟩) rfl hl.1 rfl (Nat.le_of_ble_eq_true rfl) dX4_isSquare_2 ⟨Nat.le_of_ble_eq_true rfl, Nat.le_of_ble_eq_true rfl⟩ (fun v_1 u H locs hp hM => ?_)
  obtain ⟨hv, hu⟩ := hp
  have hv := Eq.symm hv
  have hu := Eq.symm hu
  subst hv
  subst hu
  rw [show (isN p0 0 (nI nt - 1) : Int32) = 0 from isN_out (by omega) ho]
  refine lv_if_eq (tgt := 27) hx hb dX4_isSquare_5 (by decide) (fun c_2 => ?_) (fun c_2 => absurd (by decide) c_2)
  refine lv_iconst (v := 0) hx hb dX4_isSquare_27 (by decide) ?_
  rw [hQ]
  exact fb_zret hx hb hr (by first | rfl | decide | assumption) hlocks hM (⟨rfl, rfl⟩) dX4_isSquare_28

set_option maxHeartbeats 4000000 in
set_option maxRecDepth 100000 in
theorem c_X4_isSquare_oq (D : va_G) (y : Nat → ClassId) (l : Launch) (S : fb_Sh) (V I : fb_V) (o nt : Nat) (cf rf : Nat → Nat) (hA : MdAt S o nt cf rf) (ns : Nat) (df : Nat → Nat) (hF : MF I o ns nt cf rf df) (t : Nat) (ht : t < nt) (p1 : Int32) (ho : p1 < 0 ∨ nI (cf t * rf t) ≤ p1) : CI D y l yX4_isSquare wsX4_isSquare rm_X4_isSquare [.ref (sa S o), .int (nI t), .int p1] (S, V, (sT V), I) (fun z u => z = 0 ∧ u = (S, V, sT V, I)) 0 0 := by
  refine CI.of (cc := cX4_isSquare) (maxL := 3) (ret := (some .boolean)) (by decide) rfl (Nat.le_of_ble_eq_true rfl) ?_
  intro pv ev s mv below meth cv A hx hb hml hr hown hts hlocks hname hM ls hl
  have hown : s.vm.findClass RX4 = some mv.cls := hown
  have hl : lv_has ls 3 [(0, .ref (sa S o)), (1, .int (nI t)), (2, .int p1)] := hl
  have hin4 : ∀ x ∈ wsX40, x ∈ wsX4_isSquare := by decide +kernel
  obtain ⟨Q, hQ⟩ : ∃ Q, Q = MQ below (va_Qi (fun z u => z = 0 ∧ u = (S, V, sT V, I)) (fun u t => fb_P D y A u t) A) (([.ref (sa S o), .int (nI t), .int p1] : List Value).toArray) s 0 0 A := ⟨_, rfl⟩
  rw [← hQ]
  have hns : ns ≤ 12 := hF.2.2.1
  have hnt : nt ≤ 6 := hF.2.2.2.1
  have hcr := hF.cr ht
  refine lv_aload_n hx hb dX4_isSquare_0 rfl (lv_at hl 0 rfl) ?_
  refine lv_iload_n hx hb dX4_isSquare_1 rfl (lv_at hl 1 rfl) ?_
  refine fb_callVi (r := o) hx hb hml hown hts hM ((hA.1).1) (ce4 ((hA.1).2)) rfl (As := [.int (nI t)]) (rest := []) (c_X4_isTick D y l S V I o nt cf rf hA ns df hF (nI t)) (cwV 1 hts gX4_isSquare_X4_isTick rfl rfl rfl (by decide +kernel) ⟨Nat.le_of_ble_eq_true rfl, Nat.le_of_ble_eq_true rfl⟩) rfl hl.1 rfl (Nat.le_of_ble_eq_true rfl) dX4_isSquare_2 ⟨Nat.le_of_ble_eq_true rfl, Nat.le_of_ble_eq_true rfl⟩ (fun v_1 u H locs hp hM => ?_)
  obtain ⟨hv, hu⟩ := hp
  have hv := Eq.symm hv
  have hu := Eq.symm hu
  subst hv
  subst hu
  rw [show (isN (nI t) 0 (nI nt - 1) : Int32) = 1 from isN_in (by omega) ht]
  refine lv_if_eq (tgt := 27) hx hb dX4_isSquare_5 (by decide) (fun c_2 => absurd c_2 (by decide)) (fun c_2 => ?_)
  refine lv_iload_n hx hb dX4_isSquare_8 rfl (lv_at hl 2 rfl) ?_
  refine lv_iconst (v := 0) hx hb dX4_isSquare_9 (by decide) ?_
  refine lv_aload_n hx hb dX4_isSquare_10 rfl (lv_at hl 0 rfl) ?_
  refine lv_iload_n hx hb dX4_isSquare_11 rfl (lv_at hl 1 rfl) ?_
  refine fb_callVi (r := o) hx hb hml hown hts hM ((hA.1).1) (ce4 ((hA.1).2)) rfl (As := [.int (nI t)]) (rest := [.int 0, .int p1]) (c_X4_squaresOf D y l S V I o nt cf rf hA ns df hF t ht) (cwV 1 hts gX4_isSquare_X4_squaresOf rfl rfl rfl (by decide +kernel) ⟨Nat.le_of_ble_eq_true rfl, Nat.le_of_ble_eq_true rfl⟩) rfl hl.1 rfl (Nat.le_of_ble_eq_true rfl) dX4_isSquare_12 ⟨Nat.le_of_ble_eq_true rfl, Nat.le_of_ble_eq_true rfl⟩ (fun v_3 u H locs hp hM => ?_)
  obtain ⟨hv, hu⟩ := hp
  have hv := Eq.symm hv
  have hu := Eq.symm hu
  subst hv
  subst hu
  refine lv_iconst (v := 1) hx hb dX4_isSquare_15 (by decide) ?_
  refine lv_isub hx hb dX4_isSquare_16 ?_
  refine fb_callSi hx hb hml hown hts hM (As := [.int p1, .int 0, .int ((nI (cf t * rf t)) - 1)]) (rest := []) (c_X4_isIn D y l S V I p1 0 ((nI (cf t * rf t)) - 1)) (cwS 3 hts gX4_isSquare_X4_isIn rfl rfl rfl (by decide +kernel) ⟨Nat.le_of_ble_eq_true rfl, Nat.le_of_ble_eq_true rfl⟩) rfl hl.1 rfl (Nat.le_of_ble_eq_true rfl) dX4_isSquare_17 ⟨Nat.le_of_ble_eq_true rfl, Nat.le_of_ble_eq_true rfl⟩ (fun v_4 u H locs hp hM => ?_)
  obtain ⟨hv, hu⟩ := hp
  have hv := Eq.symm hv
  have hu := Eq.symm hu
  subst hv
  subst hu
  rw [show (isN p1 0 ((nI (cf t * rf t)) - 1) : Int32) = 0 from isN_out (by omega) ho]
  refine lv_if_eq (tgt := 27) hx hb dX4_isSquare_20 (by decide) (fun c_5 => ?_) (fun c_5 => absurd (by decide) c_5)
  refine lv_iconst (v := 0) hx hb dX4_isSquare_27 (by decide) ?_
  rw [hQ]
  exact fb_zret hx hb hr (by first | rfl | decide | assumption) hlocks hM (⟨rfl, rfl⟩) dX4_isSquare_28

abbrev rm_X4_all : Room := { frames := 0, cells := 0, slots := 0, locals := 0 }
set_option maxHeartbeats 4000000 in
set_option maxRecDepth 100000 in
theorem c_X4_all (D : va_G) (y : Nat → ClassId) (l : Launch) (S : fb_Sh) (V I : fb_V) (a L : Nat) (h1 : a ∈ sR S) (h2 : sk S a = 6) (h3 : sn S a = L) (hL : L < 2 ^ 31) (q : Nat) (hq : 6 * q + 6 ≤ L) : CI D y l yX4_all wsX4_all rm_X4_all [.ref (sa S a), .int (nI q)] (S, V, (sT V), I) (fun z u => z = s6 (mx (I a) q) ∧ u = (S, V, sT V, I)) 0 0 := by
  refine CI.of (cc := cX4_all) (maxL := 4) (ret := (some .int)) (by decide) rfl (Nat.le_of_ble_eq_true rfl) ?_
  intro pv ev s mv below meth cv A hx hb hml hr hown hts hlocks hname hM ls hl
  have hown : s.vm.findClass RX4 = some mv.cls := hown
  have hl : lv_has ls 4 [(0, .ref (sa S a)), (1, .int (nI q))] := hl
  obtain ⟨Q, hQ⟩ : ∃ Q, Q = MQ below (va_Qi (fun z u => z = s6 (mx (I a) q) ∧ u = (S, V, sT V, I)) (fun u t => fb_P D y A u t) A) (([.ref (sa S a), .int (nI q)] : List Value).toArray) s 0 0 A := ⟨_, rfl⟩
  rw [← hQ]
  refine lv_iconst (v := 0) hx hb dX4_all_0 (by decide) ?_
  refine lv_istore_n (lv' := [(2, .int 0), (0, .ref (sa S a)), (1, .int (nI q))]) hx hb dX4_all_1 rfl hl (by decide) rfl (fun ls hl => ?_)
  refine lv_iconst (v := 0) hx hb dX4_all_2 (by decide) ?_
  refine lv_istore_n (lv' := [(3, .int 0), (2, .int 0), (0, .ref (sa S a)), (1, .int (nI q))]) hx hb dX4_all_3 rfl hl (by decide) rfl (fun ls hl => ?_)
  have LP_4 : ∀ (n : Nat) (i : Nat) (hi : i ≤ 6), 6 - i < n → ∀ (H : Heap) (locs : List Loc), fb_M D y A s (S, V, (sT V), I) H locs → ∀ ls, lv_has ls 4 [(3, .int (nI i)), (2, .int (asm (I a) q i)), (0, .ref (sa S a)), (1, .int (nI q))] → W pv l ev rm_X4_all s mv ([.ref (sa S a), .int (nI q)] : List Value).toArray below meth cv H locs 0 0 Q (F0 mv 4 ls []) := by
    intro n_4
    induction n_4 with
    | zero => intro i hi hmu; exact absurd hmu (Nat.not_lt_zero _)
    | succ n_4 ih_4 =>
      intro i hi hmu H locs hM ls hl
      refine lv_iload_n hx hb dX4_all_4 rfl (lv_at hl 0 rfl) ?_
      refine lv_bipush (v := 6) hx hb dX4_all_5 (by decide) ?_
      refine lv_icmp_ge (tgt := 27) hx hb dX4_all_7 (by decide) (fun c_1 => ?_) (fun c_1 => ?_)
      · skip
        have e_i : i = 6 := by have := (nI_leI (a := 6) (b := i) (by omega) (by omega)).mp c_1; omega
        subst e_i
        refine lv_iload_n hx hb dX4_all_27 rfl (lv_at hl 1 rfl) ?_
        rw [hQ]
        exact fb_iret hx hb hr hlocks hM (⟨asm_6 _ _, rfl⟩) dX4_all_28
      · skip
        have hi6 : i < 6 := Nat.lt_of_not_le (fun h => c_1 (nI_le h (by omega)))
        refine lv_iload_n hx hb dX4_all_10 rfl (lv_at hl 1 rfl) ?_
        refine lv_aload_n hx hb dX4_all_11 rfl (lv_at hl 2 rfl) ?_
        refine lv_bipush (v := 6) hx hb dX4_all_12 (by decide) ?_
        refine lv_iload_n hx hb dX4_all_14 rfl (lv_at hl 3 rfl) ?_
        refine lv_imul hx hb dX4_all_15 ?_
        refine W.eq (g2 := F0 mv _ ls (.int (nI (6 * q)) :: .ref (sa S a) :: .int (asm (I a) q i) :: [])) (by first | rfl | rw [show (6 * (nI q) : Int32) = nI (6 * q) from pk_mul 6 q]) ?_
        refine lv_iload_n hx hb dX4_all_16 rfl (lv_at hl 0 rfl) ?_
        refine lv_iadd hx hb dX4_all_17 ?_
        refine W.eq (g2 := F0 mv _ ls (.int (nI (6 * q + i)) :: .ref (sa S a) :: .int (asm (I a) q i) :: [])) (by first | rfl | rw [show ((nI (6 * q)) + (nI i) : Int32) = nI (6 * q + i) from nI_add _ _]) ?_
        refine fb_iald (r := a) hx hb hM (h1) (ce6 (h2)) (k := 6 * q + i) (nI_clamp (by omega)) (by rw [h3]; exact vp_in_nI (by omega) (by omega)) dX4_all_18 ?_
        refine lv_iadd hx hb dX4_all_19 ?_
        refine lv_istore_n (lv' := [(2, .int ((asm (I a) q i) + (I a (6 * q + i)))), (3, .int (nI i)), (0, .ref (sa S a)), (1, .int (nI q))]) hx hb dX4_all_20 rfl hl (by decide) rfl (fun ls hl => ?_)
        refine lv_iinc (v := nI (i + 1)) (lv' := [(3, .int (nI (i + 1))), (2, .int ((asm (I a) q i) + (I a (6 * q + i)))), (0, .ref (sa S a)), (1, .int (nI q))]) hx hb dX4_all_21 hl (k := 1) rfl (nI_1 _) (by decide) rfl (fun ls hl => ?_)
        refine lv_goto (tgt := 4) hx hb dX4_all_24 (by decide) ?_
        exact ih_4 (i + 1) (by omega) (by omega) _ _ hM ls (lv_sub hl [0, 1, 2, 3] rfl)
  exact LP_4 _ 0 (by omega) (Nat.lt_succ_self _) _ _ hM ls (lv_sub hl [0, 1, 2, 3] rfl)

abbrev rm_X4_sackTold : Room := { frames := 1, cells := 0, slots := 0, locals := 23 }
set_option maxHeartbeats 4000000 in
set_option maxRecDepth 100000 in
theorem c_X4_sackTold (D : va_G) (y : Nat → ClassId) (l : Launch) (S : fb_Sh) (V I : fb_V) (o nt : Nat) (cf rf : Nat → Nat) (hA : MdAt S o nt cf rf) (ns : Nat) (df : Nat → Nat) (hF : MF I o ns nt cf rf df) (i : Nat) (hi : i < ns) (p1 : Nat) (hp : p1 < 8) : CI D y l yX4_sackTold wsX4_sackTold rm_X4_sackTold [.ref (sa S o), .int (nI i), .int (nI p1)] (S, V, (sT V), I) (fun z u => z = sckT (mx (I (o + 1)) i) (I (o + 2) i) (nI p1) ∧ u = (S, V, sT V, I)) 0 0 := by
  refine CI.of (cc := cX4_sackTold) (maxL := 3) (ret := (some .int)) (by decide) rfl (Nat.le_of_ble_eq_true rfl) ?_
  intro pv ev s mv below meth cv A hx hb hml hr hown hts hlocks hname hM ls hl
  have hown : s.vm.findClass RX4 = some mv.cls := hown
  have hl : lv_has ls 3 [(0, .ref (sa S o)), (1, .int (nI i)), (2, .int (nI p1))] := hl
  have hin4 : ∀ x ∈ wsX40, x ∈ wsX4_sackTold := by decide +kernel
  obtain ⟨Q, hQ⟩ : ∃ Q, Q = MQ below (va_Qi (fun z u => z = sckT (mx (I (o + 1)) i) (I (o + 2) i) (nI p1) ∧ u = (S, V, sT V, I)) (fun u t => fb_P D y A u t) A) (([.ref (sa S o), .int (nI i), .int (nI p1)] : List Value).toArray) s 0 0 A := ⟨_, rfl⟩
  rw [← hQ]
  have hns : ns ≤ 12 := hF.2.2.1
  have hnt : nt ≤ 6 := hF.2.2.2.1
  refine lv_iload_n hx hb dX4_sackTold_0 rfl (lv_at hl 2 rfl) ?_
  refine lv_bipush (v := 6) hx hb dX4_sackTold_1 (by decide) ?_
  refine lv_icmp_ge (tgt := 20) hx hb dX4_sackTold_3 (by decide) (fun c_1 => ?_) (fun c_1 => ?_)
  · skip
    refine lv_iload_n hx hb dX4_sackTold_20 rfl (lv_at hl 2 rfl) ?_
    refine lv_bipush (v := 6) hx hb dX4_sackTold_21 (by decide) ?_
    refine lv_icmp_ne (tgt := 37) hx hb dX4_sackTold_23 (by decide) (fun c_2 => ?_) (fun c_2 => ?_)
    · skip
      refine lv_aload_n hx hb dX4_sackTold_37 rfl (lv_at hl 0 rfl) ?_
      refine fb_get (r := o) hx hb hown hts hin4 hM ((hA.1).1) (ce4 ((hA.1).2)) rfl 3 (by decide) (hts (.fieldLink RX4 13 "FeatherBedsModel" "damp" "[I") (by decide +kernel)) (fun _ h9 => h9) (v := .ref (sa S (o + 2))) (congrArg (fun z => some (va_rf z)) ((hA.2.1).2.1)) dX4_sackTold_38 ?_
      refine lv_iload_n hx hb dX4_sackTold_41 rfl (lv_at hl 1 rfl) ?_
      refine fb_iald (r := (o + 2)) hx hb hM ((hA.2.2.2.1).1) (ce6 ((hA.2.2.2.1).2.1)) (k := i) (nI_clamp (by omega)) (by rw [(hA.2.2.2.1).2.2]; exact vp_in_nI (by omega) (by omega)) dX4_sackTold_42 ?_
      rw [hQ]
      exact fb_iret hx hb hr hlocks hM (⟨by unfold sckT; first | (rw [if_neg c_1, of6_n _ hp6, mx_k _ _ hp6]; done) | (rw [if_pos c_1, if_pos c_2]; done) | (rw [if_pos c_1, if_neg c_2]; done), rfl⟩) dX4_sackTold_43
    · skip
      refine lv_aload_n hx hb dX4_sackTold_26 rfl (lv_at hl 0 rfl) ?_
      refine fb_get (r := o) hx hb hown hts hin4 hM ((hA.1).1) (ce4 ((hA.1).2)) rfl 2 (by decide) (hts (.fieldLink RX4 9 "FeatherBedsModel" "sackHeaps" "[I") (by decide +kernel)) (fun _ h9 => h9) (v := .ref (sa S (o + 1))) (congrArg (fun z => some (va_rf z)) ((hA.2.1).1)) dX4_sackTold_27 ?_
      refine lv_iload_n hx hb dX4_sackTold_30 rfl (lv_at hl 1 rfl) ?_
      refine fb_callSi hx hb hml hown hts hM (As := [.ref (sa S (o + 1)), .int (nI i)]) (rest := []) (c_X4_all D y l S V I (o + 1) 72 (hA.2.2.1).1 (hA.2.2.1).2.1 (hA.2.2.1).2.2 (by omega) i (by omega)) (cwS 2 hts gX4_sackTold_X4_all rfl rfl rfl (by decide +kernel) ⟨Nat.le_of_ble_eq_true rfl, Nat.le_of_ble_eq_true rfl⟩) rfl hl.1 rfl (Nat.le_of_ble_eq_true rfl) dX4_sackTold_31 ⟨Nat.le_of_ble_eq_true rfl, Nat.le_of_ble_eq_true rfl⟩ (fun v_3 u H locs hp hM => ?_)
      obtain ⟨hv, hu⟩ := hp
      have hv := Eq.symm hv
      have hu := Eq.symm hu
      subst hv
      subst hu
      refine lv_goto (tgt := 43) hx hb dX4_sackTold_34 (by decide) ?_
      rw [hQ]
      exact fb_iret hx hb hr hlocks hM (⟨by unfold sckT; first | (rw [if_neg c_1, of6_n _ hp6, mx_k _ _ hp6]; done) | (rw [if_pos c_1, if_pos c_2]; done) | (rw [if_pos c_1, if_neg c_2]; done), rfl⟩) dX4_sackTold_43
  · skip
    have hp6 : p1 < 6 := Nat.lt_of_not_le (fun h => c_1 (nI_le (a := 6) h (by omega)))
    refine lv_aload_n hx hb dX4_sackTold_6 rfl (lv_at hl 0 rfl) ?_
    refine fb_get (r := o) hx hb hown hts hin4 hM ((hA.1).1) (ce4 ((hA.1).2)) rfl 2 (by decide) (hts (.fieldLink RX4 9 "FeatherBedsModel" "sackHeaps" "[I") (by decide +kernel)) (fun _ h9 => h9) (v := .ref (sa S (o + 1))) (congrArg (fun z => some (va_rf z)) ((hA.2.1).1)) dX4_sackTold_7 ?_
    refine lv_bipush (v := 6) hx hb dX4_sackTold_10 (by decide) ?_
    refine lv_iload_n hx hb dX4_sackTold_12 rfl (lv_at hl 1 rfl) ?_
    refine lv_imul hx hb dX4_sackTold_13 ?_
    refine W.eq (g2 := F0 mv _ ls (.int (nI (6 * i)) :: .ref (sa S (o + 1)) :: [])) (by first | rfl | rw [show (6 * (nI i) : Int32) = nI (6 * i) from pk_mul 6 i]) ?_
    refine lv_iload_n hx hb dX4_sackTold_14 rfl (lv_at hl 2 rfl) ?_
    refine lv_iadd hx hb dX4_sackTold_15 ?_
    refine W.eq (g2 := F0 mv _ ls (.int (nI (6 * i + p1)) :: .ref (sa S (o + 1)) :: [])) (by first | rfl | rw [show ((nI (6 * i)) + (nI p1) : Int32) = nI (6 * i + p1) from nI_add _ _]) ?_
    refine fb_iald (r := (o + 1)) hx hb hM ((hA.2.2.1).1) (ce6 ((hA.2.2.1).2.1)) (k := 6 * i + p1) (nI_clamp (by omega)) (by rw [(hA.2.2.1).2.2]; exact vp_in_nI (by omega) (by omega)) dX4_sackTold_16 ?_
    refine lv_goto (tgt := 43) hx hb dX4_sackTold_17 (by decide) ?_
    rw [hQ]
    exact fb_iret hx hb hr hlocks hM (⟨by unfold sckT; first | (rw [if_neg c_1, of6_n _ hp6, mx_k _ _ hp6]; done) | (rw [if_pos c_1, if_pos c_2]; done) | (rw [if_pos c_1, if_neg c_2]; done), rfl⟩) dX4_sackTold_43

abbrev rm_X4_flight : Room := { frames := 1, cells := 0, slots := 0, locals := 24 }
set_option maxHeartbeats 4000000 in
set_option maxRecDepth 100000 in
theorem c_X4_flight (D : va_G) (y : Nat → ClassId) (l : Launch) (S : fb_Sh) (V I : fb_V) (p0 p1 p2 : Int32) (hz : ¬ (p1 + 1) * (4 + p2) = 0) : CI D y l yX4_flight wsX4_flight rm_X4_flight [.int p0, .int p1, .int p2] (S, V, (sT V), I) (fun z u => z = flm p0 p1 p2 ∧ u = (S, V, sT V, I)) 0 0 := by
  refine CI.of (cc := cX4_flight) (maxL := 3) (ret := (some .int)) (by decide) rfl (Nat.le_of_ble_eq_true rfl) ?_
  intro pv ev s mv below meth cv A hx hb hml hr hown hts hlocks hname hM ls hl
  have hown : s.vm.findClass RX4 = some mv.cls := hown
  have hl : lv_has ls 3 [(0, .int p0), (1, .int p1), (2, .int p2)] := hl
  obtain ⟨Q, hQ⟩ : ∃ Q, Q = MQ below (va_Qi (fun z u => z = flm p0 p1 p2 ∧ u = (S, V, sT V, I)) (fun u t => fb_P D y A u t) A) (([.int p0, .int p1, .int p2] : List Value).toArray) s 0 0 A := ⟨_, rfl⟩
  rw [← hQ]
  refine lv_iconst (v := 4) hx hb dX4_flight_0 (by decide) ?_
  refine lv_iload_n hx hb dX4_flight_1 rfl (lv_at hl 0 rfl) ?_
  refine lv_bipush (v := 12) hx hb dX4_flight_2 (by decide) ?_
  refine lv_imul hx hb dX4_flight_4 ?_
  refine lv_iload_n hx hb dX4_flight_5 rfl (lv_at hl 1 rfl) ?_
  refine lv_iconst (v := 1) hx hb dX4_flight_6 (by decide) ?_
  refine lv_iadd hx hb dX4_flight_7 ?_
  refine lv_iconst (v := 4) hx hb dX4_flight_8 (by decide) ?_
  refine lv_iload_n hx hb dX4_flight_9 rfl (lv_at hl 2 rfl) ?_
  refine lv_iadd hx hb dX4_flight_10 ?_
  refine lv_imul hx hb dX4_flight_11 ?_
  refine lv_idiv hx hb dX4_flight_12 hz ?_
  refine va_mmin hx hb (hml.trans hl.1.symm) hown (hts (.methodLink RX4 83 Lib.Math.min.name) (by decide +kernel)) (hts (.static Lib.Math.min.name) (by decide +kernel)) (hts (.initialized "java/lang/Math") (by decide +kernel)) (hts (.code Lib.Math.min.name Lib.Math.min.code 2 (some .int)) (by decide +kernel)) (Nat.le_of_ble_eq_true rfl) (Nat.le_of_ble_eq_true rfl) (Nat.le_of_ble_eq_true rfl) (Nat.le_of_ble_eq_true rfl) dX4_flight_13 ?_
  rw [hQ]
  exact fb_iret hx hb hr hlocks hM (⟨rfl, rfl⟩) dX4_flight_16

abbrev rm_X4_falls : Room := { frames := 0, cells := 0, slots := 0, locals := 0 }
set_option maxHeartbeats 4000000 in
set_option maxRecDepth 100000 in
theorem c_X4_falls (D : va_G) (y : Nat → ClassId) (l : Launch) (S : fb_Sh) (V I : fb_V) (p0 p1 p2 : Int32) : CI D y l yX4_falls wsX4_falls rm_X4_falls [.int p0, .int p1, .int p2] (S, V, (sT V), I) (fun z u => z = brn p0 p1 p2 ∧ u = (S, V, sT V, I)) 0 0 := by
  refine CI.of (cc := cX4_falls) (maxL := 5) (ret := (some .int)) (by decide) rfl (Nat.le_of_ble_eq_true rfl) ?_
  intro pv ev s mv below meth cv A hx hb hml hr hown hts hlocks hname hM ls hl
  have hown : s.vm.findClass RX4 = some mv.cls := hown
  have hl : lv_has ls 5 [(0, .int p0), (1, .int p1), (2, .int p2)] := hl
  obtain ⟨Q, hQ⟩ : ∃ Q, Q = MQ below (va_Qi (fun z u => z = brn p0 p1 p2 ∧ u = (S, V, sT V, I)) (fun u t => fb_P D y A u t) A) (([.int p0, .int p1, .int p2] : List Value).toArray) s 0 0 A := ⟨_, rfl⟩
  rw [← hQ]
  refine lv_iload_n hx hb dX4_falls_0 rfl (lv_at hl 0 rfl) ?_
  refine lv_bipush (v := 6) hx hb dX4_falls_1 (by decide) ?_
  refine lv_imul hx hb dX4_falls_3 ?_
  refine lv_bipush (v := 10) hx hb dX4_falls_4 (by decide) ?_
  refine lv_idiv hx hb dX4_falls_6 (by decide) ?_
  refine lv_istore_n (lv' := [(3, .int ((p0 * 6) / 10)), (0, .int p0), (1, .int p1), (2, .int p2)]) hx hb dX4_falls_7 rfl hl (by decide) rfl (fun ls hl => ?_)
  refine lv_iload_n hx hb dX4_falls_8 rfl (lv_at hl 1 rfl) ?_
  refine lv_iconst (v := 4) hx hb dX4_falls_9 (by decide) ?_
  refine lv_idiv hx hb dX4_falls_10 (by decide) ?_
  refine lv_istore (lv' := [(4, .int (p0 / 4)), (3, .int ((p0 * 6) / 10)), (0, .int p0), (1, .int p1), (2, .int p2)]) hx hb dX4_falls_11 hl (by decide) rfl (fun ls hl => ?_)
  refine lv_iload_n hx hb dX4_falls_13 rfl (lv_at hl 4 rfl) ?_
  refine lv_iload_n hx hb dX4_falls_14 rfl (lv_at hl 3 rfl) ?_
  refine lv_icmp_ne (tgt := 22) hx hb dX4_falls_15 (by decide) (fun c_1 => ?_) (fun c_1 => ?_)
  · skip
    refine lv_iload_n hx hb dX4_falls_22 rfl (lv_at hl 4 rfl) ?_
    refine lv_iload_n hx hb dX4_falls_23 rfl (lv_at hl 3 rfl) ?_
    refine lv_iconst (v := 1) hx hb dX4_falls_24 (by decide) ?_
    refine lv_iadd hx hb dX4_falls_25 ?_
    refine lv_icmp_ne (tgt := 34) hx hb dX4_falls_26 (by decide) (fun c_2 => ?_) (fun c_2 => ?_)
    · skip
      refine lv_iload_n hx hb dX4_falls_34 rfl (lv_at hl 4 rfl) ?_
      refine lv_iload_n hx hb dX4_falls_35 rfl (lv_at hl 3 rfl) ?_
      refine lv_iconst (v := 1) hx hb dX4_falls_36 (by decide) ?_
      refine lv_isub hx hb dX4_falls_37 ?_
      refine lv_icmp_ne (tgt := 50) hx hb dX4_falls_38 (by decide) (fun c_3 => ?_) (fun c_3 => ?_)
      · skip
        refine lv_iconst (v := 0) hx hb dX4_falls_50 (by decide) ?_
        rw [hQ]
        exact fb_iret hx hb hr hlocks hM (⟨by unfold brn; first | (rw [if_pos c_1]; done) | (rw [if_neg c_1, if_pos c_2]; done) | (rw [if_neg c_1, if_neg c_2, if_pos c_3]; done) | (rw [if_neg c_1, if_neg c_2, if_neg c_3]; done), rfl⟩) dX4_falls_51
      · skip
        refine lv_iload_n hx hb dX4_falls_41 rfl (lv_at hl 2 rfl) ?_
        refine lv_iload_n hx hb dX4_falls_42 rfl (lv_at hl 1 rfl) ?_
        refine lv_isub hx hb dX4_falls_43 ?_
        refine lv_iload hx hb dX4_falls_44 (lv_at hl 0 rfl) ?_
        refine lv_isub hx hb dX4_falls_46 ?_
        refine lv_goto (tgt := 51) hx hb dX4_falls_47 (by decide) ?_
        rw [hQ]
        exact fb_iret hx hb hr hlocks hM (⟨by unfold brn; first | (rw [if_pos c_1]; done) | (rw [if_neg c_1, if_pos c_2]; done) | (rw [if_neg c_1, if_neg c_2, if_pos c_3]; done) | (rw [if_neg c_1, if_neg c_2, if_neg c_3]; done), rfl⟩) dX4_falls_51
    · skip
      refine lv_iload hx hb dX4_falls_29 (lv_at hl 0 rfl) ?_
      refine lv_goto (tgt := 51) hx hb dX4_falls_31 (by decide) ?_
      rw [hQ]
      exact fb_iret hx hb hr hlocks hM (⟨by unfold brn; first | (rw [if_pos c_1]; done) | (rw [if_neg c_1, if_pos c_2]; done) | (rw [if_neg c_1, if_neg c_2, if_pos c_3]; done) | (rw [if_neg c_1, if_neg c_2, if_neg c_3]; done), rfl⟩) dX4_falls_51
  · skip
    refine lv_iload_n hx hb dX4_falls_18 rfl (lv_at hl 1 rfl) ?_
    refine lv_goto (tgt := 51) hx hb dX4_falls_19 (by decide) ?_
    rw [hQ]
    exact fb_iret hx hb hr hlocks hM (⟨by unfold brn; first | (rw [if_pos c_1]; done) | (rw [if_neg c_1, if_pos c_2]; done) | (rw [if_neg c_1, if_neg c_2, if_pos c_3]; done) | (rw [if_neg c_1, if_neg c_2, if_neg c_3]; done), rfl⟩) dX4_falls_51
