set_option maxHeartbeats 4000000 in
set_option maxRecDepth 100000 in
theorem c_X4_tickTold_8 (D : va_G) (y : Nat → ClassId) (l : Launch) (S : fb_Sh) (V I : fb_V) (o nt : Nat) (cf rf : Nat → Nat) (hA : MdAt S o nt cf rf) (ns : Nat) (df : Nat → Nat) (hF : MF I o ns nt cf rf df) (t : Nat) (ht : t < nt) : CI D y l yX4_tickTold wsX4_tickTold rm_X4_tickTold [.ref (sa S o), .int (nI t), .int 8] (S, V, (sT V), I) (fun z u => ∃ L : Nat → Nat, (∀ j, L j ≤ j) ∧ conn (cf t) (cf t * rf t) (I (o + 20 + t)) L ∧ (∀ i, i < 2 * (cf t * rf t) → opn (cf t) (cf t * rf t) (I (o + 20 + t)) (i / 2) (i % 2) = true → L (i / 2) = L (oft (cf t) (i / 2) (i % 2))) ∧ z = nI (pcnt L (cf t * rf t)) ∧ ∃ g, u = (S, V, sT V, va_up I (o + 7) g)) 0 0 := by
  refine CI.of (cc := cX4_tickTold) (maxL := 5) (ret := (some .int)) (by decide) rfl (Nat.le_of_ble_eq_true rfl) ?_
  intro pv ev s mv below meth cv A hx hb hml hr hown hts hlocks hname hM ls hl
  have hown : s.vm.findClass RX4 = some mv.cls := hown
  have hl : lv_has ls 5 [(0, .ref (sa S o)), (1, .int (nI t)), (2, .int 8)] := hl
  have hin4 : ∀ x ∈ wsX40, x ∈ wsX4_tickTold := by decide +kernel
  obtain ⟨Q, hQ⟩ : ∃ Q, Q = MQ below (va_Qi (fun z u => ∃ L : Nat → Nat, (∀ j, L j ≤ j) ∧ conn (cf t) (cf t * rf t) (I (o + 20 + t)) L ∧ (∀ i, i < 2 * (cf t * rf t) → opn (cf t) (cf t * rf t) (I (o + 20 + t)) (i / 2) (i % 2) = true → L (i / 2) = L (oft (cf t) (i / 2) (i % 2))) ∧ z = nI (pcnt L (cf t * rf t)) ∧ ∃ g, u = (S, V, sT V, va_up I (o + 7) g)) (fun u t => fb_P D y A u t) A) (([.ref (sa S o), .int (nI t), .int 8] : List Value).toArray) s 0 0 A := ⟨_, rfl⟩
  rw [← hQ]
  have hns : ns ≤ 12 := hF.2.2.1
  have hnt : nt ≤ 6 := hF.2.2.2.1
  have hcr := hF.cr ht
  have htF := hF.2.2.2.2.1 t ht
  refine lv_iconst (v := 0) hx hb dX4_tickTold_0 (by decide) ?_
  refine lv_istore_n (lv' := [(3, .int 0), (0, .ref (sa S o)), (1, .int (nI t)), (2, .int 8)]) hx hb dX4_tickTold_1 rfl hl (by decide) rfl (fun ls hl => ?_)
  refine lv_iload_n hx hb dX4_tickTold_2 rfl (lv_at hl 3 rfl) ?_
  refine lv_tableIn (off := 97) (tgt := 100) hx hb dX4_tickTold_3 (by decide) (by decide) rfl (by decide) ?_
  refine lv_aload_n hx hb dX4_tickTold_100 rfl (lv_at hl 1 rfl) ?_
  refine lv_iload_n hx hb dX4_tickTold_101 rfl (lv_at hl 2 rfl) ?_
  refine fb_callVi (r := o) hx hb hml hown hts hM ((hA.1).1) (ce4 ((hA.1).2)) rfl (As := [.int (nI t)]) (rest := []) (c_X4_parts D y l S V I o nt cf rf hA ns df hF t ht) (cwV 1 hts gX4_tickTold_X4_parts rfl rfl rfl (by decide +kernel) ⟨Nat.le_of_ble_eq_true rfl, Nat.le_of_ble_eq_true rfl⟩) rfl hl.1 rfl (Nat.le_of_ble_eq_true rfl) dX4_tickTold_102 ⟨Nat.le_of_ble_eq_true rfl, Nat.le_of_ble_eq_true rfl⟩ (fun v_1 u H locs hp hM => ?_)
  obtain ⟨L, l1, l2, l3, hv_, gg, hu_⟩ := hp
  have hv_ := Eq.symm hv_
  have hu_ := Eq.symm hu_
  subst hv_
  subst hu_
  rw [hQ]
  exact fb_iret hx hb hr hlocks hM (⟨L, l1, l2, l3, rfl, gg, rfl⟩) dX4_tickTold_105

set_option maxHeartbeats 4000000 in
set_option maxRecDepth 100000 in
theorem c_X4_tick_8 (D : va_G) (y : Nat → ClassId) (l : Launch) (S : fb_Sh) (V I : fb_V) (o nt : Nat) (cf rf : Nat → Nat) (hA : MdAt S o nt cf rf) (ns : Nat) (df : Nat → Nat) (hF : MF I o ns nt cf rf df) (t : Nat) (ht : t < nt) : CI D y l yX4_tick wsX4_tick rm_X4_tick [.ref (sa S o), .int (nI t), .int 8] (S, V, (sT V), I) (fun z u => ∃ L : Nat → Nat, (∀ j, L j ≤ j) ∧ conn (cf t) (cf t * rf t) (I (o + 20 + t)) L ∧ (∀ i, i < 2 * (cf t * rf t) → opn (cf t) (cf t * rf t) (I (o + 20 + t)) (i / 2) (i % 2) = true → L (i / 2) = L (oft (cf t) (i / 2) (i % 2))) ∧ z = nI (pcnt L (cf t * rf t)) ∧ ∃ g, u = (S, V, sT V, va_up (t0 I o) (o + 7) g)) 0 0 := by
  refine CI.of (cc := cX4_tick) (maxL := 3) (ret := (some .int)) (by decide) rfl (Nat.le_of_ble_eq_true rfl) ?_
  intro pv ev s mv below meth cv A hx hb hml hr hown hts hlocks hname hM ls hl
  have hown : s.vm.findClass RX4 = some mv.cls := hown
  have hl : lv_has ls 3 [(0, .ref (sa S o)), (1, .int (nI t)), (2, .int 8)] := hl
  have hin4 : ∀ x ∈ wsX40, x ∈ wsX4_tick := by decide +kernel
  obtain ⟨Q, hQ⟩ : ∃ Q, Q = MQ below (va_Qi (fun z u => ∃ L : Nat → Nat, (∀ j, L j ≤ j) ∧ conn (cf t) (cf t * rf t) (I (o + 20 + t)) L ∧ (∀ i, i < 2 * (cf t * rf t) → opn (cf t) (cf t * rf t) (I (o + 20 + t)) (i / 2) (i % 2) = true → L (i / 2) = L (oft (cf t) (i / 2) (i % 2))) ∧ z = nI (pcnt L (cf t * rf t)) ∧ ∃ g, u = (S, V, sT V, va_up (t0 I o) (o + 7) g)) (fun u t => fb_P D y A u t) A) (([.ref (sa S o), .int (nI t), .int 8] : List Value).toArray) s 0 0 A := ⟨_, rfl⟩
  rw [← hQ]
  have hns : ns ≤ 12 := hF.2.2.1
  have hnt : nt ≤ 6 := hF.2.2.2.1
  have hcr := hF.cr ht
  have e20 : t0 I o (o + 20 + t) = I (o + 20 + t) := t0_ne I (show o + 20 + t ≠ o by omega)
  refine lv_aload_n hx hb dX4_tick_0 rfl (lv_at hl 0 rfl) ?_
  refine lv_iconst (v := 0) hx hb dX4_tick_1 (by decide) ?_
  refine fb_put (r := o) hx hb hown hts hin4 tyX4 tyX4_ok nmX4 hM ((hA.1).1) (ce4 ((hA.1).2)) rfl 0 (by decide) (hts (.fieldLink RX4 40 "FeatherBedsModel" "thrown" "I") (by decide +kernel)) (fun _ h9 => h9) rfl (ty := .int) (by decide +kernel) rfl rfl (Nat.le_of_ble_eq_true rfl) dX4_tick_2 (up_I (j := 0) (v := 0) (by rw [ce4 ((hA.1).2)]; simp [va_up, upd])) (w' := (S, V, (sT V), (va_up I o (upd (I o) 0 0)))) ⟨rfl, rfl, rfl⟩ (fun H locs hM => ?_)
  have eI : (va_up I o (upd (I o) 0 0)) = (t0 I o) := rfl
  rw [eI] at hM
  clear eI
  refine lv_aload_n hx hb dX4_tick_5 rfl (lv_at hl 0 rfl) ?_
  refine lv_iload_n hx hb dX4_tick_6 rfl (lv_at hl 1 rfl) ?_
  refine fb_callVi (r := o) hx hb hml hown hts hM ((hA.1).1) (ce4 ((hA.1).2)) rfl (As := [.int (nI t)]) (rest := []) (c_X4_isTick D y l S V (t0 I o) o nt cf rf hA ns df hF.t0 (nI t)) (cwV 1 hts gX4_tick_X4_isTick rfl rfl rfl (by decide +kernel) ⟨Nat.le_of_ble_eq_true rfl, Nat.le_of_ble_eq_true rfl⟩) rfl hl.1 rfl (Nat.le_of_ble_eq_true rfl) dX4_tick_7 ⟨Nat.le_of_ble_eq_true rfl, Nat.le_of_ble_eq_true rfl⟩ (fun v_1 u H locs hp hM => ?_)
  obtain ⟨hv_, hu_⟩ := hp
  have hv_ := Eq.symm hv_
  have hu_ := Eq.symm hu_
  subst hv_
  subst hu_
  rw [show (isN (nI t) 0 (nI nt - 1) : Int32) = 1 from isN_in (by omega) ht]
  refine lv_if_eq (tgt := 32) hx hb dX4_tick_10 (by decide) (fun c_2 => absurd c_2 (by decide)) (fun c_2 => ?_)
  refine lv_iload_n hx hb dX4_tick_13 rfl (lv_at hl 2 rfl) ?_
  refine lv_iconst (v := 0) hx hb dX4_tick_14 (by decide) ?_
  refine lv_bipush (v := 8) hx hb dX4_tick_15 (by decide) ?_
  refine fb_callSi hx hb hml hown hts hM (As := [.int 8, .int 0, .int 8]) (rest := []) (c_X4_isIn D y l S V (t0 I o) 8 0 8) (cwS 3 hts gX4_tick_X4_isIn rfl rfl rfl (by decide +kernel) ⟨Nat.le_of_ble_eq_true rfl, Nat.le_of_ble_eq_true rfl⟩) rfl hl.1 rfl (Nat.le_of_ble_eq_true rfl) dX4_tick_17 ⟨Nat.le_of_ble_eq_true rfl, Nat.le_of_ble_eq_true rfl⟩ (fun v_3 u H locs hp hM => ?_)
  obtain ⟨hv_, hu_⟩ := hp
  have hv_ := Eq.symm hv_
  have hu_ := Eq.symm hu_
  subst hv_
  subst hu_
  rw [show (isN 8 0 8 : Int32) = 1 from by decide]
  refine lv_if_eq (tgt := 32) hx hb dX4_tick_20 (by decide) (fun c_4 => absurd c_4 (by decide)) (fun c_4 => ?_)
  refine lv_aload_n hx hb dX4_tick_23 rfl (lv_at hl 0 rfl) ?_
  refine lv_iload_n hx hb dX4_tick_24 rfl (lv_at hl 1 rfl) ?_
  refine lv_iload_n hx hb dX4_tick_25 rfl (lv_at hl 2 rfl) ?_
  refine fb_callVi (r := o) hx hb hml hown hts hM ((hA.1).1) (ce4 ((hA.1).2)) rfl (As := [.int (nI t), .int 8]) (rest := []) (c_X4_tickTold_8 D y l S V (t0 I o) o nt cf rf hA ns df hF.t0 t ht) (cwV 2 hts gX4_tick_X4_tickTold rfl rfl rfl (by decide +kernel) ⟨Nat.le_of_ble_eq_true rfl, Nat.le_of_ble_eq_true rfl⟩) rfl hl.1 rfl (Nat.le_of_ble_eq_true rfl) dX4_tick_26 ⟨Nat.le_of_ble_eq_true rfl, Nat.le_of_ble_eq_true rfl⟩ (fun v_5 u H locs hp hM => ?_)
  obtain ⟨L, l1, l2, l3, hv_, gg, hu_⟩ := hp
  have hv_ := Eq.symm hv_
  have hu_ := Eq.symm hu_
  subst hv_
  subst hu_
  rw [e20] at l2 l3
  refine lv_goto (tgt := 37) hx hb dX4_tick_29 (by decide) ?_
  rw [hQ]
  exact fb_iret hx hb hr hlocks hM (⟨L, l1, l2, l3, rfl, gg, rfl⟩) dX4_tick_37
