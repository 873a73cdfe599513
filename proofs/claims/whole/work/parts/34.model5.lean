abbrev rm_X4_setWind : Room := { frames := 1, cells := 0, slots := 0, locals := 24 }
set_option maxHeartbeats 4000000 in
set_option maxRecDepth 100000 in
theorem c_X4_setWind_f0o (D : va_G) (y : Nat → ClassId) (l : Launch) (S : fb_Sh) (V I : fb_V) (o nt : Nat) (cf rf : Nat → Nat) (hA : MdAt S o nt cf rf) (ns : Nat) (df : Nat → Nat) (hF : MF I o ns nt cf rf df) (p0 : Int32) (ho : p0 < 1 ∨ 20 < p0) : CI D y l yX4_setWind wsX4_setWind rm_X4_setWind [.ref (sa S o), .int p0] (S, V, (sT V), I) (fun z u => z = 0 ∧ u = (S, V, sT V, (tf I o 1))) 0 0 := by
  refine CI.of (cc := cX4_setWind) (maxL := 3) (ret := (some .int)) (by decide) rfl (Nat.le_of_ble_eq_true rfl) ?_
  intro pv ev s mv below meth cv A hx hb hml hr hown hts hlocks hname hM ls hl
  have hown : s.vm.findClass RX4 = some mv.cls := hown
  have hl : lv_has ls 3 [(0, .ref (sa S o)), (1, .int p0)] := hl
  have hin4 : ∀ x ∈ wsX40, x ∈ wsX4_setWind := by decide +kernel
  obtain ⟨Q, hQ⟩ : ∃ Q, Q = MQ below (va_Qi (fun z u => z = 0 ∧ u = (S, V, sT V, (tf I o 1))) (fun u t => fb_P D y A u t) A) (([.ref (sa S o), .int p0] : List Value).toArray) s 0 0 A := ⟨_, rfl⟩
  rw [← hQ]
  have hns : ns ≤ 12 := hF.2.2.1
  have hnt : nt ≤ 6 := hF.2.2.2.1
  refine lv_aload_n hx hb dX4_setWind_0 rfl (lv_at hl 0 rfl) ?_
  refine lv_iconst (v := 0) hx hb dX4_setWind_1 (by decide) ?_
  refine fb_put (r := o) hx hb hown hts hin4 tyX4 tyX4_ok nmX4 hM ((hA.1).1) (ce4 ((hA.1).2)) rfl 0 (by decide) (hts (.fieldLink RX4 40 "FeatherBedsModel" "thrown" "I") (by decide +kernel)) (fun _ h9 => h9) rfl (ty := .int) (by decide +kernel) rfl rfl (Nat.le_of_ble_eq_true rfl) dX4_setWind_2 (up_I (j := 0) (v := 0) (by rw [ce4 ((hA.1).2)]; simp [va_up, upd])) (w' := (S, V, (sT V), (va_up I o (upd (I o) 0 0)))) ⟨rfl, rfl, rfl⟩ (fun H locs hM => ?_)
  have eI : (va_up I o (upd (I o) 0 0)) = (t0 I o) := rfl
  rw [eI] at hM
  clear eI
  refine lv_iload_n hx hb dX4_setWind_5 rfl (lv_at hl 1 rfl) ?_
  refine lv_iconst (v := 1) hx hb dX4_setWind_6 (by decide) ?_
  refine lv_bipush (v := 20) hx hb dX4_setWind_7 (by decide) ?_
  refine fb_callSi hx hb hml hown hts hM (As := [.int p0, .int 1, .int 20]) (rest := []) (c_X4_isIn D y l S V (t0 I o) p0 1 20) (cwS 3 hts gX4_setWind_X4_isIn rfl rfl rfl (by decide +kernel) ⟨Nat.le_of_ble_eq_true rfl, Nat.le_of_ble_eq_true rfl⟩) rfl hl.1 rfl (Nat.le_of_ble_eq_true rfl) dX4_setWind_9 ⟨Nat.le_of_ble_eq_true rfl, Nat.le_of_ble_eq_true rfl⟩ (fun v_1 u H locs hp hM => ?_)
  obtain ⟨hv_, hu_⟩ := hp
  have hv_ := Eq.symm hv_
  have hu_ := Eq.symm hu_
  subst hv_
  subst hu_
  rw [show (isN p0 1 20 : Int32) = 0 from isN_0 ho]
  refine lv_if_ne (tgt := 21) hx hb dX4_setWind_12 (by decide) (fun c_2 => absurd (by decide) c_2) (fun c_2 => ?_)
  refine lv_aload_n hx hb dX4_setWind_15 rfl (lv_at hl 0 rfl) ?_
  refine lv_iconst (v := 1) hx hb dX4_setWind_16 (by decide) ?_
  refine fb_callVi (r := o) hx hb hml hown hts hM ((hA.1).1) (ce4 ((hA.1).2)) rfl (As := [.int 1]) (rest := []) (c_X4_fail D y l S V (t0 I o) o nt cf rf hA 1) (cwV 1 hts gX4_setWind_X4_fail rfl rfl rfl (by decide +kernel) ⟨Nat.le_of_ble_eq_true rfl, Nat.le_of_ble_eq_true rfl⟩) rfl hl.1 rfl (Nat.le_of_ble_eq_true rfl) dX4_setWind_17 ⟨Nat.le_of_ble_eq_true rfl, Nat.le_of_ble_eq_true rfl⟩ (fun v_3 u H locs hp hM => ?_)
  obtain ⟨hv_, hu_⟩ := hp
  have hv_ := Eq.symm hv_
  have hu_ := Eq.symm hu_
  subst hv_
  subst hu_
  have eI : (tf (t0 I o) o 1) = (tf I o 1) := tf_t0 _ _ _
  rw [eI] at hM
  clear eI
  rw [hQ]
  exact fb_iret hx hb hr hlocks hM (⟨rfl, rfl⟩) dX4_setWind_20

set_option maxHeartbeats 4000000 in
set_option maxRecDepth 100000 in
theorem c_X4_setWind_ok (D : va_G) (y : Nat → ClassId) (l : Launch) (S : fb_Sh) (V I : fb_V) (o nt : Nat) (cf rf : Nat → Nat) (hA : MdAt S o nt cf rf) (ns : Nat) (df : Nat → Nat) (hF : MF I o ns nt cf rf df) (w : Nat) (hwa : 1 ≤ w) (hw : w ≤ 20)  : CI D y l yX4_setWind wsX4_setWind rm_X4_setWind [.ref (sa S o), .int (nI w)] (S, V, (sT V), I) (fun z u => z = I o 4 ∧ u = (S, V, sT V, va_up (t0 I o) o (upd (t0 I o o) 4 (nI w)))) 0 0 := by
  refine CI.of (cc := cX4_setWind) (maxL := 3) (ret := (some .int)) (by decide) rfl (Nat.le_of_ble_eq_true rfl) ?_
  intro pv ev s mv below meth cv A hx hb hml hr hown hts hlocks hname hM ls hl
  have hown : s.vm.findClass RX4 = some mv.cls := hown
  have hl : lv_has ls 3 [(0, .ref (sa S o)), (1, .int (nI w))] := hl
  have hin4 : ∀ x ∈ wsX40, x ∈ wsX4_setWind := by decide +kernel
  obtain ⟨Q, hQ⟩ : ∃ Q, Q = MQ below (va_Qi (fun z u => z = I o 4 ∧ u = (S, V, sT V, va_up (t0 I o) o (upd (t0 I o o) 4 (nI w)))) (fun u t => fb_P D y A u t) A) (([.ref (sa S o), .int (nI w)] : List Value).toArray) s 0 0 A := ⟨_, rfl⟩
  rw [← hQ]
  have hns : ns ≤ 12 := hF.2.2.1
  have hnt : nt ≤ 6 := hF.2.2.2.1
  refine lv_aload_n hx hb dX4_setWind_0 rfl (lv_at hl 0 rfl) ?_
  refine lv_iconst (v := 0) hx hb dX4_setWind_1 (by decide) ?_
  refine fb_put (r := o) hx hb hown hts hin4 tyX4 tyX4_ok nmX4 hM ((hA.1).1) (ce4 ((hA.1).2)) rfl 0 (by decide) (hts (.fieldLink RX4 40 "FeatherBedsModel" "thrown" "I") (by decide +kernel)) (fun _ h9 => h9) rfl (ty := .int) (by decide +kernel) rfl rfl (Nat.le_of_ble_eq_true rfl) dX4_setWind_2 (up_I (j := 0) (v := 0) (by rw [ce4 ((hA.1).2)]; simp [va_up, upd])) (w' := (S, V, (sT V), (va_up I o (upd (I o) 0 0)))) ⟨rfl, rfl, rfl⟩ (fun H locs hM => ?_)
  have eI : (va_up I o (upd (I o) 0 0)) = (t0 I o) := rfl
  rw [eI] at hM
  clear eI
  refine lv_iload_n hx hb dX4_setWind_5 rfl (lv_at hl 1 rfl) ?_
  refine lv_iconst (v := 1) hx hb dX4_setWind_6 (by decide) ?_
  refine lv_bipush (v := 20) hx hb dX4_setWind_7 (by decide) ?_
  refine fb_callSi hx hb hml hown hts hM (As := [.int (nI w), .int 1, .int 20]) (rest := []) (c_X4_isIn D y l S V (t0 I o) (nI w) 1 20) (cwS 3 hts gX4_setWind_X4_isIn rfl rfl rfl (by decide +kernel) ⟨Nat.le_of_ble_eq_true rfl, Nat.le_of_ble_eq_true rfl⟩) rfl hl.1 rfl (Nat.le_of_ble_eq_true rfl) dX4_setWind_9 ⟨Nat.le_of_ble_eq_true rfl, Nat.le_of_ble_eq_true rfl⟩ (fun v_1 u H locs hp hM => ?_)
  obtain ⟨hv_, hu_⟩ := hp
  have hv_ := Eq.symm hv_
  have hu_ := Eq.symm hu_
  subst hv_
  subst hu_
  rw [show (isN (nI w) 1 20 : Int32) = 1 from isN_k (lo := 1) (hi := 20) (by decide) hwa hw]
  refine lv_if_ne (tgt := 21) hx hb dX4_setWind_12 (by decide) (fun c_2 => ?_) (fun c_2 => absurd c_2 (by decide))
  refine lv_aload_n hx hb dX4_setWind_21 rfl (lv_at hl 0 rfl) ?_
  refine fb_get (r := o) hx hb hown hts hin4 hM ((hA.1).1) (ce4 ((hA.1).2)) rfl 4 (by decide) (hts (.fieldLink RX4 16 "FeatherBedsModel" "wind" "I") (by decide +kernel)) (fun _ h9 => h9) (v := .int ((t0 I o) o 4)) rfl dX4_setWind_22 ?_
  refine lv_istore_n (lv' := [(2, .int ((t0 I o) o 4)), (0, .ref (sa S o)), (1, .int (nI w))]) hx hb dX4_setWind_25 rfl hl (by decide) rfl (fun ls hl => ?_)
  refine lv_aload_n hx hb dX4_setWind_26 rfl (lv_at hl 1 rfl) ?_
  refine lv_iload_n hx hb dX4_setWind_27 rfl (lv_at hl 2 rfl) ?_
  refine fb_put (r := o) hx hb hown hts hin4 tyX4 tyX4_ok nmX4 hM ((hA.1).1) (ce4 ((hA.1).2)) rfl 4 (by decide) (hts (.fieldLink RX4 16 "FeatherBedsModel" "wind" "I") (by decide +kernel)) (fun _ h9 => h9) rfl (ty := .int) (by decide +kernel) rfl rfl (Nat.le_of_ble_eq_true rfl) dX4_setWind_28 (up_I (j := 4) (v := nI w) (by rw [ce4 ((hA.1).2)]; simp [va_up, upd])) (w' := (S, V, (sT V), (va_up (t0 I o) o (upd ((t0 I o) o) 4 (nI w))))) ⟨rfl, rfl, rfl⟩ (fun H locs hM => ?_)
  refine lv_iload_n hx hb dX4_setWind_31 rfl (lv_at hl 0 rfl) ?_
  rw [hQ]
  exact fb_iret hx hb hr hlocks hM (⟨t0_f I o (by decide), rfl⟩) dX4_setWind_32

abbrev rm_X4_count : Room := { frames := 2, cells := 0, slots := 0, locals := 52 }
set_option maxHeartbeats 4000000 in
set_option maxRecDepth 100000 in
theorem c_X4_count_f0o (D : va_G) (y : Nat → ClassId) (l : Launch) (S : fb_Sh) (V I : fb_V) (o nt : Nat) (cf rf : Nat → Nat) (hA : MdAt S o nt cf rf) (ns : Nat) (df : Nat → Nat) (hF : MF I o ns nt cf rf df) (p0 : Int32) (ho : p0 < 0 ∨ 8 < p0) : CI D y l yX4_count wsX4_count rm_X4_count [.ref (sa S o), .int p0] (S, V, (sT V), I) (fun z u => z = 0 ∧ u = (S, V, sT V, (tf I o 1))) 0 0 := by
  refine CI.of (cc := cX4_count) (maxL := 2) (ret := (some .int)) (by decide) rfl (Nat.le_of_ble_eq_true rfl) ?_
  intro pv ev s mv below meth cv A hx hb hml hr hown hts hlocks hname hM ls hl
  have hown : s.vm.findClass RX4 = some mv.cls := hown
  have hl : lv_has ls 2 [(0, .ref (sa S o)), (1, .int p0)] := hl
  have hin4 : ∀ x ∈ wsX40, x ∈ wsX4_count := by decide +kernel
  obtain ⟨Q, hQ⟩ : ∃ Q, Q = MQ below (va_Qi (fun z u => z = 0 ∧ u = (S, V, sT V, (tf I o 1))) (fun u t => fb_P D y A u t) A) (([.ref (sa S o), .int p0] : List Value).toArray) s 0 0 A := ⟨_, rfl⟩
  rw [← hQ]
  have hns : ns ≤ 12 := hF.2.2.1
  have hnt : nt ≤ 6 := hF.2.2.2.1
  refine lv_aload_n hx hb dX4_count_0 rfl (lv_at hl 0 rfl) ?_
  refine lv_iconst (v := 0) hx hb dX4_count_1 (by decide) ?_
  refine fb_put (r := o) hx hb hown hts hin4 tyX4 tyX4_ok nmX4 hM ((hA.1).1) (ce4 ((hA.1).2)) rfl 0 (by decide) (hts (.fieldLink RX4 40 "FeatherBedsModel" "thrown" "I") (by decide +kernel)) (fun _ h9 => h9) rfl (ty := .int) (by decide +kernel) rfl rfl (Nat.le_of_ble_eq_true rfl) dX4_count_2 (up_I (j := 0) (v := 0) (by rw [ce4 ((hA.1).2)]; simp [va_up, upd])) (w' := (S, V, (sT V), (va_up I o (upd (I o) 0 0)))) ⟨rfl, rfl, rfl⟩ (fun H locs hM => ?_)
  have eI : (va_up I o (upd (I o) 0 0)) = (t0 I o) := rfl
  rw [eI] at hM
  clear eI
  refine lv_iload_n hx hb dX4_count_5 rfl (lv_at hl 1 rfl) ?_
  refine lv_iconst (v := 0) hx hb dX4_count_6 (by decide) ?_
  refine lv_bipush (v := 8) hx hb dX4_count_7 (by decide) ?_
  refine fb_callSi hx hb hml hown hts hM (As := [.int p0, .int 0, .int 8]) (rest := []) (c_X4_isIn D y l S V (t0 I o) p0 0 8) (cwS 3 hts gX4_count_X4_isIn rfl rfl rfl (by decide +kernel) ⟨Nat.le_of_ble_eq_true rfl, Nat.le_of_ble_eq_true rfl⟩) rfl hl.1 rfl (Nat.le_of_ble_eq_true rfl) dX4_count_9 ⟨Nat.le_of_ble_eq_true rfl, Nat.le_of_ble_eq_true rfl⟩ (fun v_1 u H locs hp hM => ?_)
  obtain ⟨hv_, hu_⟩ := hp
  have hv_ := Eq.symm hv_
  have hu_ := Eq.symm hu_
  subst hv_
  subst hu_
  rw [show (isN p0 0 8 : Int32) = 0 from isN_0 ho]
  refine lv_if_eq (tgt := 23) hx hb dX4_count_12 (by decide) (fun c_2 => ?_) (fun c_2 => absurd (by decide) c_2)
  refine lv_aload_n hx hb dX4_count_23 rfl (lv_at hl 0 rfl) ?_
  refine lv_iconst (v := 1) hx hb dX4_count_24 (by decide) ?_
  refine fb_callVi (r := o) hx hb hml hown hts hM ((hA.1).1) (ce4 ((hA.1).2)) rfl (As := [.int 1]) (rest := []) (c_X4_fail D y l S V (t0 I o) o nt cf rf hA 1) (cwV 1 hts gX4_count_X4_fail rfl rfl rfl (by decide +kernel) ⟨Nat.le_of_ble_eq_true rfl, Nat.le_of_ble_eq_true rfl⟩) rfl hl.1 rfl (Nat.le_of_ble_eq_true rfl) dX4_count_25 ⟨Nat.le_of_ble_eq_true rfl, Nat.le_of_ble_eq_true rfl⟩ (fun v_3 u H locs hp hM => ?_)
  obtain ⟨hv_, hu_⟩ := hp
  have hv_ := Eq.symm hv_
  have hu_ := Eq.symm hu_
  subst hv_
  subst hu_
  have eI : (tf (t0 I o) o 1) = (tf I o 1) := tf_t0 _ _ _
  rw [eI] at hM
  clear eI
  rw [hQ]
  exact fb_iret hx hb hr hlocks hM (⟨rfl, rfl⟩) dX4_count_28

set_option maxHeartbeats 4000000 in
set_option maxRecDepth 100000 in
theorem c_X4_count_0 (D : va_G) (y : Nat → ClassId) (l : Launch) (S : fb_Sh) (V I : fb_V) (o nt : Nat) (cf rf : Nat → Nat) (hA : MdAt S o nt cf rf) (ns : Nat) (df : Nat → Nat) (hF : MF I o ns nt cf rf df) : CI D y l yX4_count wsX4_count rm_X4_count [.ref (sa S o), .int 0] (S, V, (sT V), I) (fun z u => z = cnm (t0 I o) o ns nt cf rf 0 ∧ u = (S, V, sT V, t0 I o)) 0 0 := by
  refine CI.of (cc := cX4_count) (maxL := 2) (ret := (some .int)) (by decide) rfl (Nat.le_of_ble_eq_true rfl) ?_
  intro pv ev s mv below meth cv A hx hb hml hr hown hts hlocks hname hM ls hl
  have hown : s.vm.findClass RX4 = some mv.cls := hown
  have hl : lv_has ls 2 [(0, .ref (sa S o)), (1, .int 0)] := hl
  have hin4 : ∀ x ∈ wsX40, x ∈ wsX4_count := by decide +kernel
  obtain ⟨Q, hQ⟩ : ∃ Q, Q = MQ below (va_Qi (fun z u => z = cnm (t0 I o) o ns nt cf rf 0 ∧ u = (S, V, sT V, t0 I o)) (fun u t => fb_P D y A u t) A) (([.ref (sa S o), .int 0] : List Value).toArray) s 0 0 A := ⟨_, rfl⟩
  rw [← hQ]
  have hns : ns ≤ 12 := hF.2.2.1
  have hnt : nt ≤ 6 := hF.2.2.2.1
  refine lv_aload_n hx hb dX4_count_0 rfl (lv_at hl 0 rfl) ?_
  refine lv_iconst (v := 0) hx hb dX4_count_1 (by decide) ?_
  refine fb_put (r := o) hx hb hown hts hin4 tyX4 tyX4_ok nmX4 hM ((hA.1).1) (ce4 ((hA.1).2)) rfl 0 (by decide) (hts (.fieldLink RX4 40 "FeatherBedsModel" "thrown" "I") (by decide +kernel)) (fun _ h9 => h9) rfl (ty := .int) (by decide +kernel) rfl rfl (Nat.le_of_ble_eq_true rfl) dX4_count_2 (up_I (j := 0) (v := 0) (by rw [ce4 ((hA.1).2)]; simp [va_up, upd])) (w' := (S, V, (sT V), (va_up I o (upd (I o) 0 0)))) ⟨rfl, rfl, rfl⟩ (fun H locs hM => ?_)
  have eI : (va_up I o (upd (I o) 0 0)) = (t0 I o) := rfl
  rw [eI] at hM
  clear eI
  refine lv_iload_n hx hb dX4_count_5 rfl (lv_at hl 1 rfl) ?_
  refine lv_iconst (v := 0) hx hb dX4_count_6 (by decide) ?_
  refine lv_bipush (v := 8) hx hb dX4_count_7 (by decide) ?_
  refine fb_callSi hx hb hml hown hts hM (As := [.int 0, .int 0, .int 8]) (rest := []) (c_X4_isIn D y l S V (t0 I o) 0 0 8) (cwS 3 hts gX4_count_X4_isIn rfl rfl rfl (by decide +kernel) ⟨Nat.le_of_ble_eq_true rfl, Nat.le_of_ble_eq_true rfl⟩) rfl hl.1 rfl (Nat.le_of_ble_eq_true rfl) dX4_count_9 ⟨Nat.le_of_ble_eq_true rfl, Nat.le_of_ble_eq_true rfl⟩ (fun v_1 u H locs hp hM => ?_)
  obtain ⟨hv_, hu_⟩ := hp
  have hv_ := Eq.symm hv_
  have hu_ := Eq.symm hu_
  subst hv_
  subst hu_
  rw [show (isN 0 0 8 : Int32) = 1 from by decide]
  refine lv_if_eq (tgt := 23) hx hb dX4_count_12 (by decide) (fun c_2 => absurd c_2 (by decide)) (fun c_2 => ?_)
  refine lv_aload_n hx hb dX4_count_15 rfl (lv_at hl 0 rfl) ?_
  refine lv_iload_n hx hb dX4_count_16 rfl (lv_at hl 1 rfl) ?_
  refine fb_callVi (r := o) hx hb hml hown hts hM ((hA.1).1) (ce4 ((hA.1).2)) rfl (As := [.int 0]) (rest := []) (c_X4_counted_0 D y l S V (t0 I o) o nt cf rf hA ns df hF.t0) (cwV 1 hts gX4_count_X4_counted rfl rfl rfl (by decide +kernel) ⟨Nat.le_of_ble_eq_true rfl, Nat.le_of_ble_eq_true rfl⟩) rfl hl.1 rfl (Nat.le_of_ble_eq_true rfl) dX4_count_17 ⟨Nat.le_of_ble_eq_true rfl, Nat.le_of_ble_eq_true rfl⟩ (fun v_3 u H locs hp hM => ?_)
  obtain ⟨hv_, hu_⟩ := hp
  have hv_ := Eq.symm hv_
  have hu_ := Eq.symm hu_
  subst hv_
  subst hu_
  refine lv_goto (tgt := 28) hx hb dX4_count_20 (by decide) ?_
  rw [hQ]
  exact fb_iret hx hb hr hlocks hM (⟨rfl, rfl⟩) dX4_count_28

set_option maxHeartbeats 4000000 in
set_option maxRecDepth 100000 in
theorem c_X4_count_1 (D : va_G) (y : Nat → ClassId) (l : Launch) (S : fb_Sh) (V I : fb_V) (o nt : Nat) (cf rf : Nat → Nat) (hA : MdAt S o nt cf rf) (ns : Nat) (df : Nat → Nat) (hF : MF I o ns nt cf rf df) : CI D y l yX4_count wsX4_count rm_X4_count [.ref (sa S o), .int 1] (S, V, (sT V), I) (fun z u => z = cnm (t0 I o) o ns nt cf rf 1 ∧ u = (S, V, sT V, t0 I o)) 0 0 := by
  refine CI.of (cc := cX4_count) (maxL := 2) (ret := (some .int)) (by decide) rfl (Nat.le_of_ble_eq_true rfl) ?_
  intro pv ev s mv below meth cv A hx hb hml hr hown hts hlocks hname hM ls hl
  have hown : s.vm.findClass RX4 = some mv.cls := hown
  have hl : lv_has ls 2 [(0, .ref (sa S o)), (1, .int 1)] := hl
  have hin4 : ∀ x ∈ wsX40, x ∈ wsX4_count := by decide +kernel
  obtain ⟨Q, hQ⟩ : ∃ Q, Q = MQ below (va_Qi (fun z u => z = cnm (t0 I o) o ns nt cf rf 1 ∧ u = (S, V, sT V, t0 I o)) (fun u t => fb_P D y A u t) A) (([.ref (sa S o), .int 1] : List Value).toArray) s 0 0 A := ⟨_, rfl⟩
  rw [← hQ]
  have hns : ns ≤ 12 := hF.2.2.1
  have hnt : nt ≤ 6 := hF.2.2.2.1
  refine lv_aload_n hx hb dX4_count_0 rfl (lv_at hl 0 rfl) ?_
  refine lv_iconst (v := 0) hx hb dX4_count_1 (by decide) ?_
  refine fb_put (r := o) hx hb hown hts hin4 tyX4 tyX4_ok nmX4 hM ((hA.1).1) (ce4 ((hA.1).2)) rfl 0 (by decide) (hts (.fieldLink RX4 40 "FeatherBedsModel" "thrown" "I") (by decide +kernel)) (fun _ h9 => h9) rfl (ty := .int) (by decide +kernel) rfl rfl (Nat.le_of_ble_eq_true rfl) dX4_count_2 (up_I (j := 0) (v := 0) (by rw [ce4 ((hA.1).2)]; simp [va_up, upd])) (w' := (S, V, (sT V), (va_up I o (upd (I o) 0 0)))) ⟨rfl, rfl, rfl⟩ (fun H locs hM => ?_)
  have eI : (va_up I o (upd (I o) 0 0)) = (t0 I o) := rfl
  rw [eI] at hM
  clear eI
  refine lv_iload_n hx hb dX4_count_5 rfl (lv_at hl 1 rfl) ?_
  refine lv_iconst (v := 0) hx hb dX4_count_6 (by decide) ?_
  refine lv_bipush (v := 8) hx hb dX4_count_7 (by decide) ?_
  refine fb_callSi hx hb hml hown hts hM (As := [.int 1, .int 0, .int 8]) (rest := []) (c_X4_isIn D y l S V (t0 I o) 1 0 8) (cwS 3 hts gX4_count_X4_isIn rfl rfl rfl (by decide +kernel) ⟨Nat.le_of_ble_eq_true rfl, Nat.le_of_ble_eq_true rfl⟩) rfl hl.1 rfl (Nat.le_of_ble_eq_true rfl) dX4_count_9 ⟨Nat.le_of_ble_eq_true rfl, Nat.le_of_ble_eq_true rfl⟩ (fun v_1 u H locs hp hM => ?_)
  obtain ⟨hv_, hu_⟩ := hp
  have hv_ := Eq.symm hv_
  have hu_ := Eq.symm hu_
  subst hv_
  subst hu_
  rw [show (isN 1 0 8 : Int32) = 1 from by decide]
  refine lv_if_eq (tgt := 23) hx hb dX4_count_12 (by decide) (fun c_2 => absurd c_2 (by decide)) (fun c_2 => ?_)
  refine lv_aload_n hx hb dX4_count_15 rfl (lv_at hl 0 rfl) ?_
  refine lv_iload_n hx hb dX4_count_16 rfl (lv_at hl 1 rfl) ?_
  refine fb_callVi (r := o) hx hb hml hown hts hM ((hA.1).1) (ce4 ((hA.1).2)) rfl (As := [.int 1]) (rest := []) (c_X4_counted_1 D y l S V (t0 I o) o nt cf rf hA ns df hF.t0) (cwV 1 hts gX4_count_X4_counted rfl rfl rfl (by decide +kernel) ⟨Nat.le_of_ble_eq_true rfl, Nat.le_of_ble_eq_true rfl⟩) rfl hl.1 rfl (Nat.le_of_ble_eq_true rfl) dX4_count_17 ⟨Nat.le_of_ble_eq_true rfl, Nat.le_of_ble_eq_true rfl⟩ (fun v_3 u H locs hp hM => ?_)
  obtain ⟨hv_, hu_⟩ := hp
  have hv_ := Eq.symm hv_
  have hu_ := Eq.symm hu_
  subst hv_
  subst hu_
  refine lv_goto (tgt := 28) hx hb dX4_count_20 (by decide) ?_
  rw [hQ]
  exact fb_iret hx hb hr hlocks hM (⟨rfl, rfl⟩) dX4_count_28

set_option maxHeartbeats 4000000 in
set_option maxRecDepth 100000 in
theorem c_X4_count_2 (D : va_G) (y : Nat → ClassId) (l : Launch) (S : fb_Sh) (V I : fb_V) (o nt : Nat) (cf rf : Nat → Nat) (hA : MdAt S o nt cf rf) (ns : Nat) (df : Nat → Nat) (hF : MF I o ns nt cf rf df) : CI D y l yX4_count wsX4_count rm_X4_count [.ref (sa S o), .int 2] (S, V, (sT V), I) (fun z u => z = cnm (t0 I o) o ns nt cf rf 2 ∧ u = (S, V, sT V, t0 I o)) 0 0 := by
  refine CI.of (cc := cX4_count) (maxL := 2) (ret := (some .int)) (by decide) rfl (Nat.le_of_ble_eq_true rfl) ?_
  intro pv ev s mv below meth cv A hx hb hml hr hown hts hlocks hname hM ls hl
  have hown : s.vm.findClass RX4 = some mv.cls := hown
  have hl : lv_has ls 2 [(0, .ref (sa S o)), (1, .int 2)] := hl
  have hin4 : ∀ x ∈ wsX40, x ∈ wsX4_count := by decide +kernel
  obtain ⟨Q, hQ⟩ : ∃ Q, Q = MQ below (va_Qi (fun z u => z = cnm (t0 I o) o ns nt cf rf 2 ∧ u = (S, V, sT V, t0 I o)) (fun u t => fb_P D y A u t) A) (([.ref (sa S o), .int 2] : List Value).toArray) s 0 0 A := ⟨_, rfl⟩
  rw [← hQ]
  have hns : ns ≤ 12 := hF.2.2.1
  have hnt : nt ≤ 6 := hF.2.2.2.1
  refine lv_aload_n hx hb dX4_count_0 rfl (lv_at hl 0 rfl) ?_
  refine lv_iconst (v := 0) hx hb dX4_count_1 (by decide) ?_
  refine fb_put (r := o) hx hb hown hts hin4 tyX4 tyX4_ok nmX4 hM ((hA.1).1) (ce4 ((hA.1).2)) rfl 0 (by decide) (hts (.fieldLink RX4 40 "FeatherBedsModel" "thrown" "I") (by decide +kernel)) (fun _ h9 => h9) rfl (ty := .int) (by decide +kernel) rfl rfl (Nat.le_of_ble_eq_true rfl) dX4_count_2 (up_I (j := 0) (v := 0) (by rw [ce4 ((hA.1).2)]; simp [va_up, upd])) (w' := (S, V, (sT V), (va_up I o (upd (I o) 0 0)))) ⟨rfl, rfl, rfl⟩ (fun H locs hM => ?_)
  have eI : (va_up I o (upd (I o) 0 0)) = (t0 I o) := rfl
  rw [eI] at hM
  clear eI
  refine lv_iload_n hx hb dX4_count_5 rfl (lv_at hl 1 rfl) ?_
  refine lv_iconst (v := 0) hx hb dX4_count_6 (by decide) ?_
  refine lv_bipush (v := 8) hx hb dX4_count_7 (by decide) ?_
  refine fb_callSi hx hb hml hown hts hM (As := [.int 2, .int 0, .int 8]) (rest := []) (c_X4_isIn D y l S V (t0 I o) 2 0 8) (cwS 3 hts gX4_count_X4_isIn rfl rfl rfl (by decide +kernel) ⟨Nat.le_of_ble_eq_true rfl, Nat.le_of_ble_eq_true rfl⟩) rfl hl.1 rfl (Nat.le_of_ble_eq_true rfl) dX4_count_9 ⟨Nat.le_of_ble_eq_true rfl, Nat.le_of_ble_eq_true rfl⟩ (fun v_1 u H locs hp hM => ?_)
  obtain ⟨hv_, hu_⟩ := hp
  have hv_ := Eq.symm hv_
  have hu_ := Eq.symm hu_
  subst hv_
  subst hu_
  rw [show (isN 2 0 8 : Int32) = 1 from by decide]
  refine lv_if_eq (tgt := 23) hx hb dX4_count_12 (by decide) (fun c_2 => absurd c_2 (by decide)) (fun c_2 => ?_)
  refine lv_aload_n hx hb dX4_count_15 rfl (lv_at hl 0 rfl) ?_
  refine lv_iload_n hx hb dX4_count_16 rfl (lv_at hl 1 rfl) ?_
  refine fb_callVi (r := o) hx hb hml hown hts hM ((hA.1).1) (ce4 ((hA.1).2)) rfl (As := [.int 2]) (rest := []) (c_X4_counted_2 D y l S V (t0 I o) o nt cf rf hA ns df hF.t0) (cwV 1 hts gX4_count_X4_counted rfl rfl rfl (by decide +kernel) ⟨Nat.le_of_ble_eq_true rfl, Nat.le_of_ble_eq_true rfl⟩) rfl hl.1 rfl (Nat.le_of_ble_eq_true rfl) dX4_count_17 ⟨Nat.le_of_ble_eq_true rfl, Nat.le_of_ble_eq_true rfl⟩ (fun v_3 u H locs hp hM => ?_)
  obtain ⟨hv_, hu_⟩ := hp
  have hv_ := Eq.symm hv_
  have hu_ := Eq.symm hu_
  subst hv_
  subst hu_
  refine lv_goto (tgt := 28) hx hb dX4_count_20 (by decide) ?_
  rw [hQ]
  exact fb_iret hx hb hr hlocks hM (⟨rfl, rfl⟩) dX4_count_28

set_option maxHeartbeats 4000000 in
set_option maxRecDepth 100000 in
theorem c_X4_count_3 (D : va_G) (y : Nat → ClassId) (l : Launch) (S : fb_Sh) (V I : fb_V) (o nt : Nat) (cf rf : Nat → Nat) (hA : MdAt S o nt cf rf) (ns : Nat) (df : Nat → Nat) (hF : MF I o ns nt cf rf df) : CI D y l yX4_count wsX4_count rm_X4_count [.ref (sa S o), .int 3] (S, V, (sT V), I) (fun z u => z = cnm (t0 I o) o ns nt cf rf 3 ∧ u = (S, V, sT V, t0 I o)) 0 0 := by
  refine CI.of (cc := cX4_count) (maxL := 2) (ret := (some .int)) (by decide) rfl (Nat.le_of_ble_eq_true rfl) ?_
  intro pv ev s mv below meth cv A hx hb hml hr hown hts hlocks hname hM ls hl
  have hown : s.vm.findClass RX4 = some mv.cls := hown
  have hl : lv_has ls 2 [(0, .ref (sa S o)), (1, .int 3)] := hl
  have hin4 : ∀ x ∈ wsX40, x ∈ wsX4_count := by decide +kernel
  obtain ⟨Q, hQ⟩ : ∃ Q, Q = MQ below (va_Qi (fun z u => z = cnm (t0 I o) o ns nt cf rf 3 ∧ u = (S, V, sT V, t0 I o)) (fun u t => fb_P D y A u t) A) (([.ref (sa S o), .int 3] : List Value).toArray) s 0 0 A := ⟨_, rfl⟩
  rw [← hQ]
  have hns : ns ≤ 12 := hF.2.2.1
  have hnt : nt ≤ 6 := hF.2.2.2.1
  refine lv_aload_n hx hb dX4_count_0 rfl (lv_at hl 0 rfl) ?_
  refine lv_iconst (v := 0) hx hb dX4_count_1 (by decide) ?_
  refine fb_put (r := o) hx hb hown hts hin4 tyX4 tyX4_ok nmX4 hM ((hA.1).1) (ce4 ((hA.1).2)) rfl 0 (by decide) (hts (.fieldLink RX4 40 "FeatherBedsModel" "thrown" "I") (by decide +kernel)) (fun _ h9 => h9) rfl (ty := .int) (by decide +kernel) rfl rfl (Nat.le_of_ble_eq_true rfl) dX4_count_2 (up_I (j := 0) (v := 0) (by rw [ce4 ((hA.1).2)]; simp [va_up, upd])) (w' := (S, V, (sT V), (va_up I o (upd (I o) 0 0)))) ⟨rfl, rfl, rfl⟩ (fun H locs hM => ?_)
  have eI : (va_up I o (upd (I o) 0 0)) = (t0 I o) := rfl
  rw [eI] at hM
  clear eI
  refine lv_iload_n hx hb dX4_count_5 rfl (lv_at hl 1 rfl) ?_
  refine lv_iconst (v := 0) hx hb dX4_count_6 (by decide) ?_
  refine lv_bipush (v := 8) hx hb dX4_count_7 (by decide) ?_
  refine fb_callSi hx hb hml hown hts hM (As := [.int 3, .int 0, .int 8]) (rest := []) (c_X4_isIn D y l S V (t0 I o) 3 0 8) (cwS 3 hts gX4_count_X4_isIn rfl rfl rfl (by decide +kernel) ⟨Nat.le_of_ble_eq_true rfl, Nat.le_of_ble_eq_true rfl⟩) rfl hl.1 rfl (Nat.le_of_ble_eq_true rfl) dX4_count_9 ⟨Nat.le_of_ble_eq_true rfl, Nat.le_of_ble_eq_true rfl⟩ (fun v_1 u H locs hp hM => ?_)
  obtain ⟨hv_, hu_⟩ := hp
  have hv_ := Eq.symm hv_
  have hu_ := Eq.symm hu_
  subst hv_
  subst hu_
  rw [show (isN 3 0 8 : Int32) = 1 from by decide]
  refine lv_if_eq (tgt := 23) hx hb dX4_count_12 (by decide) (fun c_2 => absurd c_2 (by decide)) (fun c_2 => ?_)
  refine lv_aload_n hx hb dX4_count_15 rfl (lv_at hl 0 rfl) ?_
  refine lv_iload_n hx hb dX4_count_16 rfl (lv_at hl 1 rfl) ?_
  refine fb_callVi (r := o) hx hb hml hown hts hM ((hA.1).1) (ce4 ((hA.1).2)) rfl (As := [.int 3]) (rest := []) (c_X4_counted_3 D y l S V (t0 I o) o nt cf rf hA ns df hF.t0) (cwV 1 hts gX4_count_X4_counted rfl rfl rfl (by decide +kernel) ⟨Nat.le_of_ble_eq_true rfl, Nat.le_of_ble_eq_true rfl⟩) rfl hl.1 rfl (Nat.le_of_ble_eq_true rfl) dX4_count_17 ⟨Nat.le_of_ble_eq_true rfl, Nat.le_of_ble_eq_true rfl⟩ (fun v_3 u H locs hp hM => ?_)
  obtain ⟨hv_, hu_⟩ := hp
  have hv_ := Eq.symm hv_
  have hu_ := Eq.symm hu_
  subst hv_
  subst hu_
  refine lv_goto (tgt := 28) hx hb dX4_count_20 (by decide) ?_
  rw [hQ]
  exact fb_iret hx hb hr hlocks hM (⟨rfl, rfl⟩) dX4_count_28

set_option maxHeartbeats 4000000 in
set_option maxRecDepth 100000 in
theorem c_X4_count_4 (D : va_G) (y : Nat → ClassId) (l : Launch) (S : fb_Sh) (V I : fb_V) (o nt : Nat) (cf rf : Nat → Nat) (hA : MdAt S o nt cf rf) (ns : Nat) (df : Nat → Nat) (hF : MF I o ns nt cf rf df) : CI D y l yX4_count wsX4_count rm_X4_count [.ref (sa S o), .int 4] (S, V, (sT V), I) (fun z u => z = cnm (t0 I o) o ns nt cf rf 4 ∧ u = (S, V, sT V, t0 I o)) 0 0 := by
  refine CI.of (cc := cX4_count) (maxL := 2) (ret := (some .int)) (by decide) rfl (Nat.le_of_ble_eq_true rfl) ?_
  intro pv ev s mv below meth cv A hx hb hml hr hown hts hlocks hname hM ls hl
  have hown : s.vm.findClass RX4 = some mv.cls := hown
  have hl : lv_has ls 2 [(0, .ref (sa S o)), (1, .int 4)] := hl
  have hin4 : ∀ x ∈ wsX40, x ∈ wsX4_count := by decide +kernel
  obtain ⟨Q, hQ⟩ : ∃ Q, Q = MQ below (va_Qi (fun z u => z = cnm (t0 I o) o ns nt cf rf 4 ∧ u = (S, V, sT V, t0 I o)) (fun u t => fb_P D y A u t) A) (([.ref (sa S o), .int 4] : List Value).toArray) s 0 0 A := ⟨_, rfl⟩
  rw [← hQ]
  have hns : ns ≤ 12 := hF.2.2.1
  have hnt : nt ≤ 6 := hF.2.2.2.1
  refine lv_aload_n hx hb dX4_count_0 rfl (lv_at hl 0 rfl) ?_
  refine lv_iconst (v := 0) hx hb dX4_count_1 (by decide) ?_
  refine fb_put (r := o) hx hb hown hts hin4 tyX4 tyX4_ok nmX4 hM ((hA.1).1) (ce4 ((hA.1).2)) rfl 0 (by decide) (hts (.fieldLink RX4 40 "FeatherBedsModel" "thrown" "I") (by decide +kernel)) (fun _ h9 => h9) rfl (ty := .int) (by decide +kernel) rfl rfl (Nat.le_of_ble_eq_true rfl) dX4_count_2 (up_I (j := 0) (v := 0) (by rw [ce4 ((hA.1).2)]; simp [va_up, upd])) (w' := (S, V, (sT V), (va_up I o (upd (I o) 0 0)))) ⟨rfl, rfl, rfl⟩ (fun H locs hM => ?_)
  have eI : (va_up I o (upd (I o) 0 0)) = (t0 I o) := rfl
  rw [eI] at hM
  clear eI
  refine lv_iload_n hx hb dX4_count_5 rfl (lv_at hl 1 rfl) ?_
  refine lv_iconst (v := 0) hx hb dX4_count_6 (by decide) ?_
  refine lv_bipush (v := 8) hx hb dX4_count_7 (by decide) ?_
  refine fb_callSi hx hb hml hown hts hM (As := [.int 4, .int 0, .int 8]) (rest := []) (c_X4_isIn D y l S V (t0 I o) 4 0 8) (cwS 3 hts gX4_count_X4_isIn rfl rfl rfl (by decide +kernel) ⟨Nat.le_of_ble_eq_true rfl, Nat.le_of_ble_eq_true rfl⟩) rfl hl.1 rfl (Nat.le_of_ble_eq_true rfl) dX4_count_9 ⟨Nat.le_of_ble_eq_true rfl, Nat.le_of_ble_eq_true rfl⟩ (fun v_1 u H locs hp hM => ?_)
  obtain ⟨hv_, hu_⟩ := hp
  have hv_ := Eq.symm hv_
  have hu_ := Eq.symm hu_
  subst hv_
  subst hu_
  rw [show (isN 4 0 8 : Int32) = 1 from by decide]
  refine lv_if_eq (tgt := 23) hx hb dX4_count_12 (by decide) (fun c_2 => absurd c_2 (by decide)) (fun c_2 => ?_)
  refine lv_aload_n hx hb dX4_count_15 rfl (lv_at hl 0 rfl) ?_
  refine lv_iload_n hx hb dX4_count_16 rfl (lv_at hl 1 rfl) ?_
  refine fb_callVi (r := o) hx hb hml hown hts hM ((hA.1).1) (ce4 ((hA.1).2)) rfl (As := [.int 4]) (rest := []) (c_X4_counted_4 D y l S V (t0 I o) o nt cf rf hA ns df hF.t0) (cwV 1 hts gX4_count_X4_counted rfl rfl rfl (by decide +kernel) ⟨Nat.le_of_ble_eq_true rfl, Nat.le_of_ble_eq_true rfl⟩) rfl hl.1 rfl (Nat.le_of_ble_eq_true rfl) dX4_count_17 ⟨Nat.le_of_ble_eq_true rfl, Nat.le_of_ble_eq_true rfl⟩ (fun v_3 u H locs hp hM => ?_)
  obtain ⟨hv_, hu_⟩ := hp
  have hv_ := Eq.symm hv_
  have hu_ := Eq.symm hu_
  subst hv_
  subst hu_
  refine lv_goto (tgt := 28) hx hb dX4_count_20 (by decide) ?_
  rw [hQ]
  exact fb_iret hx hb hr hlocks hM (⟨rfl, rfl⟩) dX4_count_28

set_option maxHeartbeats 4000000 in
set_option maxRecDepth 100000 in
theorem c_X4_count_5 (D : va_G) (y : Nat → ClassId) (l : Launch) (S : fb_Sh) (V I : fb_V) (o nt : Nat) (cf rf : Nat → Nat) (hA : MdAt S o nt cf rf) (ns : Nat) (df : Nat → Nat) (hF : MF I o ns nt cf rf df) : CI D y l yX4_count wsX4_count rm_X4_count [.ref (sa S o), .int 5] (S, V, (sT V), I) (fun z u => z = cnm (t0 I o) o ns nt cf rf 5 ∧ u = (S, V, sT V, t0 I o)) 0 0 := by
  refine CI.of (cc := cX4_count) (maxL := 2) (ret := (some .int)) (by decide) rfl (Nat.le_of_ble_eq_true rfl) ?_
  intro pv ev s mv below meth cv A hx hb hml hr hown hts hlocks hname hM ls hl
  have hown : s.vm.findClass RX4 = some mv.cls := hown
  have hl : lv_has ls 2 [(0, .ref (sa S o)), (1, .int 5)] := hl
  have hin4 : ∀ x ∈ wsX40, x ∈ wsX4_count := by decide +kernel
  obtain ⟨Q, hQ⟩ : ∃ Q, Q = MQ below (va_Qi (fun z u => z = cnm (t0 I o) o ns nt cf rf 5 ∧ u = (S, V, sT V, t0 I o)) (fun u t => fb_P D y A u t) A) (([.ref (sa S o), .int 5] : List Value).toArray) s 0 0 A := ⟨_, rfl⟩
  rw [← hQ]
  have hns : ns ≤ 12 := hF.2.2.1
  have hnt : nt ≤ 6 := hF.2.2.2.1
  refine lv_aload_n hx hb dX4_count_0 rfl (lv_at hl 0 rfl) ?_
  refine lv_iconst (v := 0) hx hb dX4_count_1 (by decide) ?_
  refine fb_put (r := o) hx hb hown hts hin4 tyX4 tyX4_ok nmX4 hM ((hA.1).1) (ce4 ((hA.1).2)) rfl 0 (by decide) (hts (.fieldLink RX4 40 "FeatherBedsModel" "thrown" "I") (by decide +kernel)) (fun _ h9 => h9) rfl (ty := .int) (by decide +kernel) rfl rfl (Nat.le_of_ble_eq_true rfl) dX4_count_2 (up_I (j := 0) (v := 0) (by rw [ce4 ((hA.1).2)]; simp [va_up, upd])) (w' := (S, V, (sT V), (va_up I o (upd (I o) 0 0)))) ⟨rfl, rfl, rfl⟩ (fun H locs hM => ?_)
  have eI : (va_up I o (upd (I o) 0 0)) = (t0 I o) := rfl
  rw [eI] at hM
  clear eI
  refine lv_iload_n hx hb dX4_count_5 rfl (lv_at hl 1 rfl) ?_
  refine lv_iconst (v := 0) hx hb dX4_count_6 (by decide) ?_
  refine lv_bipush (v := 8) hx hb dX4_count_7 (by decide) ?_
  refine fb_callSi hx hb hml hown hts hM (As := [.int 5, .int 0, .int 8]) (rest := []) (c_X4_isIn D y l S V (t0 I o) 5 0 8) (cwS 3 hts gX4_count_X4_isIn rfl rfl rfl (by decide +kernel) ⟨Nat.le_of_ble_eq_true rfl, Nat.le_of_ble_eq_true rfl⟩) rfl hl.1 rfl (Nat.le_of_ble_eq_true rfl) dX4_count_9 ⟨Nat.le_of_ble_eq_true rfl, Nat.le_of_ble_eq_true rfl⟩ (fun v_1 u H locs hp hM => ?_)
  obtain ⟨hv_, hu_⟩ := hp
  have hv_ := Eq.symm hv_
  have hu_ := Eq.symm hu_
  subst hv_
  subst hu_
  rw [show (isN 5 0 8 : Int32) = 1 from by decide]
  refine lv_if_eq (tgt := 23) hx hb dX4_count_12 (by decide) (fun c_2 => absurd c_2 (by decide)) (fun c_2 => ?_)
  refine lv_aload_n hx hb dX4_count_15 rfl (lv_at hl 0 rfl) ?_
  refine lv_iload_n hx hb dX4_count_16 rfl (lv_at hl 1 rfl) ?_
  refine fb_callVi (r := o) hx hb hml hown hts hM ((hA.1).1) (ce4 ((hA.1).2)) rfl (As := [.int 5]) (rest := []) (c_X4_counted_5 D y l S V (t0 I o) o nt cf rf hA ns df hF.t0) (cwV 1 hts gX4_count_X4_counted rfl rfl rfl (by decide +kernel) ⟨Nat.le_of_ble_eq_true rfl, Nat.le_of_ble_eq_true rfl⟩) rfl hl.1 rfl (Nat.le_of_ble_eq_true rfl) dX4_count_17 ⟨Nat.le_of_ble_eq_true rfl, Nat.le_of_ble_eq_true rfl⟩ (fun v_3 u H locs hp hM => ?_)
  obtain ⟨hv_, hu_⟩ := hp
  have hv_ := Eq.symm hv_
  have hu_ := Eq.symm hu_
  subst hv_
  subst hu_
  refine lv_goto (tgt := 28) hx hb dX4_count_20 (by decide) ?_
  rw [hQ]
  exact fb_iret hx hb hr hlocks hM (⟨rfl, rfl⟩) dX4_count_28

set_option maxHeartbeats 4000000 in
set_option maxRecDepth 100000 in
theorem c_X4_count_6 (D : va_G) (y : Nat → ClassId) (l : Launch) (S : fb_Sh) (V I : fb_V) (o nt : Nat) (cf rf : Nat → Nat) (hA : MdAt S o nt cf rf) (ns : Nat) (df : Nat → Nat) (hF : MF I o ns nt cf rf df) : CI D y l yX4_count wsX4_count rm_X4_count [.ref (sa S o), .int 6] (S, V, (sT V), I) (fun z u => z = cnm (t0 I o) o ns nt cf rf 6 ∧ u = (S, V, sT V, t0 I o)) 0 0 := by
  refine CI.of (cc := cX4_count) (maxL := 2) (ret := (some .int)) (by decide) rfl (Nat.le_of_ble_eq_true rfl) ?_
  intro pv ev s mv below meth cv A hx hb hml hr hown hts hlocks hname hM ls hl
  have hown : s.vm.findClass RX4 = some mv.cls := hown
  have hl : lv_has ls 2 [(0, .ref (sa S o)), (1, .int 6)] := hl
  have hin4 : ∀ x ∈ wsX40, x ∈ wsX4_count := by decide +kernel
  obtain ⟨Q, hQ⟩ : ∃ Q, Q = MQ below (va_Qi (fun z u => z = cnm (t0 I o) o ns nt cf rf 6 ∧ u = (S, V, sT V, t0 I o)) (fun u t => fb_P D y A u t) A) (([.ref (sa S o), .int 6] : List Value).toArray) s 0 0 A := ⟨_, rfl⟩
  rw [← hQ]
  have hns : ns ≤ 12 := hF.2.2.1
  have hnt : nt ≤ 6 := hF.2.2.2.1
  refine lv_aload_n hx hb dX4_count_0 rfl (lv_at hl 0 rfl) ?_
  refine lv_iconst (v := 0) hx hb dX4_count_1 (by decide) ?_
  refine fb_put (r := o) hx hb hown hts hin4 tyX4 tyX4_ok nmX4 hM ((hA.1).1) (ce4 ((hA.1).2)) rfl 0 (by decide) (hts (.fieldLink RX4 40 "FeatherBedsModel" "thrown" "I") (by decide +kernel)) (fun _ h9 => h9) rfl (ty := .int) (by decide +kernel) rfl rfl (Nat.le_of_ble_eq_true rfl) dX4_count_2 (up_I (j := 0) (v := 0) (by rw [ce4 ((hA.1).2)]; simp [va_up, upd])) (w' := (S, V, (sT V), (va_up I o (upd (I o) 0 0)))) ⟨rfl, rfl, rfl⟩ (fun H locs hM => ?_)
  have eI : (va_up I o (upd (I o) 0 0)) = (t0 I o) := rfl
  rw [eI] at hM
  clear eI
  refine lv_iload_n hx hb dX4_count_5 rfl (lv_at hl 1 rfl) ?_
  refine lv_iconst (v := 0) hx hb dX4_count_6 (by decide) ?_
  refine lv_bipush (v := 8) hx hb dX4_count_7 (by decide) ?_
  refine fb_callSi hx hb hml hown hts hM (As := [.int 6, .int 0, .int 8]) (rest := []) (c_X4_isIn D y l S V (t0 I o) 6 0 8) (cwS 3 hts gX4_count_X4_isIn rfl rfl rfl (by decide +kernel) ⟨Nat.le_of_ble_eq_true rfl, Nat.le_of_ble_eq_true rfl⟩) rfl hl.1 rfl (Nat.le_of_ble_eq_true rfl) dX4_count_9 ⟨Nat.le_of_ble_eq_true rfl, Nat.le_of_ble_eq_true rfl⟩ (fun v_1 u H locs hp hM => ?_)
  obtain ⟨hv_, hu_⟩ := hp
  have hv_ := Eq.symm hv_
  have hu_ := Eq.symm hu_
  subst hv_
  subst hu_
  rw [show (isN 6 0 8 : Int32) = 1 from by decide]
  refine lv_if_eq (tgt := 23) hx hb dX4_count_12 (by decide) (fun c_2 => absurd c_2 (by decide)) (fun c_2 => ?_)
  refine lv_aload_n hx hb dX4_count_15 rfl (lv_at hl 0 rfl) ?_
  refine lv_iload_n hx hb dX4_count_16 rfl (lv_at hl 1 rfl) ?_
  refine fb_callVi (r := o) hx hb hml hown hts hM ((hA.1).1) (ce4 ((hA.1).2)) rfl (As := [.int 6]) (rest := []) (c_X4_counted_6 D y l S V (t0 I o) o nt cf rf hA ns df hF.t0) (cwV 1 hts gX4_count_X4_counted rfl rfl rfl (by decide +kernel) ⟨Nat.le_of_ble_eq_true rfl, Nat.le_of_ble_eq_true rfl⟩) rfl hl.1 rfl (Nat.le_of_ble_eq_true rfl) dX4_count_17 ⟨Nat.le_of_ble_eq_true rfl, Nat.le_of_ble_eq_true rfl⟩ (fun v_3 u H locs hp hM => ?_)
  obtain ⟨hv_, hu_⟩ := hp
  have hv_ := Eq.symm hv_
  have hu_ := Eq.symm hu_
  subst hv_
  subst hu_
  refine lv_goto (tgt := 28) hx hb dX4_count_20 (by decide) ?_
  rw [hQ]
  exact fb_iret hx hb hr hlocks hM (⟨rfl, rfl⟩) dX4_count_28

set_option maxHeartbeats 4000000 in
set_option maxRecDepth 100000 in
theorem c_X4_count_7 (D : va_G) (y : Nat → ClassId) (l : Launch) (S : fb_Sh) (V I : fb_V) (o nt : Nat) (cf rf : Nat → Nat) (hA : MdAt S o nt cf rf) (ns : Nat) (df : Nat → Nat) (hF : MF I o ns nt cf rf df) : CI D y l yX4_count wsX4_count rm_X4_count [.ref (sa S o), .int 7] (S, V, (sT V), I) (fun z u => z = cnm (t0 I o) o ns nt cf rf 7 ∧ u = (S, V, sT V, t0 I o)) 0 0 := by
  refine CI.of (cc := cX4_count) (maxL := 2) (ret := (some .int)) (by decide) rfl (Nat.le_of_ble_eq_true rfl) ?_
  intro pv ev s mv below meth cv A hx hb hml hr hown hts hlocks hname hM ls hl
  have hown : s.vm.findClass RX4 = some mv.cls := hown
  have hl : lv_has ls 2 [(0, .ref (sa S o)), (1, .int 7)] := hl
  have hin4 : ∀ x ∈ wsX40, x ∈ wsX4_count := by decide +kernel
  obtain ⟨Q, hQ⟩ : ∃ Q, Q = MQ below (va_Qi (fun z u => z = cnm (t0 I o) o ns nt cf rf 7 ∧ u = (S, V, sT V, t0 I o)) (fun u t => fb_P D y A u t) A) (([.ref (sa S o), .int 7] : List Value).toArray) s 0 0 A := ⟨_, rfl⟩
  rw [← hQ]
  have hns : ns ≤ 12 := hF.2.2.1
  have hnt : nt ≤ 6 := hF.2.2.2.1
  refine lv_aload_n hx hb dX4_count_0 rfl (lv_at hl 0 rfl) ?_
  refine lv_iconst (v := 0) hx hb dX4_count_1 (by decide) ?_
  refine fb_put (r := o) hx hb hown hts hin4 tyX4 tyX4_ok nmX4 hM ((hA.1).1) (ce4 ((hA.1).2)) rfl 0 (by decide) (hts (.fieldLink RX4 40 "FeatherBedsModel" "thrown" "I") (by decide +kernel)) (fun _ h9 => h9) rfl (ty := .int) (by decide +kernel) rfl rfl (Nat.le_of_ble_eq_true rfl) dX4_count_2 (up_I (j := 0) (v := 0) (by rw [ce4 ((hA.1).2)]; simp [va_up, upd])) (w' := (S, V, (sT V), (va_up I o (upd (I o) 0 0)))) ⟨rfl, rfl, rfl⟩ (fun H locs hM => ?_)
  have eI : (va_up I o (upd (I o) 0 0)) = (t0 I o) := rfl
  rw [eI] at hM
  clear eI
  refine lv_iload_n hx hb dX4_count_5 rfl (lv_at hl 1 rfl) ?_
  refine lv_iconst (v := 0) hx hb dX4_count_6 (by decide) ?_
  refine lv_bipush (v := 8) hx hb dX4_count_7 (by decide) ?_
  refine fb_callSi hx hb hml hown hts hM (As := [.int 7, .int 0, .int 8]) (rest := []) (c_X4_isIn D y l S V (t0 I o) 7 0 8) (cwS 3 hts gX4_count_X4_isIn rfl rfl rfl (by decide +kernel) ⟨Nat.le_of_ble_eq_true rfl, Nat.le_of_ble_eq_true rfl⟩) rfl hl.1 rfl (Nat.le_of_ble_eq_true rfl) dX4_count_9 ⟨Nat.le_of_ble_eq_true rfl, Nat.le_of_ble_eq_true rfl⟩ (fun v_1 u H locs hp hM => ?_)
  obtain ⟨hv_, hu_⟩ := hp
  have hv_ := Eq.symm hv_
  have hu_ := Eq.symm hu_
  subst hv_
  subst hu_
  rw [show (isN 7 0 8 : Int32) = 1 from by decide]
  refine lv_if_eq (tgt := 23) hx hb dX4_count_12 (by decide) (fun c_2 => absurd c_2 (by decide)) (fun c_2 => ?_)
  refine lv_aload_n hx hb dX4_count_15 rfl (lv_at hl 0 rfl) ?_
  refine lv_iload_n hx hb dX4_count_16 rfl (lv_at hl 1 rfl) ?_
  refine fb_callVi (r := o) hx hb hml hown hts hM ((hA.1).1) (ce4 ((hA.1).2)) rfl (As := [.int 7]) (rest := []) (c_X4_counted_7 D y l S V (t0 I o) o nt cf rf hA ns df hF.t0) (cwV 1 hts gX4_count_X4_counted rfl rfl rfl (by decide +kernel) ⟨Nat.le_of_ble_eq_true rfl, Nat.le_of_ble_eq_true rfl⟩) rfl hl.1 rfl (Nat.le_of_ble_eq_true rfl) dX4_count_17 ⟨Nat.le_of_ble_eq_true rfl, Nat.le_of_ble_eq_true rfl⟩ (fun v_3 u H locs hp hM => ?_)
  obtain ⟨hv_, hu_⟩ := hp
  have hv_ := Eq.symm hv_
  have hu_ := Eq.symm hu_
  subst hv_
  subst hu_
  refine lv_goto (tgt := 28) hx hb dX4_count_20 (by decide) ?_
  rw [hQ]
  exact fb_iret hx hb hr hlocks hM (⟨rfl, rfl⟩) dX4_count_28

set_option maxHeartbeats 4000000 in
set_option maxRecDepth 100000 in
theorem c_X4_count_8 (D : va_G) (y : Nat → ClassId) (l : Launch) (S : fb_Sh) (V I : fb_V) (o nt : Nat) (cf rf : Nat → Nat) (hA : MdAt S o nt cf rf) (ns : Nat) (df : Nat → Nat) (hF : MF I o ns nt cf rf df) : CI D y l yX4_count wsX4_count rm_X4_count [.ref (sa S o), .int 8] (S, V, (sT V), I) (fun z u => z = cnm (t0 I o) o ns nt cf rf 8 ∧ u = (S, V, sT V, t0 I o)) 0 0 := by
  refine CI.of (cc := cX4_count) (maxL := 2) (ret := (some .int)) (by decide) rfl (Nat.le_of_ble_eq_true rfl) ?_
  intro pv ev s mv below meth cv A hx hb hml hr hown hts hlocks hname hM ls hl
  have hown : s.vm.findClass RX4 = some mv.cls := hown
  have hl : lv_has ls 2 [(0, .ref (sa S o)), (1, .int 8)] := hl
  have hin4 : ∀ x ∈ wsX40, x ∈ wsX4_count := by decide +kernel
  obtain ⟨Q, hQ⟩ : ∃ Q, Q = MQ below (va_Qi (fun z u => z = cnm (t0 I o) o ns nt cf rf 8 ∧ u = (S, V, sT V, t0 I o)) (fun u t => fb_P D y A u t) A) (([.ref (sa S o), .int 8] : List Value).toArray) s 0 0 A := ⟨_, rfl⟩
  rw [← hQ]
  have hns : ns ≤ 12 := hF.2.2.1
  have hnt : nt ≤ 6 := hF.2.2.2.1
  refine lv_aload_n hx hb dX4_count_0 rfl (lv_at hl 0 rfl) ?_
  refine lv_iconst (v := 0) hx hb dX4_count_1 (by decide) ?_
  refine fb_put (r := o) hx hb hown hts hin4 tyX4 tyX4_ok nmX4 hM ((hA.1).1) (ce4 ((hA.1).2)) rfl 0 (by decide) (hts (.fieldLink RX4 40 "FeatherBedsModel" "thrown" "I") (by decide +kernel)) (fun _ h9 => h9) rfl (ty := .int) (by decide +kernel) rfl rfl (Nat.le_of_ble_eq_true rfl) dX4_count_2 (up_I (j := 0) (v := 0) (by rw [ce4 ((hA.1).2)]; simp [va_up, upd])) (w' := (S, V, (sT V), (va_up I o (upd (I o) 0 0)))) ⟨rfl, rfl, rfl⟩ (fun H locs hM => ?_)
  have eI : (va_up I o (upd (I o) 0 0)) = (t0 I o) := rfl
  rw [eI] at hM
  clear eI
  refine lv_iload_n hx hb dX4_count_5 rfl (lv_at hl 1 rfl) ?_
  refine lv_iconst (v := 0) hx hb dX4_count_6 (by decide) ?_
  refine lv_bipush (v := 8) hx hb dX4_count_7 (by decide) ?_
  refine fb_callSi hx hb hml hown hts hM (As := [.int 8, .int 0, .int 8]) (rest := []) (c_X4_isIn D y l S V (t0 I o) 8 0 8) (cwS 3 hts gX4_count_X4_isIn rfl rfl rfl (by decide +kernel) ⟨Nat.le_of_ble_eq_true rfl, Nat.le_of_ble_eq_true rfl⟩) rfl hl.1 rfl (Nat.le_of_ble_eq_true rfl) dX4_count_9 ⟨Nat.le_of_ble_eq_true rfl, Nat.le_of_ble_eq_true rfl⟩ (fun v_1 u H locs hp hM => ?_)
  obtain ⟨hv_, hu_⟩ := hp
  have hv_ := Eq.symm hv_
  have hu_ := Eq.symm hu_
  subst hv_
  subst hu_
  rw [show (isN 8 0 8 : Int32) = 1 from by decide]
  refine lv_if_eq (tgt := 23) hx hb dX4_count_12 (by decide) (fun c_2 => absurd c_2 (by decide)) (fun c_2 => ?_)
  refine lv_aload_n hx hb dX4_count_15 rfl (lv_at hl 0 rfl) ?_
  refine lv_iload_n hx hb dX4_count_16 rfl (lv_at hl 1 rfl) ?_
  refine fb_callVi (r := o) hx hb hml hown hts hM ((hA.1).1) (ce4 ((hA.1).2)) rfl (As := [.int 8]) (rest := []) (c_X4_counted_8 D y l S V (t0 I o) o nt cf rf hA ns df hF.t0) (cwV 1 hts gX4_count_X4_counted rfl rfl rfl (by decide +kernel) ⟨Nat.le_of_ble_eq_true rfl, Nat.le_of_ble_eq_true rfl⟩) rfl hl.1 rfl (Nat.le_of_ble_eq_true rfl) dX4_count_17 ⟨Nat.le_of_ble_eq_true rfl, Nat.le_of_ble_eq_true rfl⟩ (fun v_3 u H locs hp hM => ?_)
  obtain ⟨hv_, hu_⟩ := hp
  have hv_ := Eq.symm hv_
  have hu_ := Eq.symm hu_
  subst hv_
  subst hu_
  refine lv_goto (tgt := 28) hx hb dX4_count_20 (by decide) ?_
  rw [hQ]
  exact fb_iret hx hb hr hlocks hM (⟨rfl, rfl⟩) dX4_count_28

abbrev rm_X4_addSack : Room := { frames := 1, cells := 0, slots := 0, locals := 24 }
set_option maxHeartbeats 4000000 in
set_option maxRecDepth 100000 in
theorem c_X4_addSack_f0o (D : va_G) (y : Nat → ClassId) (l : Launch) (S : fb_Sh) (V I : fb_V) (o nt : Nat) (cf rf : Nat → Nat) (hA : MdAt S o nt cf rf) (ns : Nat) (df : Nat → Nat) (hF : MF I o ns nt cf rf df) (p0 : Int32) (ho : p0 < 0 ∨ 9 < p0) : CI D y l yX4_addSack wsX4_addSack rm_X4_addSack [.ref (sa S o), .int p0] (S, V, (sT V), I) (fun z u => z = 0 ∧ u = (S, V, sT V, (tf I o 1))) 0 0 := by
  refine CI.of (cc := cX4_addSack) (maxL := 2) (ret := (some .int)) (by decide) rfl (Nat.le_of_ble_eq_true rfl) ?_
  intro pv ev s mv below meth cv A hx hb hml hr hown hts hlocks hname hM ls hl
  have hown : s.vm.findClass RX4 = some mv.cls := hown
  have hl : lv_has ls 2 [(0, .ref (sa S o)), (1, .int p0)] := hl
  have hin4 : ∀ x ∈ wsX40, x ∈ wsX4_addSack := by decide +kernel
  obtain ⟨Q, hQ⟩ : ∃ Q, Q = MQ below (va_Qi (fun z u => z = 0 ∧ u = (S, V, sT V, (tf I o 1))) (fun u t => fb_P D y A u t) A) (([.ref (sa S o), .int p0] : List Value).toArray) s 0 0 A := ⟨_, rfl⟩
  rw [← hQ]
  have hns : ns ≤ 12 := hF.2.2.1
  have hnt : nt ≤ 6 := hF.2.2.2.1
  refine lv_aload_n hx hb dX4_addSack_0 rfl (lv_at hl 0 rfl) ?_
  refine lv_iconst (v := 0) hx hb dX4_addSack_1 (by decide) ?_
  refine fb_put (r := o) hx hb hown hts hin4 tyX4 tyX4_ok nmX4 hM ((hA.1).1) (ce4 ((hA.1).2)) rfl 0 (by decide) (hts (.fieldLink RX4 40 "FeatherBedsModel" "thrown" "I") (by decide +kernel)) (fun _ h9 => h9) rfl (ty := .int) (by decide +kernel) rfl rfl (Nat.le_of_ble_eq_true rfl) dX4_addSack_2 (up_I (j := 0) (v := 0) (by rw [ce4 ((hA.1).2)]; simp [va_up, upd])) (w' := (S, V, (sT V), (va_up I o (upd (I o) 0 0)))) ⟨rfl, rfl, rfl⟩ (fun H locs hM => ?_)
  have eI : (va_up I o (upd (I o) 0 0)) = (t0 I o) := rfl
  rw [eI] at hM
  clear eI
  refine lv_iload_n hx hb dX4_addSack_5 rfl (lv_at hl 1 rfl) ?_
  refine lv_iconst (v := 0) hx hb dX4_addSack_6 (by decide) ?_
  refine lv_bipush (v := 9) hx hb dX4_addSack_7 (by decide) ?_
  refine fb_callSi hx hb hml hown hts hM (As := [.int p0, .int 0, .int 9]) (rest := []) (c_X4_isIn D y l S V (t0 I o) p0 0 9) (cwS 3 hts gX4_addSack_X4_isIn rfl rfl rfl (by decide +kernel) ⟨Nat.le_of_ble_eq_true rfl, Nat.le_of_ble_eq_true rfl⟩) rfl hl.1 rfl (Nat.le_of_ble_eq_true rfl) dX4_addSack_9 ⟨Nat.le_of_ble_eq_true rfl, Nat.le_of_ble_eq_true rfl⟩ (fun v_1 u H locs hp hM => ?_)
  obtain ⟨hv_, hu_⟩ := hp
  have hv_ := Eq.symm hv_
  have hu_ := Eq.symm hu_
  subst hv_
  subst hu_
  rw [show (isN p0 0 9 : Int32) = 0 from isN_0 ho]
  refine lv_if_ne (tgt := 21) hx hb dX4_addSack_12 (by decide) (fun c_2 => absurd (by decide) c_2) (fun c_2 => ?_)
  refine lv_aload_n hx hb dX4_addSack_15 rfl (lv_at hl 0 rfl) ?_
  refine lv_iconst (v := 1) hx hb dX4_addSack_16 (by decide) ?_
  refine fb_callVi (r := o) hx hb hml hown hts hM ((hA.1).1) (ce4 ((hA.1).2)) rfl (As := [.int 1]) (rest := []) (c_X4_fail D y l S V (t0 I o) o nt cf rf hA 1) (cwV 1 hts gX4_addSack_X4_fail rfl rfl rfl (by decide +kernel) ⟨Nat.le_of_ble_eq_true rfl, Nat.le_of_ble_eq_true rfl⟩) rfl hl.1 rfl (Nat.le_of_ble_eq_true rfl) dX4_addSack_17 ⟨Nat.le_of_ble_eq_true rfl, Nat.le_of_ble_eq_true rfl⟩ (fun v_3 u H locs hp hM => ?_)
  obtain ⟨hv_, hu_⟩ := hp
  have hv_ := Eq.symm hv_
  have hu_ := Eq.symm hu_
  subst hv_
  subst hu_
  have eI : (tf (t0 I o) o 1) = (tf I o 1) := tf_t0 _ _ _
  rw [eI] at hM
  clear eI
  rw [hQ]
  exact fb_iret hx hb hr hlocks hM (⟨rfl, rfl⟩) dX4_addSack_20

set_option maxHeartbeats 4000000 in
set_option maxRecDepth 100000 in
theorem c_X4_addSack_f1o (D : va_G) (y : Nat → ClassId) (l : Launch) (S : fb_Sh) (V I : fb_V) (o nt : Nat) (cf rf : Nat → Nat) (hA : MdAt S o nt cf rf) (ns : Nat) (df : Nat → Nat) (hF : MF I o ns nt cf rf df) (dm : Nat) (hdma : 0 ≤ dm) (hdm : dm ≤ 9) (hfull : ns = 12) : CI D y l yX4_addSack wsX4_addSack rm_X4_addSack [.ref (sa S o), .int (nI dm)] (S, V, (sT V), I) (fun z u => z = 0 ∧ u = (S, V, sT V, (tf I o 2))) 0 0 := by
  refine CI.of (cc := cX4_addSack) (maxL := 2) (ret := (some .int)) (by decide) rfl (Nat.le_of_ble_eq_true rfl) ?_
  intro pv ev s mv below meth cv A hx hb hml hr hown hts hlocks hname hM ls hl
  have hown : s.vm.findClass RX4 = some mv.cls := hown
  have hl : lv_has ls 2 [(0, .ref (sa S o)), (1, .int (nI dm))] := hl
  have hin4 : ∀ x ∈ wsX40, x ∈ wsX4_addSack := by decide +kernel
  obtain ⟨Q, hQ⟩ : ∃ Q, Q = MQ below (va_Qi (fun z u => z = 0 ∧ u = (S, V, sT V, (tf I o 2))) (fun u t => fb_P D y A u t) A) (([.ref (sa S o), .int (nI dm)] : List Value).toArray) s 0 0 A := ⟨_, rfl⟩
  rw [← hQ]
  have hns : ns ≤ 12 := hF.2.2.1
  have hnt : nt ≤ 6 := hF.2.2.2.1
  refine lv_aload_n hx hb dX4_addSack_0 rfl (lv_at hl 0 rfl) ?_
  refine lv_iconst (v := 0) hx hb dX4_addSack_1 (by decide) ?_
  refine fb_put (r := o) hx hb hown hts hin4 tyX4 tyX4_ok nmX4 hM ((hA.1).1) (ce4 ((hA.1).2)) rfl 0 (by decide) (hts (.fieldLink RX4 40 "FeatherBedsModel" "thrown" "I") (by decide +kernel)) (fun _ h9 => h9) rfl (ty := .int) (by decide +kernel) rfl rfl (Nat.le_of_ble_eq_true rfl) dX4_addSack_2 (up_I (j := 0) (v := 0) (by rw [ce4 ((hA.1).2)]; simp [va_up, upd])) (w' := (S, V, (sT V), (va_up I o (upd (I o) 0 0)))) ⟨rfl, rfl, rfl⟩ (fun H locs hM => ?_)
  have eI : (va_up I o (upd (I o) 0 0)) = (t0 I o) := rfl
  rw [eI] at hM
  clear eI
  refine lv_iload_n hx hb dX4_addSack_5 rfl (lv_at hl 1 rfl) ?_
  refine lv_iconst (v := 0) hx hb dX4_addSack_6 (by decide) ?_
  refine lv_bipush (v := 9) hx hb dX4_addSack_7 (by decide) ?_
  refine fb_callSi hx hb hml hown hts hM (As := [.int (nI dm), .int 0, .int 9]) (rest := []) (c_X4_isIn D y l S V (t0 I o) (nI dm) 0 9) (cwS 3 hts gX4_addSack_X4_isIn rfl rfl rfl (by decide +kernel) ⟨Nat.le_of_ble_eq_true rfl, Nat.le_of_ble_eq_true rfl⟩) rfl hl.1 rfl (Nat.le_of_ble_eq_true rfl) dX4_addSack_9 ⟨Nat.le_of_ble_eq_true rfl, Nat.le_of_ble_eq_true rfl⟩ (fun v_1 u H locs hp hM => ?_)
  obtain ⟨hv_, hu_⟩ := hp
  have hv_ := Eq.symm hv_
  have hu_ := Eq.symm hu_
  subst hv_
  subst hu_
  rw [show (isN (nI dm) 0 9 : Int32) = 1 from isN_k (lo := 0) (hi := 9) (by decide) hdma hdm]
  refine lv_if_ne (tgt := 21) hx hb dX4_addSack_12 (by decide) (fun c_2 => ?_) (fun c_2 => absurd c_2 (by decide))
  refine lv_aload_n hx hb dX4_addSack_21 rfl (lv_at hl 0 rfl) ?_
  refine fb_get (r := o) hx hb hown hts hin4 hM ((hA.1).1) (ce4 ((hA.1).2)) rfl 1 (by decide) (hts (.fieldLink RX4 43 "FeatherBedsModel" "sacks" "I") (by decide +kernel)) (fun _ h9 => h9) (v := .int (nI ns)) (congrArg (fun z => some (Value.int z)) ((t0_f I o (by decide)).trans hF.1)) dX4_addSack_22 ?_
  refine lv_bipush (v := 12) hx hb dX4_addSack_25 (by decide) ?_
  refine lv_icmp_ne (tgt := 36) hx hb dX4_addSack_27 (by decide) (fun c_3 => absurd (by rw [hfull]; rfl) c_3) (fun c_3 => ?_)
  refine lv_aload_n hx hb dX4_addSack_30 rfl (lv_at hl 0 rfl) ?_
  refine lv_iconst (v := 2) hx hb dX4_addSack_31 (by decide) ?_
  refine fb_callVi (r := o) hx hb hml hown hts hM ((hA.1).1) (ce4 ((hA.1).2)) rfl (As := [.int 2]) (rest := []) (c_X4_fail D y l S V (t0 I o) o nt cf rf hA 2) (cwV 1 hts gX4_addSack_X4_fail rfl rfl rfl (by decide +kernel) ⟨Nat.le_of_ble_eq_true rfl, Nat.le_of_ble_eq_true rfl⟩) rfl hl.1 rfl (Nat.le_of_ble_eq_true rfl) dX4_addSack_32 ⟨Nat.le_of_ble_eq_true rfl, Nat.le_of_ble_eq_true rfl⟩ (fun v_4 u H locs hp hM => ?_)
  obtain ⟨hv_, hu_⟩ := hp
  have hv_ := Eq.symm hv_
  have hu_ := Eq.symm hu_
  subst hv_
  subst hu_
  have eI : (tf (t0 I o) o 2) = (tf I o 2) := tf_t0 _ _ _
  rw [eI] at hM
  clear eI
  rw [hQ]
  exact fb_iret hx hb hr hlocks hM (⟨rfl, rfl⟩) dX4_addSack_35

set_option maxHeartbeats 4000000 in
set_option maxRecDepth 100000 in
theorem c_X4_addSack_ok (D : va_G) (y : Nat → ClassId) (l : Launch) (S : fb_Sh) (V I : fb_V) (o nt : Nat) (cf rf : Nat → Nat) (hA : MdAt S o nt cf rf) (ns : Nat) (df : Nat → Nat) (hF : MF I o ns nt cf rf df) (dm : Nat) (hdma : 0 ≤ dm) (hdm : dm ≤ 9) (hroom : ns < 12)  : CI D y l yX4_addSack wsX4_addSack rm_X4_addSack [.ref (sa S o), .int (nI dm)] (S, V, (sT V), I) (fun z u => z = nI ns ∧ u = (S, V, sT V, va_up (va_up (t0 I o) (o + 2) (upd (t0 I o (o + 2)) ns (nI dm))) o (upd (t0 I o o) 1 (nI (ns + 1))))) 0 0 := by
  refine CI.of (cc := cX4_addSack) (maxL := 2) (ret := (some .int)) (by decide) rfl (Nat.le_of_ble_eq_true rfl) ?_
  intro pv ev s mv below meth cv A hx hb hml hr hown hts hlocks hname hM ls hl
  have hown : s.vm.findClass RX4 = some mv.cls := hown
  have hl : lv_has ls 2 [(0, .ref (sa S o)), (1, .int (nI dm))] := hl
  have hin4 : ∀ x ∈ wsX40, x ∈ wsX4_addSack := by decide +kernel
  obtain ⟨Q, hQ⟩ : ∃ Q, Q = MQ below (va_Qi (fun z u => z = nI ns ∧ u = (S, V, sT V, va_up (va_up (t0 I o) (o + 2) (upd (t0 I o (o + 2)) ns (nI dm))) o (upd (t0 I o o) 1 (nI (ns + 1))))) (fun u t => fb_P D y A u t) A) (([.ref (sa S o), .int (nI dm)] : List Value).toArray) s 0 0 A := ⟨_, rfl⟩
  rw [← hQ]
  have hns : ns ≤ 12 := hF.2.2.1
  have hnt : nt ≤ 6 := hF.2.2.2.1
  refine lv_aload_n hx hb dX4_addSack_0 rfl (lv_at hl 0 rfl) ?_
  refine lv_iconst (v := 0) hx hb dX4_addSack_1 (by decide) ?_
  refine fb_put (r := o) hx hb hown hts hin4 tyX4 tyX4_ok nmX4 hM ((hA.1).1) (ce4 ((hA.1).2)) rfl 0 (by decide) (hts (.fieldLink RX4 40 "FeatherBedsModel" "thrown" "I") (by decide +kernel)) (fun _ h9 => h9) rfl (ty := .int) (by decide +kernel) rfl rfl (Nat.le_of_ble_eq_true rfl) dX4_addSack_2 (up_I (j := 0) (v := 0) (by rw [ce4 ((hA.1).2)]; simp [va_up, upd])) (w' := (S, V, (sT V), (va_up I o (upd (I o) 0 0)))) ⟨rfl, rfl, rfl⟩ (fun H locs hM => ?_)
  have eI : (va_up I o (upd (I o) 0 0)) = (t0 I o) := rfl
  rw [eI] at hM
  clear eI
  refine lv_iload_n hx hb dX4_addSack_5 rfl (lv_at hl 1 rfl) ?_
  refine lv_iconst (v := 0) hx hb dX4_addSack_6 (by decide) ?_
  refine lv_bipush (v := 9) hx hb dX4_addSack_7 (by decide) ?_
  refine fb_callSi hx hb hml hown hts hM (As := [.int (nI dm), .int 0, .int 9]) (rest := []) (c_X4_isIn D y l S V (t0 I o) (nI dm) 0 9) (cwS 3 hts gX4_addSack_X4_isIn rfl rfl rfl (by decide +kernel) ⟨Nat.le_of_ble_eq_true rfl, Nat.le_of_ble_eq_true rfl⟩) rfl hl.1 rfl (Nat.le_of_ble_eq_true rfl) dX4_addSack_9 ⟨Nat.le_of_ble_eq_true rfl, Nat.le_of_ble_eq_true rfl⟩ (fun v_1 u H locs hp hM => ?_)
  obtain ⟨hv_, hu_⟩ := hp
  have hv_ := Eq.symm hv_
  have hu_ := Eq.symm hu_
  subst hv_
  subst hu_
  rw [show (isN (nI dm) 0 9 : Int32) = 1 from isN_k (lo := 0) (hi := 9) (by decide) hdma hdm]
  refine lv_if_ne (tgt := 21) hx hb dX4_addSack_12 (by decide) (fun c_2 => ?_) (fun c_2 => absurd c_2 (by decide))
  refine lv_aload_n hx hb dX4_addSack_21 rfl (lv_at hl 0 rfl) ?_
  refine fb_get (r := o) hx hb hown hts hin4 hM ((hA.1).1) (ce4 ((hA.1).2)) rfl 1 (by decide) (hts (.fieldLink RX4 43 "FeatherBedsModel" "sacks" "I") (by decide +kernel)) (fun _ h9 => h9) (v := .int (nI ns)) (congrArg (fun z => some (Value.int z)) ((t0_f I o (by decide)).trans hF.1)) dX4_addSack_22 ?_
  refine lv_bipush (v := 12) hx hb dX4_addSack_25 (by decide) ?_
  refine lv_icmp_ne (tgt := 36) hx hb dX4_addSack_27 (by decide) (fun c_3 => ?_) (fun c_3 => absurd c_3 (fun z => by have := (nI_eq (a := ns) (b := 12) (by omega) (by omega)).mp z; omega))
  refine lv_aload_n hx hb dX4_addSack_36 rfl (lv_at hl 0 rfl) ?_
  refine fb_get (r := o) hx hb hown hts hin4 hM ((hA.1).1) (ce4 ((hA.1).2)) rfl 3 (by decide) (hts (.fieldLink RX4 13 "FeatherBedsModel" "damp" "[I") (by decide +kernel)) (fun _ h9 => h9) (v := .ref (sa S (o + 2))) (congrArg (fun z => some (va_rf z)) ((hA.2.1).2.1)) dX4_addSack_37 ?_
  refine lv_aload_n hx hb dX4_addSack_40 rfl (lv_at hl 0 rfl) ?_
  refine fb_get (r := o) hx hb hown hts hin4 hM ((hA.1).1) (ce4 ((hA.1).2)) rfl 1 (by decide) (hts (.fieldLink RX4 43 "FeatherBedsModel" "sacks" "I") (by decide +kernel)) (fun _ h9 => h9) (v := .int (nI ns)) (congrArg (fun z => some (Value.int z)) ((t0_f I o (by decide)).trans hF.1)) dX4_addSack_41 ?_
  refine lv_iload_n hx hb dX4_addSack_44 rfl (lv_at hl 1 rfl) ?_
  refine fb_iast (r := (o + 2)) hx hb hM ((hA.2.2.2.1).1) (ce6 ((hA.2.2.2.1).2.1)) (k := ns) (nI_clamp (by omega)) (by rw [(hA.2.2.2.1).2.2]; exact vp_in_nI (by omega) (by omega)) dX4_addSack_45 (up_I (j := ns) (by rw [ce6 ((hA.2.2.2.1).2.1)]; simp [va_up])) (w' := (S, V, (sT V), (va_up (t0 I o) (o + 2) (upd ((t0 I o) (o + 2)) ns (nI dm))))) ⟨rfl, rfl, rfl⟩ (fun H locs hM => ?_)
  refine lv_aload_n hx hb dX4_addSack_46 rfl (lv_at hl 0 rfl) ?_
  refine lv_dup hx hb dX4_addSack_47 rfl ?_
  refine fb_get (r := o) hx hb hown hts hin4 hM ((hA.1).1) (ce4 ((hA.1).2)) rfl 1 (by decide) (hts (.fieldLink RX4 43 "FeatherBedsModel" "sacks" "I") (by decide +kernel)) (fun _ h9 => h9) (v := .int (nI ns)) (congrArg (fun z => some (Value.int z)) ((congrFun (va_up_ne _ _ (show o ≠ o + 2 by omega)) 1).trans ((t0_f I o (by decide)).trans hF.1))) dX4_addSack_48 ?_
  refine lv_iconst (v := 1) hx hb dX4_addSack_51 (by decide) ?_
  refine lv_iadd hx hb dX4_addSack_52 ?_
  refine W.eq (g2 := F0 mv _ ls (.int (nI (ns + 1)) :: .ref (sa S o) :: [])) (by first | rfl | rw [show ((nI ns) + 1 : Int32) = nI (ns + 1) from nI_1 _]) ?_
  refine fb_put (r := o) hx hb hown hts hin4 tyX4 tyX4_ok nmX4 hM ((hA.1).1) (ce4 ((hA.1).2)) rfl 1 (by decide) (hts (.fieldLink RX4 43 "FeatherBedsModel" "sacks" "I") (by decide +kernel)) (fun _ h9 => h9) rfl (ty := .int) (by decide +kernel) rfl rfl (Nat.le_of_ble_eq_true rfl) dX4_addSack_53 (up_I (j := 1) (v := nI (ns + 1)) (by rw [ce4 ((hA.1).2)]; simp [va_up, upd])) (w' := (S, V, (sT V), (va_up (va_up (t0 I o) (o + 2) (upd ((t0 I o) (o + 2)) ns (nI dm))) o (upd ((va_up (t0 I o) (o + 2) (upd ((t0 I o) (o + 2)) ns (nI dm))) o) 1 (nI (ns + 1)))))) ⟨rfl, rfl, rfl⟩ (fun H locs hM => ?_)
  have eI : (va_up (va_up (t0 I o) (o + 2) (upd ((t0 I o) (o + 2)) ns (nI dm))) o (upd ((va_up (t0 I o) (o + 2) (upd ((t0 I o) (o + 2)) ns (nI dm))) o) 1 (nI (ns + 1)))) = (va_up (va_up (t0 I o) (o + 2) (upd (t0 I o (o + 2)) ns (nI dm))) o (upd (t0 I o o) 1 (nI (ns + 1)))) := by rw [va_up_ne _ _ (show o ≠ o + 2 by omega)]
  rw [eI] at hM
  clear eI
  refine lv_aload_n hx hb dX4_addSack_56 rfl (lv_at hl 0 rfl) ?_
  refine fb_get (r := o) hx hb hown hts hin4 hM ((hA.1).1) (ce4 ((hA.1).2)) rfl 1 (by decide) (hts (.fieldLink RX4 43 "FeatherBedsModel" "sacks" "I") (by decide +kernel)) (fun _ h9 => h9) (v := .int (nI ((ns + 1)))) (congrArg (fun z => some (Value.int z)) (by rw [va_up_self]; simp [upd])) dX4_addSack_57 ?_
  refine lv_iconst (v := 1) hx hb dX4_addSack_60 (by decide) ?_
  refine lv_isub hx hb dX4_addSack_61 ?_
  refine W.eq (g2 := F0 mv _ ls (.int (nI ns) :: [])) (by first | rfl | rw [show ((nI ((ns + 1))) - 1 : Int32) = nI ns from nI_pred _]) ?_
  rw [hQ]
  exact fb_iret hx hb hr hlocks hM (⟨rfl, rfl⟩) dX4_addSack_62

abbrev rm_X4_put : Room := { frames := 2, cells := 0, slots := 0, locals := 43 }
set_option maxHeartbeats 4000000 in
set_option maxRecDepth 100000 in
theorem c_X4_put_f0o (D : va_G) (y : Nat → ClassId) (l : Launch) (S : fb_Sh) (V I : fb_V) (o nt : Nat) (cf rf : Nat → Nat) (hA : MdAt S o nt cf rf) (ns : Nat) (df : Nat → Nat) (hF : MF I o ns nt cf rf df) (p0 : Int32) (ho : p0 < 0 ∨ nI ns ≤ p0) (p1 : Int32) (p2 : Int32) : CI D y l yX4_put wsX4_put rm_X4_put [.ref (sa S o), .int p0, .int p1, .int p2] (S, V, (sT V), I) (fun z u => z = 0 ∧ u = (S, V, sT V, (tf I o 1))) 0 0 := by
  refine CI.of (cc := cX4_put) (maxL := 5) (ret := (some .int)) (by decide) rfl (Nat.le_of_ble_eq_true rfl) ?_
  intro pv ev s mv below meth cv A hx hb hml hr hown hts hlocks hname hM ls hl
  have hown : s.vm.findClass RX4 = some mv.cls := hown
  have hl : lv_has ls 5 [(0, .ref (sa S o)), (1, .int p0), (2, .int p1), (3, .int p2)] := hl
  have hin4 : ∀ x ∈ wsX40, x ∈ wsX4_put := by decide +kernel
  obtain ⟨Q, hQ⟩ : ∃ Q, Q = MQ below (va_Qi (fun z u => z = 0 ∧ u = (S, V, sT V, (tf I o 1))) (fun u t => fb_P D y A u t) A) (([.ref (sa S o), .int p0, .int p1, .int p2] : List Value).toArray) s 0 0 A := ⟨_, rfl⟩
  rw [← hQ]
  have hns : ns ≤ 12 := hF.2.2.1
  have hnt : nt ≤ 6 := hF.2.2.2.1
  refine lv_aload_n hx hb dX4_put_0 rfl (lv_at hl 0 rfl) ?_
  refine lv_iconst (v := 0) hx hb dX4_put_1 (by decide) ?_
  refine fb_put (r := o) hx hb hown hts hin4 tyX4 tyX4_ok nmX4 hM ((hA.1).1) (ce4 ((hA.1).2)) rfl 0 (by decide) (hts (.fieldLink RX4 40 "FeatherBedsModel" "thrown" "I") (by decide +kernel)) (fun _ h9 => h9) rfl (ty := .int) (by decide +kernel) rfl rfl (Nat.le_of_ble_eq_true rfl) dX4_put_2 (up_I (j := 0) (v := 0) (by rw [ce4 ((hA.1).2)]; simp [va_up, upd])) (w' := (S, V, (sT V), (va_up I o (upd (I o) 0 0)))) ⟨rfl, rfl, rfl⟩ (fun H locs hM => ?_)
  have eI : (va_up I o (upd (I o) 0 0)) = (t0 I o) := rfl
  rw [eI] at hM
  clear eI
  refine lv_aload_n hx hb dX4_put_5 rfl (lv_at hl 0 rfl) ?_
  refine lv_iload_n hx hb dX4_put_6 rfl (lv_at hl 1 rfl) ?_
  refine fb_callVi (r := o) hx hb hml hown hts hM ((hA.1).1) (ce4 ((hA.1).2)) rfl (As := [.int p0]) (rest := []) (c_X4_isSack D y l S V (t0 I o) o nt cf rf hA ns df hF.t0 p0) (cwV 1 hts gX4_put_X4_isSack rfl rfl rfl (by decide +kernel) ⟨Nat.le_of_ble_eq_true rfl, Nat.le_of_ble_eq_true rfl⟩) rfl hl.1 rfl (Nat.le_of_ble_eq_true rfl) dX4_put_7 ⟨Nat.le_of_ble_eq_true rfl, Nat.le_of_ble_eq_true rfl⟩ (fun v_1 u H locs hp hM => ?_)
  obtain ⟨hv_, hu_⟩ := hp
  have hv_ := Eq.symm hv_
  have hu_ := Eq.symm hu_
  subst hv_
  subst hu_
  rw [show (isN p0 0 (nI ns - 1) : Int32) = 0 from isN_out (by omega) ho]
  refine lv_if_eq (tgt := 22) hx hb dX4_put_10 (by decide) (fun c_2 => ?_) (fun c_2 => absurd (by decide) c_2)
  refine lv_aload_n hx hb dX4_put_22 rfl (lv_at hl 0 rfl) ?_
  refine lv_iconst (v := 1) hx hb dX4_put_23 (by decide) ?_
  refine fb_callVi (r := o) hx hb hml hown hts hM ((hA.1).1) (ce4 ((hA.1).2)) rfl (As := [.int 1]) (rest := []) (c_X4_fail D y l S V (t0 I o) o nt cf rf hA 1) (cwV 1 hts gX4_put_X4_fail rfl rfl rfl (by decide +kernel) ⟨Nat.le_of_ble_eq_true rfl, Nat.le_of_ble_eq_true rfl⟩) rfl hl.1 rfl (Nat.le_of_ble_eq_true rfl) dX4_put_24 ⟨Nat.le_of_ble_eq_true rfl, Nat.le_of_ble_eq_true rfl⟩ (fun v_3 u H locs hp hM => ?_)
  obtain ⟨hv_, hu_⟩ := hp
  have hv_ := Eq.symm hv_
  have hu_ := Eq.symm hu_
  subst hv_
  subst hu_
  have eI : (tf (t0 I o) o 1) = (tf I o 1) := tf_t0 _ _ _
  rw [eI] at hM
  clear eI
  rw [hQ]
  exact fb_iret hx hb hr hlocks hM (⟨rfl, rfl⟩) dX4_put_27

set_option maxHeartbeats 4000000 in
set_option maxRecDepth 100000 in
theorem c_X4_put_f1o (D : va_G) (y : Nat → ClassId) (l : Launch) (S : fb_Sh) (V I : fb_V) (o nt : Nat) (cf rf : Nat → Nat) (hA : MdAt S o nt cf rf) (ns : Nat) (df : Nat → Nat) (hF : MF I o ns nt cf rf df) (i : Nat) (hi : i < ns) (p1 : Int32) (ho : p1 < 0 ∨ 5 < p1) (p2 : Int32) : CI D y l yX4_put wsX4_put rm_X4_put [.ref (sa S o), .int (nI i), .int p1, .int p2] (S, V, (sT V), I) (fun z u => z = 0 ∧ u = (S, V, sT V, (tf I o 1))) 0 0 := by
  refine CI.of (cc := cX4_put) (maxL := 5) (ret := (some .int)) (by decide) rfl (Nat.le_of_ble_eq_true rfl) ?_
  intro pv ev s mv below meth cv A hx hb hml hr hown hts hlocks hname hM ls hl
  have hown : s.vm.findClass RX4 = some mv.cls := hown
  have hl : lv_has ls 5 [(0, .ref (sa S o)), (1, .int (nI i)), (2, .int p1), (3, .int p2)] := hl
  have hin4 : ∀ x ∈ wsX40, x ∈ wsX4_put := by decide +kernel
  obtain ⟨Q, hQ⟩ : ∃ Q, Q = MQ below (va_Qi (fun z u => z = 0 ∧ u = (S, V, sT V, (tf I o 1))) (fun u t => fb_P D y A u t) A) (([.ref (sa S o), .int (nI i), .int p1, .int p2] : List Value).toArray) s 0 0 A := ⟨_, rfl⟩
  rw [← hQ]
  have hns : ns ≤ 12 := hF.2.2.1
  have hnt : nt ≤ 6 := hF.2.2.2.1
  refine lv_aload_n hx hb dX4_put_0 rfl (lv_at hl 0 rfl) ?_
  refine lv_iconst (v := 0) hx hb dX4_put_1 (by decide) ?_
  refine fb_put (r := o) hx hb hown hts hin4 tyX4 tyX4_ok nmX4 hM ((hA.1).1) (ce4 ((hA.1).2)) rfl 0 (by decide) (hts (.fieldLink RX4 40 "FeatherBedsModel" "thrown" "I") (by decide +kernel)) (fun _ h9 => h9) rfl (ty := .int) (by decide +kernel) rfl rfl (Nat.le_of_ble_eq_true rfl) dX4_put_2 (up_I (j := 0) (v := 0) (by rw [ce4 ((hA.1).2)]; simp [va_up, upd])) (w' := (S, V, (sT V), (va_up I o (upd (I o) 0 0)))) ⟨rfl, rfl, rfl⟩ (fun H locs hM => ?_)
  have eI : (va_up I o (upd (I o) 0 0)) = (t0 I o) := rfl
  rw [eI] at hM
  clear eI
  refine lv_aload_n hx hb dX4_put_5 rfl (lv_at hl 0 rfl) ?_
  refine lv_iload_n hx hb dX4_put_6 rfl (lv_at hl 1 rfl) ?_
  refine fb_callVi (r := o) hx hb hml hown hts hM ((hA.1).1) (ce4 ((hA.1).2)) rfl (As := [.int (nI i)]) (rest := []) (c_X4_isSack D y l S V (t0 I o) o nt cf rf hA ns df hF.t0 (nI i)) (cwV 1 hts gX4_put_X4_isSack rfl rfl rfl (by decide +kernel) ⟨Nat.le_of_ble_eq_true rfl, Nat.le_of_ble_eq_true rfl⟩) rfl hl.1 rfl (Nat.le_of_ble_eq_true rfl) dX4_put_7 ⟨Nat.le_of_ble_eq_true rfl, Nat.le_of_ble_eq_true rfl⟩ (fun v_1 u H locs hp hM => ?_)
  obtain ⟨hv_, hu_⟩ := hp
  have hv_ := Eq.symm hv_
  have hu_ := Eq.symm hu_
  subst hv_
  subst hu_
  rw [show (isN (nI i) 0 (nI ns - 1) : Int32) = 1 from isN_in (by omega) hi]
  refine lv_if_eq (tgt := 22) hx hb dX4_put_10 (by decide) (fun c_2 => absurd c_2 (by decide)) (fun c_2 => ?_)
  refine lv_iload_n hx hb dX4_put_13 rfl (lv_at hl 2 rfl) ?_
  refine lv_iconst (v := 0) hx hb dX4_put_14 (by decide) ?_
  refine lv_iconst (v := 5) hx hb dX4_put_15 (by decide) ?_
  refine fb_callSi hx hb hml hown hts hM (As := [.int p1, .int 0, .int 5]) (rest := []) (c_X4_isIn D y l S V (t0 I o) p1 0 5) (cwS 3 hts gX4_put_X4_isIn rfl rfl rfl (by decide +kernel) ⟨Nat.le_of_ble_eq_true rfl, Nat.le_of_ble_eq_true rfl⟩) rfl hl.1 rfl (Nat.le_of_ble_eq_true rfl) dX4_put_16 ⟨Nat.le_of_ble_eq_true rfl, Nat.le_of_ble_eq_true rfl⟩ (fun v_3 u H locs hp hM => ?_)
  obtain ⟨hv_, hu_⟩ := hp
  have hv_ := Eq.symm hv_
  have hu_ := Eq.symm hu_
  subst hv_
  subst hu_
  rw [show (isN p1 0 5 : Int32) = 0 from isN_0 ho]
  refine lv_if_ne (tgt := 28) hx hb dX4_put_19 (by decide) (fun c_4 => absurd (by decide) c_4) (fun c_4 => ?_)
  refine lv_aload_n hx hb dX4_put_22 rfl (lv_at hl 0 rfl) ?_
  refine lv_iconst (v := 1) hx hb dX4_put_23 (by decide) ?_
  refine fb_callVi (r := o) hx hb hml hown hts hM ((hA.1).1) (ce4 ((hA.1).2)) rfl (As := [.int 1]) (rest := []) (c_X4_fail D y l S V (t0 I o) o nt cf rf hA 1) (cwV 1 hts gX4_put_X4_fail rfl rfl rfl (by decide +kernel) ⟨Nat.le_of_ble_eq_true rfl, Nat.le_of_ble_eq_true rfl⟩) rfl hl.1 rfl (Nat.le_of_ble_eq_true rfl) dX4_put_24 ⟨Nat.le_of_ble_eq_true rfl, Nat.le_of_ble_eq_true rfl⟩ (fun v_5 u H locs hp hM => ?_)
  obtain ⟨hv_, hu_⟩ := hp
  have hv_ := Eq.symm hv_
  have hu_ := Eq.symm hu_
  subst hv_
  subst hu_
  have eI : (tf (t0 I o) o 1) = (tf I o 1) := tf_t0 _ _ _
  rw [eI] at hM
  clear eI
  rw [hQ]
  exact fb_iret hx hb hr hlocks hM (⟨rfl, rfl⟩) dX4_put_27

set_option maxHeartbeats 4000000 in
set_option maxRecDepth 100000 in
theorem c_X4_put_f2o (D : va_G) (y : Nat → ClassId) (l : Launch) (S : fb_Sh) (V I : fb_V) (o nt : Nat) (cf rf : Nat → Nat) (hA : MdAt S o nt cf rf) (ns : Nat) (df : Nat → Nat) (hF : MF I o ns nt cf rf df) (i : Nat) (hi : i < ns) (k : Nat) (hka : 0 ≤ k) (hk : k ≤ 5) (p2 : Int32) (ho : p2 < 1 ∨ 500 < p2) : CI D y l yX4_put wsX4_put rm_X4_put [.ref (sa S o), .int (nI i), .int (nI k), .int p2] (S, V, (sT V), I) (fun z u => z = 0 ∧ u = (S, V, sT V, (tf I o 2))) 0 0 := by
  refine CI.of (cc := cX4_put) (maxL := 5) (ret := (some .int)) (by decide) rfl (Nat.le_of_ble_eq_true rfl) ?_
  intro pv ev s mv below meth cv A hx hb hml hr hown hts hlocks hname hM ls hl
  have hown : s.vm.findClass RX4 = some mv.cls := hown
  have hl : lv_has ls 5 [(0, .ref (sa S o)), (1, .int (nI i)), (2, .int (nI k)), (3, .int p2)] := hl
  have hin4 : ∀ x ∈ wsX40, x ∈ wsX4_put := by decide +kernel
  obtain ⟨Q, hQ⟩ : ∃ Q, Q = MQ below (va_Qi (fun z u => z = 0 ∧ u = (S, V, sT V, (tf I o 2))) (fun u t => fb_P D y A u t) A) (([.ref (sa S o), .int (nI i), .int (nI k), .int p2] : List Value).toArray) s 0 0 A := ⟨_, rfl⟩
  rw [← hQ]
  have hns : ns ≤ 12 := hF.2.2.1
  have hnt : nt ≤ 6 := hF.2.2.2.1
  refine lv_aload_n hx hb dX4_put_0 rfl (lv_at hl 0 rfl) ?_
  refine lv_iconst (v := 0) hx hb dX4_put_1 (by decide) ?_
  refine fb_put (r := o) hx hb hown hts hin4 tyX4 tyX4_ok nmX4 hM ((hA.1).1) (ce4 ((hA.1).2)) rfl 0 (by decide) (hts (.fieldLink RX4 40 "FeatherBedsModel" "thrown" "I") (by decide +kernel)) (fun _ h9 => h9) rfl (ty := .int) (by decide +kernel) rfl rfl (Nat.le_of_ble_eq_true rfl) dX4_put_2 (up_I (j := 0) (v := 0) (by rw [ce4 ((hA.1).2)]; simp [va_up, upd])) (w' := (S, V, (sT V), (va_up I o (upd (I o) 0 0)))) ⟨rfl, rfl, rfl⟩ (fun H locs hM => ?_)
  have eI : (va_up I o (upd (I o) 0 0)) = (t0 I o) := rfl
  rw [eI] at hM
  clear eI
  refine lv_aload_n hx hb dX4_put_5 rfl (lv_at hl 0 rfl) ?_
  refine lv_iload_n hx hb dX4_put_6 rfl (lv_at hl 1 rfl) ?_
  refine fb_callVi (r := o) hx hb hml hown hts hM ((hA.1).1) (ce4 ((hA.1).2)) rfl (As := [.int (nI i)]) (rest := []) (c_X4_isSack D y l S V (t0 I o) o nt cf rf hA ns df hF.t0 (nI i)) (cwV 1 hts gX4_put_X4_isSack rfl rfl rfl (by decide +kernel) ⟨Nat.le_of_ble_eq_true rfl, Nat.le_of_ble_eq_true rfl⟩) rfl hl.1 rfl (Nat.le_of_ble_eq_true rfl) dX4_put_7 ⟨Nat.le_of_ble_eq_true rfl, Nat.le_of_ble_eq_true rfl⟩ (fun v_1 u H locs hp hM => ?_)
  obtain ⟨hv_, hu_⟩ := hp
  have hv_ := Eq.symm hv_
  have hu_ := Eq.symm hu_
  subst hv_
  subst hu_
  rw [show (isN (nI i) 0 (nI ns - 1) : Int32) = 1 from isN_in (by omega) hi]
  refine lv_if_eq (tgt := 22) hx hb dX4_put_10 (by decide) (fun c_2 => absurd c_2 (by decide)) (fun c_2 => ?_)
  refine lv_iload_n hx hb dX4_put_13 rfl (lv_at hl 2 rfl) ?_
  refine lv_iconst (v := 0) hx hb dX4_put_14 (by decide) ?_
  refine lv_iconst (v := 5) hx hb dX4_put_15 (by decide) ?_
  refine fb_callSi hx hb hml hown hts hM (As := [.int (nI k), .int 0, .int 5]) (rest := []) (c_X4_isIn D y l S V (t0 I o) (nI k) 0 5) (cwS 3 hts gX4_put_X4_isIn rfl rfl rfl (by decide +kernel) ⟨Nat.le_of_ble_eq_true rfl, Nat.le_of_ble_eq_true rfl⟩) rfl hl.1 rfl (Nat.le_of_ble_eq_true rfl) dX4_put_16 ⟨Nat.le_of_ble_eq_true rfl, Nat.le_of_ble_eq_true rfl⟩ (fun v_3 u H locs hp hM => ?_)
  obtain ⟨hv_, hu_⟩ := hp
  have hv_ := Eq.symm hv_
  have hu_ := Eq.symm hu_
  subst hv_
  subst hu_
  rw [show (isN (nI k) 0 5 : Int32) = 1 from isN_k (lo := 0) (hi := 5) (by decide) hka hk]
  refine lv_if_ne (tgt := 28) hx hb dX4_put_19 (by decide) (fun c_4 => ?_) (fun c_4 => absurd c_4 (by decide))
  refine lv_iload_n hx hb dX4_put_28 rfl (lv_at hl 3 rfl) ?_
  refine lv_iconst (v := 1) hx hb dX4_put_29 (by decide) ?_
  refine lv_sipush (v := 500) hx hb dX4_put_30 (by decide) ?_
  refine fb_callSi hx hb hml hown hts hM (As := [.int p2, .int 1, .int 500]) (rest := []) (c_X4_isIn D y l S V (t0 I o) p2 1 500) (cwS 3 hts gX4_put_X4_isIn rfl rfl rfl (by decide +kernel) ⟨Nat.le_of_ble_eq_true rfl, Nat.le_of_ble_eq_true rfl⟩) rfl hl.1 rfl (Nat.le_of_ble_eq_true rfl) dX4_put_33 ⟨Nat.le_of_ble_eq_true rfl, Nat.le_of_ble_eq_true rfl⟩ (fun v_5 u H locs hp hM => ?_)
  obtain ⟨hv_, hu_⟩ := hp
  have hv_ := Eq.symm hv_
  have hu_ := Eq.symm hu_
  subst hv_
  subst hu_
  rw [show (isN p2 1 500 : Int32) = 0 from isN_0 ho]
  refine lv_if_ne (tgt := 45) hx hb dX4_put_36 (by decide) (fun c_6 => absurd (by decide) c_6) (fun c_6 => ?_)
  refine lv_aload_n hx hb dX4_put_39 rfl (lv_at hl 0 rfl) ?_
  refine lv_iconst (v := 2) hx hb dX4_put_40 (by decide) ?_
  refine fb_callVi (r := o) hx hb hml hown hts hM ((hA.1).1) (ce4 ((hA.1).2)) rfl (As := [.int 2]) (rest := []) (c_X4_fail D y l S V (t0 I o) o nt cf rf hA 2) (cwV 1 hts gX4_put_X4_fail rfl rfl rfl (by decide +kernel) ⟨Nat.le_of_ble_eq_true rfl, Nat.le_of_ble_eq_true rfl⟩) rfl hl.1 rfl (Nat.le_of_ble_eq_true rfl) dX4_put_41 ⟨Nat.le_of_ble_eq_true rfl, Nat.le_of_ble_eq_true rfl⟩ (fun v_7 u H locs hp hM => ?_)
  obtain ⟨hv_, hu_⟩ := hp
  have hv_ := Eq.symm hv_
  have hu_ := Eq.symm hu_
  subst hv_
  subst hu_
  have eI : (tf (t0 I o) o 2) = (tf I o 2) := tf_t0 _ _ _
  rw [eI] at hM
  clear eI
  rw [hQ]
  exact fb_iret hx hb hr hlocks hM (⟨rfl, rfl⟩) dX4_put_44

set_option maxHeartbeats 4000000 in
set_option maxRecDepth 100000 in
theorem c_X4_put_f3o (D : va_G) (y : Nat → ClassId) (l : Launch) (S : fb_Sh) (V I : fb_V) (o nt : Nat) (cf rf : Nat → Nat) (hA : MdAt S o nt cf rf) (ns : Nat) (df : Nat → Nat) (hF : MF I o ns nt cf rf df) (i : Nat) (hi : i < ns) (k : Nat) (hka : 0 ≤ k) (hk : k ≤ 5) (n : Nat) (hna : 1 ≤ n) (hn : n ≤ 500) (v : Nat) (hv : I (o + 1) (6 * i + k) = nI v) (hvv : v ≤ 500) (hbig : 500 < v + n) : CI D y l yX4_put wsX4_put rm_X4_put [.ref (sa S o), .int (nI i), .int (nI k), .int (nI n)] (S, V, (sT V), I) (fun z u => z = 0 ∧ u = (S, V, sT V, (tf I o 3))) 0 0 := by
  refine CI.of (cc := cX4_put) (maxL := 5) (ret := (some .int)) (by decide) rfl (Nat.le_of_ble_eq_true rfl) ?_
  intro pv ev s mv below meth cv A hx hb hml hr hown hts hlocks hname hM ls hl
  have hown : s.vm.findClass RX4 = some mv.cls := hown
  have hl : lv_has ls 5 [(0, .ref (sa S o)), (1, .int (nI i)), (2, .int (nI k)), (3, .int (nI n))] := hl
  have hin4 : ∀ x ∈ wsX40, x ∈ wsX4_put := by decide +kernel
  obtain ⟨Q, hQ⟩ : ∃ Q, Q = MQ below (va_Qi (fun z u => z = 0 ∧ u = (S, V, sT V, (tf I o 3))) (fun u t => fb_P D y A u t) A) (([.ref (sa S o), .int (nI i), .int (nI k), .int (nI n)] : List Value).toArray) s 0 0 A := ⟨_, rfl⟩
  rw [← hQ]
  have hns : ns ≤ 12 := hF.2.2.1
  have hnt : nt ≤ 6 := hF.2.2.2.1
  refine lv_aload_n hx hb dX4_put_0 rfl (lv_at hl 0 rfl) ?_
  refine lv_iconst (v := 0) hx hb dX4_put_1 (by decide) ?_
  refine fb_put (r := o) hx hb hown hts hin4 tyX4 tyX4_ok nmX4 hM ((hA.1).1) (ce4 ((hA.1).2)) rfl 0 (by decide) (hts (.fieldLink RX4 40 "FeatherBedsModel" "thrown" "I") (by decide +kernel)) (fun _ h9 => h9) rfl (ty := .int) (by decide +kernel) rfl rfl (Nat.le_of_ble_eq_true rfl) dX4_put_2 (up_I (j := 0) (v := 0) (by rw [ce4 ((hA.1).2)]; simp [va_up, upd])) (w' := (S, V, (sT V), (va_up I o (upd (I o) 0 0)))) ⟨rfl, rfl, rfl⟩ (fun H locs hM => ?_)
  have eI : (va_up I o (upd (I o) 0 0)) = (t0 I o) := rfl
  rw [eI] at hM
  clear eI
  refine lv_aload_n hx hb dX4_put_5 rfl (lv_at hl 0 rfl) ?_
  refine lv_iload_n hx hb dX4_put_6 rfl (lv_at hl 1 rfl) ?_
  refine fb_callVi (r := o) hx hb hml hown hts hM ((hA.1).1) (ce4 ((hA.1).2)) rfl (As := [.int (nI i)]) (rest := []) (c_X4_isSack D y l S V (t0 I o) o nt cf rf hA ns df hF.t0 (nI i)) (cwV 1 hts gX4_put_X4_isSack rfl rfl rfl (by decide +kernel) ⟨Nat.le_of_ble_eq_true rfl, Nat.le_of_ble_eq_true rfl⟩) rfl hl.1 rfl (Nat.le_of_ble_eq_true rfl) dX4_put_7 ⟨Nat.le_of_ble_eq_true rfl, Nat.le_of_ble_eq_true rfl⟩ (fun v_1 u H locs hp hM => ?_)
  obtain ⟨hv_, hu_⟩ := hp
  have hv_ := Eq.symm hv_
  have hu_ := Eq.symm hu_
  subst hv_
  subst hu_
  rw [show (isN (nI i) 0 (nI ns - 1) : Int32) = 1 from isN_in (by omega) hi]
  refine lv_if_eq (tgt := 22) hx hb dX4_put_10 (by decide) (fun c_2 => absurd c_2 (by decide)) (fun c_2 => ?_)
  refine lv_iload_n hx hb dX4_put_13 rfl (lv_at hl 2 rfl) ?_
  refine lv_iconst (v := 0) hx hb dX4_put_14 (by decide) ?_
  refine lv_iconst (v := 5) hx hb dX4_put_15 (by decide) ?_
  refine fb_callSi hx hb hml hown hts hM (As := [.int (nI k), .int 0, .int 5]) (rest := []) (c_X4_isIn D y l S V (t0 I o) (nI k) 0 5) (cwS 3 hts gX4_put_X4_isIn rfl rfl rfl (by decide +kernel) ⟨Nat.le_of_ble_eq_true rfl, Nat.le_of_ble_eq_true rfl⟩) rfl hl.1 rfl (Nat.le_of_ble_eq_true rfl) dX4_put_16 ⟨Nat.le_of_ble_eq_true rfl, Nat.le_of_ble_eq_true rfl⟩ (fun v_3 u H locs hp hM => ?_)
  obtain ⟨hv_, hu_⟩ := hp
  have hv_ := Eq.symm hv_
  have hu_ := Eq.symm hu_
  subst hv_
  subst hu_
  rw [show (isN (nI k) 0 5 : Int32) = 1 from isN_k (lo := 0) (hi := 5) (by decide) hka hk]
  refine lv_if_ne (tgt := 28) hx hb dX4_put_19 (by decide) (fun c_4 => ?_) (fun c_4 => absurd c_4 (by decide))
  refine lv_iload_n hx hb dX4_put_28 rfl (lv_at hl 3 rfl) ?_
  refine lv_iconst (v := 1) hx hb dX4_put_29 (by decide) ?_
  refine lv_sipush (v := 500) hx hb dX4_put_30 (by decide) ?_
  refine fb_callSi hx hb hml hown hts hM (As := [.int (nI n), .int 1, .int 500]) (rest := []) (c_X4_isIn D y l S V (t0 I o) (nI n) 1 500) (cwS 3 hts gX4_put_X4_isIn rfl rfl rfl (by decide +kernel) ⟨Nat.le_of_ble_eq_true rfl, Nat.le_of_ble_eq_true rfl⟩) rfl hl.1 rfl (Nat.le_of_ble_eq_true rfl) dX4_put_33 ⟨Nat.le_of_ble_eq_true rfl, Nat.le_of_ble_eq_true rfl⟩ (fun v_5 u H locs hp hM => ?_)
  obtain ⟨hv_, hu_⟩ := hp
  have hv_ := Eq.symm hv_
  have hu_ := Eq.symm hu_
  subst hv_
  subst hu_
  rw [show (isN (nI n) 1 500 : Int32) = 1 from isN_k (lo := 1) (hi := 500) (by decide) hna hn]
  refine lv_if_ne (tgt := 45) hx hb dX4_put_36 (by decide) (fun c_6 => ?_) (fun c_6 => absurd c_6 (by decide))
  refine lv_bipush (v := 6) hx hb dX4_put_45 (by decide) ?_
  refine lv_iload_n hx hb dX4_put_47 rfl (lv_at hl 1 rfl) ?_
  refine lv_imul hx hb dX4_put_48 ?_
  refine W.eq (g2 := F0 mv _ ls (.int (nI (6 * i)) :: [])) (by first | rfl | rw [show (6 * (nI i) : Int32) = nI (6 * i) from pk_mul 6 i]) ?_
  refine lv_iload_n hx hb dX4_put_49 rfl (lv_at hl 2 rfl) ?_
  refine lv_iadd hx hb dX4_put_50 ?_
  refine W.eq (g2 := F0 mv _ ls (.int (nI (6 * i + k)) :: [])) (by first | rfl | rw [show ((nI (6 * i)) + (nI k) : Int32) = nI (6 * i + k) from nI_add _ _]) ?_
  refine lv_istore (lv' := [(4, .int (nI (6 * i + k))), (0, .ref (sa S o)), (1, .int (nI i)), (2, .int (nI k)), (3, .int (nI n))]) hx hb dX4_put_51 hl (by decide) rfl (fun ls hl => ?_)
  refine lv_aload_n hx hb dX4_put_53 rfl (lv_at hl 1 rfl) ?_
  refine fb_get (r := o) hx hb hown hts hin4 hM ((hA.1).1) (ce4 ((hA.1).2)) rfl 2 (by decide) (hts (.fieldLink RX4 9 "FeatherBedsModel" "sackHeaps" "[I") (by decide +kernel)) (fun _ h9 => h9) (v := .ref (sa S (o + 1))) (congrArg (fun z => some (va_rf z)) ((hA.2.1).1)) dX4_put_54 ?_
  refine lv_iload hx hb dX4_put_57 (lv_at hl 0 rfl) ?_
  refine fb_iald (r := (o + 1)) hx hb hM ((hA.2.2.1).1) (ce6 ((hA.2.2.1).2.1)) (k := 6 * i + k) (nI_clamp (by omega)) (by rw [(hA.2.2.1).2.2]; exact vp_in_nI (by omega) (by omega)) dX4_put_59 ?_
  rw [show (t0 I o) (o + 1) (6 * i + k) = nI v from (congrFun (t0_ne I (show o + 1 ≠ o by omega)) _).trans hv]
  refine lv_iload_n hx hb dX4_put_60 rfl (lv_at hl 4 rfl) ?_
  refine lv_iadd hx hb dX4_put_61 ?_
  refine W.eq (g2 := F0 mv _ ls (.int (nI (v + n)) :: [])) (by first | rfl | rw [show ((nI v) + (nI n) : Int32) = nI (v + n) from nI_add _ _]) ?_
  refine lv_sipush (v := 500) hx hb dX4_put_62 (by decide) ?_
  refine lv_icmp_le (tgt := 74) hx hb dX4_put_65 (by decide) (fun c_7 => absurd c_7 (nI_ge (a := 500) hbig (by omega))) (fun c_7 => ?_)
  refine lv_aload_n hx hb dX4_put_68 rfl (lv_at hl 1 rfl) ?_
  refine lv_iconst (v := 3) hx hb dX4_put_69 (by decide) ?_
  refine fb_callVi (r := o) hx hb hml hown hts hM ((hA.1).1) (ce4 ((hA.1).2)) rfl (As := [.int 3]) (rest := []) (c_X4_fail D y l S V (t0 I o) o nt cf rf hA 3) (cwV 1 hts gX4_put_X4_fail rfl rfl rfl (by decide +kernel) ⟨Nat.le_of_ble_eq_true rfl, Nat.le_of_ble_eq_true rfl⟩) rfl hl.1 rfl (Nat.le_of_ble_eq_true rfl) dX4_put_70 ⟨Nat.le_of_ble_eq_true rfl, Nat.le_of_ble_eq_true rfl⟩ (fun v_8 u H locs hp hM => ?_)
  obtain ⟨hv_, hu_⟩ := hp
  have hv_ := Eq.symm hv_
  have hu_ := Eq.symm hu_
  subst hv_
  subst hu_
  have eI : (tf (t0 I o) o 3) = (tf I o 3) := tf_t0 _ _ _
  rw [eI] at hM
  clear eI
  rw [hQ]
  exact fb_iret hx hb hr hlocks hM (⟨rfl, rfl⟩) dX4_put_73

set_option maxHeartbeats 4000000 in
set_option maxRecDepth 100000 in
theorem c_X4_put_ok (D : va_G) (y : Nat → ClassId) (l : Launch) (S : fb_Sh) (V I : fb_V) (o nt : Nat) (cf rf : Nat → Nat) (hA : MdAt S o nt cf rf) (ns : Nat) (df : Nat → Nat) (hF : MF I o ns nt cf rf df) (i : Nat) (hi : i < ns) (k : Nat) (hka : 0 ≤ k) (hk : k ≤ 5) (n : Nat) (hna : 1 ≤ n) (hn : n ≤ 500) (v : Nat) (hv : I (o + 1) (6 * i + k) = nI v) (hvv : v ≤ 500) (hfit : v + n ≤ 500)  : CI D y l yX4_put wsX4_put rm_X4_put [.ref (sa S o), .int (nI i), .int (nI k), .int (nI n)] (S, V, (sT V), I) (fun z u => z = nI (v + n) ∧ u = (S, V, sT V, va_up (t0 I o) (o + 1) (upd (t0 I o (o + 1)) (6 * i + k) (nI (v + n))))) 0 0 := by
  refine CI.of (cc := cX4_put) (maxL := 5) (ret := (some .int)) (by decide) rfl (Nat.le_of_ble_eq_true rfl) ?_
  intro pv ev s mv below meth cv A hx hb hml hr hown hts hlocks hname hM ls hl
  have hown : s.vm.findClass RX4 = some mv.cls := hown
  have hl : lv_has ls 5 [(0, .ref (sa S o)), (1, .int (nI i)), (2, .int (nI k)), (3, .int (nI n))] := hl
  have hin4 : ∀ x ∈ wsX40, x ∈ wsX4_put := by decide +kernel
  obtain ⟨Q, hQ⟩ : ∃ Q, Q = MQ below (va_Qi (fun z u => z = nI (v + n) ∧ u = (S, V, sT V, va_up (t0 I o) (o + 1) (upd (t0 I o (o + 1)) (6 * i + k) (nI (v + n))))) (fun u t => fb_P D y A u t) A) (([.ref (sa S o), .int (nI i), .int (nI k), .int (nI n)] : List Value).toArray) s 0 0 A := ⟨_, rfl⟩
  rw [← hQ]
  have hns : ns ≤ 12 := hF.2.2.1
  have hnt : nt ≤ 6 := hF.2.2.2.1
  refine lv_aload_n hx hb dX4_put_0 rfl (lv_at hl 0 rfl) ?_
  refine lv_iconst (v := 0) hx hb dX4_put_1 (by decide) ?_
  refine fb_put (r := o) hx hb hown hts hin4 tyX4 tyX4_ok nmX4 hM ((hA.1).1) (ce4 ((hA.1).2)) rfl 0 (by decide) (hts (.fieldLink RX4 40 "FeatherBedsModel" "thrown" "I") (by decide +kernel)) (fun _ h9 => h9) rfl (ty := .int) (by decide +kernel) rfl rfl (Nat.le_of_ble_eq_true rfl) dX4_put_2 (up_I (j := 0) (v := 0) (by rw [ce4 ((hA.1).2)]; simp [va_up, upd])) (w' := (S, V, (sT V), (va_up I o (upd (I o) 0 0)))) ⟨rfl, rfl, rfl⟩ (fun H locs hM => ?_)
  have eI : (va_up I o (upd (I o) 0 0)) = (t0 I o) := rfl
  rw [eI] at hM
  clear eI
  refine lv_aload_n hx hb dX4_put_5 rfl (lv_at hl 0 rfl) ?_
  refine lv_iload_n hx hb dX4_put_6 rfl (lv_at hl 1 rfl) ?_
  refine fb_callVi (r := o) hx hb hml hown hts hM ((hA.1).1) (ce4 ((hA.1).2)) rfl (As := [.int (nI i)]) (rest := []) (c_X4_isSack D y l S V (t0 I o) o nt cf rf hA ns df hF.t0 (nI i)) (cwV 1 hts gX4_put_X4_isSack rfl rfl rfl (by decide +kernel) ⟨Nat.le_of_ble_eq_true rfl, Nat.le_of_ble_eq_true rfl⟩) rfl hl.1 rfl (Nat.le_of_ble_eq_true rfl) dX4_put_7 ⟨Nat.le_of_ble_eq_true rfl, Nat.le_of_ble_eq_true rfl⟩ (fun v_1 u H locs hp hM => ?_)
  obtain ⟨hv_, hu_⟩ := hp
  have hv_ := Eq.symm hv_
  have hu_ := Eq.symm hu_
  subst hv_
  subst hu_
  rw [show (isN (nI i) 0 (nI ns - 1) : Int32) = 1 from isN_in (by omega) hi]
  refine lv_if_eq (tgt := 22) hx hb dX4_put_10 (by decide) (fun c_2 => absurd c_2 (by decide)) (fun c_2 => ?_)
  refine lv_iload_n hx hb dX4_put_13 rfl (lv_at hl 2 rfl) ?_
  refine lv_iconst (v := 0) hx hb dX4_put_14 (by decide) ?_
  refine lv_iconst (v := 5) hx hb dX4_put_15 (by decide) ?_
  refine fb_callSi hx hb hml hown hts hM (As := [.int (nI k), .int 0, .int 5]) (rest := []) (c_X4_isIn D y l S V (t0 I o) (nI k) 0 5) (cwS 3 hts gX4_put_X4_isIn rfl rfl rfl (by decide +kernel) ⟨Nat.le_of_ble_eq_true rfl, Nat.le_of_ble_eq_true rfl⟩) rfl hl.1 rfl (Nat.le_of_ble_eq_true rfl) dX4_put_16 ⟨Nat.le_of_ble_eq_true rfl, Nat.le_of_ble_eq_true rfl⟩ (fun v_3 u H locs hp hM => ?_)
  obtain ⟨hv_, hu_⟩ := hp
  have hv_ := Eq.symm hv_
  have hu_ := Eq.symm hu_
  subst hv_
  subst hu_
  rw [show (isN (nI k) 0 5 : Int32) = 1 from isN_k (lo := 0) (hi := 5) (by decide) hka hk]
  refine lv_if_ne (tgt := 28) hx hb dX4_put_19 (by decide) (fun c_4 => ?_) (fun c_4 => absurd c_4 (by decide))
  refine lv_iload_n hx hb dX4_put_28 rfl (lv_at hl 3 rfl) ?_
  refine lv_iconst (v := 1) hx hb dX4_put_29 (by decide) ?_
  refine lv_sipush (v := 500) hx hb dX4_put_30 (by decide) ?_
  refine fb_callSi hx hb hml hown hts hM (As := [.int (nI n), .int 1, .int 500]) (rest := []) (c_X4_isIn D y l S V (t0 I o) (nI n) 1 500) (cwS 3 hts gX4_put_X4_isIn rfl rfl rfl (by decide +kernel) ⟨Nat.le_of_ble_eq_true rfl, Nat.le_of_ble_eq_true rfl⟩) rfl hl.1 rfl (Nat.le_of_ble_eq_true rfl) dX4_put_33 ⟨Nat.le_of_ble_eq_true rfl, Nat.le_of_ble_eq_true rfl⟩ (fun v_5 u H locs hp hM => ?_)
  obtain ⟨hv_, hu_⟩ := hp
  have hv_ := Eq.symm hv_
  have hu_ := Eq.symm hu_
  subst hv_
  subst hu_
  rw [show (isN (nI n) 1 500 : Int32) = 1 from isN_k (lo := 1) (hi := 500) (by decide) hna hn]
  refine lv_if_ne (tgt := 45) hx hb dX4_put_36 (by decide) (fun c_6 => ?_) (fun c_6 => absurd c_6 (by decide))
  refine lv_bipush (v := 6) hx hb dX4_put_45 (by decide) ?_
  refine lv_iload_n hx hb dX4_put_47 rfl (lv_at hl 1 rfl) ?_
  refine lv_imul hx hb dX4_put_48 ?_
  refine W.eq (g2 := F0 mv _ ls (.int (nI (6 * i)) :: [])) (by first | rfl | rw [show (6 * (nI i) : Int32) = nI (6 * i) from pk_mul 6 i]) ?_
  refine lv_iload_n hx hb dX4_put_49 rfl (lv_at hl 2 rfl) ?_
  refine lv_iadd hx hb dX4_put_50 ?_
  refine W.eq (g2 := F0 mv _ ls (.int (nI (6 * i + k)) :: [])) (by first | rfl | rw [show ((nI (6 * i)) + (nI k) : Int32) = nI (6 * i + k) from nI_add _ _]) ?_
  refine lv_istore (lv' := [(4, .int (nI (6 * i + k))), (0, .ref (sa S o)), (1, .int (nI i)), (2, .int (nI k)), (3, .int (nI n))]) hx hb dX4_put_51 hl (by decide) rfl (fun ls hl => ?_)
  refine lv_aload_n hx hb dX4_put_53 rfl (lv_at hl 1 rfl) ?_
  refine fb_get (r := o) hx hb hown hts hin4 hM ((hA.1).1) (ce4 ((hA.1).2)) rfl 2 (by decide) (hts (.fieldLink RX4 9 "FeatherBedsModel" "sackHeaps" "[I") (by decide +kernel)) (fun _ h9 => h9) (v := .ref (sa S (o + 1))) (congrArg (fun z => some (va_rf z)) ((hA.2.1).1)) dX4_put_54 ?_
  refine lv_iload hx hb dX4_put_57 (lv_at hl 0 rfl) ?_
  refine fb_iald (r := (o + 1)) hx hb hM ((hA.2.2.1).1) (ce6 ((hA.2.2.1).2.1)) (k := 6 * i + k) (nI_clamp (by omega)) (by rw [(hA.2.2.1).2.2]; exact vp_in_nI (by omega) (by omega)) dX4_put_59 ?_
  rw [show (t0 I o) (o + 1) (6 * i + k) = nI v from (congrFun (t0_ne I (show o + 1 ≠ o by omega)) _).trans hv]
  refine lv_iload_n hx hb dX4_put_60 rfl (lv_at hl 4 rfl) ?_
  refine lv_iadd hx hb dX4_put_61 ?_
  refine W.eq (g2 := F0 mv _ ls (.int (nI (v + n)) :: [])) (by first | rfl | rw [show ((nI v) + (nI n) : Int32) = nI (v + n) from nI_add _ _]) ?_
  refine lv_sipush (v := 500) hx hb dX4_put_62 (by decide) ?_
  refine lv_icmp_le (tgt := 74) hx hb dX4_put_65 (by decide) (fun c_7 => ?_) (fun c_7 => absurd (nI_le (b := 500) hfit (by omega)) c_7)
  refine lv_aload_n hx hb dX4_put_74 rfl (lv_at hl 1 rfl) ?_
  refine fb_get (r := o) hx hb hown hts hin4 hM ((hA.1).1) (ce4 ((hA.1).2)) rfl 2 (by decide) (hts (.fieldLink RX4 9 "FeatherBedsModel" "sackHeaps" "[I") (by decide +kernel)) (fun _ h9 => h9) (v := .ref (sa S (o + 1))) (congrArg (fun z => some (va_rf z)) ((hA.2.1).1)) dX4_put_75 ?_
  refine lv_iload hx hb dX4_put_78 (lv_at hl 0 rfl) ?_
  refine lv_dup2_11 hx hb dX4_put_80 rfl rfl ?_
  refine fb_iald (r := (o + 1)) hx hb hM ((hA.2.2.1).1) (ce6 ((hA.2.2.1).2.1)) (k := 6 * i + k) (nI_clamp (by omega)) (by rw [(hA.2.2.1).2.2]; exact vp_in_nI (by omega) (by omega)) dX4_put_81 ?_
  rw [show (t0 I o) (o + 1) (6 * i + k) = nI v from (congrFun (t0_ne I (show o + 1 ≠ o by omega)) _).trans hv]
  refine lv_iload_n hx hb dX4_put_82 rfl (lv_at hl 4 rfl) ?_
  refine lv_iadd hx hb dX4_put_83 ?_
  refine W.eq (g2 := F0 mv _ ls (.int (nI (v + n)) :: .int (nI (6 * i + k)) :: .ref (sa S (o + 1)) :: [])) (by first | rfl | rw [show ((nI v) + (nI n) : Int32) = nI (v + n) from nI_add _ _]) ?_
  refine fb_iast (r := (o + 1)) hx hb hM ((hA.2.2.1).1) (ce6 ((hA.2.2.1).2.1)) (k := 6 * i + k) (nI_clamp (by omega)) (by rw [(hA.2.2.1).2.2]; exact vp_in_nI (by omega) (by omega)) dX4_put_84 (up_I (j := 6 * i + k) (by rw [ce6 ((hA.2.2.1).2.1)]; simp [va_up])) (w' := (S, V, (sT V), (va_up (t0 I o) (o + 1) (upd ((t0 I o) (o + 1)) (6 * i + k) (nI (v + n)))))) ⟨rfl, rfl, rfl⟩ (fun H locs hM => ?_)
  refine lv_aload_n hx hb dX4_put_85 rfl (lv_at hl 1 rfl) ?_
  refine fb_get (r := o) hx hb hown hts hin4 hM ((hA.1).1) (ce4 ((hA.1).2)) rfl 2 (by decide) (hts (.fieldLink RX4 9 "FeatherBedsModel" "sackHeaps" "[I") (by decide +kernel)) (fun _ h9 => h9) (v := .ref (sa S (o + 1))) (congrArg (fun z => some (va_rf z)) ((hA.2.1).1)) dX4_put_86 ?_
  refine lv_iload hx hb dX4_put_89 (lv_at hl 0 rfl) ?_
  refine fb_iald (r := (o + 1)) hx hb hM ((hA.2.2.1).1) (ce6 ((hA.2.2.1).2.1)) (k := 6 * i + k) (nI_clamp (by omega)) (by rw [(hA.2.2.1).2.2]; exact vp_in_nI (by omega) (by omega)) dX4_put_91 ?_
  rw [show ((va_up (t0 I o) (o + 1) (upd ((t0 I o) (o + 1)) (6 * i + k) (nI (v + n)))) (o + 1) (6 * i + k) : Int32) = nI (v + n) from by rw [va_up_self]; simp [upd]]
  rw [hQ]
  exact fb_iret hx hb hr hlocks hM (⟨rfl, rfl⟩) dX4_put_92

abbrev rm_X4_dry : Room := { frames := 2, cells := 0, slots := 0, locals := 43 }
set_option maxHeartbeats 4000000 in
set_option maxRecDepth 100000 in
theorem c_X4_dry_f0o (D : va_G) (y : Nat → ClassId) (l : Launch) (S : fb_Sh) (V I : fb_V) (o nt : Nat) (cf rf : Nat → Nat) (hA : MdAt S o nt cf rf) (ns : Nat) (df : Nat → Nat) (hF : MF I o ns nt cf rf df) (p0 : Int32) (ho : p0 < 0 ∨ nI ns ≤ p0) (p1 : Int32) : CI D y l yX4_dry wsX4_dry rm_X4_dry [.ref (sa S o), .int p0, .int p1] (S, V, (sT V), I) (fun z u => z = 0 ∧ u = (S, V, sT V, (tf I o 1))) 0 0 := by
  refine CI.of (cc := cX4_dry) (maxL := 3) (ret := (some .int)) (by decide) rfl (Nat.le_of_ble_eq_true rfl) ?_
  intro pv ev s mv below meth cv A hx hb hml hr hown hts hlocks hname hM ls hl
  have hown : s.vm.findClass RX4 = some mv.cls := hown
  have hl : lv_has ls 3 [(0, .ref (sa S o)), (1, .int p0), (2, .int p1)] := hl
  have hin4 : ∀ x ∈ wsX40, x ∈ wsX4_dry := by decide +kernel
  obtain ⟨Q, hQ⟩ : ∃ Q, Q = MQ below (va_Qi (fun z u => z = 0 ∧ u = (S, V, sT V, (tf I o 1))) (fun u t => fb_P D y A u t) A) (([.ref (sa S o), .int p0, .int p1] : List Value).toArray) s 0 0 A := ⟨_, rfl⟩
  rw [← hQ]
  have hns : ns ≤ 12 := hF.2.2.1
  have hnt : nt ≤ 6 := hF.2.2.2.1
  refine lv_aload_n hx hb dX4_dry_0 rfl (lv_at hl 0 rfl) ?_
  refine lv_iconst (v := 0) hx hb dX4_dry_1 (by decide) ?_
  refine fb_put (r := o) hx hb hown hts hin4 tyX4 tyX4_ok nmX4 hM ((hA.1).1) (ce4 ((hA.1).2)) rfl 0 (by decide) (hts (.fieldLink RX4 40 "FeatherBedsModel" "thrown" "I") (by decide +kernel)) (fun _ h9 => h9) rfl (ty := .int) (by decide +kernel) rfl rfl (Nat.le_of_ble_eq_true rfl) dX4_dry_2 (up_I (j := 0) (v := 0) (by rw [ce4 ((hA.1).2)]; simp [va_up, upd])) (w' := (S, V, (sT V), (va_up I o (upd (I o) 0 0)))) ⟨rfl, rfl, rfl⟩ (fun H locs hM => ?_)
  have eI : (va_up I o (upd (I o) 0 0)) = (t0 I o) := rfl
  rw [eI] at hM
  clear eI
  refine lv_aload_n hx hb dX4_dry_5 rfl (lv_at hl 0 rfl) ?_
  refine lv_iload_n hx hb dX4_dry_6 rfl (lv_at hl 1 rfl) ?_
  refine fb_callVi (r := o) hx hb hml hown hts hM ((hA.1).1) (ce4 ((hA.1).2)) rfl (As := [.int p0]) (rest := []) (c_X4_isSack D y l S V (t0 I o) o nt cf rf hA ns df hF.t0 p0) (cwV 1 hts gX4_dry_X4_isSack rfl rfl rfl (by decide +kernel) ⟨Nat.le_of_ble_eq_true rfl, Nat.le_of_ble_eq_true rfl⟩) rfl hl.1 rfl (Nat.le_of_ble_eq_true rfl) dX4_dry_7 ⟨Nat.le_of_ble_eq_true rfl, Nat.le_of_ble_eq_true rfl⟩ (fun v_1 u H locs hp hM => ?_)
  obtain ⟨hv_, hu_⟩ := hp
  have hv_ := Eq.symm hv_
  have hu_ := Eq.symm hu_
  subst hv_
  subst hu_
  rw [show (isN p0 0 (nI ns - 1) : Int32) = 0 from isN_out (by omega) ho]
  refine lv_if_ne (tgt := 19) hx hb dX4_dry_10 (by decide) (fun c_2 => absurd (by decide) c_2) (fun c_2 => ?_)
  refine lv_aload_n hx hb dX4_dry_13 rfl (lv_at hl 0 rfl) ?_
  refine lv_iconst (v := 1) hx hb dX4_dry_14 (by decide) ?_
  refine fb_callVi (r := o) hx hb hml hown hts hM ((hA.1).1) (ce4 ((hA.1).2)) rfl (As := [.int 1]) (rest := []) (c_X4_fail D y l S V (t0 I o) o nt cf rf hA 1) (cwV 1 hts gX4_dry_X4_fail rfl rfl rfl (by decide +kernel) ⟨Nat.le_of_ble_eq_true rfl, Nat.le_of_ble_eq_true rfl⟩) rfl hl.1 rfl (Nat.le_of_ble_eq_true rfl) dX4_dry_15 ⟨Nat.le_of_ble_eq_true rfl, Nat.le_of_ble_eq_true rfl⟩ (fun v_3 u H locs hp hM => ?_)
  obtain ⟨hv_, hu_⟩ := hp
  have hv_ := Eq.symm hv_
  have hu_ := Eq.symm hu_
  subst hv_
  subst hu_
  have eI : (tf (t0 I o) o 1) = (tf I o 1) := tf_t0 _ _ _
  rw [eI] at hM
  clear eI
  rw [hQ]
  exact fb_iret hx hb hr hlocks hM (⟨rfl, rfl⟩) dX4_dry_18

set_option maxHeartbeats 4000000 in
set_option maxRecDepth 100000 in
theorem c_X4_dry_f1o (D : va_G) (y : Nat → ClassId) (l : Launch) (S : fb_Sh) (V I : fb_V) (o nt : Nat) (cf rf : Nat → Nat) (hA : MdAt S o nt cf rf) (ns : Nat) (df : Nat → Nat) (hF : MF I o ns nt cf rf df) (i : Nat) (hi : i < ns) (p1 : Int32) (ho : p1 < 1 ∨ 9 < p1) : CI D y l yX4_dry wsX4_dry rm_X4_dry [.ref (sa S o), .int (nI i), .int p1] (S, V, (sT V), I) (fun z u => z = 0 ∧ u = (S, V, sT V, (tf I o 2))) 0 0 := by
  refine CI.of (cc := cX4_dry) (maxL := 3) (ret := (some .int)) (by decide) rfl (Nat.le_of_ble_eq_true rfl) ?_
  intro pv ev s mv below meth cv A hx hb hml hr hown hts hlocks hname hM ls hl
  have hown : s.vm.findClass RX4 = some mv.cls := hown
  have hl : lv_has ls 3 [(0, .ref (sa S o)), (1, .int (nI i)), (2, .int p1)] := hl
  have hin4 : ∀ x ∈ wsX40, x ∈ wsX4_dry := by decide +kernel
  obtain ⟨Q, hQ⟩ : ∃ Q, Q = MQ below (va_Qi (fun z u => z = 0 ∧ u = (S, V, sT V, (tf I o 2))) (fun u t => fb_P D y A u t) A) (([.ref (sa S o), .int (nI i), .int p1] : List Value).toArray) s 0 0 A := ⟨_, rfl⟩
  rw [← hQ]
  have hns : ns ≤ 12 := hF.2.2.1
  have hnt : nt ≤ 6 := hF.2.2.2.1
  refine lv_aload_n hx hb dX4_dry_0 rfl (lv_at hl 0 rfl) ?_
  refine lv_iconst (v := 0) hx hb dX4_dry_1 (by decide) ?_
  refine fb_put (r := o) hx hb hown hts hin4 tyX4 tyX4_ok nmX4 hM ((hA.1).1) (ce4 ((hA.1).2)) rfl 0 (by decide) (hts (.fieldLink RX4 40 "FeatherBedsModel" "thrown" "I") (by decide +kernel)) (fun _ h9 => h9) rfl (ty := .int) (by decide +kernel) rfl rfl (Nat.le_of_ble_eq_true rfl) dX4_dry_2 (up_I (j := 0) (v := 0) (by rw [ce4 ((hA.1).2)]; simp [va_up, upd])) (w' := (S, V, (sT V), (va_up I o (upd (I o) 0 0)))) ⟨rfl, rfl, rfl⟩ (fun H locs hM => ?_)
  have eI : (va_up I o (upd (I o) 0 0)) = (t0 I o) := rfl
  rw [eI] at hM
  clear eI
  refine lv_aload_n hx hb dX4_dry_5 rfl (lv_at hl 0 rfl) ?_
  refine lv_iload_n hx hb dX4_dry_6 rfl (lv_at hl 1 rfl) ?_
  refine fb_callVi (r := o) hx hb hml hown hts hM ((hA.1).1) (ce4 ((hA.1).2)) rfl (As := [.int (nI i)]) (rest := []) (c_X4_isSack D y l S V (t0 I o) o nt cf rf hA ns df hF.t0 (nI i)) (cwV 1 hts gX4_dry_X4_isSack rfl rfl rfl (by decide +kernel) ⟨Nat.le_of_ble_eq_true rfl, Nat.le_of_ble_eq_true rfl⟩) rfl hl.1 rfl (Nat.le_of_ble_eq_true rfl) dX4_dry_7 ⟨Nat.le_of_ble_eq_true rfl, Nat.le_of_ble_eq_true rfl⟩ (fun v_1 u H locs hp hM => ?_)
  obtain ⟨hv_, hu_⟩ := hp
  have hv_ := Eq.symm hv_
  have hu_ := Eq.symm hu_
  subst hv_
  subst hu_
  rw [show (isN (nI i) 0 (nI ns - 1) : Int32) = 1 from isN_in (by omega) hi]
  refine lv_if_ne (tgt := 19) hx hb dX4_dry_10 (by decide) (fun c_2 => ?_) (fun c_2 => absurd c_2 (by decide))
  refine lv_iload_n hx hb dX4_dry_19 rfl (lv_at hl 2 rfl) ?_
  refine lv_iconst (v := 1) hx hb dX4_dry_20 (by decide) ?_
  refine lv_bipush (v := 9) hx hb dX4_dry_21 (by decide) ?_
  refine fb_callSi hx hb hml hown hts hM (As := [.int p1, .int 1, .int 9]) (rest := []) (c_X4_isIn D y l S V (t0 I o) p1 1 9) (cwS 3 hts gX4_dry_X4_isIn rfl rfl rfl (by decide +kernel) ⟨Nat.le_of_ble_eq_true rfl, Nat.le_of_ble_eq_true rfl⟩) rfl hl.1 rfl (Nat.le_of_ble_eq_true rfl) dX4_dry_23 ⟨Nat.le_of_ble_eq_true rfl, Nat.le_of_ble_eq_true rfl⟩ (fun v_3 u H locs hp hM => ?_)
  obtain ⟨hv_, hu_⟩ := hp
  have hv_ := Eq.symm hv_
  have hu_ := Eq.symm hu_
  subst hv_
  subst hu_
  rw [show (isN p1 1 9 : Int32) = 0 from isN_0 ho]
  refine lv_if_ne (tgt := 35) hx hb dX4_dry_26 (by decide) (fun c_4 => absurd (by decide) c_4) (fun c_4 => ?_)
  refine lv_aload_n hx hb dX4_dry_29 rfl (lv_at hl 0 rfl) ?_
  refine lv_iconst (v := 2) hx hb dX4_dry_30 (by decide) ?_
  refine fb_callVi (r := o) hx hb hml hown hts hM ((hA.1).1) (ce4 ((hA.1).2)) rfl (As := [.int 2]) (rest := []) (c_X4_fail D y l S V (t0 I o) o nt cf rf hA 2) (cwV 1 hts gX4_dry_X4_fail rfl rfl rfl (by decide +kernel) ⟨Nat.le_of_ble_eq_true rfl, Nat.le_of_ble_eq_true rfl⟩) rfl hl.1 rfl (Nat.le_of_ble_eq_true rfl) dX4_dry_31 ⟨Nat.le_of_ble_eq_true rfl, Nat.le_of_ble_eq_true rfl⟩ (fun v_5 u H locs hp hM => ?_)
  obtain ⟨hv_, hu_⟩ := hp
  have hv_ := Eq.symm hv_
  have hu_ := Eq.symm hu_
  subst hv_
  subst hu_
  have eI : (tf (t0 I o) o 2) = (tf I o 2) := tf_t0 _ _ _
  rw [eI] at hM
  clear eI
  rw [hQ]
  exact fb_iret hx hb hr hlocks hM (⟨rfl, rfl⟩) dX4_dry_34

set_option maxHeartbeats 4000000 in
set_option maxRecDepth 100000 in
theorem c_X4_dry_ok (D : va_G) (y : Nat → ClassId) (l : Launch) (S : fb_Sh) (V I : fb_V) (o nt : Nat) (cf rf : Nat → Nat) (hA : MdAt S o nt cf rf) (ns : Nat) (df : Nat → Nat) (hF : MF I o ns nt cf rf df) (i : Nat) (hi : i < ns) (n : Nat) (hna : 1 ≤ n) (hn : n ≤ 9) (dm : Nat) (hdm : I (o + 2) i = nI dm) : CI D y l yX4_dry wsX4_dry rm_X4_dry [.ref (sa S o), .int (nI i), .int (nI n)] (S, V, (sT V), I) (fun z u => z = (if 0 < nI dm - nI n then nI dm - nI n else 0) ∧ u = (S, V, sT V, va_up (t0 I o) (o + 2) (upd (t0 I o (o + 2)) i (if 0 < nI dm - nI n then nI dm - nI n else 0)))) 0 0 := by
  refine CI.of (cc := cX4_dry) (maxL := 3) (ret := (some .int)) (by decide) rfl (Nat.le_of_ble_eq_true rfl) ?_
  intro pv ev s mv below meth cv A hx hb hml hr hown hts hlocks hname hM ls hl
  have hown : s.vm.findClass RX4 = some mv.cls := hown
  have hl : lv_has ls 3 [(0, .ref (sa S o)), (1, .int (nI i)), (2, .int (nI n))] := hl
  have hin4 : ∀ x ∈ wsX40, x ∈ wsX4_dry := by decide +kernel
  obtain ⟨Q, hQ⟩ : ∃ Q, Q = MQ below (va_Qi (fun z u => z = (if 0 < nI dm - nI n then nI dm - nI n else 0) ∧ u = (S, V, sT V, va_up (t0 I o) (o + 2) (upd (t0 I o (o + 2)) i (if 0 < nI dm - nI n then nI dm - nI n else 0)))) (fun u t => fb_P D y A u t) A) (([.ref (sa S o), .int (nI i), .int (nI n)] : List Value).toArray) s 0 0 A := ⟨_, rfl⟩
  rw [← hQ]
  have hns : ns ≤ 12 := hF.2.2.1
  have hnt : nt ≤ 6 := hF.2.2.2.1
  refine lv_aload_n hx hb dX4_dry_0 rfl (lv_at hl 0 rfl) ?_
  refine lv_iconst (v := 0) hx hb dX4_dry_1 (by decide) ?_
  refine fb_put (r := o) hx hb hown hts hin4 tyX4 tyX4_ok nmX4 hM ((hA.1).1) (ce4 ((hA.1).2)) rfl 0 (by decide) (hts (.fieldLink RX4 40 "FeatherBedsModel" "thrown" "I") (by decide +kernel)) (fun _ h9 => h9) rfl (ty := .int) (by decide +kernel) rfl rfl (Nat.le_of_ble_eq_true rfl) dX4_dry_2 (up_I (j := 0) (v := 0) (by rw [ce4 ((hA.1).2)]; simp [va_up, upd])) (w' := (S, V, (sT V), (va_up I o (upd (I o) 0 0)))) ⟨rfl, rfl, rfl⟩ (fun H locs hM => ?_)
  have eI : (va_up I o (upd (I o) 0 0)) = (t0 I o) := rfl
  rw [eI] at hM
  clear eI
  refine lv_aload_n hx hb dX4_dry_5 rfl (lv_at hl 0 rfl) ?_
  refine lv_iload_n hx hb dX4_dry_6 rfl (lv_at hl 1 rfl) ?_
  refine fb_callVi (r := o) hx hb hml hown hts hM ((hA.1).1) (ce4 ((hA.1).2)) rfl (As := [.int (nI i)]) (rest := []) (c_X4_isSack D y l S V (t0 I o) o nt cf rf hA ns df hF.t0 (nI i)) (cwV 1 hts gX4_dry_X4_isSack rfl rfl rfl (by decide +kernel) ⟨Nat.le_of_ble_eq_true rfl, Nat.le_of_ble_eq_true rfl⟩) rfl hl.1 rfl (Nat.le_of_ble_eq_true rfl) dX4_dry_7 ⟨Nat.le_of_ble_eq_true rfl, Nat.le_of_ble_eq_true rfl⟩ (fun v_1 u H locs hp hM => ?_)
  obtain ⟨hv_, hu_⟩ := hp
  have hv_ := Eq.symm hv_
  have hu_ := Eq.symm hu_
  subst hv_
  subst hu_
  rw [show (isN (nI i) 0 (nI ns - 1) : Int32) = 1 from isN_in (by omega) hi]
  refine lv_if_ne (tgt := 19) hx hb dX4_dry_10 (by decide) (fun c_2 => ?_) (fun c_2 => absurd c_2 (by decide))
  refine lv_iload_n hx hb dX4_dry_19 rfl (lv_at hl 2 rfl) ?_
  refine lv_iconst (v := 1) hx hb dX4_dry_20 (by decide) ?_
  refine lv_bipush (v := 9) hx hb dX4_dry_21 (by decide) ?_
  refine fb_callSi hx hb hml hown hts hM (As := [.int (nI n), .int 1, .int 9]) (rest := []) (c_X4_isIn D y l S V (t0 I o) (nI n) 1 9) (cwS 3 hts gX4_dry_X4_isIn rfl rfl rfl (by decide +kernel) ⟨Nat.le_of_ble_eq_true rfl, Nat.le_of_ble_eq_true rfl⟩) rfl hl.1 rfl (Nat.le_of_ble_eq_true rfl) dX4_dry_23 ⟨Nat.le_of_ble_eq_true rfl, Nat.le_of_ble_eq_true rfl⟩ (fun v_3 u H locs hp hM => ?_)
  obtain ⟨hv_, hu_⟩ := hp
  have hv_ := Eq.symm hv_
  have hu_ := Eq.symm hu_
  subst hv_
  subst hu_
  rw [show (isN (nI n) 1 9 : Int32) = 1 from isN_k (lo := 1) (hi := 9) (by decide) hna hn]
  refine lv_if_ne (tgt := 35) hx hb dX4_dry_26 (by decide) (fun c_4 => ?_) (fun c_4 => absurd c_4 (by decide))
  refine lv_aload_n hx hb dX4_dry_35 rfl (lv_at hl 0 rfl) ?_
  refine fb_get (r := o) hx hb hown hts hin4 hM ((hA.1).1) (ce4 ((hA.1).2)) rfl 3 (by decide) (hts (.fieldLink RX4 13 "FeatherBedsModel" "damp" "[I") (by decide +kernel)) (fun _ h9 => h9) (v := .ref (sa S (o + 2))) (congrArg (fun z => some (va_rf z)) ((hA.2.1).2.1)) dX4_dry_36 ?_
  refine lv_iload_n hx hb dX4_dry_39 rfl (lv_at hl 1 rfl) ?_
  refine lv_iconst (v := 0) hx hb dX4_dry_40 (by decide) ?_
  refine lv_aload_n hx hb dX4_dry_41 rfl (lv_at hl 0 rfl) ?_
  refine fb_get (r := o) hx hb hown hts hin4 hM ((hA.1).1) (ce4 ((hA.1).2)) rfl 3 (by decide) (hts (.fieldLink RX4 13 "FeatherBedsModel" "damp" "[I") (by decide +kernel)) (fun _ h9 => h9) (v := .ref (sa S (o + 2))) (congrArg (fun z => some (va_rf z)) ((hA.2.1).2.1)) dX4_dry_42 ?_
  refine lv_iload_n hx hb dX4_dry_45 rfl (lv_at hl 1 rfl) ?_
  refine fb_iald (r := (o + 2)) hx hb hM ((hA.2.2.2.1).1) (ce6 ((hA.2.2.2.1).2.1)) (k := i) (nI_clamp (by omega)) (by rw [(hA.2.2.2.1).2.2]; exact vp_in_nI (by omega) (by omega)) dX4_dry_46 ?_
  rw [show (t0 I o) (o + 2) i = nI dm from (congrFun (t0_ne I (show o + 2 ≠ o by omega)) _).trans hdm]
  refine lv_iload_n hx hb dX4_dry_47 rfl (lv_at hl 2 rfl) ?_
  refine lv_isub hx hb dX4_dry_48 ?_
  refine va_mmax hx hb (hml.trans hl.1.symm) hown (hts (.methodLink RX4 71 Lib.Math.max.name) (by decide +kernel)) (hts (.static Lib.Math.max.name) (by decide +kernel)) (hts (.initialized "java/lang/Math") (by decide +kernel)) (hts (.code Lib.Math.max.name Lib.Math.max.code 2 (some .int)) (by decide +kernel)) (Nat.le_of_ble_eq_true rfl) (Nat.le_of_ble_eq_true rfl) (Nat.le_of_ble_eq_true rfl) (Nat.le_of_ble_eq_true rfl) dX4_dry_49 ?_
  refine fb_iast (r := (o + 2)) hx hb hM ((hA.2.2.2.1).1) (ce6 ((hA.2.2.2.1).2.1)) (k := i) (nI_clamp (by omega)) (by rw [(hA.2.2.2.1).2.2]; exact vp_in_nI (by omega) (by omega)) dX4_dry_52 (up_I (j := i) (by rw [ce6 ((hA.2.2.2.1).2.1)]; simp [va_up])) (w' := (S, V, (sT V), (va_up (t0 I o) (o + 2) (upd ((t0 I o) (o + 2)) i (if 0 < (nI dm) - (nI n) then (nI dm) - (nI n) else 0))))) ⟨rfl, rfl, rfl⟩ (fun H locs hM => ?_)
  refine lv_aload_n hx hb dX4_dry_53 rfl (lv_at hl 0 rfl) ?_
  refine fb_get (r := o) hx hb hown hts hin4 hM ((hA.1).1) (ce4 ((hA.1).2)) rfl 3 (by decide) (hts (.fieldLink RX4 13 "FeatherBedsModel" "damp" "[I") (by decide +kernel)) (fun _ h9 => h9) (v := .ref (sa S (o + 2))) (congrArg (fun z => some (va_rf z)) ((hA.2.1).2.1)) dX4_dry_54 ?_
  refine lv_iload_n hx hb dX4_dry_57 rfl (lv_at hl 1 rfl) ?_
  refine fb_iald (r := (o + 2)) hx hb hM ((hA.2.2.2.1).1) (ce6 ((hA.2.2.2.1).2.1)) (k := i) (nI_clamp (by omega)) (by rw [(hA.2.2.2.1).2.2]; exact vp_in_nI (by omega) (by omega)) dX4_dry_58 ?_
  rw [show ((va_up (t0 I o) (o + 2) (upd ((t0 I o) (o + 2)) i (if 0 < (nI dm) - (nI n) then (nI dm) - (nI n) else 0))) (o + 2) i : Int32) = (if 0 < nI dm - nI n then nI dm - nI n else 0) from by rw [va_up_self]; simp [upd]]
  rw [hQ]
  exact fb_iret hx hb hr hlocks hM (⟨rfl, rfl⟩) dX4_dry_59

abbrev rm_X4_sack : Room := { frames := 2, cells := 0, slots := 0, locals := 45 }
set_option maxHeartbeats 4000000 in
set_option maxRecDepth 100000 in
theorem c_X4_sack_f0o (D : va_G) (y : Nat → ClassId) (l : Launch) (S : fb_Sh) (V I : fb_V) (o nt : Nat) (cf rf : Nat → Nat) (hA : MdAt S o nt cf rf) (ns : Nat) (df : Nat → Nat) (hF : MF I o ns nt cf rf df) (p0 : Int32) (ho : p0 < 0 ∨ nI ns ≤ p0) (p1 : Int32) : CI D y l yX4_sack wsX4_sack rm_X4_sack [.ref (sa S o), .int p0, .int p1] (S, V, (sT V), I) (fun z u => z = 0 ∧ u = (S, V, sT V, (tf I o 1))) 0 0 := by
  refine CI.of (cc := cX4_sack) (maxL := 3) (ret := (some .int)) (by decide) rfl (Nat.le_of_ble_eq_true rfl) ?_
  intro pv ev s mv below meth cv A hx hb hml hr hown hts hlocks hname hM ls hl
  have hown : s.vm.findClass RX4 = some mv.cls := hown
  have hl : lv_has ls 3 [(0, .ref (sa S o)), (1, .int p0), (2, .int p1)] := hl
  have hin4 : ∀ x ∈ wsX40, x ∈ wsX4_sack := by decide +kernel
  obtain ⟨Q, hQ⟩ : ∃ Q, Q = MQ below (va_Qi (fun z u => z = 0 ∧ u = (S, V, sT V, (tf I o 1))) (fun u t => fb_P D y A u t) A) (([.ref (sa S o), .int p0, .int p1] : List Value).toArray) s 0 0 A := ⟨_, rfl⟩
  rw [← hQ]
  have hns : ns ≤ 12 := hF.2.2.1
  have hnt : nt ≤ 6 := hF.2.2.2.1
  refine lv_aload_n hx hb dX4_sack_0 rfl (lv_at hl 0 rfl) ?_
  refine lv_iconst (v := 0) hx hb dX4_sack_1 (by decide) ?_
  refine fb_put (r := o) hx hb hown hts hin4 tyX4 tyX4_ok nmX4 hM ((hA.1).1) (ce4 ((hA.1).2)) rfl 0 (by decide) (hts (.fieldLink RX4 40 "FeatherBedsModel" "thrown" "I") (by decide +kernel)) (fun _ h9 => h9) rfl (ty := .int) (by decide +kernel) rfl rfl (Nat.le_of_ble_eq_true rfl) dX4_sack_2 (up_I (j := 0) (v := 0) (by rw [ce4 ((hA.1).2)]; simp [va_up, upd])) (w' := (S, V, (sT V), (va_up I o (upd (I o) 0 0)))) ⟨rfl, rfl, rfl⟩ (fun H locs hM => ?_)
  have eI : (va_up I o (upd (I o) 0 0)) = (t0 I o) := rfl
  rw [eI] at hM
  clear eI
  refine lv_aload_n hx hb dX4_sack_5 rfl (lv_at hl 0 rfl) ?_
  refine lv_iload_n hx hb dX4_sack_6 rfl (lv_at hl 1 rfl) ?_
  refine fb_callVi (r := o) hx hb hml hown hts hM ((hA.1).1) (ce4 ((hA.1).2)) rfl (As := [.int p0]) (rest := []) (c_X4_isSack D y l S V (t0 I o) o nt cf rf hA ns df hF.t0 p0) (cwV 1 hts gX4_sack_X4_isSack rfl rfl rfl (by decide +kernel) ⟨Nat.le_of_ble_eq_true rfl, Nat.le_of_ble_eq_true rfl⟩) rfl hl.1 rfl (Nat.le_of_ble_eq_true rfl) dX4_sack_7 ⟨Nat.le_of_ble_eq_true rfl, Nat.le_of_ble_eq_true rfl⟩ (fun v_1 u H locs hp hM => ?_)
  obtain ⟨hv_, hu_⟩ := hp
  have hv_ := Eq.symm hv_
  have hu_ := Eq.symm hu_
  subst hv_
  subst hu_
  rw [show (isN p0 0 (nI ns - 1) : Int32) = 0 from isN_out (by omega) ho]
  refine lv_if_eq (tgt := 32) hx hb dX4_sack_10 (by decide) (fun c_2 => ?_) (fun c_2 => absurd (by decide) c_2)
  refine lv_aload_n hx hb dX4_sack_32 rfl (lv_at hl 0 rfl) ?_
  refine lv_iconst (v := 1) hx hb dX4_sack_33 (by decide) ?_
  refine fb_callVi (r := o) hx hb hml hown hts hM ((hA.1).1) (ce4 ((hA.1).2)) rfl (As := [.int 1]) (rest := []) (c_X4_fail D y l S V (t0 I o) o nt cf rf hA 1) (cwV 1 hts gX4_sack_X4_fail rfl rfl rfl (by decide +kernel) ⟨Nat.le_of_ble_eq_true rfl, Nat.le_of_ble_eq_true rfl⟩) rfl hl.1 rfl (Nat.le_of_ble_eq_true rfl) dX4_sack_34 ⟨Nat.le_of_ble_eq_true rfl, Nat.le_of_ble_eq_true rfl⟩ (fun v_3 u H locs hp hM => ?_)
  obtain ⟨hv_, hu_⟩ := hp
  have hv_ := Eq.symm hv_
  have hu_ := Eq.symm hu_
  subst hv_
  subst hu_
  have eI : (tf (t0 I o) o 1) = (tf I o 1) := tf_t0 _ _ _
  rw [eI] at hM
  clear eI
  rw [hQ]
  exact fb_iret hx hb hr hlocks hM (⟨rfl, rfl⟩) dX4_sack_37

set_option maxHeartbeats 4000000 in
set_option maxRecDepth 100000 in
theorem c_X4_sack_f1o (D : va_G) (y : Nat → ClassId) (l : Launch) (S : fb_Sh) (V I : fb_V) (o nt : Nat) (cf rf : Nat → Nat) (hA : MdAt S o nt cf rf) (ns : Nat) (df : Nat → Nat) (hF : MF I o ns nt cf rf df) (i : Nat) (hi : i < ns) (p1 : Int32) (ho : p1 < 0 ∨ 7 < p1) : CI D y l yX4_sack wsX4_sack rm_X4_sack [.ref (sa S o), .int (nI i), .int p1] (S, V, (sT V), I) (fun z u => z = 0 ∧ u = (S, V, sT V, (tf I o 1))) 0 0 := by
  refine CI.of (cc := cX4_sack) (maxL := 3) (ret := (some .int)) (by decide) rfl (Nat.le_of_ble_eq_true rfl) ?_
  intro pv ev s mv below meth cv A hx hb hml hr hown hts hlocks hname hM ls hl
  have hown : s.vm.findClass RX4 = some mv.cls := hown
  have hl : lv_has ls 3 [(0, .ref (sa S o)), (1, .int (nI i)), (2, .int p1)] := hl
  have hin4 : ∀ x ∈ wsX40, x ∈ wsX4_sack := by decide +kernel
  obtain ⟨Q, hQ⟩ : ∃ Q, Q = MQ below (va_Qi (fun z u => z = 0 ∧ u = (S, V, sT V, (tf I o 1))) (fun u t => fb_P D y A u t) A) (([.ref (sa S o), .int (nI i), .int p1] : List Value).toArray) s 0 0 A := ⟨_, rfl⟩
  rw [← hQ]
  have hns : ns ≤ 12 := hF.2.2.1
  have hnt : nt ≤ 6 := hF.2.2.2.1
  refine lv_aload_n hx hb dX4_sack_0 rfl (lv_at hl 0 rfl) ?_
  refine lv_iconst (v := 0) hx hb dX4_sack_1 (by decide) ?_
  refine fb_put (r := o) hx hb hown hts hin4 tyX4 tyX4_ok nmX4 hM ((hA.1).1) (ce4 ((hA.1).2)) rfl 0 (by decide) (hts (.fieldLink RX4 40 "FeatherBedsModel" "thrown" "I") (by decide +kernel)) (fun _ h9 => h9) rfl (ty := .int) (by decide +kernel) rfl rfl (Nat.le_of_ble_eq_true rfl) dX4_sack_2 (up_I (j := 0) (v := 0) (by rw [ce4 ((hA.1).2)]; simp [va_up, upd])) (w' := (S, V, (sT V), (va_up I o (upd (I o) 0 0)))) ⟨rfl, rfl, rfl⟩ (fun H locs hM => ?_)
  have eI : (va_up I o (upd (I o) 0 0)) = (t0 I o) := rfl
  rw [eI] at hM
  clear eI
  refine lv_aload_n hx hb dX4_sack_5 rfl (lv_at hl 0 rfl) ?_
  refine lv_iload_n hx hb dX4_sack_6 rfl (lv_at hl 1 rfl) ?_
  refine fb_callVi (r := o) hx hb hml hown hts hM ((hA.1).1) (ce4 ((hA.1).2)) rfl (As := [.int (nI i)]) (rest := []) (c_X4_isSack D y l S V (t0 I o) o nt cf rf hA ns df hF.t0 (nI i)) (cwV 1 hts gX4_sack_X4_isSack rfl rfl rfl (by decide +kernel) ⟨Nat.le_of_ble_eq_true rfl, Nat.le_of_ble_eq_true rfl⟩) rfl hl.1 rfl (Nat.le_of_ble_eq_true rfl) dX4_sack_7 ⟨Nat.le_of_ble_eq_true rfl, Nat.le_of_ble_eq_true rfl⟩ (fun v_1 u H locs hp hM => ?_)
  obtain ⟨hv_, hu_⟩ := hp
  have hv_ := Eq.symm hv_
  have hu_ := Eq.symm hu_
  subst hv_
  subst hu_
  rw [show (isN (nI i) 0 (nI ns - 1) : Int32) = 1 from isN_in (by omega) hi]
  refine lv_if_eq (tgt := 32) hx hb dX4_sack_10 (by decide) (fun c_2 => absurd c_2 (by decide)) (fun c_2 => ?_)
  refine lv_iload_n hx hb dX4_sack_13 rfl (lv_at hl 2 rfl) ?_
  refine lv_iconst (v := 0) hx hb dX4_sack_14 (by decide) ?_
  refine lv_bipush (v := 7) hx hb dX4_sack_15 (by decide) ?_
  refine fb_callSi hx hb hml hown hts hM (As := [.int p1, .int 0, .int 7]) (rest := []) (c_X4_isIn D y l S V (t0 I o) p1 0 7) (cwS 3 hts gX4_sack_X4_isIn rfl rfl rfl (by decide +kernel) ⟨Nat.le_of_ble_eq_true rfl, Nat.le_of_ble_eq_true rfl⟩) rfl hl.1 rfl (Nat.le_of_ble_eq_true rfl) dX4_sack_17 ⟨Nat.le_of_ble_eq_true rfl, Nat.le_of_ble_eq_true rfl⟩ (fun v_3 u H locs hp hM => ?_)
  obtain ⟨hv_, hu_⟩ := hp
  have hv_ := Eq.symm hv_
  have hu_ := Eq.symm hu_
  subst hv_
  subst hu_
  rw [show (isN p1 0 7 : Int32) = 0 from isN_0 ho]
  refine lv_if_eq (tgt := 32) hx hb dX4_sack_20 (by decide) (fun c_4 => ?_) (fun c_4 => absurd (by decide) c_4)
  refine lv_aload_n hx hb dX4_sack_32 rfl (lv_at hl 0 rfl) ?_
  refine lv_iconst (v := 1) hx hb dX4_sack_33 (by decide) ?_
  refine fb_callVi (r := o) hx hb hml hown hts hM ((hA.1).1) (ce4 ((hA.1).2)) rfl (As := [.int 1]) (rest := []) (c_X4_fail D y l S V (t0 I o) o nt cf rf hA 1) (cwV 1 hts gX4_sack_X4_fail rfl rfl rfl (by decide +kernel) ⟨Nat.le_of_ble_eq_true rfl, Nat.le_of_ble_eq_true rfl⟩) rfl hl.1 rfl (Nat.le_of_ble_eq_true rfl) dX4_sack_34 ⟨Nat.le_of_ble_eq_true rfl, Nat.le_of_ble_eq_true rfl⟩ (fun v_5 u H locs hp hM => ?_)
  obtain ⟨hv_, hu_⟩ := hp
  have hv_ := Eq.symm hv_
  have hu_ := Eq.symm hu_
  subst hv_
  subst hu_
  have eI : (tf (t0 I o) o 1) = (tf I o 1) := tf_t0 _ _ _
  rw [eI] at hM
  clear eI
  rw [hQ]
  exact fb_iret hx hb hr hlocks hM (⟨rfl, rfl⟩) dX4_sack_37

set_option maxHeartbeats 4000000 in
set_option maxRecDepth 100000 in
theorem c_X4_sack_ok (D : va_G) (y : Nat → ClassId) (l : Launch) (S : fb_Sh) (V I : fb_V) (o nt : Nat) (cf rf : Nat → Nat) (hA : MdAt S o nt cf rf) (ns : Nat) (df : Nat → Nat) (hF : MF I o ns nt cf rf df) (i : Nat) (hi : i < ns) (p1 : Nat) (hp1a : 0 ≤ p1) (hp1 : p1 ≤ 7)  : CI D y l yX4_sack wsX4_sack rm_X4_sack [.ref (sa S o), .int (nI i), .int (nI p1)] (S, V, (sT V), I) (fun z u => z = sckT (mx (I (o + 1)) i) (I (o + 2) i) (nI p1) ∧ u = (S, V, sT V, t0 I o)) 0 0 := by
  refine CI.of (cc := cX4_sack) (maxL := 3) (ret := (some .int)) (by decide) rfl (Nat.le_of_ble_eq_true rfl) ?_
  intro pv ev s mv below meth cv A hx hb hml hr hown hts hlocks hname hM ls hl
  have hown : s.vm.findClass RX4 = some mv.cls := hown
  have hl : lv_has ls 3 [(0, .ref (sa S o)), (1, .int (nI i)), (2, .int (nI p1))] := hl
  have hin4 : ∀ x ∈ wsX40, x ∈ wsX4_sack := by decide +kernel
  obtain ⟨Q, hQ⟩ : ∃ Q, Q = MQ below (va_Qi (fun z u => z = sckT (mx (I (o + 1)) i) (I (o + 2) i) (nI p1) ∧ u = (S, V, sT V, t0 I o)) (fun u t => fb_P D y A u t) A) (([.ref (sa S o), .int (nI i), .int (nI p1)] : List Value).toArray) s 0 0 A := ⟨_, rfl⟩
  rw [← hQ]
  have hns : ns ≤ 12 := hF.2.2.1
  have hnt : nt ≤ 6 := hF.2.2.2.1
  refine lv_aload_n hx hb dX4_sack_0 rfl (lv_at hl 0 rfl) ?_
  refine lv_iconst (v := 0) hx hb dX4_sack_1 (by decide) ?_
  refine fb_put (r := o) hx hb hown hts hin4 tyX4 tyX4_ok nmX4 hM ((hA.1).1) (ce4 ((hA.1).2)) rfl 0 (by decide) (hts (.fieldLink RX4 40 "FeatherBedsModel" "thrown" "I") (by decide +kernel)) (fun _ h9 => h9) rfl (ty := .int) (by decide +kernel) rfl rfl (Nat.le_of_ble_eq_true rfl) dX4_sack_2 (up_I (j := 0) (v := 0) (by rw [ce4 ((hA.1).2)]; simp [va_up, upd])) (w' := (S, V, (sT V), (va_up I o (upd (I o) 0 0)))) ⟨rfl, rfl, rfl⟩ (fun H locs hM => ?_)
  have eI : (va_up I o (upd (I o) 0 0)) = (t0 I o) := rfl
  rw [eI] at hM
  clear eI
  refine lv_aload_n hx hb dX4_sack_5 rfl (lv_at hl 0 rfl) ?_
  refine lv_iload_n hx hb dX4_sack_6 rfl (lv_at hl 1 rfl) ?_
  refine fb_callVi (r := o) hx hb hml hown hts hM ((hA.1).1) (ce4 ((hA.1).2)) rfl (As := [.int (nI i)]) (rest := []) (c_X4_isSack D y l S V (t0 I o) o nt cf rf hA ns df hF.t0 (nI i)) (cwV 1 hts gX4_sack_X4_isSack rfl rfl rfl (by decide +kernel) ⟨Nat.le_of_ble_eq_true rfl, Nat.le_of_ble_eq_true rfl⟩) rfl hl.1 rfl (Nat.le_of_ble_eq_true rfl) dX4_sack_7 ⟨Nat.le_of_ble_eq_true rfl, Nat.le_of_ble_eq_true rfl⟩ (fun v_1 u H locs hp hM => ?_)
  obtain ⟨hv_, hu_⟩ := hp
  have hv_ := Eq.symm hv_
  have hu_ := Eq.symm hu_
  subst hv_
  subst hu_
  rw [show (isN (nI i) 0 (nI ns - 1) : Int32) = 1 from isN_in (by omega) hi]
  refine lv_if_eq (tgt := 32) hx hb dX4_sack_10 (by decide) (fun c_2 => absurd c_2 (by decide)) (fun c_2 => ?_)
  refine lv_iload_n hx hb dX4_sack_13 rfl (lv_at hl 2 rfl) ?_
  refine lv_iconst (v := 0) hx hb dX4_sack_14 (by decide) ?_
  refine lv_bipush (v := 7) hx hb dX4_sack_15 (by decide) ?_
  refine fb_callSi hx hb hml hown hts hM (As := [.int (nI p1), .int 0, .int 7]) (rest := []) (c_X4_isIn D y l S V (t0 I o) (nI p1) 0 7) (cwS 3 hts gX4_sack_X4_isIn rfl rfl rfl (by decide +kernel) ⟨Nat.le_of_ble_eq_true rfl, Nat.le_of_ble_eq_true rfl⟩) rfl hl.1 rfl (Nat.le_of_ble_eq_true rfl) dX4_sack_17 ⟨Nat.le_of_ble_eq_true rfl, Nat.le_of_ble_eq_true rfl⟩ (fun v_3 u H locs hp hM => ?_)
  obtain ⟨hv_, hu_⟩ := hp
  have hv_ := Eq.symm hv_
  have hu_ := Eq.symm hu_
  subst hv_
  subst hu_
  rw [show (isN (nI p1) 0 7 : Int32) = 1 from isN_k (lo := 0) (hi := 7) (by decide) hp1a hp1]
  refine lv_if_eq (tgt := 32) hx hb dX4_sack_20 (by decide) (fun c_4 => absurd c_4 (by decide)) (fun c_4 => ?_)
  refine lv_aload_n hx hb dX4_sack_23 rfl (lv_at hl 0 rfl) ?_
  refine lv_iload_n hx hb dX4_sack_24 rfl (lv_at hl 1 rfl) ?_
  refine lv_iload_n hx hb dX4_sack_25 rfl (lv_at hl 2 rfl) ?_
  refine fb_callVi (r := o) hx hb hml hown hts hM ((hA.1).1) (ce4 ((hA.1).2)) rfl (As := [.int (nI i), .int (nI p1)]) (rest := []) (c_X4_sackTold D y l S V (t0 I o) o nt cf rf hA ns df hF.t0 i hi p1 (by omega)) (cwV 2 hts gX4_sack_X4_sackTold rfl rfl rfl (by decide +kernel) ⟨Nat.le_of_ble_eq_true rfl, Nat.le_of_ble_eq_true rfl⟩) rfl hl.1 rfl (Nat.le_of_ble_eq_true rfl) dX4_sack_26 ⟨Nat.le_of_ble_eq_true rfl, Nat.le_of_ble_eq_true rfl⟩ (fun v_5 u H locs hp hM => ?_)
  obtain ⟨hv_, hu_⟩ := hp
  have hv_ := Eq.symm hv_
  have hu_ := Eq.symm hu_
  subst hv_
  subst hu_
  refine lv_goto (tgt := 37) hx hb dX4_sack_29 (by decide) ?_
  rw [hQ]
  exact fb_iret hx hb hr hlocks hM (⟨by rw [t0_ne I (show o + 1 ≠ o by omega), t0_ne I (show o + 2 ≠ o by omega)], rfl⟩) dX4_sack_37
