abbrev rm_X4_addTick : Room := { frames := 1, cells := 3, slots := 300, locals := 60 }
set_option maxHeartbeats 4000000 in
set_option maxRecDepth 100000 in
theorem c_X4_addTick_f0o (D : va_G) (y : Nat → ClassId) (l : Launch) (S : fb_Sh) (V I : fb_V) (o nt : Nat) (cf rf : Nat → Nat) (hA : MdAt S o nt cf rf) (ns : Nat) (df : Nat → Nat) (hF : MF I o ns nt cf rf df) (p0 : Int32) (ho : p0 < 1 ∨ 6 < p0) (p1 : Int32) (p2 : Int32) : CI D y l yX4_addTick wsX4_addTick rm_X4_addTick [.ref (sa S o), .int p0, .int p1, .int p2] (S, V, (sT V), I) (fun z u => z = 0 ∧ u = (S, V, sT V, (tf I o 1))) 0 0 := by
  refine CI.of (cc := cX4_addTick) (maxL := 5) (ret := (some .int)) (by decide) rfl (Nat.le_of_ble_eq_true rfl) ?_
  intro pv ev s mv below meth cv A hx hb hml hr hown hts hlocks hname hM ls hl
  have hown : s.vm.findClass RX4 = some mv.cls := hown
  have hl : lv_has ls 5 [(0, .ref (sa S o)), (1, .int p0), (2, .int p1), (3, .int p2)] := hl
  have hin4 : ∀ x ∈ wsX40, x ∈ wsX4_addTick := by decide +kernel
  obtain ⟨Q, hQ⟩ : ∃ Q, Q = MQ below (va_Qi (fun z u => z = 0 ∧ u = (S, V, sT V, (tf I o 1))) (fun u t => fb_P D y A u t) A) (([.ref (sa S o), .int p0, .int p1, .int p2] : List Value).toArray) s 0 0 A := ⟨_, rfl⟩
  rw [← hQ]
  have hns : ns ≤ 12 := hF.2.2.1
  have hnt : nt ≤ 6 := hF.2.2.2.1
  refine lv_aload_n hx hb dX4_addTick_0 rfl (lv_at hl 0 rfl) ?_
  refine lv_iconst (v := 0) hx hb dX4_addTick_1 (by decide) ?_
  refine fb_put (r := o) hx hb hown hts hin4 tyX4 tyX4_ok nmX4 hM ((hA.1).1) (ce4 ((hA.1).2)) rfl 0 (by decide) (hts (.fieldLink RX4 40 "FeatherBedsModel" "thrown" "I") (by decide +kernel)) (fun _ h9 => h9) rfl (ty := .int) (by decide +kernel) rfl rfl (Nat.le_of_ble_eq_true rfl) dX4_addTick_2 (up_I (j := 0) (v := 0) (by rw [ce4 (S := S) ((hA.1).2)]; simp [va_up, upd])) (w' := (S, V, (sT V), (va_up I o (upd (I o) 0 0)))) ⟨rfl, rfl, rfl⟩ (fun H locs hM => ?_)
  have eI : (va_up I o (upd (I o) 0 0)) = (t0 I o) := rfl
  rw [eI] at hM
  clear eI
  refine lv_iload_n hx hb dX4_addTick_5 rfl (lv_at hl 1 rfl) ?_
  refine lv_iconst (v := 1) hx hb dX4_addTick_6 (by decide) ?_
  refine lv_bipush (v := 6) hx hb dX4_addTick_7 (by decide) ?_
  refine fb_callSi hx hb hml hown hts hM (As := [.int p0, .int 1, .int 6]) (rest := []) (c_X4_isIn D y l S V (t0 I o) p0 1 6) (cwS 3 hts gX4_addTick_X4_isIn rfl rfl rfl (by decide +kernel) ⟨Nat.le_of_ble_eq_true rfl, Nat.le_of_ble_eq_true rfl⟩) rfl hl.1 rfl (Nat.le_of_ble_eq_true rfl) dX4_addTick_9 ⟨Nat.le_of_ble_eq_true rfl, Nat.le_of_ble_eq_true rfl⟩ (fun v_1 u H locs hp hM => ?_)
  obtain ⟨hv_, hu_⟩ := hp
  have hv_ := Eq.symm hv_
  have hu_ := Eq.symm hu_
  subst hv_
  subst hu_
  rw [show (isN p0 1 6 : Int32) = 0 from isN_0 ho]
  refine lv_if_eq (tgt := 35) hx hb dX4_addTick_12 (by decide) (fun c_2 => ?_) (fun c_2 => absurd (by decide) c_2)
  refine lv_aload_n hx hb dX4_addTick_35 rfl (lv_at hl 0 rfl) ?_
  refine lv_iconst (v := 1) hx hb dX4_addTick_36 (by decide) ?_
  refine fb_callVi (r := o) hx hb hml hown hts hM ((hA.1).1) (ce4 ((hA.1).2)) rfl (As := [.int 1]) (rest := []) (c_X4_fail D y l S V (t0 I o) o nt cf rf hA 1) (cwV 1 hts gX4_addTick_X4_fail rfl rfl rfl (by decide +kernel) ⟨Nat.le_of_ble_eq_true rfl, Nat.le_of_ble_eq_true rfl⟩) rfl hl.1 rfl (Nat.le_of_ble_eq_true rfl) dX4_addTick_37 ⟨Nat.le_of_ble_eq_true rfl, Nat.le_of_ble_eq_true rfl⟩ (fun v_3 u H locs hp hM => ?_)
  obtain ⟨hv_, hu_⟩ := hp
  have hv_ := Eq.symm hv_
  have hu_ := Eq.symm hu_
  subst hv_
  subst hu_
  have eI : (tf (t0 I o) o 1) = (tf I o 1) := tf_t0 _ _ _
  rw [eI] at hM
  clear eI
  rw [hQ]
  exact fb_iret hx hb hr hlocks hM (⟨rfl, rfl⟩) dX4_addTick_40

set_option maxHeartbeats 4000000 in
set_option maxRecDepth 100000 in
theorem c_X4_addTick_f1o (D : va_G) (y : Nat → ClassId) (l : Launch) (S : fb_Sh) (V I : fb_V) (o nt : Nat) (cf rf : Nat → Nat) (hA : MdAt S o nt cf rf) (ns : Nat) (df : Nat → Nat) (hF : MF I o ns nt cf rf df) (c : Nat) (hca : 1 ≤ c) (hc : c ≤ 6) (p1 : Int32) (ho : p1 < 1 ∨ 6 < p1) (p2 : Int32) : CI D y l yX4_addTick wsX4_addTick rm_X4_addTick [.ref (sa S o), .int (nI c), .int p1, .int p2] (S, V, (sT V), I) (fun z u => z = 0 ∧ u = (S, V, sT V, (tf I o 1))) 0 0 := by
  refine CI.of (cc := cX4_addTick) (maxL := 5) (ret := (some .int)) (by decide) rfl (Nat.le_of_ble_eq_true rfl) ?_
  intro pv ev s mv below meth cv A hx hb hml hr hown hts hlocks hname hM ls hl
  have hown : s.vm.findClass RX4 = some mv.cls := hown
  have hl : lv_has ls 5 [(0, .ref (sa S o)), (1, .int (nI c)), (2, .int p1), (3, .int p2)] := hl
  have hin4 : ∀ x ∈ wsX40, x ∈ wsX4_addTick := by decide +kernel
  obtain ⟨Q, hQ⟩ : ∃ Q, Q = MQ below (va_Qi (fun z u => z = 0 ∧ u = (S, V, sT V, (tf I o 1))) (fun u t => fb_P D y A u t) A) (([.ref (sa S o), .int (nI c), .int p1, .int p2] : List Value).toArray) s 0 0 A := ⟨_, rfl⟩
  rw [← hQ]
  have hns : ns ≤ 12 := hF.2.2.1
  have hnt : nt ≤ 6 := hF.2.2.2.1
  refine lv_aload_n hx hb dX4_addTick_0 rfl (lv_at hl 0 rfl) ?_
  refine lv_iconst (v := 0) hx hb dX4_addTick_1 (by decide) ?_
  refine fb_put (r := o) hx hb hown hts hin4 tyX4 tyX4_ok nmX4 hM ((hA.1).1) (ce4 ((hA.1).2)) rfl 0 (by decide) (hts (.fieldLink RX4 40 "FeatherBedsModel" "thrown" "I") (by decide +kernel)) (fun _ h9 => h9) rfl (ty := .int) (by decide +kernel) rfl rfl (Nat.le_of_ble_eq_true rfl) dX4_addTick_2 (up_I (j := 0) (v := 0) (by rw [ce4 (S := S) ((hA.1).2)]; simp [va_up, upd])) (w' := (S, V, (sT V), (va_up I o (upd (I o) 0 0)))) ⟨rfl, rfl, rfl⟩ (fun H locs hM => ?_)
  have eI : (va_up I o (upd (I o) 0 0)) = (t0 I o) := rfl
  rw [eI] at hM
  clear eI
  refine lv_iload_n hx hb dX4_addTick_5 rfl (lv_at hl 1 rfl) ?_
  refine lv_iconst (v := 1) hx hb dX4_addTick_6 (by decide) ?_
  refine lv_bipush (v := 6) hx hb dX4_addTick_7 (by decide) ?_
  refine fb_callSi hx hb hml hown hts hM (As := [.int (nI c), .int 1, .int 6]) (rest := []) (c_X4_isIn D y l S V (t0 I o) (nI c) 1 6) (cwS 3 hts gX4_addTick_X4_isIn rfl rfl rfl (by decide +kernel) ⟨Nat.le_of_ble_eq_true rfl, Nat.le_of_ble_eq_true rfl⟩) rfl hl.1 rfl (Nat.le_of_ble_eq_true rfl) dX4_addTick_9 ⟨Nat.le_of_ble_eq_true rfl, Nat.le_of_ble_eq_true rfl⟩ (fun v_1 u H locs hp hM => ?_)
  obtain ⟨hv_, hu_⟩ := hp
  have hv_ := Eq.symm hv_
  have hu_ := Eq.symm hu_
  subst hv_
  subst hu_
  rw [show (isN (nI c) 1 6 : Int32) = 1 from isN_k (lo := 1) (hi := 6) (by decide) hca hc]
  refine lv_if_eq (tgt := 35) hx hb dX4_addTick_12 (by decide) (fun c_2 => absurd c_2 (by decide)) (fun c_2 => ?_)
  refine lv_iload_n hx hb dX4_addTick_15 rfl (lv_at hl 2 rfl) ?_
  refine lv_iconst (v := 1) hx hb dX4_addTick_16 (by decide) ?_
  refine lv_bipush (v := 6) hx hb dX4_addTick_17 (by decide) ?_
  refine fb_callSi hx hb hml hown hts hM (As := [.int p1, .int 1, .int 6]) (rest := []) (c_X4_isIn D y l S V (t0 I o) p1 1 6) (cwS 3 hts gX4_addTick_X4_isIn rfl rfl rfl (by decide +kernel) ⟨Nat.le_of_ble_eq_true rfl, Nat.le_of_ble_eq_true rfl⟩) rfl hl.1 rfl (Nat.le_of_ble_eq_true rfl) dX4_addTick_19 ⟨Nat.le_of_ble_eq_true rfl, Nat.le_of_ble_eq_true rfl⟩ (fun v_3 u H locs hp hM => ?_)
  obtain ⟨hv_, hu_⟩ := hp
  have hv_ := Eq.symm hv_
  have hu_ := Eq.symm hu_
  subst hv_
  subst hu_
  rw [show (isN p1 1 6 : Int32) = 0 from isN_0 ho]
  refine lv_if_eq (tgt := 35) hx hb dX4_addTick_22 (by decide) (fun c_4 => ?_) (fun c_4 => absurd (by decide) c_4)
  refine lv_aload_n hx hb dX4_addTick_35 rfl (lv_at hl 0 rfl) ?_
  refine lv_iconst (v := 1) hx hb dX4_addTick_36 (by decide) ?_
  refine fb_callVi (r := o) hx hb hml hown hts hM ((hA.1).1) (ce4 ((hA.1).2)) rfl (As := [.int 1]) (rest := []) (c_X4_fail D y l S V (t0 I o) o nt cf rf hA 1) (cwV 1 hts gX4_addTick_X4_fail rfl rfl rfl (by decide +kernel) ⟨Nat.le_of_ble_eq_true rfl, Nat.le_of_ble_eq_true rfl⟩) rfl hl.1 rfl (Nat.le_of_ble_eq_true rfl) dX4_addTick_37 ⟨Nat.le_of_ble_eq_true rfl, Nat.le_of_ble_eq_true rfl⟩ (fun v_5 u H locs hp hM => ?_)
  obtain ⟨hv_, hu_⟩ := hp
  have hv_ := Eq.symm hv_
  have hu_ := Eq.symm hu_
  subst hv_
  subst hu_
  have eI : (tf (t0 I o) o 1) = (tf I o 1) := tf_t0 _ _ _
  rw [eI] at hM
  clear eI
  rw [hQ]
  exact fb_iret hx hb hr hlocks hM (⟨rfl, rfl⟩) dX4_addTick_40

set_option maxHeartbeats 4000000 in
set_option maxRecDepth 100000 in
theorem c_X4_addTick_f2o (D : va_G) (y : Nat → ClassId) (l : Launch) (S : fb_Sh) (V I : fb_V) (o nt : Nat) (cf rf : Nat → Nat) (hA : MdAt S o nt cf rf) (ns : Nat) (df : Nat → Nat) (hF : MF I o ns nt cf rf df) (c : Nat) (hca : 1 ≤ c) (hc : c ≤ 6) (rr : Nat) (hrra : 1 ≤ rr) (hrr : rr ≤ 6) (p2 : Int32) (ho : p2 < 1 ∨ 9 < p2) : CI D y l yX4_addTick wsX4_addTick rm_X4_addTick [.ref (sa S o), .int (nI c), .int (nI rr), .int p2] (S, V, (sT V), I) (fun z u => z = 0 ∧ u = (S, V, sT V, (tf I o 1))) 0 0 := by
  refine CI.of (cc := cX4_addTick) (maxL := 5) (ret := (some .int)) (by decide) rfl (Nat.le_of_ble_eq_true rfl) ?_
  intro pv ev s mv below meth cv A hx hb hml hr hown hts hlocks hname hM ls hl
  have hown : s.vm.findClass RX4 = some mv.cls := hown
  have hl : lv_has ls 5 [(0, .ref (sa S o)), (1, .int (nI c)), (2, .int (nI rr)), (3, .int p2)] := hl
  have hin4 : ∀ x ∈ wsX40, x ∈ wsX4_addTick := by decide +kernel
  obtain ⟨Q, hQ⟩ : ∃ Q, Q = MQ below (va_Qi (fun z u => z = 0 ∧ u = (S, V, sT V, (tf I o 1))) (fun u t => fb_P D y A u t) A) (([.ref (sa S o), .int (nI c), .int (nI rr), .int p2] : List Value).toArray) s 0 0 A := ⟨_, rfl⟩
  rw [← hQ]
  have hns : ns ≤ 12 := hF.2.2.1
  have hnt : nt ≤ 6 := hF.2.2.2.1
  refine lv_aload_n hx hb dX4_addTick_0 rfl (lv_at hl 0 rfl) ?_
  refine lv_iconst (v := 0) hx hb dX4_addTick_1 (by decide) ?_
  refine fb_put (r := o) hx hb hown hts hin4 tyX4 tyX4_ok nmX4 hM ((hA.1).1) (ce4 ((hA.1).2)) rfl 0 (by decide) (hts (.fieldLink RX4 40 "FeatherBedsModel" "thrown" "I") (by decide +kernel)) (fun _ h9 => h9) rfl (ty := .int) (by decide +kernel) rfl rfl (Nat.le_of_ble_eq_true rfl) dX4_addTick_2 (up_I (j := 0) (v := 0) (by rw [ce4 (S := S) ((hA.1).2)]; simp [va_up, upd])) (w' := (S, V, (sT V), (va_up I o (upd (I o) 0 0)))) ⟨rfl, rfl, rfl⟩ (fun H locs hM => ?_)
  have eI : (va_up I o (upd (I o) 0 0)) = (t0 I o) := rfl
  rw [eI] at hM
  clear eI
  refine lv_iload_n hx hb dX4_addTick_5 rfl (lv_at hl 1 rfl) ?_
  refine lv_iconst (v := 1) hx hb dX4_addTick_6 (by decide) ?_
  refine lv_bipush (v := 6) hx hb dX4_addTick_7 (by decide) ?_
  refine fb_callSi hx hb hml hown hts hM (As := [.int (nI c), .int 1, .int 6]) (rest := []) (c_X4_isIn D y l S V (t0 I o) (nI c) 1 6) (cwS 3 hts gX4_addTick_X4_isIn rfl rfl rfl (by decide +kernel) ⟨Nat.le_of_ble_eq_true rfl, Nat.le_of_ble_eq_true rfl⟩) rfl hl.1 rfl (Nat.le_of_ble_eq_true rfl) dX4_addTick_9 ⟨Nat.le_of_ble_eq_true rfl, Nat.le_of_ble_eq_true rfl⟩ (fun v_1 u H locs hp hM => ?_)
  obtain ⟨hv_, hu_⟩ := hp
  have hv_ := Eq.symm hv_
  have hu_ := Eq.symm hu_
  subst hv_
  subst hu_
  rw [show (isN (nI c) 1 6 : Int32) = 1 from isN_k (lo := 1) (hi := 6) (by decide) hca hc]
  refine lv_if_eq (tgt := 35) hx hb dX4_addTick_12 (by decide) (fun c_2 => absurd c_2 (by decide)) (fun c_2 => ?_)
  refine lv_iload_n hx hb dX4_addTick_15 rfl (lv_at hl 2 rfl) ?_
  refine lv_iconst (v := 1) hx hb dX4_addTick_16 (by decide) ?_
  refine lv_bipush (v := 6) hx hb dX4_addTick_17 (by decide) ?_
  refine fb_callSi hx hb hml hown hts hM (As := [.int (nI rr), .int 1, .int 6]) (rest := []) (c_X4_isIn D y l S V (t0 I o) (nI rr) 1 6) (cwS 3 hts gX4_addTick_X4_isIn rfl rfl rfl (by decide +kernel) ⟨Nat.le_of_ble_eq_true rfl, Nat.le_of_ble_eq_true rfl⟩) rfl hl.1 rfl (Nat.le_of_ble_eq_true rfl) dX4_addTick_19 ⟨Nat.le_of_ble_eq_true rfl, Nat.le_of_ble_eq_true rfl⟩ (fun v_3 u H locs hp hM => ?_)
  obtain ⟨hv_, hu_⟩ := hp
  have hv_ := Eq.symm hv_
  have hu_ := Eq.symm hu_
  subst hv_
  subst hu_
  rw [show (isN (nI rr) 1 6 : Int32) = 1 from isN_k (lo := 1) (hi := 6) (by decide) hrra hrr]
  refine lv_if_eq (tgt := 35) hx hb dX4_addTick_22 (by decide) (fun c_4 => absurd c_4 (by decide)) (fun c_4 => ?_)
  refine lv_iload_n hx hb dX4_addTick_25 rfl (lv_at hl 3 rfl) ?_
  refine lv_iconst (v := 1) hx hb dX4_addTick_26 (by decide) ?_
  refine lv_bipush (v := 9) hx hb dX4_addTick_27 (by decide) ?_
  refine fb_callSi hx hb hml hown hts hM (As := [.int p2, .int 1, .int 9]) (rest := []) (c_X4_isIn D y l S V (t0 I o) p2 1 9) (cwS 3 hts gX4_addTick_X4_isIn rfl rfl rfl (by decide +kernel) ⟨Nat.le_of_ble_eq_true rfl, Nat.le_of_ble_eq_true rfl⟩) rfl hl.1 rfl (Nat.le_of_ble_eq_true rfl) dX4_addTick_29 ⟨Nat.le_of_ble_eq_true rfl, Nat.le_of_ble_eq_true rfl⟩ (fun v_5 u H locs hp hM => ?_)
  obtain ⟨hv_, hu_⟩ := hp
  have hv_ := Eq.symm hv_
  have hu_ := Eq.symm hu_
  subst hv_
  subst hu_
  rw [show (isN p2 1 9 : Int32) = 0 from isN_0 ho]
  refine lv_if_ne (tgt := 41) hx hb dX4_addTick_32 (by decide) (fun c_6 => absurd (by decide) c_6) (fun c_6 => ?_)
  refine lv_aload_n hx hb dX4_addTick_35 rfl (lv_at hl 0 rfl) ?_
  refine lv_iconst (v := 1) hx hb dX4_addTick_36 (by decide) ?_
  refine fb_callVi (r := o) hx hb hml hown hts hM ((hA.1).1) (ce4 ((hA.1).2)) rfl (As := [.int 1]) (rest := []) (c_X4_fail D y l S V (t0 I o) o nt cf rf hA 1) (cwV 1 hts gX4_addTick_X4_fail rfl rfl rfl (by decide +kernel) ⟨Nat.le_of_ble_eq_true rfl, Nat.le_of_ble_eq_true rfl⟩) rfl hl.1 rfl (Nat.le_of_ble_eq_true rfl) dX4_addTick_37 ⟨Nat.le_of_ble_eq_true rfl, Nat.le_of_ble_eq_true rfl⟩ (fun v_7 u H locs hp hM => ?_)
  obtain ⟨hv_, hu_⟩ := hp
  have hv_ := Eq.symm hv_
  have hu_ := Eq.symm hu_
  subst hv_
  subst hu_
  have eI : (tf (t0 I o) o 1) = (tf I o 1) := tf_t0 _ _ _
  rw [eI] at hM
  clear eI
  rw [hQ]
  exact fb_iret hx hb hr hlocks hM (⟨rfl, rfl⟩) dX4_addTick_40

set_option maxHeartbeats 4000000 in
set_option maxRecDepth 100000 in
theorem c_X4_addTick_f3o (D : va_G) (y : Nat → ClassId) (l : Launch) (S : fb_Sh) (V I : fb_V) (o nt : Nat) (cf rf : Nat → Nat) (hA : MdAt S o nt cf rf) (ns : Nat) (df : Nat → Nat) (hF : MF I o ns nt cf rf df) (c : Nat) (hca : 1 ≤ c) (hc : c ≤ 6) (rr : Nat) (hrra : 1 ≤ rr) (hrr : rr ≤ 6) (d : Nat) (hda : 1 ≤ d) (hd : d ≤ 9) (h6 : nt = 6) : CI D y l yX4_addTick wsX4_addTick rm_X4_addTick [.ref (sa S o), .int (nI c), .int (nI rr), .int (nI d)] (S, V, (sT V), I) (fun z u => z = 0 ∧ u = (S, V, sT V, (tf I o 2))) 0 0 := by
  refine CI.of (cc := cX4_addTick) (maxL := 5) (ret := (some .int)) (by decide) rfl (Nat.le_of_ble_eq_true rfl) ?_
  intro pv ev s mv below meth cv A hx hb hml hr hown hts hlocks hname hM ls hl
  have hown : s.vm.findClass RX4 = some mv.cls := hown
  have hl : lv_has ls 5 [(0, .ref (sa S o)), (1, .int (nI c)), (2, .int (nI rr)), (3, .int (nI d))] := hl
  have hin4 : ∀ x ∈ wsX40, x ∈ wsX4_addTick := by decide +kernel
  obtain ⟨Q, hQ⟩ : ∃ Q, Q = MQ below (va_Qi (fun z u => z = 0 ∧ u = (S, V, sT V, (tf I o 2))) (fun u t => fb_P D y A u t) A) (([.ref (sa S o), .int (nI c), .int (nI rr), .int (nI d)] : List Value).toArray) s 0 0 A := ⟨_, rfl⟩
  rw [← hQ]
  have hns : ns ≤ 12 := hF.2.2.1
  have hnt : nt ≤ 6 := hF.2.2.2.1
  refine lv_aload_n hx hb dX4_addTick_0 rfl (lv_at hl 0 rfl) ?_
  refine lv_iconst (v := 0) hx hb dX4_addTick_1 (by decide) ?_
  refine fb_put (r := o) hx hb hown hts hin4 tyX4 tyX4_ok nmX4 hM ((hA.1).1) (ce4 ((hA.1).2)) rfl 0 (by decide) (hts (.fieldLink RX4 40 "FeatherBedsModel" "thrown" "I") (by decide +kernel)) (fun _ h9 => h9) rfl (ty := .int) (by decide +kernel) rfl rfl (Nat.le_of_ble_eq_true rfl) dX4_addTick_2 (up_I (j := 0) (v := 0) (by rw [ce4 (S := S) ((hA.1).2)]; simp [va_up, upd])) (w' := (S, V, (sT V), (va_up I o (upd (I o) 0 0)))) ⟨rfl, rfl, rfl⟩ (fun H locs hM => ?_)
  have eI : (va_up I o (upd (I o) 0 0)) = (t0 I o) := rfl
  rw [eI] at hM
  clear eI
  refine lv_iload_n hx hb dX4_addTick_5 rfl (lv_at hl 1 rfl) ?_
  refine lv_iconst (v := 1) hx hb dX4_addTick_6 (by decide) ?_
  refine lv_bipush (v := 6) hx hb dX4_addTick_7 (by decide) ?_
  refine fb_callSi hx hb hml hown hts hM (As := [.int (nI c), .int 1, .int 6]) (rest := []) (c_X4_isIn D y l S V (t0 I o) (nI c) 1 6) (cwS 3 hts gX4_addTick_X4_isIn rfl rfl rfl (by decide +kernel) ⟨Nat.le_of_ble_eq_true rfl, Nat.le_of_ble_eq_true rfl⟩) rfl hl.1 rfl (Nat.le_of_ble_eq_true rfl) dX4_addTick_9 ⟨Nat.le_of_ble_eq_true rfl, Nat.le_of_ble_eq_true rfl⟩ (fun v_1 u H locs hp hM => ?_)
  obtain ⟨hv_, hu_⟩ := hp
  have hv_ := Eq.symm hv_
  have hu_ := Eq.symm hu_
  subst hv_
  subst hu_
  rw [show (isN (nI c) 1 6 : Int32) = 1 from isN_k (lo := 1) (hi := 6) (by decide) hca hc]
  refine lv_if_eq (tgt := 35) hx hb dX4_addTick_12 (by decide) (fun c_2 => absurd c_2 (by decide)) (fun c_2 => ?_)
  refine lv_iload_n hx hb dX4_addTick_15 rfl (lv_at hl 2 rfl) ?_
  refine lv_iconst (v := 1) hx hb dX4_addTick_16 (by decide) ?_
  refine lv_bipush (v := 6) hx hb dX4_addTick_17 (by decide) ?_
  refine fb_callSi hx hb hml hown hts hM (As := [.int (nI rr), .int 1, .int 6]) (rest := []) (c_X4_isIn D y l S V (t0 I o) (nI rr) 1 6) (cwS 3 hts gX4_addTick_X4_isIn rfl rfl rfl (by decide +kernel) ⟨Nat.le_of_ble_eq_true rfl, Nat.le_of_ble_eq_true rfl⟩) rfl hl.1 rfl (Nat.le_of_ble_eq_true rfl) dX4_addTick_19 ⟨Nat.le_of_ble_eq_true rfl, Nat.le_of_ble_eq_true rfl⟩ (fun v_3 u H locs hp hM => ?_)
  obtain ⟨hv_, hu_⟩ := hp
  have hv_ := Eq.symm hv_
  have hu_ := Eq.symm hu_
  subst hv_
  subst hu_
  rw [show (isN (nI rr) 1 6 : Int32) = 1 from isN_k (lo := 1) (hi := 6) (by decide) hrra hrr]
  refine lv_if_eq (tgt := 35) hx hb dX4_addTick_22 (by decide) (fun c_4 => absurd c_4 (by decide)) (fun c_4 => ?_)
  refine lv_iload_n hx hb dX4_addTick_25 rfl (lv_at hl 3 rfl) ?_
  refine lv_iconst (v := 1) hx hb dX4_addTick_26 (by decide) ?_
  refine lv_bipush (v := 9) hx hb dX4_addTick_27 (by decide) ?_
  refine fb_callSi hx hb hml hown hts hM (As := [.int (nI d), .int 1, .int 9]) (rest := []) (c_X4_isIn D y l S V (t0 I o) (nI d) 1 9) (cwS 3 hts gX4_addTick_X4_isIn rfl rfl rfl (by decide +kernel) ⟨Nat.le_of_ble_eq_true rfl, Nat.le_of_ble_eq_true rfl⟩) rfl hl.1 rfl (Nat.le_of_ble_eq_true rfl) dX4_addTick_29 ⟨Nat.le_of_ble_eq_true rfl, Nat.le_of_ble_eq_true rfl⟩ (fun v_5 u H locs hp hM => ?_)
  obtain ⟨hv_, hu_⟩ := hp
  have hv_ := Eq.symm hv_
  have hu_ := Eq.symm hu_
  subst hv_
  subst hu_
  rw [show (isN (nI d) 1 9 : Int32) = 1 from isN_k (lo := 1) (hi := 9) (by decide) hda hd]
  refine lv_if_ne (tgt := 41) hx hb dX4_addTick_32 (by decide) (fun c_6 => ?_) (fun c_6 => absurd c_6 (by decide))
  refine lv_aload_n hx hb dX4_addTick_41 rfl (lv_at hl 0 rfl) ?_
  refine fb_get (r := o) hx hb hown hts hin4 hM ((hA.1).1) (ce4 ((hA.1).2)) rfl 6 (by decide) (hts (.fieldLink RX4 50 "FeatherBedsModel" "ticks" "I") (by decide +kernel)) (fun _ h9 => h9) (v := .int (nI nt)) (congrArg (fun z => some (Value.int z)) ((t0_f I o (by decide)).trans hF.2.1)) dX4_addTick_42 ?_
  refine lv_bipush (v := 6) hx hb dX4_addTick_45 (by decide) ?_
  refine lv_icmp_ne (tgt := 56) hx hb dX4_addTick_47 (by decide) (fun c_7 => absurd (by rw [h6]; rfl) c_7) (fun c_7 => ?_)
  refine lv_aload_n hx hb dX4_addTick_50 rfl (lv_at hl 0 rfl) ?_
  refine lv_iconst (v := 2) hx hb dX4_addTick_51 (by decide) ?_
  refine fb_callVi (r := o) hx hb hml hown hts hM ((hA.1).1) (ce4 ((hA.1).2)) rfl (As := [.int 2]) (rest := []) (c_X4_fail D y l S V (t0 I o) o nt cf rf hA 2) (cwV 1 hts gX4_addTick_X4_fail rfl rfl rfl (by decide +kernel) ⟨Nat.le_of_ble_eq_true rfl, Nat.le_of_ble_eq_true rfl⟩) rfl hl.1 rfl (Nat.le_of_ble_eq_true rfl) dX4_addTick_52 ⟨Nat.le_of_ble_eq_true rfl, Nat.le_of_ble_eq_true rfl⟩ (fun v_8 u H locs hp hM => ?_)
  obtain ⟨hv_, hu_⟩ := hp
  have hv_ := Eq.symm hv_
  have hu_ := Eq.symm hu_
  subst hv_
  subst hu_
  have eI : (tf (t0 I o) o 2) = (tf I o 2) := tf_t0 _ _ _
  rw [eI] at hM
  clear eI
  rw [hQ]
  exact fb_iret hx hb hr hlocks hM (⟨rfl, rfl⟩) dX4_addTick_55

set_option maxHeartbeats 4000000 in
set_option maxRecDepth 100000 in
theorem c_X4_addTick_ok (D : va_G) (y : Nat → ClassId) (l : Launch) (S : fb_Sh) (V I : fb_V) (o nt : Nat) (cf rf : Nat → Nat) (hA : MdAt S o nt cf rf) (ns : Nat) (df : Nat → Nat) (hF : MF I o ns nt cf rf df) (c : Nat) (hca : 1 ≤ c) (hc : c ≤ 6) (rr : Nat) (hrra : 1 ≤ rr) (hrr : rr ≤ 6) (d : Nat) (hda : 1 ≤ d) (hd : d ≤ 9) (h6 : nt < 6)  (hn1 : o + 10 + nt ∉ sR S) (hn2 : o + 20 + nt ∉ sR S) (hn3 : o + 31 ∉ sR S) : CI D y l yX4_addTick wsX4_addTick rm_X4_addTick [.ref (sa S o), .int (nI c), .int (nI rr), .int (nI d)] (S, V, (sT V), I) (fun z u => z = nI nt ∧ ∃ S2 I2, u = (S2, V, sT V, I2) ∧ MdAt S2 o (nt + 1) (va_up cf nt c) (va_up rf nt rr) ∧ Ext (fun x => x = o + 5 ∨ x = o + 6 ∨ x = o + 10 + nt ∨ x = o + 20 + nt ∨ x = o + 31) S S2 ∧ o + 31 ∉ sR S2 ∧ ∀ x, x ≠ o + 31 → I2 x = tkI I o nt c rr d x) 3 300 := by
  refine CI.of (cc := cX4_addTick) (maxL := 5) (ret := (some .int)) (by decide) rfl (Nat.le_of_ble_eq_true rfl) ?_
  intro pv ev s mv below meth cv A hx hb hml hr hown hts hlocks hname hM ls hl
  have hown : s.vm.findClass RX4 = some mv.cls := hown
  have hl : lv_has ls 5 [(0, .ref (sa S o)), (1, .int (nI c)), (2, .int (nI rr)), (3, .int (nI d))] := hl
  have hin4 : ∀ x ∈ wsX40, x ∈ wsX4_addTick := by decide +kernel
  obtain ⟨Q, hQ⟩ : ∃ Q, Q = MQ below (va_Qi (fun z u => z = nI nt ∧ ∃ S2 I2, u = (S2, V, sT V, I2) ∧ MdAt S2 o (nt + 1) (va_up cf nt c) (va_up rf nt rr) ∧ Ext (fun x => x = o + 5 ∨ x = o + 6 ∨ x = o + 10 + nt ∨ x = o + 20 + nt ∨ x = o + 31) S S2 ∧ o + 31 ∉ sR S2 ∧ ∀ x, x ≠ o + 31 → I2 x = tkI I o nt c rr d x) (fun u t => fb_P D y A u t) A) (([.ref (sa S o), .int (nI c), .int (nI rr), .int (nI d)] : List Value).toArray) s 3 300 A := ⟨_, rfl⟩
  rw [← hQ]
  have hns : ns ≤ 12 := hF.2.2.1
  have hnt : nt ≤ 6 := hF.2.2.2.1
  have hcr1 : 1 ≤ c * rr := Nat.mul_pos hca hrra
  have hcr2 : c * rr ≤ 6 * 6 := Nat.mul_le_mul hc hrr
  refine lv_aload_n hx hb dX4_addTick_0 rfl (lv_at hl 0 rfl) ?_
  refine lv_iconst (v := 0) hx hb dX4_addTick_1 (by decide) ?_
  refine fb_put (r := o) hx hb hown hts hin4 tyX4 tyX4_ok nmX4 hM ((hA.1).1) (ce4 ((hA.1).2)) rfl 0 (by decide) (hts (.fieldLink RX4 40 "FeatherBedsModel" "thrown" "I") (by decide +kernel)) (fun _ h9 => h9) rfl (ty := .int) (by decide +kernel) rfl rfl (Nat.le_of_ble_eq_true rfl) dX4_addTick_2 (up_I (j := 0) (v := 0) (by rw [ce4 (S := S) ((hA.1).2)]; simp [va_up, upd])) (w' := (S, V, (sT V), (va_up I o (upd (I o) 0 0)))) ⟨rfl, rfl, rfl⟩ (fun H locs hM => ?_)
  have eI : (va_up I o (upd (I o) 0 0)) = (t0 I o) := rfl
  rw [eI] at hM
  clear eI
  refine lv_iload_n hx hb dX4_addTick_5 rfl (lv_at hl 1 rfl) ?_
  refine lv_iconst (v := 1) hx hb dX4_addTick_6 (by decide) ?_
  refine lv_bipush (v := 6) hx hb dX4_addTick_7 (by decide) ?_
  refine fb_callSi hx hb hml hown hts hM (As := [.int (nI c), .int 1, .int 6]) (rest := []) (c_X4_isIn D y l S V (t0 I o) (nI c) 1 6) (cwS 3 hts gX4_addTick_X4_isIn rfl rfl rfl (by decide +kernel) ⟨Nat.le_of_ble_eq_true rfl, Nat.le_of_ble_eq_true rfl⟩) rfl hl.1 rfl (Nat.le_of_ble_eq_true rfl) dX4_addTick_9 ⟨Nat.le_of_ble_eq_true rfl, Nat.le_of_ble_eq_true rfl⟩ (fun v_1 u H locs hp hM => ?_)
  obtain ⟨hv_, hu_⟩ := hp
  have hv_ := Eq.symm hv_
  have hu_ := Eq.symm hu_
  subst hv_
  subst hu_
  rw [show (isN (nI c) 1 6 : Int32) = 1 from isN_k (lo := 1) (hi := 6) (by decide) hca hc]
  refine lv_if_eq (tgt := 35) hx hb dX4_addTick_12 (by decide) (fun c_2 => absurd c_2 (by decide)) (fun c_2 => ?_)
  refine lv_iload_n hx hb dX4_addTick_15 rfl (lv_at hl 2 rfl) ?_
  refine lv_iconst (v := 1) hx hb dX4_addTick_16 (by decide) ?_
  refine lv_bipush (v := 6) hx hb dX4_addTick_17 (by decide) ?_
  refine fb_callSi hx hb hml hown hts hM (As := [.int (nI rr), .int 1, .int 6]) (rest := []) (c_X4_isIn D y l S V (t0 I o) (nI rr) 1 6) (cwS 3 hts gX4_addTick_X4_isIn rfl rfl rfl (by decide +kernel) ⟨Nat.le_of_ble_eq_true rfl, Nat.le_of_ble_eq_true rfl⟩) rfl hl.1 rfl (Nat.le_of_ble_eq_true rfl) dX4_addTick_19 ⟨Nat.le_of_ble_eq_true rfl, Nat.le_of_ble_eq_true rfl⟩ (fun v_3 u H locs hp hM => ?_)
  obtain ⟨hv_, hu_⟩ := hp
  have hv_ := Eq.symm hv_
  have hu_ := Eq.symm hu_
  subst hv_
  subst hu_
  rw [show (isN (nI rr) 1 6 : Int32) = 1 from isN_k (lo := 1) (hi := 6) (by decide) hrra hrr]
  refine lv_if_eq (tgt := 35) hx hb dX4_addTick_22 (by decide) (fun c_4 => absurd c_4 (by decide)) (fun c_4 => ?_)
  refine lv_iload_n hx hb dX4_addTick_25 rfl (lv_at hl 3 rfl) ?_
  refine lv_iconst (v := 1) hx hb dX4_addTick_26 (by decide) ?_
  refine lv_bipush (v := 9) hx hb dX4_addTick_27 (by decide) ?_
  refine fb_callSi hx hb hml hown hts hM (As := [.int (nI d), .int 1, .int 9]) (rest := []) (c_X4_isIn D y l S V (t0 I o) (nI d) 1 9) (cwS 3 hts gX4_addTick_X4_isIn rfl rfl rfl (by decide +kernel) ⟨Nat.le_of_ble_eq_true rfl, Nat.le_of_ble_eq_true rfl⟩) rfl hl.1 rfl (Nat.le_of_ble_eq_true rfl) dX4_addTick_29 ⟨Nat.le_of_ble_eq_true rfl, Nat.le_of_ble_eq_true rfl⟩ (fun v_5 u H locs hp hM => ?_)
  obtain ⟨hv_, hu_⟩ := hp
  have hv_ := Eq.symm hv_
  have hu_ := Eq.symm hu_
  subst hv_
  subst hu_
  rw [show (isN (nI d) 1 9 : Int32) = 1 from isN_k (lo := 1) (hi := 9) (by decide) hda hd]
  refine lv_if_ne (tgt := 41) hx hb dX4_addTick_32 (by decide) (fun c_6 => ?_) (fun c_6 => absurd c_6 (by decide))
  refine lv_aload_n hx hb dX4_addTick_41 rfl (lv_at hl 0 rfl) ?_
  refine fb_get (r := o) hx hb hown hts hin4 hM ((hA.1).1) (ce4 ((hA.1).2)) rfl 6 (by decide) (hts (.fieldLink RX4 50 "FeatherBedsModel" "ticks" "I") (by decide +kernel)) (fun _ h9 => h9) (v := .int (nI nt)) (congrArg (fun z => some (Value.int z)) ((t0_f I o (by decide)).trans hF.2.1)) dX4_addTick_42 ?_
  refine lv_bipush (v := 6) hx hb dX4_addTick_45 (by decide) ?_
  refine lv_icmp_ne (tgt := 56) hx hb dX4_addTick_47 (by decide) (fun c_7 => ?_) (fun c_7 => absurd c_7 (fun z => by have := (nI_eq (a := nt) (b := 6) (by omega) (by omega)).mp z; omega))
  refine lv_iconst (v := 3) hx hb dX4_addTick_56 (by decide) ?_
  refine fb_mka6 hx hb (hts (.arrayClass .int) (by decide +kernel)) hM (n := 3) (by decide) (by decide) (Nat.le_of_ble_eq_true rfl) (Nat.le_of_ble_eq_true rfl) (Nat.le_of_ble_eq_true rfl) dX4_addTick_57 (o + 31) hn3 (fun q1 H hM => ?_)
  have e1 : Ext (fun x => x = o + 31) S (fb_new S (o + 31) q1 6 3) := Ext.new _ _ _ _ rfl
  have f1 := RA.new S (o + 31) q1 6 3
  have f2 := nw_a S (o + 31) q1 6 3
  obtain ⟨S1, eS1⟩ : ∃ S1, S1 = fb_new S (o + 31) q1 6 3 := ⟨_, rfl⟩
  rw [← eS1] at hM
  rw [← eS1] at e1 f1 f2
  have hA1 := hA.ext e1 (by omega) (fun x _ _ => by omega) (fun t _ => ⟨by omega, by omega⟩)
  have k1 : sa S1 o = sa S o := AA.ext e1 (by omega)
  have hF1 : MF (va_up (t0 I o) (o + 31) (fun _ => 0)) o ns nt cf rf df := hF.t0.up _ (by omega) (by omega) (by omega)
  refine W.eq (g2 := F0 mv 59 ls [.ref (sa S1 (o + 31))]) (by rw [f2]) ?_
  rw [← k1] at hl
  refine lv_dup hx hb dX4_addTick_59 rfl ?_
  refine lv_iconst (v := 0) hx hb dX4_addTick_60 (by decide) ?_
  refine lv_iload_n hx hb dX4_addTick_61 rfl (lv_at hl 1 rfl) ?_
  refine fb_iast (r := (o + 31)) hx hb hM (f1.1) (ce6 (f1.2.1)) (k := 0) (by decide) (by rw [f1.2.2]; exact vp_in_nI (n := 0) (by decide) (by decide)) dX4_addTick_62 (up_I (j := 0) (by rw [ce6 (S := S1) (f1.2.1)]; simp [va_up])) (w' := (S1, V, (sT V), (va_up (va_up (t0 I o) (o + 31) (fun _ => 0)) (o + 31) (upd ((va_up (t0 I o) (o + 31) (fun _ => 0)) (o + 31)) 0 (nI c))))) ⟨rfl, rfl, rfl⟩ (fun H locs hM => ?_)
  refine lv_dup hx hb dX4_addTick_63 rfl ?_
  refine lv_iconst (v := 1) hx hb dX4_addTick_64 (by decide) ?_
  refine lv_iload_n hx hb dX4_addTick_65 rfl (lv_at hl 2 rfl) ?_
  refine fb_iast (r := (o + 31)) hx hb hM (f1.1) (ce6 (f1.2.1)) (k := 1) (by decide) (by rw [f1.2.2]; exact vp_in_nI (n := 1) (by decide) (by decide)) dX4_addTick_66 (up_I (j := 1) (by rw [ce6 (S := S1) (f1.2.1)]; simp [va_up])) (w' := (S1, V, (sT V), (va_up (va_up (va_up (t0 I o) (o + 31) (fun _ => 0)) (o + 31) (upd ((va_up (t0 I o) (o + 31) (fun _ => 0)) (o + 31)) 0 (nI c))) (o + 31) (upd ((va_up (va_up (t0 I o) (o + 31) (fun _ => 0)) (o + 31) (upd ((va_up (t0 I o) (o + 31) (fun _ => 0)) (o + 31)) 0 (nI c))) (o + 31)) 1 (nI rr))))) ⟨rfl, rfl, rfl⟩ (fun H locs hM => ?_)
  refine lv_dup hx hb dX4_addTick_67 rfl ?_
  refine lv_iconst (v := 2) hx hb dX4_addTick_68 (by decide) ?_
  refine lv_iload_n hx hb dX4_addTick_69 rfl (lv_at hl 3 rfl) ?_
  refine fb_iast (r := (o + 31)) hx hb hM (f1.1) (ce6 (f1.2.1)) (k := 2) (by decide) (by rw [f1.2.2]; exact vp_in_nI (n := 2) (by decide) (by decide)) dX4_addTick_70 (up_I (j := 2) (by rw [ce6 (S := S1) (f1.2.1)]; simp [va_up])) (w' := (S1, V, (sT V), (va_up (va_up (va_up (va_up (t0 I o) (o + 31) (fun _ => 0)) (o + 31) (upd ((va_up (t0 I o) (o + 31) (fun _ => 0)) (o + 31)) 0 (nI c))) (o + 31) (upd ((va_up (va_up (t0 I o) (o + 31) (fun _ => 0)) (o + 31) (upd ((va_up (t0 I o) (o + 31) (fun _ => 0)) (o + 31)) 0 (nI c))) (o + 31)) 1 (nI rr))) (o + 31) (upd ((va_up (va_up (va_up (t0 I o) (o + 31) (fun _ => 0)) (o + 31) (upd ((va_up (t0 I o) (o + 31) (fun _ => 0)) (o + 31)) 0 (nI c))) (o + 31) (upd ((va_up (va_up (t0 I o) (o + 31) (fun _ => 0)) (o + 31) (upd ((va_up (t0 I o) (o + 31) (fun _ => 0)) (o + 31)) 0 (nI c))) (o + 31)) 1 (nI rr))) (o + 31)) 2 (nI d))))) ⟨rfl, rfl, rfl⟩ (fun H locs hM => ?_)
  have eI : (va_up (va_up (va_up (va_up (t0 I o) (o + 31) (fun _ => 0)) (o + 31) (upd ((va_up (t0 I o) (o + 31) (fun _ => 0)) (o + 31)) 0 (nI c))) (o + 31) (upd ((va_up (va_up (t0 I o) (o + 31) (fun _ => 0)) (o + 31) (upd ((va_up (t0 I o) (o + 31) (fun _ => 0)) (o + 31)) 0 (nI c))) (o + 31)) 1 (nI rr))) (o + 31) (upd ((va_up (va_up (va_up (t0 I o) (o + 31) (fun _ => 0)) (o + 31) (upd ((va_up (t0 I o) (o + 31) (fun _ => 0)) (o + 31)) 0 (nI c))) (o + 31) (upd ((va_up (va_up (t0 I o) (o + 31) (fun _ => 0)) (o + 31) (upd ((va_up (t0 I o) (o + 31) (fun _ => 0)) (o + 31)) 0 (nI c))) (o + 31)) 1 (nI rr))) (o + 31)) 2 (nI d))) = (va_up (t0 I o) (o + 31) (upd (upd (upd (fun _ => 0) 0 (nI c)) 1 (nI rr)) 2 (nI d))) := by rw [up_up, up_up, up_up, va_up_self, va_up_self, va_up_self]
  rw [eI] at hM
  clear eI
  have hF1 : MF (va_up (t0 I o) (o + 31) (upd (upd (upd (fun _ => 0) 0 (nI c)) 1 (nI rr)) 2 (nI d))) o ns nt cf rf df := hF.t0.up _ (by omega) (by omega) (by omega)
  refine lv_astore (lv' := [(4, .ref (sa S1 (o + 31))), (0, .ref (sa S1 o)), (1, .int (nI c)), (2, .int (nI rr)), (3, .int (nI d))]) hx hb dX4_addTick_71 hl (by decide) rfl (fun ls hl => ?_)
  refine lv_aload hx hb dX4_addTick_73 (lv_at hl 0 rfl) ?_
  refine lv_iconst (v := 0) hx hb dX4_addTick_75 (by decide) ?_
  refine lv_aload_n hx hb dX4_addTick_76 rfl (lv_at hl 1 rfl) ?_
  refine fb_get (r := o) hx hb hown hts hin4 hM ((hA1.1).1) (ce4 ((hA1.1).2)) rfl 7 (by decide) (hts (.fieldLink RX4 23 "FeatherBedsModel" "tickTable" "[I") (by decide +kernel)) (fun _ h9 => h9) (v := .ref (sa S1 (o + 4))) (congrArg (fun z => some (va_rf z)) ((hA1.2.1).2.2.2.1)) dX4_addTick_77 ?_
  refine lv_iconst (v := 3) hx hb dX4_addTick_80 (by decide) ?_
  refine lv_aload_n hx hb dX4_addTick_81 rfl (lv_at hl 1 rfl) ?_
  refine fb_get (r := o) hx hb hown hts hin4 hM ((hA1.1).1) (ce4 ((hA1.1).2)) rfl 6 (by decide) (hts (.fieldLink RX4 50 "FeatherBedsModel" "ticks" "I") (by decide +kernel)) (fun _ h9 => h9) (v := .int (nI nt)) (congrArg (fun z => some (Value.int z)) ((by simp (discharger := omega) only [va_up_ne]; exact (t0_f I o (by decide)).trans hF.2.1))) dX4_addTick_82 ?_
  refine lv_imul hx hb dX4_addTick_85 ?_
  refine W.eq (g2 := F0 mv _ ls (.int (nI (3 * nt)) :: .ref (sa S1 (o + 4)) :: .int 0 :: .ref (sa S1 (o + 31)) :: [])) (by first | rfl | rw [show (3 * (nI nt) : Int32) = nI (3 * nt) from pk_mul 3 nt]) ?_
  refine lv_iconst (v := 3) hx hb dX4_addTick_86 (by decide) ?_
  refine fb_copyd hx hb (hml.trans hl.1.symm) hown (hts (.methodLink RX4 99 arraycopyName) (by decide +kernel)) (hts (.native arraycopyName) (by decide +kernel)) (hts (.static arraycopyName) (by decide +kernel)) (hts (.initialized "java/lang/System") (by decide +kernel)) hM (r := o + 31) (r1 := o + 4) (n1 := 18) f1.1 f1.2.1 ((hA1.2.2.2.2.2.1).1) ((hA1.2.2.2.2.2.1).2.1) (by omega) ((hA1.2.2.2.2.2.1).2.2) (n := 3) (d := 3 * nt) f1.2.2 (nI_clamp (by omega)) (nI_pos (by omega)) (by omega) (by decide) (by decide) (Nat.le_of_ble_eq_true rfl) (Nat.le_of_ble_eq_true rfl) dX4_addTick_87 (fun H locs hM => ?_)
  have eI : (va_up (va_up (t0 I o) (o + 31) (upd (upd (upd (fun _ => 0) 0 (nI c)) 1 (nI rr)) 2 (nI d))) (o + 4) (va_cpy ((va_up (t0 I o) (o + 31) (upd (upd (upd (fun _ => 0) 0 (nI c)) 1 (nI rr)) 2 (nI d))) (o + 31)) ((va_up (t0 I o) (o + 31) (upd (upd (upd (fun _ => 0) 0 (nI c)) 1 (nI rr)) 2 (nI d))) (o + 4)) 0 (3 * nt) 3)) = (va_up (va_up (t0 I o) (o + 31) (upd (upd (upd (fun _ => 0) 0 (nI c)) 1 (nI rr)) 2 (nI d))) (o + 4) (tbl (I (o + 4)) nt c rr d)) := by rw [va_up_self, va_up_ne _ _ (show o + 4 ≠ o + 31 by omega), t0_ne I (show o + 4 ≠ o by omega), tbl_cpy]
  rw [eI] at hM
  clear eI
  refine lv_aload_n hx hb dX4_addTick_90 rfl (lv_at hl 1 rfl) ?_
  refine fb_get (r := o) hx hb hown hts hin4 hM ((hA1.1).1) (ce4 ((hA1.1).2)) rfl 8 (by decide) (hts (.fieldLink RX4 27 "FeatherBedsModel" "squares" "[[I") (by decide +kernel)) (fun _ h9 => h9) (v := .ref (sa S1 (o + 5))) (congrArg (fun z => some (va_rf z)) ((hA1.2.1).2.2.2.2.1)) dX4_addTick_91 ?_
  refine lv_aload_n hx hb dX4_addTick_94 rfl (lv_at hl 1 rfl) ?_
  refine fb_get (r := o) hx hb hown hts hin4 hM ((hA1.1).1) (ce4 ((hA1.1).2)) rfl 6 (by decide) (hts (.fieldLink RX4 50 "FeatherBedsModel" "ticks" "I") (by decide +kernel)) (fun _ h9 => h9) (v := .int (nI nt)) (congrArg (fun z => some (Value.int z)) ((by simp (discharger := omega) only [va_up_ne]; exact (t0_f I o (by decide)).trans hF.2.1))) dX4_addTick_95 ?_
  refine lv_bipush (v := 6) hx hb dX4_addTick_98 (by decide) ?_
  refine lv_iload_n hx hb dX4_addTick_100 rfl (lv_at hl 2 rfl) ?_
  refine lv_imul hx hb dX4_addTick_101 ?_
  refine W.eq (g2 := F0 mv _ ls (.int (nI (6 * c)) :: .int (nI nt) :: .ref (sa S1 (o + 5)) :: [])) (by first | rfl | rw [show (6 * (nI c) : Int32) = nI (6 * c) from pk_mul 6 c]) ?_
  refine lv_iload_n hx hb dX4_addTick_102 rfl (lv_at hl 3 rfl) ?_
  refine lv_imul hx hb dX4_addTick_103 ?_
  refine W.eq (g2 := F0 mv _ ls (.int (nI (6 * (c * rr))) :: .int (nI nt) :: .ref (sa S1 (o + 5)) :: [])) (by first | rfl | rw [show ((nI (6 * c)) * (nI rr) : Int32) = nI (6 * (c * rr)) from by rw [pk_mul, Nat.mul_assoc]]) ?_
  have w1 : o + 10 + nt ∉ sR S1 := NA.ext e1 (by omega) hn1
  refine fb_mka6 hx hb (hts (.arrayClass .int) (by decide +kernel)) hM (n := (6 * (c * rr))) (nI_pos (by omega)) (nI_clamp (by omega)) (by omega) (by show 0 + 1 + 1 ≤ 3; omega) (by show 0 + 3 + _ ≤ 300; omega) dX4_addTick_104 (o + 10 + nt) w1 (fun q2 H hM => ?_)
  have e2 : Ext (fun x => x = o + 10 + nt) S1 (fb_new S1 (o + 10 + nt) q2 6 (6 * (c * rr))) := Ext.new _ _ _ _ rfl
  have g1 := RA.new S1 (o + 10 + nt) q2 6 (6 * (c * rr))
  have g2 := nw_a S1 (o + 10 + nt) q2 6 (6 * (c * rr))
  obtain ⟨S2, eS2⟩ : ∃ S2, S2 = fb_new S1 (o + 10 + nt) q2 6 (6 * (c * rr)) := ⟨_, rfl⟩
  rw [← eS2] at hM
  rw [← eS2] at e2 g1 g2
  have hA2 := hA1.ext e2 (by omega) (fun x _ _ => by omega) (fun t _ => ⟨by omega, by omega⟩)
  have k2 : sa S2 o = sa S1 o := AA.ext e2 (by omega)
  have k25 : sa S2 (o + 5) = sa S1 (o + 5) := AA.ext e2 (by omega)
  refine W.eq (g2 := F0 mv 106 ls [.ref (sa S2 (o + 10 + nt)), .int (nI nt), .ref (sa S2 (o + 5))]) (by rw [g2, k25]) ?_
  rw [← k2] at hl
  refine fb_aastA hx hb hM (r := o + 5) ((hA2.2.2.2.2.2.2.1).1) (ce10 ((hA2.2.2.2.2.2.2.1).2.1)) 4 0 (t := .int) rfl (by simp [fb_over, RX0]) rfl (fun h => h) (v := o + 10 + nt) g1.1 (ce6 g1.2.1) (k := nt) (nI_clamp (by omega)) (by rw [(hA2.2.2.2.2.2.2.1).2.2]; exact vp_in_nI (by omega) (by omega)) dX4_addTick_106 (upa_10 (v := some (sa S2 (o + 10 + nt))) ((hA2.2.2.2.2.2.2.1).2.1)) (w' := ((fb_setp S2 (o + 5) nt (some (sa S2 (o + 10 + nt)))), V, (sT V), (va_up (va_up (va_up (t0 I o) (o + 31) (upd (upd (upd (fun _ => 0) 0 (nI c)) 1 (nI rr)) 2 (nI d))) (o + 4) (tbl (I (o + 4)) nt c rr d)) (o + 10 + nt) (fun _ => 0)))) ⟨rfl, rfl, rfl⟩ (fun H locs hM => ?_)
  obtain ⟨S3, eS3⟩ : ∃ S3, S3 = fb_setp S2 (o + 5) nt (some (sa S2 (o + 10 + nt))) := ⟨_, rfl⟩
  rw [← eS3] at hM
  have hA3 : MdAt S3 o nt cf rf := by rw [eS3]; exact hA2.set5 _
  have e3 : Ext (fun x => x = o + 5) S2 S3 := by rw [eS3]; exact Ext.setp _ _ _ rfl
  have g13 : RA S3 (o + 10 + nt) 6 (6 * (c * rr)) := by rw [eS3]; exact g1
  have p13 : PA S3 (o + 5) nt (o + 10 + nt) := by rw [eS3]; exact PA.put _ _ _ _
  have k3 : sa S3 o = sa S2 o := by rw [eS3]; rfl
  rw [← k3] at hl
  refine lv_aload_n hx hb dX4_addTick_107 rfl (lv_at hl 1 rfl) ?_
  refine fb_get (r := o) hx hb hown hts hin4 hM ((hA3.1).1) (ce4 ((hA3.1).2)) rfl 9 (by decide) (hts (.fieldLink RX4 33 "FeatherBedsModel" "seams" "[[Z") (by decide +kernel)) (fun _ h9 => h9) (v := .ref (sa S3 (o + 6))) (congrArg (fun z => some (va_rf z)) ((hA3.2.1).2.2.2.2.2.1)) dX4_addTick_108 ?_
  refine lv_aload_n hx hb dX4_addTick_111 rfl (lv_at hl 1 rfl) ?_
  refine fb_get (r := o) hx hb hown hts hin4 hM ((hA3.1).1) (ce4 ((hA3.1).2)) rfl 6 (by decide) (hts (.fieldLink RX4 50 "FeatherBedsModel" "ticks" "I") (by decide +kernel)) (fun _ h9 => h9) (v := .int (nI nt)) (congrArg (fun z => some (Value.int z)) ((by simp (discharger := omega) only [va_up_ne]; exact (t0_f I o (by decide)).trans hF.2.1))) dX4_addTick_112 ?_
  refine lv_iconst (v := 2) hx hb dX4_addTick_115 (by decide) ?_
  refine lv_iload_n hx hb dX4_addTick_116 rfl (lv_at hl 2 rfl) ?_
  refine lv_imul hx hb dX4_addTick_117 ?_
  refine W.eq (g2 := F0 mv _ ls (.int (nI (2 * c)) :: .int (nI nt) :: .ref (sa S3 (o + 6)) :: [])) (by first | rfl | rw [show (2 * (nI c) : Int32) = nI (2 * c) from pk_mul 2 c]) ?_
  refine lv_iload_n hx hb dX4_addTick_118 rfl (lv_at hl 3 rfl) ?_
  refine lv_imul hx hb dX4_addTick_119 ?_
  refine W.eq (g2 := F0 mv _ ls (.int (nI (2 * (c * rr))) :: .int (nI nt) :: .ref (sa S3 (o + 6)) :: [])) (by first | rfl | rw [show ((nI (2 * c)) * (nI rr) : Int32) = nI (2 * (c * rr)) from by rw [pk_mul, Nat.mul_assoc]]) ?_
  have w2 : o + 20 + nt ∉ sR S3 := NA.ext e3 (by omega) (NA.ext e2 (by omega) (NA.ext e1 (by omega) hn2))
  refine fb_mka7 hx hb (hts (.arrayClass .boolean) (by decide +kernel)) hM (n := (2 * (c * rr))) (nI_pos (by omega)) (nI_clamp (by omega)) (by omega) (by show 0 + 1 + 1 + 1 ≤ 3; omega) (by show 0 + 3 + _ + _ ≤ 300; omega) dX4_addTick_120 (o + 20 + nt) w2 (fun q3 H hM => ?_)
  have e4 : Ext (fun x => x = o + 20 + nt) S3 (fb_new S3 (o + 20 + nt) q3 7 (2 * (c * rr))) := Ext.new _ _ _ _ rfl
  have h1 := RA.new S3 (o + 20 + nt) q3 7 (2 * (c * rr))
  have h2 := nw_a S3 (o + 20 + nt) q3 7 (2 * (c * rr))
  obtain ⟨S4, eS4⟩ : ∃ S4, S4 = fb_new S3 (o + 20 + nt) q3 7 (2 * (c * rr)) := ⟨_, rfl⟩
  rw [← eS4] at hM
  rw [← eS4] at e4 h1 h2
  have hA4 := hA3.ext e4 (by omega) (fun x _ _ => by omega) (fun t _ => ⟨by omega, by omega⟩)
  have g14 : RA S4 (o + 10 + nt) 6 (6 * (c * rr)) := g13.ext e4 (by omega)
  have p14 : PA S4 (o + 5) nt (o + 10 + nt) := p13.ext e4 (by omega) (by omega)
  have k4 : sa S4 o = sa S3 o := AA.ext e4 (by omega)
  have k46 : sa S4 (o + 6) = sa S3 (o + 6) := AA.ext e4 (by omega)
  refine W.eq (g2 := F0 mv 122 ls [.ref (sa S4 (o + 20 + nt)), .int (nI nt), .ref (sa S4 (o + 6))]) (by rw [h2, k46]) ?_
  rw [← k4] at hl
  refine fb_aastA hx hb hM (r := o + 6) ((hA4.2.2.2.2.2.2.2.1).1) (ce11 ((hA4.2.2.2.2.2.2.2.1).2.1)) 5 1 (t := .boolean) rfl (by simp [fb_over, RX0]) rfl (fun h => h) (v := o + 20 + nt) h1.1 (ce7 h1.2.1) (k := nt) (nI_clamp (by omega)) (by rw [(hA4.2.2.2.2.2.2.2.1).2.2]; exact vp_in_nI (by omega) (by omega)) dX4_addTick_122 (upa_11 (v := some (sa S4 (o + 20 + nt))) ((hA4.2.2.2.2.2.2.2.1).2.1)) (w' := ((fb_setp S4 (o + 6) nt (some (sa S4 (o + 20 + nt)))), V, (sT V), (va_up (va_up (va_up (va_up (t0 I o) (o + 31) (upd (upd (upd (fun _ => 0) 0 (nI c)) 1 (nI rr)) 2 (nI d))) (o + 4) (tbl (I (o + 4)) nt c rr d)) (o + 10 + nt) (fun _ => 0)) (o + 20 + nt) (fun _ => 0)))) ⟨rfl, rfl, rfl⟩ (fun H locs hM => ?_)
  obtain ⟨S5, eS5⟩ : ∃ S5, S5 = fb_setp S4 (o + 6) nt (some (sa S4 (o + 20 + nt))) := ⟨_, rfl⟩
  rw [← eS5] at hM
  have hA5 : MdAt S5 o nt cf rf := by rw [eS5]; exact hA4.set6 _
  have e5 : Ext (fun x => x = o + 6) S4 S5 := by rw [eS5]; exact Ext.setp _ _ _ rfl
  have h15 : RA S5 (o + 20 + nt) 7 (2 * (c * rr)) := by rw [eS5]; exact h1
  have p25 : PA S5 (o + 6) nt (o + 20 + nt) := by rw [eS5]; exact PA.put _ _ _ _
  have g15 : RA S5 (o + 10 + nt) 6 (6 * (c * rr)) := by rw [eS5]; exact g14
  have p15 : PA S5 (o + 5) nt (o + 10 + nt) := by rw [eS5]; exact p14.setp _ (Or.inl (by omega))
  have k5 : sa S5 o = sa S4 o := by rw [eS5]; rfl
  rw [← k5] at hl
  refine lv_aload_n hx hb dX4_addTick_123 rfl (lv_at hl 1 rfl) ?_
  refine lv_dup hx hb dX4_addTick_124 rfl ?_
  refine fb_get (r := o) hx hb hown hts hin4 hM ((hA5.1).1) (ce4 ((hA5.1).2)) rfl 6 (by decide) (hts (.fieldLink RX4 50 "FeatherBedsModel" "ticks" "I") (by decide +kernel)) (fun _ h9 => h9) (v := .int (nI nt)) (congrArg (fun z => some (Value.int z)) ((by simp (discharger := omega) only [va_up_ne]; exact (t0_f I o (by decide)).trans hF.2.1))) dX4_addTick_125 ?_
  refine lv_iconst (v := 1) hx hb dX4_addTick_128 (by decide) ?_
  refine lv_iadd hx hb dX4_addTick_129 ?_
  refine W.eq (g2 := F0 mv _ ls (.int (nI (nt + 1)) :: .ref (sa S5 o) :: [])) (by first | rfl | rw [show ((nI nt) + 1 : Int32) = nI (nt + 1) from nI_1 _]) ?_
  refine fb_put (r := o) hx hb hown hts hin4 tyX4 tyX4_ok nmX4 hM ((hA5.1).1) (ce4 ((hA5.1).2)) rfl 6 (by decide) (hts (.fieldLink RX4 50 "FeatherBedsModel" "ticks" "I") (by decide +kernel)) (fun _ h9 => h9) rfl (ty := .int) (by decide +kernel) rfl rfl (Nat.le_of_ble_eq_true rfl) dX4_addTick_130 (up_I (j := 6) (v := nI (nt + 1)) (by rw [ce4 (S := S5) ((hA5.1).2)]; simp [va_up, upd])) (w' := (S5, V, (sT V), (va_up (va_up (va_up (va_up (va_up (t0 I o) (o + 31) (upd (upd (upd (fun _ => 0) 0 (nI c)) 1 (nI rr)) 2 (nI d))) (o + 4) (tbl (I (o + 4)) nt c rr d)) (o + 10 + nt) (fun _ => 0)) (o + 20 + nt) (fun _ => 0)) o (upd ((va_up (va_up (va_up (va_up (t0 I o) (o + 31) (upd (upd (upd (fun _ => 0) 0 (nI c)) 1 (nI rr)) 2 (nI d))) (o + 4) (tbl (I (o + 4)) nt c rr d)) (o + 10 + nt) (fun _ => 0)) (o + 20 + nt) (fun _ => 0)) o) 6 (nI (nt + 1)))))) ⟨rfl, rfl, rfl⟩ (fun H locs hM => ?_)
  refine lv_aload_n hx hb dX4_addTick_133 rfl (lv_at hl 1 rfl) ?_
  refine fb_get (r := o) hx hb hown hts hin4 hM ((hA5.1).1) (ce4 ((hA5.1).2)) rfl 6 (by decide) (hts (.fieldLink RX4 50 "FeatherBedsModel" "ticks" "I") (by decide +kernel)) (fun _ h9 => h9) (v := .int (nI (nt + 1))) (congrArg (fun z => some (Value.int z)) ((by rw [va_up_self]; simp [upd]))) dX4_addTick_134 ?_
  refine lv_iconst (v := 1) hx hb dX4_addTick_137 (by decide) ?_
  refine lv_isub hx hb dX4_addTick_138 ?_
  refine W.eq (g2 := F0 mv _ ls (.int (nI nt) :: [])) (by first | rfl | rw [show ((nI (nt + 1)) - 1 : Int32) = nI nt from nI_pred _]) ?_
  have hM := fb_del_M (o + 31) hM
  have d1 := fb_del_ext S5 (o + 31)
  have hAz := (hA5.succ (c := c) (r := rr) g15 h15 p15 p25).ext d1 (by omega) (fun x _ _ => by omega) (fun t _ => ⟨by omega, by omega⟩)
  have eX : Ext (fun x => x = o + 5 ∨ x = o + 6 ∨ x = o + 10 + nt ∨ x = o + 20 + nt ∨ x = o + 31) S (fb_del S5 (o + 31)) := ((((e1.mono (fun x hx => by omega)).trans (e2.mono (fun x hx => by omega))).trans (e3.mono (fun x hx => by omega))).trans (e4.mono (fun x hx => by omega))).trans ((e5.mono (fun x hx => by omega)).trans (d1.mono (fun x hx => by omega)))
  rw [hQ]
  refine W.widen (show _ ≤ 3 from Nat.le_of_ble_eq_true rfl) (show _ ≤ 300 by omega) ?_
  exact fb_iret hx hb hr hlocks hM (⟨by rfl, fb_del S5 (o + 31), _, rfl, hAz, eX, fb_del_na _ _, fun x hx => by unfold tkI; by_cases e : x = o; (subst e; simp (discharger := omega) only [va_up_self, va_up_ne]); (simp only [va_up_ne _ _ e]; by_cases e2 : x = o + 20 + nt; (subst e2; simp only [va_up_self]); (simp only [va_up_ne _ _ e2]; by_cases e3 : x = o + 10 + nt; (subst e3; simp only [va_up_self]); (simp only [va_up_ne _ _ e3]; by_cases e4 : x = o + 4; (subst e4; simp only [va_up_self]); (simp only [va_up_ne _ _ e4, va_up_ne _ _ hx]))))⟩) dX4_addTick_139
