abbrev rm_X4_bestWind : Room := { frames := 2, cells := 0, slots := 0, locals := 46 }
set_option maxHeartbeats 4000000 in
set_option maxRecDepth 100000 in
theorem c_X4_bestWind_f0o (D : va_G) (y : Nat → ClassId) (l : Launch) (S : fb_Sh) (V I : fb_V) (o nt : Nat) (cf rf : Nat → Nat) (hA : MdAt S o nt cf rf) (ns : Nat) (df : Nat → Nat) (hF : MF I o ns nt cf rf df) (p0 : Int32) (ho : p0 < 0 ∨ nI ns ≤ p0) (p1 : Int32) (p2 : Int32) : CI D y l yX4_bestWind wsX4_bestWind rm_X4_bestWind [.ref (sa S o), .int p0, .int p1, .int p2] (S, V, (sT V), I) (fun z u => z = 0 ∧ u = (S, V, sT V, (tf I o 1))) 0 0 := by
  refine CI.of (cc := cX4_bestWind) (maxL := 12) (ret := (some .int)) (by decide) rfl (Nat.le_of_ble_eq_true rfl) ?_
  intro pv ev s mv below meth cv A hx hb hml hr hown hts hlocks hname hM ls hl
  have hown : s.vm.findClass RX4 = some mv.cls := hown
  have hl : lv_has ls 12 [(0, .ref (sa S o)), (1, .int p0), (2, .int p1), (3, .int p2)] := hl
  have hin4 : ∀ x ∈ wsX40, x ∈ wsX4_bestWind := by decide +kernel
  obtain ⟨Q, hQ⟩ : ∃ Q, Q = MQ below (va_Qi (fun z u => z = 0 ∧ u = (S, V, sT V, (tf I o 1))) (fun u t => fb_P D y A u t) A) (([.ref (sa S o), .int p0, .int p1, .int p2] : List Value).toArray) s 0 0 A := ⟨_, rfl⟩
  rw [← hQ]
  have hns : ns ≤ 12 := hF.2.2.1
  have hnt : nt ≤ 6 := hF.2.2.2.1
  refine lv_aload_n hx hb dX4_bestWind_0 rfl (lv_at hl 0 rfl) ?_
  refine lv_iconst (v := 0) hx hb dX4_bestWind_1 (by decide) ?_
  refine fb_put (r := o) hx hb hown hts hin4 tyX4 tyX4_ok nmX4 hM ((hA.1).1) (ce4 ((hA.1).2)) rfl 0 (by decide) (hts (.fieldLink RX4 40 "FeatherBedsModel" "thrown" "I") (by decide +kernel)) (fun _ h9 => h9) rfl (ty := .int) (by decide +kernel) rfl rfl (Nat.le_of_ble_eq_true rfl) dX4_bestWind_2 (up_I (j := 0) (v := 0) (by rw [ce4 ((hA.1).2)]; simp [va_up, upd])) (w' := (S, V, (sT V), (va_up I o (upd (I o) 0 0)))) ⟨rfl, rfl, rfl⟩ (fun H locs hM => ?_)
  have eI : (va_up I o (upd (I o) 0 0)) = (t0 I o) := rfl
  rw [eI] at hM
  clear eI
  refine lv_aload_n hx hb dX4_bestWind_5 rfl (lv_at hl 0 rfl) ?_
  refine lv_iload_n hx hb dX4_bestWind_6 rfl (lv_at hl 1 rfl) ?_
  refine fb_callVi (r := o) hx hb hml hown hts hM ((hA.1).1) (ce4 ((hA.1).2)) rfl (As := [.int p0]) (rest := []) (c_X4_isSack D y l S V (t0 I o) o nt cf rf hA ns df hF.t0 p0) (cwV 1 hts gX4_bestWind_X4_isSack rfl rfl rfl (by decide +kernel) ⟨Nat.le_of_ble_eq_true rfl, Nat.le_of_ble_eq_true rfl⟩) rfl hl.1 rfl (Nat.le_of_ble_eq_true rfl) dX4_bestWind_7 ⟨Nat.le_of_ble_eq_true rfl, Nat.le_of_ble_eq_true rfl⟩ (fun v_1 u H locs hp hM => ?_)
  obtain ⟨hv_, hu_⟩ := hp
  have hv_ := Eq.symm hv_
  have hu_ := Eq.symm hu_
  subst hv_
  subst hu_
  rw [show (isN p0 0 (nI ns - 1) : Int32) = 0 from isN_out (by omega) ho]
  refine lv_if_eq (tgt := 31) hx hb dX4_bestWind_10 (by decide) (fun c_2 => ?_) (fun c_2 => absurd (by decide) c_2)
  refine lv_aload_n hx hb dX4_bestWind_31 rfl (lv_at hl 0 rfl) ?_
  refine lv_iconst (v := 1) hx hb dX4_bestWind_32 (by decide) ?_
  refine fb_callVi (r := o) hx hb hml hown hts hM ((hA.1).1) (ce4 ((hA.1).2)) rfl (As := [.int 1]) (rest := []) (c_X4_fail D y l S V (t0 I o) o nt cf rf hA 1) (cwV 1 hts gX4_bestWind_X4_fail rfl rfl rfl (by decide +kernel) ⟨Nat.le_of_ble_eq_true rfl, Nat.le_of_ble_eq_true rfl⟩) rfl hl.1 rfl (Nat.le_of_ble_eq_true rfl) dX4_bestWind_33 ⟨Nat.le_of_ble_eq_true rfl, Nat.le_of_ble_eq_true rfl⟩ (fun v_3 u H locs hp hM => ?_)
  obtain ⟨hv_, hu_⟩ := hp
  have hv_ := Eq.symm hv_
  have hu_ := Eq.symm hu_
  subst hv_
  subst hu_
  have eI : (tf (t0 I o) o 1) = (tf I o 1) := tf_t0 _ _ _
  rw [eI] at hM
  clear eI
  rw [hQ]
  exact fb_iret hx hb hr hlocks hM (⟨rfl, rfl⟩) dX4_bestWind_36

set_option maxHeartbeats 4000000 in
set_option maxRecDepth 100000 in
theorem c_X4_bestWind_f1o (D : va_G) (y : Nat → ClassId) (l : Launch) (S : fb_Sh) (V I : fb_V) (o nt : Nat) (cf rf : Nat → Nat) (hA : MdAt S o nt cf rf) (ns : Nat) (df : Nat → Nat) (hF : MF I o ns nt cf rf df) (i : Nat) (hi : i < ns) (p1 : Int32) (ho : p1 < 0 ∨ 4 < p1) (p2 : Int32) : CI D y l yX4_bestWind wsX4_bestWind rm_X4_bestWind [.ref (sa S o), .int (nI i), .int p1, .int p2] (S, V, (sT V), I) (fun z u => z = 0 ∧ u = (S, V, sT V, (tf I o 1))) 0 0 := by
  refine CI.of (cc := cX4_bestWind) (maxL := 12) (ret := (some .int)) (by decide) rfl (Nat.le_of_ble_eq_true rfl) ?_
  intro pv ev s mv below meth cv A hx hb hml hr hown hts hlocks hname hM ls hl
  have hown : s.vm.findClass RX4 = some mv.cls := hown
  have hl : lv_has ls 12 [(0, .ref (sa S o)), (1, .int (nI i)), (2, .int p1), (3, .int p2)] := hl
  have hin4 : ∀ x ∈ wsX40, x ∈ wsX4_bestWind := by decide +kernel
  obtain ⟨Q, hQ⟩ : ∃ Q, Q = MQ below (va_Qi (fun z u => z = 0 ∧ u = (S, V, sT V, (tf I o 1))) (fun u t => fb_P D y A u t) A) (([.ref (sa S o), .int (nI i), .int p1, .int p2] : List Value).toArray) s 0 0 A := ⟨_, rfl⟩
  rw [← hQ]
  have hns : ns ≤ 12 := hF.2.2.1
  have hnt : nt ≤ 6 := hF.2.2.2.1
  refine lv_aload_n hx hb dX4_bestWind_0 rfl (lv_at hl 0 rfl) ?_
  refine lv_iconst (v := 0) hx hb dX4_bestWind_1 (by decide) ?_
  refine fb_put (r := o) hx hb hown hts hin4 tyX4 tyX4_ok nmX4 hM ((hA.1).1) (ce4 ((hA.1).2)) rfl 0 (by decide) (hts (.fieldLink RX4 40 "FeatherBedsModel" "thrown" "I") (by decide +kernel)) (fun _ h9 => h9) rfl (ty := .int) (by decide +kernel) rfl rfl (Nat.le_of_ble_eq_true rfl) dX4_bestWind_2 (up_I (j := 0) (v := 0) (by rw [ce4 ((hA.1).2)]; simp [va_up, upd])) (w' := (S, V, (sT V), (va_up I o (upd (I o) 0 0)))) ⟨rfl, rfl, rfl⟩ (fun H locs hM => ?_)
  have eI : (va_up I o (upd (I o) 0 0)) = (t0 I o) := rfl
  rw [eI] at hM
  clear eI
  refine lv_aload_n hx hb dX4_bestWind_5 rfl (lv_at hl 0 rfl) ?_
  refine lv_iload_n hx hb dX4_bestWind_6 rfl (lv_at hl 1 rfl) ?_
  refine fb_callVi (r := o) hx hb hml hown hts hM ((hA.1).1) (ce4 ((hA.1).2)) rfl (As := [.int (nI i)]) (rest := []) (c_X4_isSack D y l S V (t0 I o) o nt cf rf hA ns df hF.t0 (nI i)) (cwV 1 hts gX4_bestWind_X4_isSack rfl rfl rfl (by decide +kernel) ⟨Nat.le_of_ble_eq_true rfl, Nat.le_of_ble_eq_true rfl⟩) rfl hl.1 rfl (Nat.le_of_ble_eq_true rfl) dX4_bestWind_7 ⟨Nat.le_of_ble_eq_true rfl, Nat.le_of_ble_eq_true rfl⟩ (fun v_1 u H locs hp hM => ?_)
  obtain ⟨hv_, hu_⟩ := hp
  have hv_ := Eq.symm hv_
  have hu_ := Eq.symm hu_
  subst hv_
  subst hu_
  rw [show (isN (nI i) 0 (nI ns - 1) : Int32) = 1 from isN_in (by omega) hi]
  refine lv_if_eq (tgt := 31) hx hb dX4_bestWind_10 (by decide) (fun c_2 => absurd c_2 (by decide)) (fun c_2 => ?_)
  refine lv_iload_n hx hb dX4_bestWind_13 rfl (lv_at hl 2 rfl) ?_
  refine lv_iconst (v := 0) hx hb dX4_bestWind_14 (by decide) ?_
  refine lv_iconst (v := 4) hx hb dX4_bestWind_15 (by decide) ?_
  refine fb_callSi hx hb hml hown hts hM (As := [.int p1, .int 0, .int 4]) (rest := []) (c_X4_isIn D y l S V (t0 I o) p1 0 4) (cwS 3 hts gX4_bestWind_X4_isIn rfl rfl rfl (by decide +kernel) ⟨Nat.le_of_ble_eq_true rfl, Nat.le_of_ble_eq_true rfl⟩) rfl hl.1 rfl (Nat.le_of_ble_eq_true rfl) dX4_bestWind_16 ⟨Nat.le_of_ble_eq_true rfl, Nat.le_of_ble_eq_true rfl⟩ (fun v_3 u H locs hp hM => ?_)
  obtain ⟨hv_, hu_⟩ := hp
  have hv_ := Eq.symm hv_
  have hu_ := Eq.symm hu_
  subst hv_
  subst hu_
  rw [show (isN p1 0 4 : Int32) = 0 from isN_0 ho]
  refine lv_if_eq (tgt := 31) hx hb dX4_bestWind_19 (by decide) (fun c_4 => ?_) (fun c_4 => absurd (by decide) c_4)
  refine lv_aload_n hx hb dX4_bestWind_31 rfl (lv_at hl 0 rfl) ?_
  refine lv_iconst (v := 1) hx hb dX4_bestWind_32 (by decide) ?_
  refine fb_callVi (r := o) hx hb hml hown hts hM ((hA.1).1) (ce4 ((hA.1).2)) rfl (As := [.int 1]) (rest := []) (c_X4_fail D y l S V (t0 I o) o nt cf rf hA 1) (cwV 1 hts gX4_bestWind_X4_fail rfl rfl rfl (by decide +kernel) ⟨Nat.le_of_ble_eq_true rfl, Nat.le_of_ble_eq_true rfl⟩) rfl hl.1 rfl (Nat.le_of_ble_eq_true rfl) dX4_bestWind_33 ⟨Nat.le_of_ble_eq_true rfl, Nat.le_of_ble_eq_true rfl⟩ (fun v_5 u H locs hp hM => ?_)
  obtain ⟨hv_, hu_⟩ := hp
  have hv_ := Eq.symm hv_
  have hu_ := Eq.symm hu_
  subst hv_
  subst hu_
  have eI : (tf (t0 I o) o 1) = (tf I o 1) := tf_t0 _ _ _
  rw [eI] at hM
  clear eI
  rw [hQ]
  exact fb_iret hx hb hr hlocks hM (⟨rfl, rfl⟩) dX4_bestWind_36

set_option maxHeartbeats 4000000 in
set_option maxRecDepth 100000 in
theorem c_X4_bestWind_f2o (D : va_G) (y : Nat → ClassId) (l : Launch) (S : fb_Sh) (V I : fb_V) (o nt : Nat) (cf rf : Nat → Nat) (hA : MdAt S o nt cf rf) (ns : Nat) (df : Nat → Nat) (hF : MF I o ns nt cf rf df) (i : Nat) (hi : i < ns) (c : Nat) (hca : 0 ≤ c) (hc : c ≤ 4) (p2 : Int32) (ho : p2 < 0 ∨ 5 < p2) : CI D y l yX4_bestWind wsX4_bestWind rm_X4_bestWind [.ref (sa S o), .int (nI i), .int (nI c), .int p2] (S, V, (sT V), I) (fun z u => z = 0 ∧ u = (S, V, sT V, (tf I o 1))) 0 0 := by
  refine CI.of (cc := cX4_bestWind) (maxL := 12) (ret := (some .int)) (by decide) rfl (Nat.le_of_ble_eq_true rfl) ?_
  intro pv ev s mv below meth cv A hx hb hml hr hown hts hlocks hname hM ls hl
  have hown : s.vm.findClass RX4 = some mv.cls := hown
  have hl : lv_has ls 12 [(0, .ref (sa S o)), (1, .int (nI i)), (2, .int (nI c)), (3, .int p2)] := hl
  have hin4 : ∀ x ∈ wsX40, x ∈ wsX4_bestWind := by decide +kernel
  obtain ⟨Q, hQ⟩ : ∃ Q, Q = MQ below (va_Qi (fun z u => z = 0 ∧ u = (S, V, sT V, (tf I o 1))) (fun u t => fb_P D y A u t) A) (([.ref (sa S o), .int (nI i), .int (nI c), .int p2] : List Value).toArray) s 0 0 A := ⟨_, rfl⟩
  rw [← hQ]
  have hns : ns ≤ 12 := hF.2.2.1
  have hnt : nt ≤ 6 := hF.2.2.2.1
  refine lv_aload_n hx hb dX4_bestWind_0 rfl (lv_at hl 0 rfl) ?_
  refine lv_iconst (v := 0) hx hb dX4_bestWind_1 (by decide) ?_
  refine fb_put (r := o) hx hb hown hts hin4 tyX4 tyX4_ok nmX4 hM ((hA.1).1) (ce4 ((hA.1).2)) rfl 0 (by decide) (hts (.fieldLink RX4 40 "FeatherBedsModel" "thrown" "I") (by decide +kernel)) (fun _ h9 => h9) rfl (ty := .int) (by decide +kernel) rfl rfl (Nat.le_of_ble_eq_true rfl) dX4_bestWind_2 (up_I (j := 0) (v := 0) (by rw [ce4 ((hA.1).2)]; simp [va_up, upd])) (w' := (S, V, (sT V), (va_up I o (upd (I o) 0 0)))) ⟨rfl, rfl, rfl⟩ (fun H locs hM => ?_)
  have eI : (va_up I o (upd (I o) 0 0)) = (t0 I o) := rfl
  rw [eI] at hM
  clear eI
  refine lv_aload_n hx hb dX4_bestWind_5 rfl (lv_at hl 0 rfl) ?_
  refine lv_iload_n hx hb dX4_bestWind_6 rfl (lv_at hl 1 rfl) ?_
  refine fb_callVi (r := o) hx hb hml hown hts hM ((hA.1).1) (ce4 ((hA.1).2)) rfl (As := [.int (nI i)]) (rest := []) (c_X4_isSack D y l S V (t0 I o) o nt cf rf hA ns df hF.t0 (nI i)) (cwV 1 hts gX4_bestWind_X4_isSack rfl rfl rfl (by decide +kernel) ⟨Nat.le_of_ble_eq_true rfl, Nat.le_of_ble_eq_true rfl⟩) rfl hl.1 rfl (Nat.le_of_ble_eq_true rfl) dX4_bestWind_7 ⟨Nat.le_of_ble_eq_true rfl, Nat.le_of_ble_eq_true rfl⟩ (fun v_1 u H locs hp hM => ?_)
  obtain ⟨hv_, hu_⟩ := hp
  have hv_ := Eq.symm hv_
  have hu_ := Eq.symm hu_
  subst hv_
  subst hu_
  rw [show (isN (nI i) 0 (nI ns - 1) : Int32) = 1 from isN_in (by omega) hi]
  refine lv_if_eq (tgt := 31) hx hb dX4_bestWind_10 (by decide) (fun c_2 => absurd c_2 (by decide)) (fun c_2 => ?_)
  refine lv_iload_n hx hb dX4_bestWind_13 rfl (lv_at hl 2 rfl) ?_
  refine lv_iconst (v := 0) hx hb dX4_bestWind_14 (by decide) ?_
  refine lv_iconst (v := 4) hx hb dX4_bestWind_15 (by decide) ?_
  refine fb_callSi hx hb hml hown hts hM (As := [.int (nI c), .int 0, .int 4]) (rest := []) (c_X4_isIn D y l S V (t0 I o) (nI c) 0 4) (cwS 3 hts gX4_bestWind_X4_isIn rfl rfl rfl (by decide +kernel) ⟨Nat.le_of_ble_eq_true rfl, Nat.le_of_ble_eq_true rfl⟩) rfl hl.1 rfl (Nat.le_of_ble_eq_true rfl) dX4_bestWind_16 ⟨Nat.le_of_ble_eq_true rfl, Nat.le_of_ble_eq_true rfl⟩ (fun v_3 u H locs hp hM => ?_)
  obtain ⟨hv_, hu_⟩ := hp
  have hv_ := Eq.symm hv_
  have hu_ := Eq.symm hu_
  subst hv_
  subst hu_
  rw [show (isN (nI c) 0 4 : Int32) = 1 from isN_k (lo := 0) (hi := 4) (by decide) hca hc]
  refine lv_if_eq (tgt := 31) hx hb dX4_bestWind_19 (by decide) (fun c_4 => absurd c_4 (by decide)) (fun c_4 => ?_)
  refine lv_iload_n hx hb dX4_bestWind_22 rfl (lv_at hl 3 rfl) ?_
  refine lv_iconst (v := 0) hx hb dX4_bestWind_23 (by decide) ?_
  refine lv_iconst (v := 5) hx hb dX4_bestWind_24 (by decide) ?_
  refine fb_callSi hx hb hml hown hts hM (As := [.int p2, .int 0, .int 5]) (rest := []) (c_X4_isIn D y l S V (t0 I o) p2 0 5) (cwS 3 hts gX4_bestWind_X4_isIn rfl rfl rfl (by decide +kernel) ⟨Nat.le_of_ble_eq_true rfl, Nat.le_of_ble_eq_true rfl⟩) rfl hl.1 rfl (Nat.le_of_ble_eq_true rfl) dX4_bestWind_25 ⟨Nat.le_of_ble_eq_true rfl, Nat.le_of_ble_eq_true rfl⟩ (fun v_5 u H locs hp hM => ?_)
  obtain ⟨hv_, hu_⟩ := hp
  have hv_ := Eq.symm hv_
  have hu_ := Eq.symm hu_
  subst hv_
  subst hu_
  rw [show (isN p2 0 5 : Int32) = 0 from isN_0 ho]
  refine lv_if_ne (tgt := 37) hx hb dX4_bestWind_28 (by decide) (fun c_6 => absurd (by decide) c_6) (fun c_6 => ?_)
  refine lv_aload_n hx hb dX4_bestWind_31 rfl (lv_at hl 0 rfl) ?_
  refine lv_iconst (v := 1) hx hb dX4_bestWind_32 (by decide) ?_
  refine fb_callVi (r := o) hx hb hml hown hts hM ((hA.1).1) (ce4 ((hA.1).2)) rfl (As := [.int 1]) (rest := []) (c_X4_fail D y l S V (t0 I o) o nt cf rf hA 1) (cwV 1 hts gX4_bestWind_X4_fail rfl rfl rfl (by decide +kernel) ⟨Nat.le_of_ble_eq_true rfl, Nat.le_of_ble_eq_true rfl⟩) rfl hl.1 rfl (Nat.le_of_ble_eq_true rfl) dX4_bestWind_33 ⟨Nat.le_of_ble_eq_true rfl, Nat.le_of_ble_eq_true rfl⟩ (fun v_7 u H locs hp hM => ?_)
  obtain ⟨hv_, hu_⟩ := hp
  have hv_ := Eq.symm hv_
  have hu_ := Eq.symm hu_
  subst hv_
  subst hu_
  have eI : (tf (t0 I o) o 1) = (tf I o 1) := tf_t0 _ _ _
  rw [eI] at hM
  clear eI
  rw [hQ]
  exact fb_iret hx hb hr hlocks hM (⟨rfl, rfl⟩) dX4_bestWind_36

set_option maxHeartbeats 4000000 in
set_option maxRecDepth 100000 in
theorem c_X4_bestWind_ok (D : va_G) (y : Nat → ClassId) (l : Launch) (S : fb_Sh) (V I : fb_V) (o nt : Nat) (cf rf : Nat → Nat) (hA : MdAt S o nt cf rf) (ns : Nat) (df : Nat → Nat) (hF : MF I o ns nt cf rf df) (i : Nat) (hi : i < ns) (c : Nat) (hca : 0 ≤ c) (hc : c ≤ 4) (z : Nat) (hza : 0 ≤ z) (hz : z ≤ 5)  : CI D y l yX4_bestWind wsX4_bestWind rm_X4_bestWind [.ref (sa S o), .int (nI i), .int (nI c), .int (nI z)] (S, V, (sT V), I) (fun v u => v = (bwm (blx I o i) (I (o + 2) i) (nI c) z 20).1 ∧ u = (S, V, sT V, t0 I o)) 0 0 := by
  refine CI.of (cc := cX4_bestWind) (maxL := 12) (ret := (some .int)) (by decide) rfl (Nat.le_of_ble_eq_true rfl) ?_
  intro pv ev s mv below meth cv A hx hb hml hr hown hts hlocks hname hM ls hl
  have hown : s.vm.findClass RX4 = some mv.cls := hown
  have hl : lv_has ls 12 [(0, .ref (sa S o)), (1, .int (nI i)), (2, .int (nI c)), (3, .int (nI z))] := hl
  have hin4 : ∀ x ∈ wsX40, x ∈ wsX4_bestWind := by decide +kernel
  obtain ⟨Q, hQ⟩ : ∃ Q, Q = MQ below (va_Qi (fun v u => v = (bwm (blx I o i) (I (o + 2) i) (nI c) z 20).1 ∧ u = (S, V, sT V, t0 I o)) (fun u t => fb_P D y A u t) A) (([.ref (sa S o), .int (nI i), .int (nI c), .int (nI z)] : List Value).toArray) s 0 0 A := ⟨_, rfl⟩
  rw [← hQ]
  have hns : ns ≤ 12 := hF.2.2.1
  have hnt : nt ≤ 6 := hF.2.2.2.1
  obtain ⟨dm, hdm9, hdm⟩ := hF.2.2.2.2.2 i hi
  refine lv_aload_n hx hb dX4_bestWind_0 rfl (lv_at hl 0 rfl) ?_
  refine lv_iconst (v := 0) hx hb dX4_bestWind_1 (by decide) ?_
  refine fb_put (r := o) hx hb hown hts hin4 tyX4 tyX4_ok nmX4 hM ((hA.1).1) (ce4 ((hA.1).2)) rfl 0 (by decide) (hts (.fieldLink RX4 40 "FeatherBedsModel" "thrown" "I") (by decide +kernel)) (fun _ h9 => h9) rfl (ty := .int) (by decide +kernel) rfl rfl (Nat.le_of_ble_eq_true rfl) dX4_bestWind_2 (up_I (j := 0) (v := 0) (by rw [ce4 ((hA.1).2)]; simp [va_up, upd])) (w' := (S, V, (sT V), (va_up I o (upd (I o) 0 0)))) ⟨rfl, rfl, rfl⟩ (fun H locs hM => ?_)
  have eI : (va_up I o (upd (I o) 0 0)) = (t0 I o) := rfl
  rw [eI] at hM
  clear eI
  refine lv_aload_n hx hb dX4_bestWind_5 rfl (lv_at hl 0 rfl) ?_
  refine lv_iload_n hx hb dX4_bestWind_6 rfl (lv_at hl 1 rfl) ?_
  refine fb_callVi (r := o) hx hb hml hown hts hM ((hA.1).1) (ce4 ((hA.1).2)) rfl (As := [.int (nI i)]) (rest := []) (c_X4_isSack D y l S V (t0 I o) o nt cf rf hA ns df hF.t0 (nI i)) (cwV 1 hts gX4_bestWind_X4_isSack rfl rfl rfl (by decide +kernel) ⟨Nat.le_of_ble_eq_true rfl, Nat.le_of_ble_eq_true rfl⟩) rfl hl.1 rfl (Nat.le_of_ble_eq_true rfl) dX4_bestWind_7 ⟨Nat.le_of_ble_eq_true rfl, Nat.le_of_ble_eq_true rfl⟩ (fun v_1 u H locs hp hM => ?_)
  obtain ⟨hv_, hu_⟩ := hp
  have hv_ := Eq.symm hv_
  have hu_ := Eq.symm hu_
  subst hv_
  subst hu_
  rw [show (isN (nI i) 0 (nI ns - 1) : Int32) = 1 from isN_in (by omega) hi]
  refine lv_if_eq (tgt := 31) hx hb dX4_bestWind_10 (by decide) (fun c_2 => absurd c_2 (by decide)) (fun c_2 => ?_)
  refine lv_iload_n hx hb dX4_bestWind_13 rfl (lv_at hl 2 rfl) ?_
  refine lv_iconst (v := 0) hx hb dX4_bestWind_14 (by decide) ?_
  refine lv_iconst (v := 4) hx hb dX4_bestWind_15 (by decide) ?_
  refine fb_callSi hx hb hml hown hts hM (As := [.int (nI c), .int 0, .int 4]) (rest := []) (c_X4_isIn D y l S V (t0 I o) (nI c) 0 4) (cwS 3 hts gX4_bestWind_X4_isIn rfl rfl rfl (by decide +kernel) ⟨Nat.le_of_ble_eq_true rfl, Nat.le_of_ble_eq_true rfl⟩) rfl hl.1 rfl (Nat.le_of_ble_eq_true rfl) dX4_bestWind_16 ⟨Nat.le_of_ble_eq_true rfl, Nat.le_of_ble_eq_true rfl⟩ (fun v_3 u H locs hp hM => ?_)
  obtain ⟨hv_, hu_⟩ := hp
  have hv_ := Eq.symm hv_
  have hu_ := Eq.symm hu_
  subst hv_
  subst hu_
  rw [show (isN (nI c) 0 4 : Int32) = 1 from isN_k (lo := 0) (hi := 4) (by decide) hca hc]
  refine lv_if_eq (tgt := 31) hx hb dX4_bestWind_19 (by decide) (fun c_4 => absurd c_4 (by decide)) (fun c_4 => ?_)
  refine lv_iload_n hx hb dX4_bestWind_22 rfl (lv_at hl 3 rfl) ?_
  refine lv_iconst (v := 0) hx hb dX4_bestWind_23 (by decide) ?_
  refine lv_iconst (v := 5) hx hb dX4_bestWind_24 (by decide) ?_
  refine fb_callSi hx hb hml hown hts hM (As := [.int (nI z), .int 0, .int 5]) (rest := []) (c_X4_isIn D y l S V (t0 I o) (nI z) 0 5) (cwS 3 hts gX4_bestWind_X4_isIn rfl rfl rfl (by decide +kernel) ⟨Nat.le_of_ble_eq_true rfl, Nat.le_of_ble_eq_true rfl⟩) rfl hl.1 rfl (Nat.le_of_ble_eq_true rfl) dX4_bestWind_25 ⟨Nat.le_of_ble_eq_true rfl, Nat.le_of_ble_eq_true rfl⟩ (fun v_5 u H locs hp hM => ?_)
  obtain ⟨hv_, hu_⟩ := hp
  have hv_ := Eq.symm hv_
  have hu_ := Eq.symm hu_
  subst hv_
  subst hu_
  rw [show (isN (nI z) 0 5 : Int32) = 1 from isN_k (lo := 0) (hi := 5) (by decide) hza hz]
  refine lv_if_ne (tgt := 37) hx hb dX4_bestWind_28 (by decide) (fun c_6 => ?_) (fun c_6 => absurd c_6 (by decide))
  refine lv_iconst (v := (-1)) hx hb dX4_bestWind_37 (by decide) ?_
  refine lv_istore (lv' := [(4, .int (-1)), (0, .ref (sa S o)), (1, .int (nI i)), (2, .int (nI c)), (3, .int (nI z))]) hx hb dX4_bestWind_38 hl (by decide) rfl (fun ls hl => ?_)
  refine lv_iconst (v := 0) hx hb dX4_bestWind_40 (by decide) ?_
  refine lv_istore (lv' := [(5, .int 0), (4, .int (-1)), (0, .ref (sa S o)), (1, .int (nI i)), (2, .int (nI c)), (3, .int (nI z))]) hx hb dX4_bestWind_41 hl (by decide) rfl (fun ls hl => ?_)
  refine lv_iconst (v := 1) hx hb dX4_bestWind_43 (by decide) ?_
  refine lv_istore (lv' := [(6, .int 1), (5, .int 0), (4, .int (-1)), (0, .ref (sa S o)), (1, .int (nI i)), (2, .int (nI c)), (3, .int (nI z))]) hx hb dX4_bestWind_44 hl (by decide) rfl (fun ls hl => ?_)
  refine lv_iconst (v := 1) hx hb dX4_bestWind_46 (by decide) ?_
  refine lv_istore (lv' := [(7, .int 1), (6, .int 1), (5, .int 0), (4, .int (-1)), (0, .ref (sa S o)), (1, .int (nI i)), (2, .int (nI c)), (3, .int (nI z))]) hx hb dX4_bestWind_47 hl (by decide) rfl (fun ls hl => ?_)
  have LP_49 : ∀ (n : Nat) (j : Nat) (hj : j ≤ 20), 20 - j < n → ∀ (H : Heap) (locs : List Loc), fb_M D y A s (S, V, (sT V), (t0 I o)) H locs → ∀ ls, lv_has ls 12 [(7, .int (nI (j + 1))), (6, .int ((bwm (blx I o i) (I (o + 2) i) (nI c) z j).2.2)), (5, .int ((bwm (blx I o i) (I (o + 2) i) (nI c) z j).2.1)), (4, .int ((bwm (blx I o i) (I (o + 2) i) (nI c) z j).1)), (0, .ref (sa S o)), (1, .int (nI i)), (2, .int (nI c)), (3, .int (nI z))] → W pv l ev rm_X4_bestWind s mv ([.ref (sa S o), .int (nI i), .int (nI c), .int (nI z)] : List Value).toArray below meth cv H locs 0 0 Q (F0 mv 49 ls []) := by
    intro n_49
    induction n_49 with
    | zero => intro j hj hmu; exact absurd hmu (Nat.not_lt_zero _)
    | succ n_49 ih_49 =>
      intro j hj hmu H locs hM ls hl
      refine lv_iload hx hb dX4_bestWind_49 (lv_at hl 0 rfl) ?_
      refine lv_bipush (v := 20) hx hb dX4_bestWind_51 (by decide) ?_
      refine lv_icmp_gt (tgt := 160) hx hb dX4_bestWind_53 (by decide) (fun c_7 => ?_) (fun c_7 => ?_)
      · skip
        have e_j : j = 20 := by have := (nI_ltI (a := 20) (b := j + 1) (by omega) (by omega)).mp c_7; omega
        have e_j := Eq.symm e_j
        subst e_j
        refine lv_iload hx hb dX4_bestWind_160 (lv_at hl 3 rfl) ?_
        rw [hQ]
        exact fb_iret hx hb hr hlocks hM (⟨rfl, rfl⟩) dX4_bestWind_162
      · skip
        have hjk : j < 20 := Nat.lt_of_not_le (fun h => c_7 (nI_lt (a := 20) (by omega) (by omega)))
        refine lv_iconst (v := 0) hx hb dX4_bestWind_56 (by decide) ?_
        refine lv_istore (lv' := [(8, .int 0), (7, .int (nI (j + 1))), (6, .int ((bwm (blx I o i) (I (o + 2) i) (nI c) z j).2.2)), (5, .int ((bwm (blx I o i) (I (o + 2) i) (nI c) z j).2.1)), (4, .int ((bwm (blx I o i) (I (o + 2) i) (nI c) z j).1)), (0, .ref (sa S o)), (1, .int (nI i)), (2, .int (nI c)), (3, .int (nI z))]) hx hb dX4_bestWind_57 hl (by decide) rfl (fun ls hl => ?_)
        refine lv_iconst (v := 0) hx hb dX4_bestWind_59 (by decide) ?_
        refine lv_istore (lv' := [(9, .int 0), (8, .int 0), (7, .int (nI (j + 1))), (6, .int ((bwm (blx I o i) (I (o + 2) i) (nI c) z j).2.2)), (5, .int ((bwm (blx I o i) (I (o + 2) i) (nI c) z j).2.1)), (4, .int ((bwm (blx I o i) (I (o + 2) i) (nI c) z j).1)), (0, .ref (sa S o)), (1, .int (nI i)), (2, .int (nI c)), (3, .int (nI z))]) hx hb dX4_bestWind_60 hl (by decide) rfl (fun ls hl => ?_)
        refine lv_iconst (v := 0) hx hb dX4_bestWind_62 (by decide) ?_
        refine lv_istore (lv' := [(10, .int 0), (9, .int 0), (8, .int 0), (7, .int (nI (j + 1))), (6, .int ((bwm (blx I o i) (I (o + 2) i) (nI c) z j).2.2)), (5, .int ((bwm (blx I o i) (I (o + 2) i) (nI c) z j).2.1)), (4, .int ((bwm (blx I o i) (I (o + 2) i) (nI c) z j).1)), (0, .ref (sa S o)), (1, .int (nI i)), (2, .int (nI c)), (3, .int (nI z))]) hx hb dX4_bestWind_63 hl (by decide) rfl (fun ls hl => ?_)
        have LP_65 : ∀ (n : Nat) (k : Nat) (hk : k ≤ 6), 6 - k < n → ∀ (H : Heap) (locs : List Loc), fb_M D y A s (S, V, (sT V), (t0 I o)) H locs → ∀ ls, lv_has ls 12 [(10, .int (nI k)), (9, .int (bim (blx I o i) (nI (j + 1)) (I (o + 2) i) (nI c) z k)), (8, .int (bsm (blx I o i) (nI (j + 1)) (I (o + 2) i) (nI c) k)), (7, .int (nI (j + 1))), (6, .int ((bwm (blx I o i) (I (o + 2) i) (nI c) z j).2.2)), (5, .int ((bwm (blx I o i) (I (o + 2) i) (nI c) z j).2.1)), (4, .int ((bwm (blx I o i) (I (o + 2) i) (nI c) z j).1)), (0, .ref (sa S o)), (1, .int (nI i)), (2, .int (nI c)), (3, .int (nI z))] → W pv l ev rm_X4_bestWind s mv ([.ref (sa S o), .int (nI i), .int (nI c), .int (nI z)] : List Value).toArray below meth cv H locs 0 0 Q (F0 mv 65 ls []) := by
          intro n_65
          induction n_65 with
          | zero => intro k hk hmu; exact absurd hmu (Nat.not_lt_zero _)
          | succ n_65 ih_65 =>
            intro k hk hmu H locs hM ls hl
            refine lv_iload hx hb dX4_bestWind_65 (lv_at hl 0 rfl) ?_
            refine lv_bipush (v := 6) hx hb dX4_bestWind_67 (by decide) ?_
            refine lv_icmp_ge (tgt := 126) hx hb dX4_bestWind_69 (by decide) (fun c_8 => ?_) (fun c_8 => ?_)
            · skip
              have e_k : k = 6 := by have := (nI_leI (a := 6) (b := k) (by omega) (by omega)).mp c_8; omega
              have e_k := Eq.symm e_k
              subst e_k
              refine lv_iload hx hb dX4_bestWind_126 (lv_at hl 1 rfl) ?_
              refine lv_iload hx hb dX4_bestWind_128 (lv_at hl 4 rfl) ?_
              refine lv_imul hx hb dX4_bestWind_130 ?_
              refine lv_iload hx hb dX4_bestWind_131 (lv_at hl 5 rfl) ?_
              refine lv_iload hx hb dX4_bestWind_133 (lv_at hl 2 rfl) ?_
              refine lv_imul hx hb dX4_bestWind_135 ?_
              refine lv_icmp_gt (tgt := 142) hx hb dX4_bestWind_136 (by decide) (fun c_9 => ?_) (fun c_9 => ?_)
              · skip
                have c_bw := c_9
                refine lv_iload hx hb dX4_bestWind_142 (lv_at hl 3 rfl) ?_
                refine lv_istore (lv' := [(4, .int (nI (j + 1))), (10, .int (nI 6)), (9, .int (bim (blx I o i) (nI (j + 1)) (I (o + 2) i) (nI c) z 6)), (8, .int (bsm (blx I o i) (nI (j + 1)) (I (o + 2) i) (nI c) 6)), (7, .int (nI (j + 1))), (6, .int ((bwm (blx I o i) (I (o + 2) i) (nI c) z j).2.2)), (5, .int ((bwm (blx I o i) (I (o + 2) i) (nI c) z j).2.1)), (0, .ref (sa S o)), (1, .int (nI i)), (2, .int (nI c)), (3, .int (nI z))]) hx hb dX4_bestWind_144 hl (by decide) rfl (fun ls hl => ?_)
                refine lv_iload hx hb dX4_bestWind_146 (lv_at hl 2 rfl) ?_
                refine lv_istore (lv' := [(5, .int (bim (blx I o i) (nI (j + 1)) (I (o + 2) i) (nI c) z 6)), (4, .int (nI (j + 1))), (10, .int (nI 6)), (9, .int (bim (blx I o i) (nI (j + 1)) (I (o + 2) i) (nI c) z 6)), (8, .int (bsm (blx I o i) (nI (j + 1)) (I (o + 2) i) (nI c) 6)), (7, .int (nI (j + 1))), (6, .int ((bwm (blx I o i) (I (o + 2) i) (nI c) z j).2.2)), (0, .ref (sa S o)), (1, .int (nI i)), (2, .int (nI c)), (3, .int (nI z))]) hx hb dX4_bestWind_148 hl (by decide) rfl (fun ls hl => ?_)
                refine lv_iload hx hb dX4_bestWind_150 (lv_at hl 4 rfl) ?_
                refine lv_istore (lv' := [(6, .int (bsm (blx I o i) (nI (j + 1)) (I (o + 2) i) (nI c) 6)), (5, .int (bim (blx I o i) (nI (j + 1)) (I (o + 2) i) (nI c) z 6)), (4, .int (nI (j + 1))), (10, .int (nI 6)), (9, .int (bim (blx I o i) (nI (j + 1)) (I (o + 2) i) (nI c) z 6)), (8, .int (bsm (blx I o i) (nI (j + 1)) (I (o + 2) i) (nI c) 6)), (7, .int (nI (j + 1))), (0, .ref (sa S o)), (1, .int (nI i)), (2, .int (nI c)), (3, .int (nI z))]) hx hb dX4_bestWind_152 hl (by decide) rfl (fun ls hl => ?_)
                refine lv_iinc (v := nI (j + 1 + 1)) (lv' := [(7, .int (nI (j + 1 + 1))), (6, .int (bsm (blx I o i) (nI (j + 1)) (I (o + 2) i) (nI c) 6)), (5, .int (bim (blx I o i) (nI (j + 1)) (I (o + 2) i) (nI c) z 6)), (4, .int (nI (j + 1))), (10, .int (nI 6)), (9, .int (bim (blx I o i) (nI (j + 1)) (I (o + 2) i) (nI c) z 6)), (8, .int (bsm (blx I o i) (nI (j + 1)) (I (o + 2) i) (nI c) 6)), (0, .ref (sa S o)), (1, .int (nI i)), (2, .int (nI c)), (3, .int (nI z))]) hx hb dX4_bestWind_154 hl (k := 6) rfl (nI_1 _) (by decide) rfl (fun ls hl => ?_)
                refine lv_goto (tgt := 49) hx hb dX4_bestWind_157 (by decide) ?_
                have eB : bwm (blx I o i) (I (o + 2) i) (nI c) z (j + 1) = (nI (j + 1), bim (blx I o i) (nI (j + 1)) (I (o + 2) i) (nI c) z 6, bsm (blx I o i) (nI (j + 1)) (I (o + 2) i) (nI c) 6) := if_pos c_bw
                have hl : lv_has ls 12 [(7, .int (nI (j + 1 + 1))), (6, .int (bwm (blx I o i) (I (o + 2) i) (nI c) z (j + 1)).2.2), (5, .int (bwm (blx I o i) (I (o + 2) i) (nI c) z (j + 1)).2.1), (4, .int (bwm (blx I o i) (I (o + 2) i) (nI c) z (j + 1)).1), (0, .ref (sa S o)), (1, .int (nI i)), (2, .int (nI c)), (3, .int (nI z))] := by rw [eB]; exact lv_sub hl [0, 1, 2, 3, 7, 8, 9, 10] rfl
                exact ih_49 (j + 1) (by omega) (by omega) _ _ hM ls (lv_sub hl [0, 1, 2, 3, 4, 5, 6, 7] rfl)
              · skip
                have c_bw := c_9
                refine lv_goto (tgt := 154) hx hb dX4_bestWind_139 (by decide) ?_
                refine lv_iinc (v := nI (j + 1 + 1)) (lv' := [(7, .int (nI (j + 1 + 1))), (10, .int (nI 6)), (9, .int (bim (blx I o i) (nI (j + 1)) (I (o + 2) i) (nI c) z 6)), (8, .int (bsm (blx I o i) (nI (j + 1)) (I (o + 2) i) (nI c) 6)), (6, .int ((bwm (blx I o i) (I (o + 2) i) (nI c) z j).2.2)), (5, .int ((bwm (blx I o i) (I (o + 2) i) (nI c) z j).2.1)), (4, .int ((bwm (blx I o i) (I (o + 2) i) (nI c) z j).1)), (0, .ref (sa S o)), (1, .int (nI i)), (2, .int (nI c)), (3, .int (nI z))]) hx hb dX4_bestWind_154 hl (k := 3) rfl (nI_1 _) (by decide) rfl (fun ls hl => ?_)
                refine lv_goto (tgt := 49) hx hb dX4_bestWind_157 (by decide) ?_
                have eB : bwm (blx I o i) (I (o + 2) i) (nI c) z (j + 1) = (bwm (blx I o i) (I (o + 2) i) (nI c) z j) := if_neg c_bw
                have hl : lv_has ls 12 [(7, .int (nI (j + 1 + 1))), (6, .int (bwm (blx I o i) (I (o + 2) i) (nI c) z (j + 1)).2.2), (5, .int (bwm (blx I o i) (I (o + 2) i) (nI c) z (j + 1)).2.1), (4, .int (bwm (blx I o i) (I (o + 2) i) (nI c) z (j + 1)).1), (0, .ref (sa S o)), (1, .int (nI i)), (2, .int (nI c)), (3, .int (nI z))] := by rw [eB]; exact lv_sub hl [0, 4, 5, 6, 7, 8, 9, 10] rfl
                exact ih_49 (j + 1) (by omega) (by omega) _ _ hM ls (lv_sub hl [0, 1, 2, 3, 4, 5, 6, 7] rfl)
            · skip
              have hkk : k < 6 := Nat.lt_of_not_le (fun h => c_8 (nI_le h (by omega)))
              refine lv_aload_n hx hb dX4_bestWind_72 rfl (lv_at hl 7 rfl) ?_
              refine fb_get (r := o) hx hb hown hts hin4 hM ((hA.1).1) (ce4 ((hA.1).2)) rfl 2 (by decide) (hts (.fieldLink RX4 9 "FeatherBedsModel" "sackHeaps" "[I") (by decide +kernel)) (fun _ h9 => h9) (v := .ref (sa S (o + 1))) (congrArg (fun z => some (va_rf z)) ((hA.2.1).1)) dX4_bestWind_73 ?_
              refine lv_bipush (v := 6) hx hb dX4_bestWind_76 (by decide) ?_
              refine lv_iload_n hx hb dX4_bestWind_78 rfl (lv_at hl 8 rfl) ?_
              refine lv_imul hx hb dX4_bestWind_79 ?_
              refine W.eq (g2 := F0 mv _ ls (.int (nI (6 * i)) :: .ref (sa S (o + 1)) :: [])) (by first | rfl | rw [show (6 * (nI i) : Int32) = nI (6 * i) from pk_mul 6 i]) ?_
              refine lv_iload hx hb dX4_bestWind_80 (lv_at hl 0 rfl) ?_
              refine lv_iadd hx hb dX4_bestWind_82 ?_
              refine W.eq (g2 := F0 mv _ ls (.int (nI (6 * i + k)) :: .ref (sa S (o + 1)) :: [])) (by first | rfl | rw [show ((nI (6 * i)) + (nI k) : Int32) = nI (6 * i + k) from nI_add _ _]) ?_
              refine fb_iald (r := (o + 1)) hx hb hM ((hA.2.2.1).1) (ce6 ((hA.2.2.1).2.1)) (k := 6 * i + k) (nI_clamp (by omega)) (by rw [(hA.2.2.1).2.2]; exact vp_in_nI (by omega) (by omega)) dX4_bestWind_83 ?_
              rw [show (t0 I o) (o + 1) (6 * i + k) = (blx I o i) k from congrFun (t0_ne I (show o + 1 ≠ o by omega)) _]
              refine lv_iload hx hb dX4_bestWind_84 (lv_at hl 3 rfl) ?_
              refine lv_iload hx hb dX4_bestWind_86 (lv_at hl 0 rfl) ?_
              refine lv_aload_n hx hb dX4_bestWind_88 rfl (lv_at hl 7 rfl) ?_
              refine fb_get (r := o) hx hb hown hts hin4 hM ((hA.1).1) (ce4 ((hA.1).2)) rfl 3 (by decide) (hts (.fieldLink RX4 13 "FeatherBedsModel" "damp" "[I") (by decide +kernel)) (fun _ h9 => h9) (v := .ref (sa S (o + 2))) (congrArg (fun z => some (va_rf z)) ((hA.2.1).2.1)) dX4_bestWind_89 ?_
              refine lv_iload_n hx hb dX4_bestWind_92 rfl (lv_at hl 8 rfl) ?_
              refine fb_iald (r := (o + 2)) hx hb hM ((hA.2.2.2.1).1) (ce6 ((hA.2.2.2.1).2.1)) (k := i) (nI_clamp (by omega)) (by rw [(hA.2.2.2.1).2.2]; exact vp_in_nI (by omega) (by omega)) dX4_bestWind_93 ?_
              rw [show (t0 I o) (o + 2) i = (I (o + 2) i) from congrFun (t0_ne I (show o + 2 ≠ o by omega)) _]
              refine fb_callSi hx hb hml hown hts hM (As := [.int (nI (j + 1)), .int (nI k), .int ((I (o + 2) i))]) (rest := [.int ((blx I o i) k)]) (c_X4_flight D y l S V (t0 I o) (nI (j + 1)) (nI k) (I (o + 2) i) (by rw [hdm]; exact (fl_w hkk hdm9).1)) (cwS 3 hts gX4_bestWind_X4_flight rfl rfl rfl (by decide +kernel) ⟨Nat.le_of_ble_eq_true rfl, Nat.le_of_ble_eq_true rfl⟩) rfl hl.1 rfl (Nat.le_of_ble_eq_true rfl) dX4_bestWind_94 ⟨Nat.le_of_ble_eq_true rfl, Nat.le_of_ble_eq_true rfl⟩ (fun v_10 u H locs hp hM => ?_)
              obtain ⟨hv_, hu_⟩ := hp
              have hv_ := Eq.symm hv_
              have hu_ := Eq.symm hu_
              subst hv_
              subst hu_
              refine lv_iload_n hx hb dX4_bestWind_97 rfl (lv_at hl 9 rfl) ?_
              refine fb_callSi hx hb hml hown hts hM (As := [.int ((blx I o i) k), .int (flm (nI (j + 1)) (nI k) (I (o + 2) i)), .int (nI c)]) (rest := []) (c_X4_falls D y l S V (t0 I o) ((blx I o i) k) (flm (nI (j + 1)) (nI k) (I (o + 2) i)) (nI c)) (cwS 3 hts gX4_bestWind_X4_falls rfl rfl rfl (by decide +kernel) ⟨Nat.le_of_ble_eq_true rfl, Nat.le_of_ble_eq_true rfl⟩) rfl hl.1 rfl (Nat.le_of_ble_eq_true rfl) dX4_bestWind_98 ⟨Nat.le_of_ble_eq_true rfl, Nat.le_of_ble_eq_true rfl⟩ (fun v_11 u H locs hp hM => ?_)
              obtain ⟨hv_, hu_⟩ := hp
              have hv_ := Eq.symm hv_
              have hu_ := Eq.symm hu_
              subst hv_
              subst hu_
              refine lv_istore (lv' := [(11, .int (brn ((blx I o i) k) (flm (nI (j + 1)) (nI k) (I (o + 2) i)) (nI c))), (10, .int (nI k)), (9, .int (bim (blx I o i) (nI (j + 1)) (I (o + 2) i) (nI c) z k)), (8, .int (bsm (blx I o i) (nI (j + 1)) (I (o + 2) i) (nI c) k)), (7, .int (nI (j + 1))), (6, .int ((bwm (blx I o i) (I (o + 2) i) (nI c) z j).2.2)), (5, .int ((bwm (blx I o i) (I (o + 2) i) (nI c) z j).2.1)), (4, .int ((bwm (blx I o i) (I (o + 2) i) (nI c) z j).1)), (0, .ref (sa S o)), (1, .int (nI i)), (2, .int (nI c)), (3, .int (nI z))]) hx hb dX4_bestWind_101 hl (by decide) rfl (fun ls hl => ?_)
              refine lv_iload hx hb dX4_bestWind_103 (lv_at hl 3 rfl) ?_
              refine lv_iload hx hb dX4_bestWind_105 (lv_at hl 0 rfl) ?_
              refine lv_iadd hx hb dX4_bestWind_107 ?_
              refine lv_istore (lv' := [(8, .int ((bsm (blx I o i) (nI (j + 1)) (I (o + 2) i) (nI c) k) + (brn ((blx I o i) k) (flm (nI (j + 1)) (nI k) (I (o + 2) i)) (nI c)))), (11, .int (brn ((blx I o i) k) (flm (nI (j + 1)) (nI k) (I (o + 2) i)) (nI c))), (10, .int (nI k)), (9, .int (bim (blx I o i) (nI (j + 1)) (I (o + 2) i) (nI c) z k)), (7, .int (nI (j + 1))), (6, .int ((bwm (blx I o i) (I (o + 2) i) (nI c) z j).2.2)), (5, .int ((bwm (blx I o i) (I (o + 2) i) (nI c) z j).2.1)), (4, .int ((bwm (blx I o i) (I (o + 2) i) (nI c) z j).1)), (0, .ref (sa S o)), (1, .int (nI i)), (2, .int (nI c)), (3, .int (nI z))]) hx hb dX4_bestWind_108 hl (by decide) rfl (fun ls hl => ?_)
              refine lv_iload hx hb dX4_bestWind_110 (lv_at hl 2 rfl) ?_
              refine lv_iload_n hx hb dX4_bestWind_112 rfl (lv_at hl 11 rfl) ?_
              refine lv_icmp_ne (tgt := 120) hx hb dX4_bestWind_113 (by decide) (fun c_12 => ?_) (fun c_12 => ?_)
              · skip
                have c_kz : ¬ k = z := fun h => c_12 (by rw [h])
                refine lv_iinc (v := nI (k + 1)) (lv' := [(10, .int (nI (k + 1))), (8, .int ((bsm (blx I o i) (nI (j + 1)) (I (o + 2) i) (nI c) k) + (brn ((blx I o i) k) (flm (nI (j + 1)) (nI k) (I (o + 2) i)) (nI c)))), (11, .int (brn ((blx I o i) k) (flm (nI (j + 1)) (nI k) (I (o + 2) i)) (nI c))), (9, .int (bim (blx I o i) (nI (j + 1)) (I (o + 2) i) (nI c) z k)), (7, .int (nI (j + 1))), (6, .int ((bwm (blx I o i) (I (o + 2) i) (nI c) z j).2.2)), (5, .int ((bwm (blx I o i) (I (o + 2) i) (nI c) z j).2.1)), (4, .int ((bwm (blx I o i) (I (o + 2) i) (nI c) z j).1)), (0, .ref (sa S o)), (1, .int (nI i)), (2, .int (nI c)), (3, .int (nI z))]) hx hb dX4_bestWind_120 hl (k := 2) rfl (nI_1 _) (by decide) rfl (fun ls hl => ?_)
                refine lv_goto (tgt := 65) hx hb dX4_bestWind_123 (by decide) ?_
                have hl : lv_has ls 12 [(10, .int (nI (k + 1))), (9, .int (bim (blx I o i) (nI (j + 1)) (I (o + 2) i) (nI c) z (k + 1))), (8, .int (bsm (blx I o i) (nI (j + 1)) (I (o + 2) i) (nI c) (k + 1))), (7, .int (nI (j + 1))), (6, .int (bwm (blx I o i) (I (o + 2) i) (nI c) z j).2.2), (5, .int (bwm (blx I o i) (I (o + 2) i) (nI c) z j).2.1), (4, .int (bwm (blx I o i) (I (o + 2) i) (nI c) z j).1), (0, .ref (sa S o)), (1, .int (nI i)), (2, .int (nI c)), (3, .int (nI z))] := by rw [bim_s]; first | (rw [if_pos c_kz]; exact lv_sub hl [0, 3, 1, 4, 5, 6, 7, 8, 9, 10, 11] rfl) | (rw [if_neg c_kz]; exact lv_sub hl [0, 3, 1, 4, 5, 6, 7, 8, 9, 10, 11] rfl)
                exact ih_65 (k + 1) (by omega) (by omega) _ _ hM ls (lv_sub hl [0, 1, 2, 3, 4, 5, 6, 7, 8, 9, 10] rfl)
              · skip
                have c_kz : k = z := (nI_eq (by omega) (by omega)).mp c_12
                refine lv_iload hx hb dX4_bestWind_116 (lv_at hl 1 rfl) ?_
                refine lv_istore (lv' := [(9, .int (brn ((blx I o i) k) (flm (nI (j + 1)) (nI k) (I (o + 2) i)) (nI c))), (8, .int ((bsm (blx I o i) (nI (j + 1)) (I (o + 2) i) (nI c) k) + (brn ((blx I o i) k) (flm (nI (j + 1)) (nI k) (I (o + 2) i)) (nI c)))), (11, .int (brn ((blx I o i) k) (flm (nI (j + 1)) (nI k) (I (o + 2) i)) (nI c))), (10, .int (nI k)), (7, .int (nI (j + 1))), (6, .int ((bwm (blx I o i) (I (o + 2) i) (nI c) z j).2.2)), (5, .int ((bwm (blx I o i) (I (o + 2) i) (nI c) z j).2.1)), (4, .int ((bwm (blx I o i) (I (o + 2) i) (nI c) z j).1)), (0, .ref (sa S o)), (1, .int (nI i)), (2, .int (nI c)), (3, .int (nI z))]) hx hb dX4_bestWind_118 hl (by decide) rfl (fun ls hl => ?_)
                refine lv_iinc (v := nI (k + 1)) (lv' := [(10, .int (nI (k + 1))), (9, .int (brn ((blx I o i) k) (flm (nI (j + 1)) (nI k) (I (o + 2) i)) (nI c))), (8, .int ((bsm (blx I o i) (nI (j + 1)) (I (o + 2) i) (nI c) k) + (brn ((blx I o i) k) (flm (nI (j + 1)) (nI k) (I (o + 2) i)) (nI c)))), (11, .int (brn ((blx I o i) k) (flm (nI (j + 1)) (nI k) (I (o + 2) i)) (nI c))), (7, .int (nI (j + 1))), (6, .int ((bwm (blx I o i) (I (o + 2) i) (nI c) z j).2.2)), (5, .int ((bwm (blx I o i) (I (o + 2) i) (nI c) z j).2.1)), (4, .int ((bwm (blx I o i) (I (o + 2) i) (nI c) z j).1)), (0, .ref (sa S o)), (1, .int (nI i)), (2, .int (nI c)), (3, .int (nI z))]) hx hb dX4_bestWind_120 hl (k := 3) rfl (nI_1 _) (by decide) rfl (fun ls hl => ?_)
                refine lv_goto (tgt := 65) hx hb dX4_bestWind_123 (by decide) ?_
                have hl : lv_has ls 12 [(10, .int (nI (k + 1))), (9, .int (bim (blx I o i) (nI (j + 1)) (I (o + 2) i) (nI c) z (k + 1))), (8, .int (bsm (blx I o i) (nI (j + 1)) (I (o + 2) i) (nI c) (k + 1))), (7, .int (nI (j + 1))), (6, .int (bwm (blx I o i) (I (o + 2) i) (nI c) z j).2.2), (5, .int (bwm (blx I o i) (I (o + 2) i) (nI c) z j).2.1), (4, .int (bwm (blx I o i) (I (o + 2) i) (nI c) z j).1), (0, .ref (sa S o)), (1, .int (nI i)), (2, .int (nI c)), (3, .int (nI z))] := by rw [bim_s]; first | (rw [if_pos c_kz]; exact lv_sub hl [0, 1, 2, 4, 5, 6, 7, 8, 9, 10, 11] rfl) | (rw [if_neg c_kz]; exact lv_sub hl [0, 1, 2, 4, 5, 6, 7, 8, 9, 10, 11] rfl)
                exact ih_65 (k + 1) (by omega) (by omega) _ _ hM ls (lv_sub hl [0, 1, 2, 3, 4, 5, 6, 7, 8, 9, 10] rfl)
        exact LP_65 _ 0 (by omega) (Nat.lt_succ_self _) _ _ hM ls (lv_sub hl [0, 1, 2, 3, 4, 5, 6, 7, 8, 9, 10] rfl)
  exact LP_49 _ 0 (by omega) (Nat.lt_succ_self _) _ _ hM ls (lv_sub hl [0, 1, 2, 3, 4, 5, 6, 7] rfl)

abbrev rm_X4_sew : Room := { frames := 5, cells := 0, slots := 0, locals := 113 }
set_option maxHeartbeats 4000000 in
set_option maxRecDepth 100000 in
theorem c_X4_sew_f0t (D : va_G) (y : Nat → ClassId) (l : Launch) (S : fb_Sh) (V I : fb_V) (o nt : Nat) (cf rf : Nat → Nat) (hA : MdAt S o nt cf rf) (ns : Nat) (df : Nat → Nat) (hF : MF I o ns nt cf rf df) (p0 : Int32) (ho : p0 < 0 ∨ nI nt ≤ p0) (p1 : Int32) (p2 : Int32) (p3 : Int32) : CI D y l yX4_sew wsX4_sew rm_X4_sew [.ref (sa S o), .int p0, .int p1, .int p2, .int p3] (S, V, (sT V), I) (fun z u => z = 0 ∧ u = (S, V, sT V, (tf I o 1))) 0 0 := by
  refine CI.of (cc := cX4_sew) (maxL := 5) (ret := (some .int)) (by decide) rfl (Nat.le_of_ble_eq_true rfl) ?_
  intro pv ev s mv below meth cv A hx hb hml hr hown hts hlocks hname hM ls hl
  have hown : s.vm.findClass RX4 = some mv.cls := hown
  have hl : lv_has ls 5 [(0, .ref (sa S o)), (1, .int p0), (2, .int p1), (3, .int p2), (4, .int p3)] := hl
  have hin4 : ∀ x ∈ wsX40, x ∈ wsX4_sew := by decide +kernel
  obtain ⟨Q, hQ⟩ : ∃ Q, Q = MQ below (va_Qi (fun z u => z = 0 ∧ u = (S, V, sT V, (tf I o 1))) (fun u t => fb_P D y A u t) A) (([.ref (sa S o), .int p0, .int p1, .int p2, .int p3] : List Value).toArray) s 0 0 A := ⟨_, rfl⟩
  rw [← hQ]
  have hns : ns ≤ 12 := hF.2.2.1
  have hnt : nt ≤ 6 := hF.2.2.2.1
  refine lv_aload_n hx hb dX4_sew_0 rfl (lv_at hl 0 rfl) ?_
  refine lv_iconst (v := 0) hx hb dX4_sew_1 (by decide) ?_
  refine fb_put (r := o) hx hb hown hts hin4 tyX4 tyX4_ok nmX4 hM ((hA.1).1) (ce4 ((hA.1).2)) rfl 0 (by decide) (hts (.fieldLink RX4 40 "FeatherBedsModel" "thrown" "I") (by decide +kernel)) (fun _ h9 => h9) rfl (ty := .int) (by decide +kernel) rfl rfl (Nat.le_of_ble_eq_true rfl) dX4_sew_2 (up_I (j := 0) (v := 0) (by rw [ce4 ((hA.1).2)]; simp [va_up, upd])) (w' := (S, V, (sT V), (va_up I o (upd (I o) 0 0)))) ⟨rfl, rfl, rfl⟩ (fun H locs hM => ?_)
  have eI : (va_up I o (upd (I o) 0 0)) = (t0 I o) := rfl
  rw [eI] at hM
  clear eI
  refine lv_aload_n hx hb dX4_sew_5 rfl (lv_at hl 0 rfl) ?_
  refine lv_iload_n hx hb dX4_sew_6 rfl (lv_at hl 1 rfl) ?_
  refine lv_iload_n hx hb dX4_sew_7 rfl (lv_at hl 2 rfl) ?_
  refine fb_callVi (r := o) hx hb hml hown hts hM ((hA.1).1) (ce4 ((hA.1).2)) rfl (As := [.int p0, .int p1]) (rest := []) (c_X4_isSquare_ot D y l S V (t0 I o) o nt cf rf hA ns df hF.t0 p0 ho p1) (cwV 2 hts gX4_sew_X4_isSquare rfl rfl rfl (by decide +kernel) ⟨Nat.le_of_ble_eq_true rfl, Nat.le_of_ble_eq_true rfl⟩) rfl hl.1 rfl (Nat.le_of_ble_eq_true rfl) dX4_sew_8 ⟨Nat.le_of_ble_eq_true rfl, Nat.le_of_ble_eq_true rfl⟩ (fun v_1 u H locs hp hM => ?_)
  obtain ⟨hv_, hu_⟩ := hp
  have hv_ := Eq.symm hv_
  have hu_ := Eq.symm hu_
  subst hv_
  subst hu_
  refine lv_if_ne (tgt := 20) hx hb dX4_sew_11 (by decide) (fun c_2 => absurd (by decide) c_2) (fun c_2 => ?_)
  refine lv_aload_n hx hb dX4_sew_14 rfl (lv_at hl 0 rfl) ?_
  refine lv_iconst (v := 1) hx hb dX4_sew_15 (by decide) ?_
  refine fb_callVi (r := o) hx hb hml hown hts hM ((hA.1).1) (ce4 ((hA.1).2)) rfl (As := [.int 1]) (rest := []) (c_X4_fail D y l S V (t0 I o) o nt cf rf hA 1) (cwV 1 hts gX4_sew_X4_fail rfl rfl rfl (by decide +kernel) ⟨Nat.le_of_ble_eq_true rfl, Nat.le_of_ble_eq_true rfl⟩) rfl hl.1 rfl (Nat.le_of_ble_eq_true rfl) dX4_sew_16 ⟨Nat.le_of_ble_eq_true rfl, Nat.le_of_ble_eq_true rfl⟩ (fun v_3 u H locs hp hM => ?_)
  obtain ⟨hv_, hu_⟩ := hp
  have hv_ := Eq.symm hv_
  have hu_ := Eq.symm hu_
  subst hv_
  subst hu_
  have eI : (tf (t0 I o) o 1) = (tf I o 1) := tf_t0 _ _ _
  rw [eI] at hM
  clear eI
  rw [hQ]
  exact fb_iret hx hb hr hlocks hM (⟨rfl, rfl⟩) dX4_sew_19

set_option maxHeartbeats 4000000 in
set_option maxRecDepth 100000 in
theorem c_X4_sew_f0q (D : va_G) (y : Nat → ClassId) (l : Launch) (S : fb_Sh) (V I : fb_V) (o nt : Nat) (cf rf : Nat → Nat) (hA : MdAt S o nt cf rf) (ns : Nat) (df : Nat → Nat) (hF : MF I o ns nt cf rf df) (t : Nat) (ht : t < nt) (p1 : Int32) (ho : p1 < 0 ∨ nI (cf t * rf t) ≤ p1) (p2 : Int32) (p3 : Int32) : CI D y l yX4_sew wsX4_sew rm_X4_sew [.ref (sa S o), .int (nI t), .int p1, .int p2, .int p3] (S, V, (sT V), I) (fun z u => z = 0 ∧ u = (S, V, sT V, (tf I o 1))) 0 0 := by
  refine CI.of (cc := cX4_sew) (maxL := 5) (ret := (some .int)) (by decide) rfl (Nat.le_of_ble_eq_true rfl) ?_
  intro pv ev s mv below meth cv A hx hb hml hr hown hts hlocks hname hM ls hl
  have hown : s.vm.findClass RX4 = some mv.cls := hown
  have hl : lv_has ls 5 [(0, .ref (sa S o)), (1, .int (nI t)), (2, .int p1), (3, .int p2), (4, .int p3)] := hl
  have hin4 : ∀ x ∈ wsX40, x ∈ wsX4_sew := by decide +kernel
  obtain ⟨Q, hQ⟩ : ∃ Q, Q = MQ below (va_Qi (fun z u => z = 0 ∧ u = (S, V, sT V, (tf I o 1))) (fun u t => fb_P D y A u t) A) (([.ref (sa S o), .int (nI t), .int p1, .int p2, .int p3] : List Value).toArray) s 0 0 A := ⟨_, rfl⟩
  rw [← hQ]
  have hns : ns ≤ 12 := hF.2.2.1
  have hnt : nt ≤ 6 := hF.2.2.2.1
  have hcr := hF.cr ht
  have htF := hF.2.2.2.2.1 t ht
  refine lv_aload_n hx hb dX4_sew_0 rfl (lv_at hl 0 rfl) ?_
  refine lv_iconst (v := 0) hx hb dX4_sew_1 (by decide) ?_
  refine fb_put (r := o) hx hb hown hts hin4 tyX4 tyX4_ok nmX4 hM ((hA.1).1) (ce4 ((hA.1).2)) rfl 0 (by decide) (hts (.fieldLink RX4 40 "FeatherBedsModel" "thrown" "I") (by decide +kernel)) (fun _ h9 => h9) rfl (ty := .int) (by decide +kernel) rfl rfl (Nat.le_of_ble_eq_true rfl) dX4_sew_2 (up_I (j := 0) (v := 0) (by rw [ce4 ((hA.1).2)]; simp [va_up, upd])) (w' := (S, V, (sT V), (va_up I o (upd (I o) 0 0)))) ⟨rfl, rfl, rfl⟩ (fun H locs hM => ?_)
  have eI : (va_up I o (upd (I o) 0 0)) = (t0 I o) := rfl
  rw [eI] at hM
  clear eI
  refine lv_aload_n hx hb dX4_sew_5 rfl (lv_at hl 0 rfl) ?_
  refine lv_iload_n hx hb dX4_sew_6 rfl (lv_at hl 1 rfl) ?_
  refine lv_iload_n hx hb dX4_sew_7 rfl (lv_at hl 2 rfl) ?_
  refine fb_callVi (r := o) hx hb hml hown hts hM ((hA.1).1) (ce4 ((hA.1).2)) rfl (As := [.int (nI t), .int p1]) (rest := []) (c_X4_isSquare_oq D y l S V (t0 I o) o nt cf rf hA ns df hF.t0 t ht p1 ho) (cwV 2 hts gX4_sew_X4_isSquare rfl rfl rfl (by decide +kernel) ⟨Nat.le_of_ble_eq_true rfl, Nat.le_of_ble_eq_true rfl⟩) rfl hl.1 rfl (Nat.le_of_ble_eq_true rfl) dX4_sew_8 ⟨Nat.le_of_ble_eq_true rfl, Nat.le_of_ble_eq_true rfl⟩ (fun v_1 u H locs hp hM => ?_)
  obtain ⟨hv_, hu_⟩ := hp
  have hv_ := Eq.symm hv_
  have hu_ := Eq.symm hu_
  subst hv_
  subst hu_
  refine lv_if_ne (tgt := 20) hx hb dX4_sew_11 (by decide) (fun c_2 => absurd (by decide) c_2) (fun c_2 => ?_)
  refine lv_aload_n hx hb dX4_sew_14 rfl (lv_at hl 0 rfl) ?_
  refine lv_iconst (v := 1) hx hb dX4_sew_15 (by decide) ?_
  refine fb_callVi (r := o) hx hb hml hown hts hM ((hA.1).1) (ce4 ((hA.1).2)) rfl (As := [.int 1]) (rest := []) (c_X4_fail D y l S V (t0 I o) o nt cf rf hA 1) (cwV 1 hts gX4_sew_X4_fail rfl rfl rfl (by decide +kernel) ⟨Nat.le_of_ble_eq_true rfl, Nat.le_of_ble_eq_true rfl⟩) rfl hl.1 rfl (Nat.le_of_ble_eq_true rfl) dX4_sew_16 ⟨Nat.le_of_ble_eq_true rfl, Nat.le_of_ble_eq_true rfl⟩ (fun v_3 u H locs hp hM => ?_)
  obtain ⟨hv_, hu_⟩ := hp
  have hv_ := Eq.symm hv_
  have hu_ := Eq.symm hu_
  subst hv_
  subst hu_
  have eI : (tf (t0 I o) o 1) = (tf I o 1) := tf_t0 _ _ _
  rw [eI] at hM
  clear eI
  rw [hQ]
  exact fb_iret hx hb hr hlocks hM (⟨rfl, rfl⟩) dX4_sew_19

set_option maxHeartbeats 4000000 in
set_option maxRecDepth 100000 in
theorem c_X4_sew_f1o (D : va_G) (y : Nat → ClassId) (l : Launch) (S : fb_Sh) (V I : fb_V) (o nt : Nat) (cf rf : Nat → Nat) (hA : MdAt S o nt cf rf) (ns : Nat) (df : Nat → Nat) (hF : MF I o ns nt cf rf df) (t : Nat) (ht : t < nt) (q : Nat) (hq : q < cf t * rf t) (p2 : Int32) (ho : p2 < 0 ∨ 1 < p2) (p3 : Int32) : CI D y l yX4_sew wsX4_sew rm_X4_sew [.ref (sa S o), .int (nI t), .int (nI q), .int p2, .int p3] (S, V, (sT V), I) (fun z u => z = 0 ∧ u = (S, V, sT V, (tf I o 2))) 0 0 := by
  refine CI.of (cc := cX4_sew) (maxL := 5) (ret := (some .int)) (by decide) rfl (Nat.le_of_ble_eq_true rfl) ?_
  intro pv ev s mv below meth cv A hx hb hml hr hown hts hlocks hname hM ls hl
  have hown : s.vm.findClass RX4 = some mv.cls := hown
  have hl : lv_has ls 5 [(0, .ref (sa S o)), (1, .int (nI t)), (2, .int (nI q)), (3, .int p2), (4, .int p3)] := hl
  have hin4 : ∀ x ∈ wsX40, x ∈ wsX4_sew := by decide +kernel
  obtain ⟨Q, hQ⟩ : ∃ Q, Q = MQ below (va_Qi (fun z u => z = 0 ∧ u = (S, V, sT V, (tf I o 2))) (fun u t => fb_P D y A u t) A) (([.ref (sa S o), .int (nI t), .int (nI q), .int p2, .int p3] : List Value).toArray) s 0 0 A := ⟨_, rfl⟩
  rw [← hQ]
  have hns : ns ≤ 12 := hF.2.2.1
  have hnt : nt ≤ 6 := hF.2.2.2.1
  have hcr := hF.cr ht
  have htF := hF.2.2.2.2.1 t ht
  refine lv_aload_n hx hb dX4_sew_0 rfl (lv_at hl 0 rfl) ?_
  refine lv_iconst (v := 0) hx hb dX4_sew_1 (by decide) ?_
  refine fb_put (r := o) hx hb hown hts hin4 tyX4 tyX4_ok nmX4 hM ((hA.1).1) (ce4 ((hA.1).2)) rfl 0 (by decide) (hts (.fieldLink RX4 40 "FeatherBedsModel" "thrown" "I") (by decide +kernel)) (fun _ h9 => h9) rfl (ty := .int) (by decide +kernel) rfl rfl (Nat.le_of_ble_eq_true rfl) dX4_sew_2 (up_I (j := 0) (v := 0) (by rw [ce4 ((hA.1).2)]; simp [va_up, upd])) (w' := (S, V, (sT V), (va_up I o (upd (I o) 0 0)))) ⟨rfl, rfl, rfl⟩ (fun H locs hM => ?_)
  have eI : (va_up I o (upd (I o) 0 0)) = (t0 I o) := rfl
  rw [eI] at hM
  clear eI
  refine lv_aload_n hx hb dX4_sew_5 rfl (lv_at hl 0 rfl) ?_
  refine lv_iload_n hx hb dX4_sew_6 rfl (lv_at hl 1 rfl) ?_
  refine lv_iload_n hx hb dX4_sew_7 rfl (lv_at hl 2 rfl) ?_
  refine fb_callVi (r := o) hx hb hml hown hts hM ((hA.1).1) (ce4 ((hA.1).2)) rfl (As := [.int (nI t), .int (nI q)]) (rest := []) (c_X4_isSquare_in D y l S V (t0 I o) o nt cf rf hA ns df hF.t0 t ht q hq) (cwV 2 hts gX4_sew_X4_isSquare rfl rfl rfl (by decide +kernel) ⟨Nat.le_of_ble_eq_true rfl, Nat.le_of_ble_eq_true rfl⟩) rfl hl.1 rfl (Nat.le_of_ble_eq_true rfl) dX4_sew_8 ⟨Nat.le_of_ble_eq_true rfl, Nat.le_of_ble_eq_true rfl⟩ (fun v_1 u H locs hp hM => ?_)
  obtain ⟨hv_, hu_⟩ := hp
  have hv_ := Eq.symm hv_
  have hu_ := Eq.symm hu_
  subst hv_
  subst hu_
  refine lv_if_ne (tgt := 20) hx hb dX4_sew_11 (by decide) (fun c_2 => ?_) (fun c_2 => absurd c_2 (by decide))
  refine lv_iload_n hx hb dX4_sew_20 rfl (lv_at hl 3 rfl) ?_
  refine lv_iconst (v := 0) hx hb dX4_sew_21 (by decide) ?_
  refine lv_iconst (v := 1) hx hb dX4_sew_22 (by decide) ?_
  refine fb_callSi hx hb hml hown hts hM (As := [.int p2, .int 0, .int 1]) (rest := []) (c_X4_isIn D y l S V (t0 I o) p2 0 1) (cwS 3 hts gX4_sew_X4_isIn rfl rfl rfl (by decide +kernel) ⟨Nat.le_of_ble_eq_true rfl, Nat.le_of_ble_eq_true rfl⟩) rfl hl.1 rfl (Nat.le_of_ble_eq_true rfl) dX4_sew_23 ⟨Nat.le_of_ble_eq_true rfl, Nat.le_of_ble_eq_true rfl⟩ (fun v_3 u H locs hp hM => ?_)
  obtain ⟨hv_, hu_⟩ := hp
  have hv_ := Eq.symm hv_
  have hu_ := Eq.symm hu_
  subst hv_
  subst hu_
  rw [show (isN p2 0 1 : Int32) = 0 from isN_0 ho]
  refine lv_if_eq (tgt := 40) hx hb dX4_sew_26 (by decide) (fun c_4 => ?_) (fun c_4 => absurd (by decide) c_4)
  refine lv_aload_n hx hb dX4_sew_40 rfl (lv_at hl 0 rfl) ?_
  refine lv_iconst (v := 2) hx hb dX4_sew_41 (by decide) ?_
  refine fb_callVi (r := o) hx hb hml hown hts hM ((hA.1).1) (ce4 ((hA.1).2)) rfl (As := [.int 2]) (rest := []) (c_X4_fail D y l S V (t0 I o) o nt cf rf hA 2) (cwV 1 hts gX4_sew_X4_fail rfl rfl rfl (by decide +kernel) ⟨Nat.le_of_ble_eq_true rfl, Nat.le_of_ble_eq_true rfl⟩) rfl hl.1 rfl (Nat.le_of_ble_eq_true rfl) dX4_sew_42 ⟨Nat.le_of_ble_eq_true rfl, Nat.le_of_ble_eq_true rfl⟩ (fun v_5 u H locs hp hM => ?_)
  obtain ⟨hv_, hu_⟩ := hp
  have hv_ := Eq.symm hv_
  have hu_ := Eq.symm hu_
  subst hv_
  subst hu_
  have eI : (tf (t0 I o) o 2) = (tf I o 2) := tf_t0 _ _ _
  rw [eI] at hM
  clear eI
  rw [hQ]
  exact fb_iret hx hb hr hlocks hM (⟨rfl, rfl⟩) dX4_sew_45

set_option maxHeartbeats 4000000 in
set_option maxRecDepth 100000 in
theorem c_X4_sew_f2o (D : va_G) (y : Nat → ClassId) (l : Launch) (S : fb_Sh) (V I : fb_V) (o nt : Nat) (cf rf : Nat → Nat) (hA : MdAt S o nt cf rf) (ns : Nat) (df : Nat → Nat) (hF : MF I o ns nt cf rf df) (t : Nat) (ht : t < nt) (q : Nat) (hq : q < cf t * rf t) (k : Nat) (hka : 0 ≤ k) (hk : k ≤ 1) (hno : ofx (cf t) (cf t * rf t) q k = false) (p3 : Int32) : CI D y l yX4_sew wsX4_sew rm_X4_sew [.ref (sa S o), .int (nI t), .int (nI q), .int (nI k), .int p3] (S, V, (sT V), I) (fun z u => z = 0 ∧ u = (S, V, sT V, (tf I o 2))) 0 0 := by
  refine CI.of (cc := cX4_sew) (maxL := 5) (ret := (some .int)) (by decide) rfl (Nat.le_of_ble_eq_true rfl) ?_
  intro pv ev s mv below meth cv A hx hb hml hr hown hts hlocks hname hM ls hl
  have hown : s.vm.findClass RX4 = some mv.cls := hown
  have hl : lv_has ls 5 [(0, .ref (sa S o)), (1, .int (nI t)), (2, .int (nI q)), (3, .int (nI k)), (4, .int p3)] := hl
  have hin4 : ∀ x ∈ wsX40, x ∈ wsX4_sew := by decide +kernel
  obtain ⟨Q, hQ⟩ : ∃ Q, Q = MQ below (va_Qi (fun z u => z = 0 ∧ u = (S, V, sT V, (tf I o 2))) (fun u t => fb_P D y A u t) A) (([.ref (sa S o), .int (nI t), .int (nI q), .int (nI k), .int p3] : List Value).toArray) s 0 0 A := ⟨_, rfl⟩
  rw [← hQ]
  have hns : ns ≤ 12 := hF.2.2.1
  have hnt : nt ≤ 6 := hF.2.2.2.1
  have hcr := hF.cr ht
  have htF := hF.2.2.2.2.1 t ht
  refine lv_aload_n hx hb dX4_sew_0 rfl (lv_at hl 0 rfl) ?_
  refine lv_iconst (v := 0) hx hb dX4_sew_1 (by decide) ?_
  refine fb_put (r := o) hx hb hown hts hin4 tyX4 tyX4_ok nmX4 hM ((hA.1).1) (ce4 ((hA.1).2)) rfl 0 (by decide) (hts (.fieldLink RX4 40 "FeatherBedsModel" "thrown" "I") (by decide +kernel)) (fun _ h9 => h9) rfl (ty := .int) (by decide +kernel) rfl rfl (Nat.le_of_ble_eq_true rfl) dX4_sew_2 (up_I (j := 0) (v := 0) (by rw [ce4 ((hA.1).2)]; simp [va_up, upd])) (w' := (S, V, (sT V), (va_up I o (upd (I o) 0 0)))) ⟨rfl, rfl, rfl⟩ (fun H locs hM => ?_)
  have eI : (va_up I o (upd (I o) 0 0)) = (t0 I o) := rfl
  rw [eI] at hM
  clear eI
  refine lv_aload_n hx hb dX4_sew_5 rfl (lv_at hl 0 rfl) ?_
  refine lv_iload_n hx hb dX4_sew_6 rfl (lv_at hl 1 rfl) ?_
  refine lv_iload_n hx hb dX4_sew_7 rfl (lv_at hl 2 rfl) ?_
  refine fb_callVi (r := o) hx hb hml hown hts hM ((hA.1).1) (ce4 ((hA.1).2)) rfl (As := [.int (nI t), .int (nI q)]) (rest := []) (c_X4_isSquare_in D y l S V (t0 I o) o nt cf rf hA ns df hF.t0 t ht q hq) (cwV 2 hts gX4_sew_X4_isSquare rfl rfl rfl (by decide +kernel) ⟨Nat.le_of_ble_eq_true rfl, Nat.le_of_ble_eq_true rfl⟩) rfl hl.1 rfl (Nat.le_of_ble_eq_true rfl) dX4_sew_8 ⟨Nat.le_of_ble_eq_true rfl, Nat.le_of_ble_eq_true rfl⟩ (fun v_1 u H locs hp hM => ?_)
  obtain ⟨hv_, hu_⟩ := hp
  have hv_ := Eq.symm hv_
  have hu_ := Eq.symm hu_
  subst hv_
  subst hu_
  refine lv_if_ne (tgt := 20) hx hb dX4_sew_11 (by decide) (fun c_2 => ?_) (fun c_2 => absurd c_2 (by decide))
  refine lv_iload_n hx hb dX4_sew_20 rfl (lv_at hl 3 rfl) ?_
  refine lv_iconst (v := 0) hx hb dX4_sew_21 (by decide) ?_
  refine lv_iconst (v := 1) hx hb dX4_sew_22 (by decide) ?_
  refine fb_callSi hx hb hml hown hts hM (As := [.int (nI k), .int 0, .int 1]) (rest := []) (c_X4_isIn D y l S V (t0 I o) (nI k) 0 1) (cwS 3 hts gX4_sew_X4_isIn rfl rfl rfl (by decide +kernel) ⟨Nat.le_of_ble_eq_true rfl, Nat.le_of_ble_eq_true rfl⟩) rfl hl.1 rfl (Nat.le_of_ble_eq_true rfl) dX4_sew_23 ⟨Nat.le_of_ble_eq_true rfl, Nat.le_of_ble_eq_true rfl⟩ (fun v_3 u H locs hp hM => ?_)
  obtain ⟨hv_, hu_⟩ := hp
  have hv_ := Eq.symm hv_
  have hu_ := Eq.symm hu_
  subst hv_
  subst hu_
  rw [show (isN (nI k) 0 1 : Int32) = 1 from isN_k (lo := 0) (hi := 1) (by decide) hka hk]
  refine lv_if_eq (tgt := 40) hx hb dX4_sew_26 (by decide) (fun c_4 => absurd c_4 (by decide)) (fun c_4 => ?_)
  refine lv_aload_n hx hb dX4_sew_29 rfl (lv_at hl 0 rfl) ?_
  refine lv_iload_n hx hb dX4_sew_30 rfl (lv_at hl 1 rfl) ?_
  refine lv_iload_n hx hb dX4_sew_31 rfl (lv_at hl 2 rfl) ?_
  refine lv_iload_n hx hb dX4_sew_32 rfl (lv_at hl 3 rfl) ?_
  refine fb_callVi (r := o) hx hb hml hown hts hM ((hA.1).1) (ce4 ((hA.1).2)) rfl (As := [.int (nI t), .int (nI q), .int (nI k)]) (rest := []) (c_X4_other D y l S V (t0 I o) o nt cf rf hA ns df hF.t0 t ht q hq k (by omega)) (cwV 3 hts gX4_sew_X4_other rfl rfl rfl (by decide +kernel) ⟨Nat.le_of_ble_eq_true rfl, Nat.le_of_ble_eq_true rfl⟩) rfl hl.1 rfl (Nat.le_of_ble_eq_true rfl) dX4_sew_33 ⟨Nat.le_of_ble_eq_true rfl, Nat.le_of_ble_eq_true rfl⟩ (fun v_5 u H locs hp hM => ?_)
  obtain ⟨hv_, hu_⟩ := hp
  have hv_ := Eq.symm hv_
  have hu_ := Eq.symm hu_
  subst hv_
  subst hu_
  rw [show (othM (cf t) (cf t * rf t) q k : Int32) = (-1) from othM_f hno]
  refine lv_iconst (v := (-1)) hx hb dX4_sew_36 (by decide) ?_
  refine lv_icmp_ne (tgt := 46) hx hb dX4_sew_37 (by decide) (fun c_6 => absurd (rfl) c_6) (fun c_6 => ?_)
  refine lv_aload_n hx hb dX4_sew_40 rfl (lv_at hl 0 rfl) ?_
  refine lv_iconst (v := 2) hx hb dX4_sew_41 (by decide) ?_
  refine fb_callVi (r := o) hx hb hml hown hts hM ((hA.1).1) (ce4 ((hA.1).2)) rfl (As := [.int 2]) (rest := []) (c_X4_fail D y l S V (t0 I o) o nt cf rf hA 2) (cwV 1 hts gX4_sew_X4_fail rfl rfl rfl (by decide +kernel) ⟨Nat.le_of_ble_eq_true rfl, Nat.le_of_ble_eq_true rfl⟩) rfl hl.1 rfl (Nat.le_of_ble_eq_true rfl) dX4_sew_42 ⟨Nat.le_of_ble_eq_true rfl, Nat.le_of_ble_eq_true rfl⟩ (fun v_7 u H locs hp hM => ?_)
  obtain ⟨hv_, hu_⟩ := hp
  have hv_ := Eq.symm hv_
  have hu_ := Eq.symm hu_
  subst hv_
  subst hu_
  have eI : (tf (t0 I o) o 2) = (tf I o 2) := tf_t0 _ _ _
  rw [eI] at hM
  clear eI
  rw [hQ]
  exact fb_iret hx hb hr hlocks hM (⟨rfl, rfl⟩) dX4_sew_45

set_option maxHeartbeats 4000000 in
set_option maxRecDepth 100000 in
theorem c_X4_sew_ok (D : va_G) (y : Nat → ClassId) (l : Launch) (S : fb_Sh) (V I : fb_V) (o nt : Nat) (cf rf : Nat → Nat) (hA : MdAt S o nt cf rf) (ns : Nat) (df : Nat → Nat) (hF : MF I o ns nt cf rf df) (t : Nat) (ht : t < nt) (q : Nat) (hq : q < cf t * rf t) (k : Nat) (hka : 0 ≤ k) (hk : k ≤ 1) (hno : ofx (cf t) (cf t * rf t) q k = true) (p3 : Int32)  : CI D y l yX4_sew wsX4_sew rm_X4_sew [.ref (sa S o), .int (nI t), .int (nI q), .int (nI k), .int p3] (S, V, (sT V), I) (fun z u => z = opc (cf t) (cf t * rf t) (upd (I (o + 20 + t)) (2 * q + k) (vp_nar .boolean p3)) (2 * (cf t * rf t)) ∧ u = (S, V, sT V, va_up (t0 I o) (o + 20 + t) (upd (I (o + 20 + t)) (2 * q + k) (vp_nar .boolean p3)))) 0 0 := by
  refine CI.of (cc := cX4_sew) (maxL := 5) (ret := (some .int)) (by decide) rfl (Nat.le_of_ble_eq_true rfl) ?_
  intro pv ev s mv below meth cv A hx hb hml hr hown hts hlocks hname hM ls hl
  have hown : s.vm.findClass RX4 = some mv.cls := hown
  have hl : lv_has ls 5 [(0, .ref (sa S o)), (1, .int (nI t)), (2, .int (nI q)), (3, .int (nI k)), (4, .int p3)] := hl
  have hin4 : ∀ x ∈ wsX40, x ∈ wsX4_sew := by decide +kernel
  obtain ⟨Q, hQ⟩ : ∃ Q, Q = MQ below (va_Qi (fun z u => z = opc (cf t) (cf t * rf t) (upd (I (o + 20 + t)) (2 * q + k) (vp_nar .boolean p3)) (2 * (cf t * rf t)) ∧ u = (S, V, sT V, va_up (t0 I o) (o + 20 + t) (upd (I (o + 20 + t)) (2 * q + k) (vp_nar .boolean p3)))) (fun u t => fb_P D y A u t) A) (([.ref (sa S o), .int (nI t), .int (nI q), .int (nI k), .int p3] : List Value).toArray) s 0 0 A := ⟨_, rfl⟩
  rw [← hQ]
  have hns : ns ≤ 12 := hF.2.2.1
  have hnt : nt ≤ 6 := hF.2.2.2.1
  have hcr := hF.cr ht
  have htF := hF.2.2.2.2.1 t ht
  refine lv_aload_n hx hb dX4_sew_0 rfl (lv_at hl 0 rfl) ?_
  refine lv_iconst (v := 0) hx hb dX4_sew_1 (by decide) ?_
  refine fb_put (r := o) hx hb hown hts hin4 tyX4 tyX4_ok nmX4 hM ((hA.1).1) (ce4 ((hA.1).2)) rfl 0 (by decide) (hts (.fieldLink RX4 40 "FeatherBedsModel" "thrown" "I") (by decide +kernel)) (fun _ h9 => h9) rfl (ty := .int) (by decide +kernel) rfl rfl (Nat.le_of_ble_eq_true rfl) dX4_sew_2 (up_I (j := 0) (v := 0) (by rw [ce4 ((hA.1).2)]; simp [va_up, upd])) (w' := (S, V, (sT V), (va_up I o (upd (I o) 0 0)))) ⟨rfl, rfl, rfl⟩ (fun H locs hM => ?_)
  have eI : (va_up I o (upd (I o) 0 0)) = (t0 I o) := rfl
  rw [eI] at hM
  clear eI
  refine lv_aload_n hx hb dX4_sew_5 rfl (lv_at hl 0 rfl) ?_
  refine lv_iload_n hx hb dX4_sew_6 rfl (lv_at hl 1 rfl) ?_
  refine lv_iload_n hx hb dX4_sew_7 rfl (lv_at hl 2 rfl) ?_
  refine fb_callVi (r := o) hx hb hml hown hts hM ((hA.1).1) (ce4 ((hA.1).2)) rfl (As := [.int (nI t), .int (nI q)]) (rest := []) (c_X4_isSquare_in D y l S V (t0 I o) o nt cf rf hA ns df hF.t0 t ht q hq) (cwV 2 hts gX4_sew_X4_isSquare rfl rfl rfl (by decide +kernel) ⟨Nat.le_of_ble_eq_true rfl, Nat.le_of_ble_eq_true rfl⟩) rfl hl.1 rfl (Nat.le_of_ble_eq_true rfl) dX4_sew_8 ⟨Nat.le_of_ble_eq_true rfl, Nat.le_of_ble_eq_true rfl⟩ (fun v_1 u H locs hp hM => ?_)
  obtain ⟨hv_, hu_⟩ := hp
  have hv_ := Eq.symm hv_
  have hu_ := Eq.symm hu_
  subst hv_
  subst hu_
  refine lv_if_ne (tgt := 20) hx hb dX4_sew_11 (by decide) (fun c_2 => ?_) (fun c_2 => absurd c_2 (by decide))
  refine lv_iload_n hx hb dX4_sew_20 rfl (lv_at hl 3 rfl) ?_
  refine lv_iconst (v := 0) hx hb dX4_sew_21 (by decide) ?_
  refine lv_iconst (v := 1) hx hb dX4_sew_22 (by decide) ?_
  refine fb_callSi hx hb hml hown hts hM (As := [.int (nI k), .int 0, .int 1]) (rest := []) (c_X4_isIn D y l S V (t0 I o) (nI k) 0 1) (cwS 3 hts gX4_sew_X4_isIn rfl rfl rfl (by decide +kernel) ⟨Nat.le_of_ble_eq_true rfl, Nat.le_of_ble_eq_true rfl⟩) rfl hl.1 rfl (Nat.le_of_ble_eq_true rfl) dX4_sew_23 ⟨Nat.le_of_ble_eq_true rfl, Nat.le_of_ble_eq_true rfl⟩ (fun v_3 u H locs hp hM => ?_)
  obtain ⟨hv_, hu_⟩ := hp
  have hv_ := Eq.symm hv_
  have hu_ := Eq.symm hu_
  subst hv_
  subst hu_
  rw [show (isN (nI k) 0 1 : Int32) = 1 from isN_k (lo := 0) (hi := 1) (by decide) hka hk]
  refine lv_if_eq (tgt := 40) hx hb dX4_sew_26 (by decide) (fun c_4 => absurd c_4 (by decide)) (fun c_4 => ?_)
  refine lv_aload_n hx hb dX4_sew_29 rfl (lv_at hl 0 rfl) ?_
  refine lv_iload_n hx hb dX4_sew_30 rfl (lv_at hl 1 rfl) ?_
  refine lv_iload_n hx hb dX4_sew_31 rfl (lv_at hl 2 rfl) ?_
  refine lv_iload_n hx hb dX4_sew_32 rfl (lv_at hl 3 rfl) ?_
  refine fb_callVi (r := o) hx hb hml hown hts hM ((hA.1).1) (ce4 ((hA.1).2)) rfl (As := [.int (nI t), .int (nI q), .int (nI k)]) (rest := []) (c_X4_other D y l S V (t0 I o) o nt cf rf hA ns df hF.t0 t ht q hq k (by omega)) (cwV 3 hts gX4_sew_X4_other rfl rfl rfl (by decide +kernel) ⟨Nat.le_of_ble_eq_true rfl, Nat.le_of_ble_eq_true rfl⟩) rfl hl.1 rfl (Nat.le_of_ble_eq_true rfl) dX4_sew_33 ⟨Nat.le_of_ble_eq_true rfl, Nat.le_of_ble_eq_true rfl⟩ (fun v_5 u H locs hp hM => ?_)
  obtain ⟨hv_, hu_⟩ := hp
  have hv_ := Eq.symm hv_
  have hu_ := Eq.symm hu_
  subst hv_
  subst hu_
  rw [show (othM (cf t) (cf t * rf t) q k : Int32) = nI (oft (cf t) q k) from othM_t hno]
  refine lv_iconst (v := (-1)) hx hb dX4_sew_36 (by decide) ?_
  refine lv_icmp_ne (tgt := 46) hx hb dX4_sew_37 (by decide) (fun c_6 => ?_) (fun c_6 => absurd c_6 (nI_m1 (by have := (oft_lt (n := cf t * rf t) rfl htF.2.2.2.1 hq hno).1; omega)))
  refine lv_aload_n hx hb dX4_sew_46 rfl (lv_at hl 0 rfl) ?_
  refine fb_get (r := o) hx hb hown hts hin4 hM ((hA.1).1) (ce4 ((hA.1).2)) rfl 9 (by decide) (hts (.fieldLink RX4 33 "FeatherBedsModel" "seams" "[[Z") (by decide +kernel)) (fun _ h9 => h9) (v := .ref (sa S (o + 6))) (congrArg (fun z => some (va_rf z)) ((hA.2.1).2.2.2.2.2.1)) dX4_sew_47 ?_
  refine lv_iload_n hx hb dX4_sew_50 rfl (lv_at hl 1 rfl) ?_
  refine fb_aaldA (r := (o + 6)) hx hb hM ((hA.2.2.2.2.2.2.2.1).1) (ce11 ((hA.2.2.2.2.2.2.2.1).2.1)) 5 rfl (k := t) (nI_clamp (by omega)) (b := sa S (o + 20 + t)) (((hA.2.2.2.2.2.2.2.2.2) t (by omega)).2.1) (by rw [(hA.2.2.2.2.2.2.2.1).2.2]; exact vp_in_nI (by omega) (by omega)) dX4_sew_51 ?_
  refine lv_iconst (v := 2) hx hb dX4_sew_52 (by decide) ?_
  refine lv_iload_n hx hb dX4_sew_53 rfl (lv_at hl 2 rfl) ?_
  refine lv_imul hx hb dX4_sew_54 ?_
  refine W.eq (g2 := F0 mv _ ls (.int (nI (2 * q)) :: .ref (sa S (o + 20 + t)) :: [])) (by first | rfl | rw [show (2 * (nI q) : Int32) = nI (2 * q) from pk_mul 2 q]) ?_
  refine lv_iload_n hx hb dX4_sew_55 rfl (lv_at hl 3 rfl) ?_
  refine lv_iadd hx hb dX4_sew_56 ?_
  refine W.eq (g2 := F0 mv _ ls (.int (nI (2 * q + k)) :: .ref (sa S (o + 20 + t)) :: [])) (by first | rfl | rw [show ((nI (2 * q)) + (nI k) : Int32) = nI (2 * q + k) from nI_add _ _]) ?_
  refine lv_iload hx hb dX4_sew_57 (lv_at hl 4 rfl) ?_
  refine fb_zast (r := (o + 20 + t)) hx hb hM (((hA.2.2.2.2.2.2.2.2.2) t (by omega)).2.2.1) (ce7 (((hA.2.2.2.2.2.2.2.2.2) t (by omega)).2.2.2.1)) (k := 2 * q + k) (nI_clamp (by omega)) (by rw [((hA.2.2.2.2.2.2.2.2.2) t (by omega)).2.2.2.2]; exact vp_in_nI (by omega) (by omega)) dX4_sew_59 (up_I (j := 2 * q + k) (by rw [ce7 (((hA.2.2.2.2.2.2.2.2.2) t (by omega)).2.2.2.1)]; simp [va_up])) (w' := (S, V, (sT V), (va_up (t0 I o) (o + 20 + t) (upd ((t0 I o) (o + 20 + t)) (2 * q + k) (vp_nar .boolean p3))))) ⟨rfl, rfl, rfl⟩ (fun H locs hM => ?_)
  have eI : (va_up (t0 I o) (o + 20 + t) (upd ((t0 I o) (o + 20 + t)) (2 * q + k) (vp_nar .boolean p3))) = (va_up (t0 I o) (o + 20 + t) (upd (I (o + 20 + t)) (2 * q + k) (vp_nar .boolean p3))) := by rw [t0_ne I (show o + 20 + t ≠ o by omega)]
  rw [eI] at hM
  clear eI
  refine lv_aload_n hx hb dX4_sew_60 rfl (lv_at hl 0 rfl) ?_
  refine lv_iload_n hx hb dX4_sew_61 rfl (lv_at hl 1 rfl) ?_
  refine fb_callVi (r := o) hx hb hml hown hts hM ((hA.1).1) (ce4 ((hA.1).2)) rfl (As := [.int (nI t)]) (rest := []) (c_X4_open D y l S V (va_up (t0 I o) (o + 20 + t) (upd (I (o + 20 + t)) (2 * q + k) (vp_nar .boolean p3))) o nt cf rf hA ns df (hF.t0.up _ (by omega) (by omega) (by omega)) t ht) (cwV 1 hts gX4_sew_X4_open rfl rfl rfl (by decide +kernel) ⟨Nat.le_of_ble_eq_true rfl, Nat.le_of_ble_eq_true rfl⟩) rfl hl.1 rfl (Nat.le_of_ble_eq_true rfl) dX4_sew_62 ⟨Nat.le_of_ble_eq_true rfl, Nat.le_of_ble_eq_true rfl⟩ (fun v_7 u H locs hp hM => ?_)
  obtain ⟨hv_, hu_⟩ := hp
  have hv_ := Eq.symm hv_
  have hu_ := Eq.symm hu_
  subst hv_
  subst hu_
  rw [hQ]
  exact fb_iret hx hb hr hlocks hM (⟨by rw [va_up_self], rfl⟩) dX4_sew_65

abbrev rm_X4_fill : Room := { frames := 3, cells := 0, slots := 0, locals := 78 }
set_option maxHeartbeats 4000000 in
set_option maxRecDepth 100000 in
theorem c_X4_fill_f0t (D : va_G) (y : Nat → ClassId) (l : Launch) (S : fb_Sh) (V I : fb_V) (o nt : Nat) (cf rf : Nat → Nat) (hA : MdAt S o nt cf rf) (ns : Nat) (df : Nat → Nat) (hF : MF I o ns nt cf rf df) (p0 : Int32) (ho : p0 < 0 ∨ nI nt ≤ p0) (p1 : Int32) (p2 : Int32) (p3 : Int32) : CI D y l yX4_fill wsX4_fill rm_X4_fill [.ref (sa S o), .int p0, .int p1, .int p2, .int p3] (S, V, (sT V), I) (fun z u => z = 0 ∧ u = (S, V, sT V, (tf I o 1))) 0 0 := by
  refine CI.of (cc := cX4_fill) (maxL := 5) (ret := (some .int)) (by decide) rfl (Nat.le_of_ble_eq_true rfl) ?_
  intro pv ev s mv below meth cv A hx hb hml hr hown hts hlocks hname hM ls hl
  have hown : s.vm.findClass RX4 = some mv.cls := hown
  have hl : lv_has ls 5 [(0, .ref (sa S o)), (1, .int p0), (2, .int p1), (3, .int p2), (4, .int p3)] := hl
  have hin4 : ∀ x ∈ wsX40, x ∈ wsX4_fill := by decide +kernel
  obtain ⟨Q, hQ⟩ : ∃ Q, Q = MQ below (va_Qi (fun z u => z = 0 ∧ u = (S, V, sT V, (tf I o 1))) (fun u t => fb_P D y A u t) A) (([.ref (sa S o), .int p0, .int p1, .int p2, .int p3] : List Value).toArray) s 0 0 A := ⟨_, rfl⟩
  rw [← hQ]
  have hns : ns ≤ 12 := hF.2.2.1
  have hnt : nt ≤ 6 := hF.2.2.2.1
  refine lv_aload_n hx hb dX4_fill_0 rfl (lv_at hl 0 rfl) ?_
  refine lv_iconst (v := 0) hx hb dX4_fill_1 (by decide) ?_
  refine fb_put (r := o) hx hb hown hts hin4 tyX4 tyX4_ok nmX4 hM ((hA.1).1) (ce4 ((hA.1).2)) rfl 0 (by decide) (hts (.fieldLink RX4 40 "FeatherBedsModel" "thrown" "I") (by decide +kernel)) (fun _ h9 => h9) rfl (ty := .int) (by decide +kernel) rfl rfl (Nat.le_of_ble_eq_true rfl) dX4_fill_2 (up_I (j := 0) (v := 0) (by rw [ce4 ((hA.1).2)]; simp [va_up, upd])) (w' := (S, V, (sT V), (va_up I o (upd (I o) 0 0)))) ⟨rfl, rfl, rfl⟩ (fun H locs hM => ?_)
  have eI : (va_up I o (upd (I o) 0 0)) = (t0 I o) := rfl
  rw [eI] at hM
  clear eI
  refine lv_aload_n hx hb dX4_fill_5 rfl (lv_at hl 0 rfl) ?_
  refine lv_iload_n hx hb dX4_fill_6 rfl (lv_at hl 1 rfl) ?_
  refine lv_iload_n hx hb dX4_fill_7 rfl (lv_at hl 2 rfl) ?_
  refine fb_callVi (r := o) hx hb hml hown hts hM ((hA.1).1) (ce4 ((hA.1).2)) rfl (As := [.int p0, .int p1]) (rest := []) (c_X4_isSquare_ot D y l S V (t0 I o) o nt cf rf hA ns df hF.t0 p0 ho p1) (cwV 2 hts gX4_fill_X4_isSquare rfl rfl rfl (by decide +kernel) ⟨Nat.le_of_ble_eq_true rfl, Nat.le_of_ble_eq_true rfl⟩) rfl hl.1 rfl (Nat.le_of_ble_eq_true rfl) dX4_fill_8 ⟨Nat.le_of_ble_eq_true rfl, Nat.le_of_ble_eq_true rfl⟩ (fun v_1 u H locs hp hM => ?_)
  obtain ⟨hv_, hu_⟩ := hp
  have hv_ := Eq.symm hv_
  have hu_ := Eq.symm hu_
  subst hv_
  subst hu_
  refine lv_if_eq (tgt := 23) hx hb dX4_fill_11 (by decide) (fun c_2 => ?_) (fun c_2 => absurd (by decide) c_2)
  refine lv_aload_n hx hb dX4_fill_23 rfl (lv_at hl 0 rfl) ?_
  refine lv_iconst (v := 1) hx hb dX4_fill_24 (by decide) ?_
  refine fb_callVi (r := o) hx hb hml hown hts hM ((hA.1).1) (ce4 ((hA.1).2)) rfl (As := [.int 1]) (rest := []) (c_X4_fail D y l S V (t0 I o) o nt cf rf hA 1) (cwV 1 hts gX4_fill_X4_fail rfl rfl rfl (by decide +kernel) ⟨Nat.le_of_ble_eq_true rfl, Nat.le_of_ble_eq_true rfl⟩) rfl hl.1 rfl (Nat.le_of_ble_eq_true rfl) dX4_fill_25 ⟨Nat.le_of_ble_eq_true rfl, Nat.le_of_ble_eq_true rfl⟩ (fun v_3 u H locs hp hM => ?_)
  obtain ⟨hv_, hu_⟩ := hp
  have hv_ := Eq.symm hv_
  have hu_ := Eq.symm hu_
  subst hv_
  subst hu_
  have eI : (tf (t0 I o) o 1) = (tf I o 1) := tf_t0 _ _ _
  rw [eI] at hM
  clear eI
  rw [hQ]
  exact fb_iret hx hb hr hlocks hM (⟨rfl, rfl⟩) dX4_fill_28

set_option maxHeartbeats 4000000 in
set_option maxRecDepth 100000 in
theorem c_X4_fill_f0q (D : va_G) (y : Nat → ClassId) (l : Launch) (S : fb_Sh) (V I : fb_V) (o nt : Nat) (cf rf : Nat → Nat) (hA : MdAt S o nt cf rf) (ns : Nat) (df : Nat → Nat) (hF : MF I o ns nt cf rf df) (t : Nat) (ht : t < nt) (p1 : Int32) (ho : p1 < 0 ∨ nI (cf t * rf t) ≤ p1) (p2 : Int32) (p3 : Int32) : CI D y l yX4_fill wsX4_fill rm_X4_fill [.ref (sa S o), .int (nI t), .int p1, .int p2, .int p3] (S, V, (sT V), I) (fun z u => z = 0 ∧ u = (S, V, sT V, (tf I o 1))) 0 0 := by
  refine CI.of (cc := cX4_fill) (maxL := 5) (ret := (some .int)) (by decide) rfl (Nat.le_of_ble_eq_true rfl) ?_
  intro pv ev s mv below meth cv A hx hb hml hr hown hts hlocks hname hM ls hl
  have hown : s.vm.findClass RX4 = some mv.cls := hown
  have hl : lv_has ls 5 [(0, .ref (sa S o)), (1, .int (nI t)), (2, .int p1), (3, .int p2), (4, .int p3)] := hl
  have hin4 : ∀ x ∈ wsX40, x ∈ wsX4_fill := by decide +kernel
  obtain ⟨Q, hQ⟩ : ∃ Q, Q = MQ below (va_Qi (fun z u => z = 0 ∧ u = (S, V, sT V, (tf I o 1))) (fun u t => fb_P D y A u t) A) (([.ref (sa S o), .int (nI t), .int p1, .int p2, .int p3] : List Value).toArray) s 0 0 A := ⟨_, rfl⟩
  rw [← hQ]
  have hns : ns ≤ 12 := hF.2.2.1
  have hnt : nt ≤ 6 := hF.2.2.2.1
  have hcr := hF.cr ht
  have htF := hF.2.2.2.2.1 t ht
  refine lv_aload_n hx hb dX4_fill_0 rfl (lv_at hl 0 rfl) ?_
  refine lv_iconst (v := 0) hx hb dX4_fill_1 (by decide) ?_
  refine fb_put (r := o) hx hb hown hts hin4 tyX4 tyX4_ok nmX4 hM ((hA.1).1) (ce4 ((hA.1).2)) rfl 0 (by decide) (hts (.fieldLink RX4 40 "FeatherBedsModel" "thrown" "I") (by decide +kernel)) (fun _ h9 => h9) rfl (ty := .int) (by decide +kernel) rfl rfl (Nat.le_of_ble_eq_true rfl) dX4_fill_2 (up_I (j := 0) (v := 0) (by rw [ce4 ((hA.1).2)]; simp [va_up, upd])) (w' := (S, V, (sT V), (va_up I o (upd (I o) 0 0)))) ⟨rfl, rfl, rfl⟩ (fun H locs hM => ?_)
  have eI : (va_up I o (upd (I o) 0 0)) = (t0 I o) := rfl
  rw [eI] at hM
  clear eI
  refine lv_aload_n hx hb dX4_fill_5 rfl (lv_at hl 0 rfl) ?_
  refine lv_iload_n hx hb dX4_fill_6 rfl (lv_at hl 1 rfl) ?_
  refine lv_iload_n hx hb dX4_fill_7 rfl (lv_at hl 2 rfl) ?_
  refine fb_callVi (r := o) hx hb hml hown hts hM ((hA.1).1) (ce4 ((hA.1).2)) rfl (As := [.int (nI t), .int p1]) (rest := []) (c_X4_isSquare_oq D y l S V (t0 I o) o nt cf rf hA ns df hF.t0 t ht p1 ho) (cwV 2 hts gX4_fill_X4_isSquare rfl rfl rfl (by decide +kernel) ⟨Nat.le_of_ble_eq_true rfl, Nat.le_of_ble_eq_true rfl⟩) rfl hl.1 rfl (Nat.le_of_ble_eq_true rfl) dX4_fill_8 ⟨Nat.le_of_ble_eq_true rfl, Nat.le_of_ble_eq_true rfl⟩ (fun v_1 u H locs hp hM => ?_)
  obtain ⟨hv_, hu_⟩ := hp
  have hv_ := Eq.symm hv_
  have hu_ := Eq.symm hu_
  subst hv_
  subst hu_
  refine lv_if_eq (tgt := 23) hx hb dX4_fill_11 (by decide) (fun c_2 => ?_) (fun c_2 => absurd (by decide) c_2)
  refine lv_aload_n hx hb dX4_fill_23 rfl (lv_at hl 0 rfl) ?_
  refine lv_iconst (v := 1) hx hb dX4_fill_24 (by decide) ?_
  refine fb_callVi (r := o) hx hb hml hown hts hM ((hA.1).1) (ce4 ((hA.1).2)) rfl (As := [.int 1]) (rest := []) (c_X4_fail D y l S V (t0 I o) o nt cf rf hA 1) (cwV 1 hts gX4_fill_X4_fail rfl rfl rfl (by decide +kernel) ⟨Nat.le_of_ble_eq_true rfl, Nat.le_of_ble_eq_true rfl⟩) rfl hl.1 rfl (Nat.le_of_ble_eq_true rfl) dX4_fill_25 ⟨Nat.le_of_ble_eq_true rfl, Nat.le_of_ble_eq_true rfl⟩ (fun v_3 u H locs hp hM => ?_)
  obtain ⟨hv_, hu_⟩ := hp
  have hv_ := Eq.symm hv_
  have hu_ := Eq.symm hu_
  subst hv_
  subst hu_
  have eI : (tf (t0 I o) o 1) = (tf I o 1) := tf_t0 _ _ _
  rw [eI] at hM
  clear eI
  rw [hQ]
  exact fb_iret hx hb hr hlocks hM (⟨rfl, rfl⟩) dX4_fill_28

set_option maxHeartbeats 4000000 in
set_option maxRecDepth 100000 in
theorem c_X4_fill_f1o (D : va_G) (y : Nat → ClassId) (l : Launch) (S : fb_Sh) (V I : fb_V) (o nt : Nat) (cf rf : Nat → Nat) (hA : MdAt S o nt cf rf) (ns : Nat) (df : Nat → Nat) (hF : MF I o ns nt cf rf df) (t : Nat) (ht : t < nt) (q : Nat) (hq : q < cf t * rf t) (p2 : Int32) (ho : p2 < 0 ∨ 4 < p2) (p3 : Int32) : CI D y l yX4_fill wsX4_fill rm_X4_fill [.ref (sa S o), .int (nI t), .int (nI q), .int p2, .int p3] (S, V, (sT V), I) (fun z u => z = 0 ∧ u = (S, V, sT V, (tf I o 1))) 0 0 := by
  refine CI.of (cc := cX4_fill) (maxL := 5) (ret := (some .int)) (by decide) rfl (Nat.le_of_ble_eq_true rfl) ?_
  intro pv ev s mv below meth cv A hx hb hml hr hown hts hlocks hname hM ls hl
  have hown : s.vm.findClass RX4 = some mv.cls := hown
  have hl : lv_has ls 5 [(0, .ref (sa S o)), (1, .int (nI t)), (2, .int (nI q)), (3, .int p2), (4, .int p3)] := hl
  have hin4 : ∀ x ∈ wsX40, x ∈ wsX4_fill := by decide +kernel
  obtain ⟨Q, hQ⟩ : ∃ Q, Q = MQ below (va_Qi (fun z u => z = 0 ∧ u = (S, V, sT V, (tf I o 1))) (fun u t => fb_P D y A u t) A) (([.ref (sa S o), .int (nI t), .int (nI q), .int p2, .int p3] : List Value).toArray) s 0 0 A := ⟨_, rfl⟩
  rw [← hQ]
  have hns : ns ≤ 12 := hF.2.2.1
  have hnt : nt ≤ 6 := hF.2.2.2.1
  have hcr := hF.cr ht
  have htF := hF.2.2.2.2.1 t ht
  refine lv_aload_n hx hb dX4_fill_0 rfl (lv_at hl 0 rfl) ?_
  refine lv_iconst (v := 0) hx hb dX4_fill_1 (by decide) ?_
  refine fb_put (r := o) hx hb hown hts hin4 tyX4 tyX4_ok nmX4 hM ((hA.1).1) (ce4 ((hA.1).2)) rfl 0 (by decide) (hts (.fieldLink RX4 40 "FeatherBedsModel" "thrown" "I") (by decide +kernel)) (fun _ h9 => h9) rfl (ty := .int) (by decide +kernel) rfl rfl (Nat.le_of_ble_eq_true rfl) dX4_fill_2 (up_I (j := 0) (v := 0) (by rw [ce4 ((hA.1).2)]; simp [va_up, upd])) (w' := (S, V, (sT V), (va_up I o (upd (I o) 0 0)))) ⟨rfl, rfl, rfl⟩ (fun H locs hM => ?_)
  have eI : (va_up I o (upd (I o) 0 0)) = (t0 I o) := rfl
  rw [eI] at hM
  clear eI
  refine lv_aload_n hx hb dX4_fill_5 rfl (lv_at hl 0 rfl) ?_
  refine lv_iload_n hx hb dX4_fill_6 rfl (lv_at hl 1 rfl) ?_
  refine lv_iload_n hx hb dX4_fill_7 rfl (lv_at hl 2 rfl) ?_
  refine fb_callVi (r := o) hx hb hml hown hts hM ((hA.1).1) (ce4 ((hA.1).2)) rfl (As := [.int (nI t), .int (nI q)]) (rest := []) (c_X4_isSquare_in D y l S V (t0 I o) o nt cf rf hA ns df hF.t0 t ht q hq) (cwV 2 hts gX4_fill_X4_isSquare rfl rfl rfl (by decide +kernel) ⟨Nat.le_of_ble_eq_true rfl, Nat.le_of_ble_eq_true rfl⟩) rfl hl.1 rfl (Nat.le_of_ble_eq_true rfl) dX4_fill_8 ⟨Nat.le_of_ble_eq_true rfl, Nat.le_of_ble_eq_true rfl⟩ (fun v_1 u H locs hp hM => ?_)
  obtain ⟨hv_, hu_⟩ := hp
  have hv_ := Eq.symm hv_
  have hu_ := Eq.symm hu_
  subst hv_
  subst hu_
  refine lv_if_eq (tgt := 23) hx hb dX4_fill_11 (by decide) (fun c_2 => absurd c_2 (by decide)) (fun c_2 => ?_)
  refine lv_iload_n hx hb dX4_fill_14 rfl (lv_at hl 3 rfl) ?_
  refine lv_iconst (v := 0) hx hb dX4_fill_15 (by decide) ?_
  refine lv_iconst (v := 4) hx hb dX4_fill_16 (by decide) ?_
  refine fb_callSi hx hb hml hown hts hM (As := [.int p2, .int 0, .int 4]) (rest := []) (c_X4_isIn D y l S V (t0 I o) p2 0 4) (cwS 3 hts gX4_fill_X4_isIn rfl rfl rfl (by decide +kernel) ⟨Nat.le_of_ble_eq_true rfl, Nat.le_of_ble_eq_true rfl⟩) rfl hl.1 rfl (Nat.le_of_ble_eq_true rfl) dX4_fill_17 ⟨Nat.le_of_ble_eq_true rfl, Nat.le_of_ble_eq_true rfl⟩ (fun v_3 u H locs hp hM => ?_)
  obtain ⟨hv_, hu_⟩ := hp
  have hv_ := Eq.symm hv_
  have hu_ := Eq.symm hu_
  subst hv_
  subst hu_
  rw [show (isN p2 0 4 : Int32) = 0 from isN_0 ho]
  refine lv_if_ne (tgt := 29) hx hb dX4_fill_20 (by decide) (fun c_4 => absurd (by decide) c_4) (fun c_4 => ?_)
  refine lv_aload_n hx hb dX4_fill_23 rfl (lv_at hl 0 rfl) ?_
  refine lv_iconst (v := 1) hx hb dX4_fill_24 (by decide) ?_
  refine fb_callVi (r := o) hx hb hml hown hts hM ((hA.1).1) (ce4 ((hA.1).2)) rfl (As := [.int 1]) (rest := []) (c_X4_fail D y l S V (t0 I o) o nt cf rf hA 1) (cwV 1 hts gX4_fill_X4_fail rfl rfl rfl (by decide +kernel) ⟨Nat.le_of_ble_eq_true rfl, Nat.le_of_ble_eq_true rfl⟩) rfl hl.1 rfl (Nat.le_of_ble_eq_true rfl) dX4_fill_25 ⟨Nat.le_of_ble_eq_true rfl, Nat.le_of_ble_eq_true rfl⟩ (fun v_5 u H locs hp hM => ?_)
  obtain ⟨hv_, hu_⟩ := hp
  have hv_ := Eq.symm hv_
  have hu_ := Eq.symm hu_
  subst hv_
  subst hu_
  have eI : (tf (t0 I o) o 1) = (tf I o 1) := tf_t0 _ _ _
  rw [eI] at hM
  clear eI
  rw [hQ]
  exact fb_iret hx hb hr hlocks hM (⟨rfl, rfl⟩) dX4_fill_28

set_option maxHeartbeats 4000000 in
set_option maxRecDepth 100000 in
theorem c_X4_fill_f2o (D : va_G) (y : Nat → ClassId) (l : Launch) (S : fb_Sh) (V I : fb_V) (o nt : Nat) (cf rf : Nat → Nat) (hA : MdAt S o nt cf rf) (ns : Nat) (df : Nat → Nat) (hF : MF I o ns nt cf rf df) (t : Nat) (ht : t < nt) (q : Nat) (hq : q < cf t * rf t) (c : Nat) (hca : 0 ≤ c) (hc : c ≤ 4) (p3 : Int32) (ho : p3 < 1 ∨ 300 < p3) : CI D y l yX4_fill wsX4_fill rm_X4_fill [.ref (sa S o), .int (nI t), .int (nI q), .int (nI c), .int p3] (S, V, (sT V), I) (fun z u => z = 0 ∧ u = (S, V, sT V, (tf I o 2))) 0 0 := by
  refine CI.of (cc := cX4_fill) (maxL := 5) (ret := (some .int)) (by decide) rfl (Nat.le_of_ble_eq_true rfl) ?_
  intro pv ev s mv below meth cv A hx hb hml hr hown hts hlocks hname hM ls hl
  have hown : s.vm.findClass RX4 = some mv.cls := hown
  have hl : lv_has ls 5 [(0, .ref (sa S o)), (1, .int (nI t)), (2, .int (nI q)), (3, .int (nI c)), (4, .int p3)] := hl
  have hin4 : ∀ x ∈ wsX40, x ∈ wsX4_fill := by decide +kernel
  obtain ⟨Q, hQ⟩ : ∃ Q, Q = MQ below (va_Qi (fun z u => z = 0 ∧ u = (S, V, sT V, (tf I o 2))) (fun u t => fb_P D y A u t) A) (([.ref (sa S o), .int (nI t), .int (nI q), .int (nI c), .int p3] : List Value).toArray) s 0 0 A := ⟨_, rfl⟩
  rw [← hQ]
  have hns : ns ≤ 12 := hF.2.2.1
  have hnt : nt ≤ 6 := hF.2.2.2.1
  have hcr := hF.cr ht
  have htF := hF.2.2.2.2.1 t ht
  refine lv_aload_n hx hb dX4_fill_0 rfl (lv_at hl 0 rfl) ?_
  refine lv_iconst (v := 0) hx hb dX4_fill_1 (by decide) ?_
  refine fb_put (r := o) hx hb hown hts hin4 tyX4 tyX4_ok nmX4 hM ((hA.1).1) (ce4 ((hA.1).2)) rfl 0 (by decide) (hts (.fieldLink RX4 40 "FeatherBedsModel" "thrown" "I") (by decide +kernel)) (fun _ h9 => h9) rfl (ty := .int) (by decide +kernel) rfl rfl (Nat.le_of_ble_eq_true rfl) dX4_fill_2 (up_I (j := 0) (v := 0) (by rw [ce4 ((hA.1).2)]; simp [va_up, upd])) (w' := (S, V, (sT V), (va_up I o (upd (I o) 0 0)))) ⟨rfl, rfl, rfl⟩ (fun H locs hM => ?_)
  have eI : (va_up I o (upd (I o) 0 0)) = (t0 I o) := rfl
  rw [eI] at hM
  clear eI
  refine lv_aload_n hx hb dX4_fill_5 rfl (lv_at hl 0 rfl) ?_
  refine lv_iload_n hx hb dX4_fill_6 rfl (lv_at hl 1 rfl) ?_
  refine lv_iload_n hx hb dX4_fill_7 rfl (lv_at hl 2 rfl) ?_
  refine fb_callVi (r := o) hx hb hml hown hts hM ((hA.1).1) (ce4 ((hA.1).2)) rfl (As := [.int (nI t), .int (nI q)]) (rest := []) (c_X4_isSquare_in D y l S V (t0 I o) o nt cf rf hA ns df hF.t0 t ht q hq) (cwV 2 hts gX4_fill_X4_isSquare rfl rfl rfl (by decide +kernel) ⟨Nat.le_of_ble_eq_true rfl, Nat.le_of_ble_eq_true rfl⟩) rfl hl.1 rfl (Nat.le_of_ble_eq_true rfl) dX4_fill_8 ⟨Nat.le_of_ble_eq_true rfl, Nat.le_of_ble_eq_true rfl⟩ (fun v_1 u H locs hp hM => ?_)
  obtain ⟨hv_, hu_⟩ := hp
  have hv_ := Eq.symm hv_
  have hu_ := Eq.symm hu_
  subst hv_
  subst hu_
  refine lv_if_eq (tgt := 23) hx hb dX4_fill_11 (by decide) (fun c_2 => absurd c_2 (by decide)) (fun c_2 => ?_)
  refine lv_iload_n hx hb dX4_fill_14 rfl (lv_at hl 3 rfl) ?_
  refine lv_iconst (v := 0) hx hb dX4_fill_15 (by decide) ?_
  refine lv_iconst (v := 4) hx hb dX4_fill_16 (by decide) ?_
  refine fb_callSi hx hb hml hown hts hM (As := [.int (nI c), .int 0, .int 4]) (rest := []) (c_X4_isIn D y l S V (t0 I o) (nI c) 0 4) (cwS 3 hts gX4_fill_X4_isIn rfl rfl rfl (by decide +kernel) ⟨Nat.le_of_ble_eq_true rfl, Nat.le_of_ble_eq_true rfl⟩) rfl hl.1 rfl (Nat.le_of_ble_eq_true rfl) dX4_fill_17 ⟨Nat.le_of_ble_eq_true rfl, Nat.le_of_ble_eq_true rfl⟩ (fun v_3 u H locs hp hM => ?_)
  obtain ⟨hv_, hu_⟩ := hp
  have hv_ := Eq.symm hv_
  have hu_ := Eq.symm hu_
  subst hv_
  subst hu_
  rw [show (isN (nI c) 0 4 : Int32) = 1 from isN_k (lo := 0) (hi := 4) (by decide) hca hc]
  refine lv_if_ne (tgt := 29) hx hb dX4_fill_20 (by decide) (fun c_4 => ?_) (fun c_4 => absurd c_4 (by decide))
  refine lv_iload hx hb dX4_fill_29 (lv_at hl 4 rfl) ?_
  refine lv_iconst (v := 1) hx hb dX4_fill_31 (by decide) ?_
  refine lv_sipush (v := 300) hx hb dX4_fill_32 (by decide) ?_
  refine fb_callSi hx hb hml hown hts hM (As := [.int p3, .int 1, .int 300]) (rest := []) (c_X4_isIn D y l S V (t0 I o) p3 1 300) (cwS 3 hts gX4_fill_X4_isIn rfl rfl rfl (by decide +kernel) ⟨Nat.le_of_ble_eq_true rfl, Nat.le_of_ble_eq_true rfl⟩) rfl hl.1 rfl (Nat.le_of_ble_eq_true rfl) dX4_fill_35 ⟨Nat.le_of_ble_eq_true rfl, Nat.le_of_ble_eq_true rfl⟩ (fun v_5 u H locs hp hM => ?_)
  obtain ⟨hv_, hu_⟩ := hp
  have hv_ := Eq.symm hv_
  have hu_ := Eq.symm hu_
  subst hv_
  subst hu_
  rw [show (isN p3 1 300 : Int32) = 0 from isN_0 ho]
  refine lv_if_ne (tgt := 47) hx hb dX4_fill_38 (by decide) (fun c_6 => absurd (by decide) c_6) (fun c_6 => ?_)
  refine lv_aload_n hx hb dX4_fill_41 rfl (lv_at hl 0 rfl) ?_
  refine lv_iconst (v := 2) hx hb dX4_fill_42 (by decide) ?_
  refine fb_callVi (r := o) hx hb hml hown hts hM ((hA.1).1) (ce4 ((hA.1).2)) rfl (As := [.int 2]) (rest := []) (c_X4_fail D y l S V (t0 I o) o nt cf rf hA 2) (cwV 1 hts gX4_fill_X4_fail rfl rfl rfl (by decide +kernel) ⟨Nat.le_of_ble_eq_true rfl, Nat.le_of_ble_eq_true rfl⟩) rfl hl.1 rfl (Nat.le_of_ble_eq_true rfl) dX4_fill_43 ⟨Nat.le_of_ble_eq_true rfl, Nat.le_of_ble_eq_true rfl⟩ (fun v_7 u H locs hp hM => ?_)
  obtain ⟨hv_, hu_⟩ := hp
  have hv_ := Eq.symm hv_
  have hu_ := Eq.symm hu_
  subst hv_
  subst hu_
  have eI : (tf (t0 I o) o 2) = (tf I o 2) := tf_t0 _ _ _
  rw [eI] at hM
  clear eI
  rw [hQ]
  exact fb_iret hx hb hr hlocks hM (⟨rfl, rfl⟩) dX4_fill_46

set_option maxHeartbeats 4000000 in
set_option maxRecDepth 100000 in
theorem c_X4_fill_ok (D : va_G) (y : Nat → ClassId) (l : Launch) (S : fb_Sh) (V I : fb_V) (o nt : Nat) (cf rf : Nat → Nat) (hA : MdAt S o nt cf rf) (ns : Nat) (df : Nat → Nat) (hF : MF I o ns nt cf rf df) (t : Nat) (ht : t < nt) (q : Nat) (hq : q < cf t * rf t) (c : Nat) (hca : 0 ≤ c) (hc : c ≤ 4) (n : Nat) (hna : 1 ≤ n) (hn : n ≤ 300)  : CI D y l yX4_fill wsX4_fill rm_X4_fill [.ref (sa S o), .int (nI t), .int (nI q), .int (nI c), .int (nI n)] (S, V, (sT V), I) (fun z u => z = (tkg (I (o + 3)) c (I (o + 10 + t)) q (nI n)) ∧ u = (S, V, sT V, mvI (t0 I o) (o + 3) c (o + 10 + t) q (tkg (I (o + 3)) c (I (o + 10 + t)) q (nI n)) 6)) 0 0 := by
  refine CI.of (cc := cX4_fill) (maxL := 5) (ret := (some .int)) (by decide) rfl (Nat.le_of_ble_eq_true rfl) ?_
  intro pv ev s mv below meth cv A hx hb hml hr hown hts hlocks hname hM ls hl
  have hown : s.vm.findClass RX4 = some mv.cls := hown
  have hl : lv_has ls 5 [(0, .ref (sa S o)), (1, .int (nI t)), (2, .int (nI q)), (3, .int (nI c)), (4, .int (nI n))] := hl
  have hin4 : ∀ x ∈ wsX40, x ∈ wsX4_fill := by decide +kernel
  obtain ⟨Q, hQ⟩ : ∃ Q, Q = MQ below (va_Qi (fun z u => z = (tkg (I (o + 3)) c (I (o + 10 + t)) q (nI n)) ∧ u = (S, V, sT V, mvI (t0 I o) (o + 3) c (o + 10 + t) q (tkg (I (o + 3)) c (I (o + 10 + t)) q (nI n)) 6)) (fun u t => fb_P D y A u t) A) (([.ref (sa S o), .int (nI t), .int (nI q), .int (nI c), .int (nI n)] : List Value).toArray) s 0 0 A := ⟨_, rfl⟩
  rw [← hQ]
  have hns : ns ≤ 12 := hF.2.2.1
  have hnt : nt ≤ 6 := hF.2.2.2.1
  have hcr := hF.cr ht
  have htF := hF.2.2.2.2.1 t ht
  refine lv_aload_n hx hb dX4_fill_0 rfl (lv_at hl 0 rfl) ?_
  refine lv_iconst (v := 0) hx hb dX4_fill_1 (by decide) ?_
  refine fb_put (r := o) hx hb hown hts hin4 tyX4 tyX4_ok nmX4 hM ((hA.1).1) (ce4 ((hA.1).2)) rfl 0 (by decide) (hts (.fieldLink RX4 40 "FeatherBedsModel" "thrown" "I") (by decide +kernel)) (fun _ h9 => h9) rfl (ty := .int) (by decide +kernel) rfl rfl (Nat.le_of_ble_eq_true rfl) dX4_fill_2 (up_I (j := 0) (v := 0) (by rw [ce4 ((hA.1).2)]; simp [va_up, upd])) (w' := (S, V, (sT V), (va_up I o (upd (I o) 0 0)))) ⟨rfl, rfl, rfl⟩ (fun H locs hM => ?_)
  have eI : (va_up I o (upd (I o) 0 0)) = (t0 I o) := rfl
  rw [eI] at hM
  clear eI
  refine lv_aload_n hx hb dX4_fill_5 rfl (lv_at hl 0 rfl) ?_
  refine lv_iload_n hx hb dX4_fill_6 rfl (lv_at hl 1 rfl) ?_
  refine lv_iload_n hx hb dX4_fill_7 rfl (lv_at hl 2 rfl) ?_
  refine fb_callVi (r := o) hx hb hml hown hts hM ((hA.1).1) (ce4 ((hA.1).2)) rfl (As := [.int (nI t), .int (nI q)]) (rest := []) (c_X4_isSquare_in D y l S V (t0 I o) o nt cf rf hA ns df hF.t0 t ht q hq) (cwV 2 hts gX4_fill_X4_isSquare rfl rfl rfl (by decide +kernel) ⟨Nat.le_of_ble_eq_true rfl, Nat.le_of_ble_eq_true rfl⟩) rfl hl.1 rfl (Nat.le_of_ble_eq_true rfl) dX4_fill_8 ⟨Nat.le_of_ble_eq_true rfl, Nat.le_of_ble_eq_true rfl⟩ (fun v_1 u H locs hp hM => ?_)
  obtain ⟨hv_, hu_⟩ := hp
  have hv_ := Eq.symm hv_
  have hu_ := Eq.symm hu_
  subst hv_
  subst hu_
  refine lv_if_eq (tgt := 23) hx hb dX4_fill_11 (by decide) (fun c_2 => absurd c_2 (by decide)) (fun c_2 => ?_)
  refine lv_iload_n hx hb dX4_fill_14 rfl (lv_at hl 3 rfl) ?_
  refine lv_iconst (v := 0) hx hb dX4_fill_15 (by decide) ?_
  refine lv_iconst (v := 4) hx hb dX4_fill_16 (by decide) ?_
  refine fb_callSi hx hb hml hown hts hM (As := [.int (nI c), .int 0, .int 4]) (rest := []) (c_X4_isIn D y l S V (t0 I o) (nI c) 0 4) (cwS 3 hts gX4_fill_X4_isIn rfl rfl rfl (by decide +kernel) ⟨Nat.le_of_ble_eq_true rfl, Nat.le_of_ble_eq_true rfl⟩) rfl hl.1 rfl (Nat.le_of_ble_eq_true rfl) dX4_fill_17 ⟨Nat.le_of_ble_eq_true rfl, Nat.le_of_ble_eq_true rfl⟩ (fun v_3 u H locs hp hM => ?_)
  obtain ⟨hv_, hu_⟩ := hp
  have hv_ := Eq.symm hv_
  have hu_ := Eq.symm hu_
  subst hv_
  subst hu_
  rw [show (isN (nI c) 0 4 : Int32) = 1 from isN_k (lo := 0) (hi := 4) (by decide) hca hc]
  refine lv_if_ne (tgt := 29) hx hb dX4_fill_20 (by decide) (fun c_4 => ?_) (fun c_4 => absurd c_4 (by decide))
  refine lv_iload hx hb dX4_fill_29 (lv_at hl 4 rfl) ?_
  refine lv_iconst (v := 1) hx hb dX4_fill_31 (by decide) ?_
  refine lv_sipush (v := 300) hx hb dX4_fill_32 (by decide) ?_
  refine fb_callSi hx hb hml hown hts hM (As := [.int (nI n), .int 1, .int 300]) (rest := []) (c_X4_isIn D y l S V (t0 I o) (nI n) 1 300) (cwS 3 hts gX4_fill_X4_isIn rfl rfl rfl (by decide +kernel) ⟨Nat.le_of_ble_eq_true rfl, Nat.le_of_ble_eq_true rfl⟩) rfl hl.1 rfl (Nat.le_of_ble_eq_true rfl) dX4_fill_35 ⟨Nat.le_of_ble_eq_true rfl, Nat.le_of_ble_eq_true rfl⟩ (fun v_5 u H locs hp hM => ?_)
  obtain ⟨hv_, hu_⟩ := hp
  have hv_ := Eq.symm hv_
  have hu_ := Eq.symm hu_
  subst hv_
  subst hu_
  rw [show (isN (nI n) 1 300 : Int32) = 1 from isN_k (lo := 1) (hi := 300) (by decide) hna hn]
  refine lv_if_ne (tgt := 47) hx hb dX4_fill_38 (by decide) (fun c_6 => ?_) (fun c_6 => absurd c_6 (by decide))
  refine lv_aload_n hx hb dX4_fill_47 rfl (lv_at hl 0 rfl) ?_
  refine lv_aload_n hx hb dX4_fill_48 rfl (lv_at hl 0 rfl) ?_
  refine fb_get (r := o) hx hb hown hts hin4 hM ((hA.1).1) (ce4 ((hA.1).2)) rfl 5 (by decide) (hts (.fieldLink RX4 20 "FeatherBedsModel" "chambers" "[I") (by decide +kernel)) (fun _ h9 => h9) (v := .ref (sa S (o + 3))) (congrArg (fun z => some (va_rf z)) ((hA.2.1).2.2.1)) dX4_fill_49 ?_
  refine lv_iload_n hx hb dX4_fill_52 rfl (lv_at hl 3 rfl) ?_
  refine lv_iload_n hx hb dX4_fill_53 rfl (lv_at hl 1 rfl) ?_
  refine lv_iload_n hx hb dX4_fill_54 rfl (lv_at hl 2 rfl) ?_
  refine lv_iload hx hb dX4_fill_55 (lv_at hl 4 rfl) ?_
  refine fb_callVi (r := o) hx hb hml hown hts hM ((hA.1).1) (ce4 ((hA.1).2)) rfl (As := [.ref (sa S (o + 3)), .int (nI c), .int (nI t), .int (nI q), .int (nI n)]) (rest := []) (c_X4_take D y l S V (t0 I o) o nt cf rf hA ns df hF.t0 t ht q hq (o + 3) 30 (hA.2.2.2.2.1).1 (hA.2.2.2.2.1).2.1 (hA.2.2.2.2.1).2.2 (by omega) c (by omega) (Or.inl (by omega)) (nI n)) (cwV 5 hts gX4_fill_X4_take rfl rfl rfl (by decide +kernel) ⟨Nat.le_of_ble_eq_true rfl, Nat.le_of_ble_eq_true rfl⟩) rfl hl.1 rfl (Nat.le_of_ble_eq_true rfl) dX4_fill_57 ⟨Nat.le_of_ble_eq_true rfl, Nat.le_of_ble_eq_true rfl⟩ (fun v_7 u H locs hp hM => ?_)
  obtain ⟨hv_, hu_⟩ := hp
  have hv_ := Eq.symm hv_
  have hu_ := Eq.symm hu_
  subst hv_
  subst hu_
  rw [hQ]
  exact fb_iret hx hb hr hlocks hM (⟨by rw [t0_ne I (show o + 3 ≠ o by omega), t0_ne I (show o + 10 + t ≠ o by omega)], by rw [t0_ne I (show o + 3 ≠ o by omega), t0_ne I (show o + 10 + t ≠ o by omega)]⟩) dX4_fill_60

abbrev rm_X4_shift : Room := { frames := 3, cells := 0, slots := 0, locals := 78 }
set_option maxHeartbeats 4000000 in
set_option maxRecDepth 100000 in
theorem c_X4_shift_f0t (D : va_G) (y : Nat → ClassId) (l : Launch) (S : fb_Sh) (V I : fb_V) (o nt : Nat) (cf rf : Nat → Nat) (hA : MdAt S o nt cf rf) (ns : Nat) (df : Nat → Nat) (hF : MF I o ns nt cf rf df) (p0 : Int32) (ho : p0 < 0 ∨ nI nt ≤ p0) (p1 : Int32) (p2 : Int32) (p3 : Int32) : CI D y l yX4_shift wsX4_shift rm_X4_shift [.ref (sa S o), .int p0, .int p1, .int p2, .int p3] (S, V, (sT V), I) (fun z u => z = 0 ∧ u = (S, V, sT V, (tf I o 1))) 0 0 := by
  refine CI.of (cc := cX4_shift) (maxL := 5) (ret := (some .int)) (by decide) rfl (Nat.le_of_ble_eq_true rfl) ?_
  intro pv ev s mv below meth cv A hx hb hml hr hown hts hlocks hname hM ls hl
  have hown : s.vm.findClass RX4 = some mv.cls := hown
  have hl : lv_has ls 5 [(0, .ref (sa S o)), (1, .int p0), (2, .int p1), (3, .int p2), (4, .int p3)] := hl
  have hin4 : ∀ x ∈ wsX40, x ∈ wsX4_shift := by decide +kernel
  obtain ⟨Q, hQ⟩ : ∃ Q, Q = MQ below (va_Qi (fun z u => z = 0 ∧ u = (S, V, sT V, (tf I o 1))) (fun u t => fb_P D y A u t) A) (([.ref (sa S o), .int p0, .int p1, .int p2, .int p3] : List Value).toArray) s 0 0 A := ⟨_, rfl⟩
  rw [← hQ]
  have hns : ns ≤ 12 := hF.2.2.1
  have hnt : nt ≤ 6 := hF.2.2.2.1
  refine lv_aload_n hx hb dX4_shift_0 rfl (lv_at hl 0 rfl) ?_
  refine lv_iconst (v := 0) hx hb dX4_shift_1 (by decide) ?_
  refine fb_put (r := o) hx hb hown hts hin4 tyX4 tyX4_ok nmX4 hM ((hA.1).1) (ce4 ((hA.1).2)) rfl 0 (by decide) (hts (.fieldLink RX4 40 "FeatherBedsModel" "thrown" "I") (by decide +kernel)) (fun _ h9 => h9) rfl (ty := .int) (by decide +kernel) rfl rfl (Nat.le_of_ble_eq_true rfl) dX4_shift_2 (up_I (j := 0) (v := 0) (by rw [ce4 ((hA.1).2)]; simp [va_up, upd])) (w' := (S, V, (sT V), (va_up I o (upd (I o) 0 0)))) ⟨rfl, rfl, rfl⟩ (fun H locs hM => ?_)
  have eI : (va_up I o (upd (I o) 0 0)) = (t0 I o) := rfl
  rw [eI] at hM
  clear eI
  refine lv_aload_n hx hb dX4_shift_5 rfl (lv_at hl 0 rfl) ?_
  refine lv_iload_n hx hb dX4_shift_6 rfl (lv_at hl 1 rfl) ?_
  refine lv_iload_n hx hb dX4_shift_7 rfl (lv_at hl 2 rfl) ?_
  refine fb_callVi (r := o) hx hb hml hown hts hM ((hA.1).1) (ce4 ((hA.1).2)) rfl (As := [.int p0, .int p1]) (rest := []) (c_X4_isSquare_ot D y l S V (t0 I o) o nt cf rf hA ns df hF.t0 p0 ho p1) (cwV 2 hts gX4_shift_X4_isSquare rfl rfl rfl (by decide +kernel) ⟨Nat.le_of_ble_eq_true rfl, Nat.le_of_ble_eq_true rfl⟩) rfl hl.1 rfl (Nat.le_of_ble_eq_true rfl) dX4_shift_8 ⟨Nat.le_of_ble_eq_true rfl, Nat.le_of_ble_eq_true rfl⟩ (fun v_1 u H locs hp hM => ?_)
  obtain ⟨hv_, hu_⟩ := hp
  have hv_ := Eq.symm hv_
  have hu_ := Eq.symm hu_
  subst hv_
  subst hu_
  refine lv_if_eq (tgt := 23) hx hb dX4_shift_11 (by decide) (fun c_2 => ?_) (fun c_2 => absurd (by decide) c_2)
  refine lv_aload_n hx hb dX4_shift_23 rfl (lv_at hl 0 rfl) ?_
  refine lv_iconst (v := 1) hx hb dX4_shift_24 (by decide) ?_
  refine fb_callVi (r := o) hx hb hml hown hts hM ((hA.1).1) (ce4 ((hA.1).2)) rfl (As := [.int 1]) (rest := []) (c_X4_fail D y l S V (t0 I o) o nt cf rf hA 1) (cwV 1 hts gX4_shift_X4_fail rfl rfl rfl (by decide +kernel) ⟨Nat.le_of_ble_eq_true rfl, Nat.le_of_ble_eq_true rfl⟩) rfl hl.1 rfl (Nat.le_of_ble_eq_true rfl) dX4_shift_25 ⟨Nat.le_of_ble_eq_true rfl, Nat.le_of_ble_eq_true rfl⟩ (fun v_3 u H locs hp hM => ?_)
  obtain ⟨hv_, hu_⟩ := hp
  have hv_ := Eq.symm hv_
  have hu_ := Eq.symm hu_
  subst hv_
  subst hu_
  have eI : (tf (t0 I o) o 1) = (tf I o 1) := tf_t0 _ _ _
  rw [eI] at hM
  clear eI
  rw [hQ]
  exact fb_iret hx hb hr hlocks hM (⟨rfl, rfl⟩) dX4_shift_28

set_option maxHeartbeats 4000000 in
set_option maxRecDepth 100000 in
theorem c_X4_shift_f0q (D : va_G) (y : Nat → ClassId) (l : Launch) (S : fb_Sh) (V I : fb_V) (o nt : Nat) (cf rf : Nat → Nat) (hA : MdAt S o nt cf rf) (ns : Nat) (df : Nat → Nat) (hF : MF I o ns nt cf rf df) (t : Nat) (ht : t < nt) (p1 : Int32) (ho : p1 < 0 ∨ nI (cf t * rf t) ≤ p1) (p2 : Int32) (p3 : Int32) : CI D y l yX4_shift wsX4_shift rm_X4_shift [.ref (sa S o), .int (nI t), .int p1, .int p2, .int p3] (S, V, (sT V), I) (fun z u => z = 0 ∧ u = (S, V, sT V, (tf I o 1))) 0 0 := by
  refine CI.of (cc := cX4_shift) (maxL := 5) (ret := (some .int)) (by decide) rfl (Nat.le_of_ble_eq_true rfl) ?_
  intro pv ev s mv below meth cv A hx hb hml hr hown hts hlocks hname hM ls hl
  have hown : s.vm.findClass RX4 = some mv.cls := hown
  have hl : lv_has ls 5 [(0, .ref (sa S o)), (1, .int (nI t)), (2, .int p1), (3, .int p2), (4, .int p3)] := hl
  have hin4 : ∀ x ∈ wsX40, x ∈ wsX4_shift := by decide +kernel
  obtain ⟨Q, hQ⟩ : ∃ Q, Q = MQ below (va_Qi (fun z u => z = 0 ∧ u = (S, V, sT V, (tf I o 1))) (fun u t => fb_P D y A u t) A) (([.ref (sa S o), .int (nI t), .int p1, .int p2, .int p3] : List Value).toArray) s 0 0 A := ⟨_, rfl⟩
  rw [← hQ]
  have hns : ns ≤ 12 := hF.2.2.1
  have hnt : nt ≤ 6 := hF.2.2.2.1
  have hcr := hF.cr ht
  have htF := hF.2.2.2.2.1 t ht
  refine lv_aload_n hx hb dX4_shift_0 rfl (lv_at hl 0 rfl) ?_
  refine lv_iconst (v := 0) hx hb dX4_shift_1 (by decide) ?_
  refine fb_put (r := o) hx hb hown hts hin4 tyX4 tyX4_ok nmX4 hM ((hA.1).1) (ce4 ((hA.1).2)) rfl 0 (by decide) (hts (.fieldLink RX4 40 "FeatherBedsModel" "thrown" "I") (by decide +kernel)) (fun _ h9 => h9) rfl (ty := .int) (by decide +kernel) rfl rfl (Nat.le_of_ble_eq_true rfl) dX4_shift_2 (up_I (j := 0) (v := 0) (by rw [ce4 ((hA.1).2)]; simp [va_up, upd])) (w' := (S, V, (sT V), (va_up I o (upd (I o) 0 0)))) ⟨rfl, rfl, rfl⟩ (fun H locs hM => ?_)
  have eI : (va_up I o (upd (I o) 0 0)) = (t0 I o) := rfl
  rw [eI] at hM
  clear eI
  refine lv_aload_n hx hb dX4_shift_5 rfl (lv_at hl 0 rfl) ?_
  refine lv_iload_n hx hb dX4_shift_6 rfl (lv_at hl 1 rfl) ?_
  refine lv_iload_n hx hb dX4_shift_7 rfl (lv_at hl 2 rfl) ?_
  refine fb_callVi (r := o) hx hb hml hown hts hM ((hA.1).1) (ce4 ((hA.1).2)) rfl (As := [.int (nI t), .int p1]) (rest := []) (c_X4_isSquare_oq D y l S V (t0 I o) o nt cf rf hA ns df hF.t0 t ht p1 ho) (cwV 2 hts gX4_shift_X4_isSquare rfl rfl rfl (by decide +kernel) ⟨Nat.le_of_ble_eq_true rfl, Nat.le_of_ble_eq_true rfl⟩) rfl hl.1 rfl (Nat.le_of_ble_eq_true rfl) dX4_shift_8 ⟨Nat.le_of_ble_eq_true rfl, Nat.le_of_ble_eq_true rfl⟩ (fun v_1 u H locs hp hM => ?_)
  obtain ⟨hv_, hu_⟩ := hp
  have hv_ := Eq.symm hv_
  have hu_ := Eq.symm hu_
  subst hv_
  subst hu_
  refine lv_if_eq (tgt := 23) hx hb dX4_shift_11 (by decide) (fun c_2 => ?_) (fun c_2 => absurd (by decide) c_2)
  refine lv_aload_n hx hb dX4_shift_23 rfl (lv_at hl 0 rfl) ?_
  refine lv_iconst (v := 1) hx hb dX4_shift_24 (by decide) ?_
  refine fb_callVi (r := o) hx hb hml hown hts hM ((hA.1).1) (ce4 ((hA.1).2)) rfl (As := [.int 1]) (rest := []) (c_X4_fail D y l S V (t0 I o) o nt cf rf hA 1) (cwV 1 hts gX4_shift_X4_fail rfl rfl rfl (by decide +kernel) ⟨Nat.le_of_ble_eq_true rfl, Nat.le_of_ble_eq_true rfl⟩) rfl hl.1 rfl (Nat.le_of_ble_eq_true rfl) dX4_shift_25 ⟨Nat.le_of_ble_eq_true rfl, Nat.le_of_ble_eq_true rfl⟩ (fun v_3 u H locs hp hM => ?_)
  obtain ⟨hv_, hu_⟩ := hp
  have hv_ := Eq.symm hv_
  have hu_ := Eq.symm hu_
  subst hv_
  subst hu_
  have eI : (tf (t0 I o) o 1) = (tf I o 1) := tf_t0 _ _ _
  rw [eI] at hM
  clear eI
  rw [hQ]
  exact fb_iret hx hb hr hlocks hM (⟨rfl, rfl⟩) dX4_shift_28

set_option maxHeartbeats 4000000 in
set_option maxRecDepth 100000 in
theorem c_X4_shift_f1q (D : va_G) (y : Nat → ClassId) (l : Launch) (S : fb_Sh) (V I : fb_V) (o nt : Nat) (cf rf : Nat → Nat) (hA : MdAt S o nt cf rf) (ns : Nat) (df : Nat → Nat) (hF : MF I o ns nt cf rf df) (t : Nat) (ht : t < nt) (f : Nat) (hf : f < cf t * rf t) (p2 : Int32) (ho : p2 < 0 ∨ nI (cf t * rf t) ≤ p2) (p3 : Int32) : CI D y l yX4_shift wsX4_shift rm_X4_shift [.ref (sa S o), .int (nI t), .int (nI f), .int p2, .int p3] (S, V, (sT V), I) (fun z u => z = 0 ∧ u = (S, V, sT V, (tf I o 1))) 0 0 := by
  refine CI.of (cc := cX4_shift) (maxL := 5) (ret := (some .int)) (by decide) rfl (Nat.le_of_ble_eq_true rfl) ?_
  intro pv ev s mv below meth cv A hx hb hml hr hown hts hlocks hname hM ls hl
  have hown : s.vm.findClass RX4 = some mv.cls := hown
  have hl : lv_has ls 5 [(0, .ref (sa S o)), (1, .int (nI t)), (2, .int (nI f)), (3, .int p2), (4, .int p3)] := hl
  have hin4 : ∀ x ∈ wsX40, x ∈ wsX4_shift := by decide +kernel
  obtain ⟨Q, hQ⟩ : ∃ Q, Q = MQ below (va_Qi (fun z u => z = 0 ∧ u = (S, V, sT V, (tf I o 1))) (fun u t => fb_P D y A u t) A) (([.ref (sa S o), .int (nI t), .int (nI f), .int p2, .int p3] : List Value).toArray) s 0 0 A := ⟨_, rfl⟩
  rw [← hQ]
  have hns : ns ≤ 12 := hF.2.2.1
  have hnt : nt ≤ 6 := hF.2.2.2.1
  have hcr := hF.cr ht
  have htF := hF.2.2.2.2.1 t ht
  refine lv_aload_n hx hb dX4_shift_0 rfl (lv_at hl 0 rfl) ?_
  refine lv_iconst (v := 0) hx hb dX4_shift_1 (by decide) ?_
  refine fb_put (r := o) hx hb hown hts hin4 tyX4 tyX4_ok nmX4 hM ((hA.1).1) (ce4 ((hA.1).2)) rfl 0 (by decide) (hts (.fieldLink RX4 40 "FeatherBedsModel" "thrown" "I") (by decide +kernel)) (fun _ h9 => h9) rfl (ty := .int) (by decide +kernel) rfl rfl (Nat.le_of_ble_eq_true rfl) dX4_shift_2 (up_I (j := 0) (v := 0) (by rw [ce4 ((hA.1).2)]; simp [va_up, upd])) (w' := (S, V, (sT V), (va_up I o (upd (I o) 0 0)))) ⟨rfl, rfl, rfl⟩ (fun H locs hM => ?_)
  have eI : (va_up I o (upd (I o) 0 0)) = (t0 I o) := rfl
  rw [eI] at hM
  clear eI
  refine lv_aload_n hx hb dX4_shift_5 rfl (lv_at hl 0 rfl) ?_
  refine lv_iload_n hx hb dX4_shift_6 rfl (lv_at hl 1 rfl) ?_
  refine lv_iload_n hx hb dX4_shift_7 rfl (lv_at hl 2 rfl) ?_
  refine fb_callVi (r := o) hx hb hml hown hts hM ((hA.1).1) (ce4 ((hA.1).2)) rfl (As := [.int (nI t), .int (nI f)]) (rest := []) (c_X4_isSquare_in D y l S V (t0 I o) o nt cf rf hA ns df hF.t0 t ht f hf) (cwV 2 hts gX4_shift_X4_isSquare rfl rfl rfl (by decide +kernel) ⟨Nat.le_of_ble_eq_true rfl, Nat.le_of_ble_eq_true rfl⟩) rfl hl.1 rfl (Nat.le_of_ble_eq_true rfl) dX4_shift_8 ⟨Nat.le_of_ble_eq_true rfl, Nat.le_of_ble_eq_true rfl⟩ (fun v_1 u H locs hp hM => ?_)
  obtain ⟨hv_, hu_⟩ := hp
  have hv_ := Eq.symm hv_
  have hu_ := Eq.symm hu_
  subst hv_
  subst hu_
  refine lv_if_eq (tgt := 23) hx hb dX4_shift_11 (by decide) (fun c_2 => absurd c_2 (by decide)) (fun c_2 => ?_)
  refine lv_aload_n hx hb dX4_shift_14 rfl (lv_at hl 0 rfl) ?_
  refine lv_iload_n hx hb dX4_shift_15 rfl (lv_at hl 1 rfl) ?_
  refine lv_iload_n hx hb dX4_shift_16 rfl (lv_at hl 3 rfl) ?_
  refine fb_callVi (r := o) hx hb hml hown hts hM ((hA.1).1) (ce4 ((hA.1).2)) rfl (As := [.int (nI t), .int p2]) (rest := []) (c_X4_isSquare_oq D y l S V (t0 I o) o nt cf rf hA ns df hF.t0 t ht p2 ho) (cwV 2 hts gX4_shift_X4_isSquare rfl rfl rfl (by decide +kernel) ⟨Nat.le_of_ble_eq_true rfl, Nat.le_of_ble_eq_true rfl⟩) rfl hl.1 rfl (Nat.le_of_ble_eq_true rfl) dX4_shift_17 ⟨Nat.le_of_ble_eq_true rfl, Nat.le_of_ble_eq_true rfl⟩ (fun v_3 u H locs hp hM => ?_)
  obtain ⟨hv_, hu_⟩ := hp
  have hv_ := Eq.symm hv_
  have hu_ := Eq.symm hu_
  subst hv_
  subst hu_
  refine lv_if_ne (tgt := 29) hx hb dX4_shift_20 (by decide) (fun c_4 => absurd (by decide) c_4) (fun c_4 => ?_)
  refine lv_aload_n hx hb dX4_shift_23 rfl (lv_at hl 0 rfl) ?_
  refine lv_iconst (v := 1) hx hb dX4_shift_24 (by decide) ?_
  refine fb_callVi (r := o) hx hb hml hown hts hM ((hA.1).1) (ce4 ((hA.1).2)) rfl (As := [.int 1]) (rest := []) (c_X4_fail D y l S V (t0 I o) o nt cf rf hA 1) (cwV 1 hts gX4_shift_X4_fail rfl rfl rfl (by decide +kernel) ⟨Nat.le_of_ble_eq_true rfl, Nat.le_of_ble_eq_true rfl⟩) rfl hl.1 rfl (Nat.le_of_ble_eq_true rfl) dX4_shift_25 ⟨Nat.le_of_ble_eq_true rfl, Nat.le_of_ble_eq_true rfl⟩ (fun v_5 u H locs hp hM => ?_)
  obtain ⟨hv_, hu_⟩ := hp
  have hv_ := Eq.symm hv_
  have hu_ := Eq.symm hu_
  subst hv_
  subst hu_
  have eI : (tf (t0 I o) o 1) = (tf I o 1) := tf_t0 _ _ _
  rw [eI] at hM
  clear eI
  rw [hQ]
  exact fb_iret hx hb hr hlocks hM (⟨rfl, rfl⟩) dX4_shift_28

set_option maxHeartbeats 4000000 in
set_option maxRecDepth 100000 in
theorem c_X4_shift_f2o (D : va_G) (y : Nat → ClassId) (l : Launch) (S : fb_Sh) (V I : fb_V) (o nt : Nat) (cf rf : Nat → Nat) (hA : MdAt S o nt cf rf) (ns : Nat) (df : Nat → Nat) (hF : MF I o ns nt cf rf df) (t : Nat) (ht : t < nt) (f : Nat) (hf : f < cf t * rf t) (z : Nat) (hz : z < cf t * rf t) (heq : f = z) (p3 : Int32) : CI D y l yX4_shift wsX4_shift rm_X4_shift [.ref (sa S o), .int (nI t), .int (nI f), .int (nI z), .int p3] (S, V, (sT V), I) (fun z u => z = 0 ∧ u = (S, V, sT V, (tf I o 2))) 0 0 := by
  refine CI.of (cc := cX4_shift) (maxL := 5) (ret := (some .int)) (by decide) rfl (Nat.le_of_ble_eq_true rfl) ?_
  intro pv ev s mv below meth cv A hx hb hml hr hown hts hlocks hname hM ls hl
  have hown : s.vm.findClass RX4 = some mv.cls := hown
  have hl : lv_has ls 5 [(0, .ref (sa S o)), (1, .int (nI t)), (2, .int (nI f)), (3, .int (nI z)), (4, .int p3)] := hl
  have hin4 : ∀ x ∈ wsX40, x ∈ wsX4_shift := by decide +kernel
  obtain ⟨Q, hQ⟩ : ∃ Q, Q = MQ below (va_Qi (fun z u => z = 0 ∧ u = (S, V, sT V, (tf I o 2))) (fun u t => fb_P D y A u t) A) (([.ref (sa S o), .int (nI t), .int (nI f), .int (nI z), .int p3] : List Value).toArray) s 0 0 A := ⟨_, rfl⟩
  rw [← hQ]
  have hns : ns ≤ 12 := hF.2.2.1
  have hnt : nt ≤ 6 := hF.2.2.2.1
  have hcr := hF.cr ht
  have htF := hF.2.2.2.2.1 t ht
  refine lv_aload_n hx hb dX4_shift_0 rfl (lv_at hl 0 rfl) ?_
  refine lv_iconst (v := 0) hx hb dX4_shift_1 (by decide) ?_
  refine fb_put (r := o) hx hb hown hts hin4 tyX4 tyX4_ok nmX4 hM ((hA.1).1) (ce4 ((hA.1).2)) rfl 0 (by decide) (hts (.fieldLink RX4 40 "FeatherBedsModel" "thrown" "I") (by decide +kernel)) (fun _ h9 => h9) rfl (ty := .int) (by decide +kernel) rfl rfl (Nat.le_of_ble_eq_true rfl) dX4_shift_2 (up_I (j := 0) (v := 0) (by rw [ce4 ((hA.1).2)]; simp [va_up, upd])) (w' := (S, V, (sT V), (va_up I o (upd (I o) 0 0)))) ⟨rfl, rfl, rfl⟩ (fun H locs hM => ?_)
  have eI : (va_up I o (upd (I o) 0 0)) = (t0 I o) := rfl
  rw [eI] at hM
  clear eI
  refine lv_aload_n hx hb dX4_shift_5 rfl (lv_at hl 0 rfl) ?_
  refine lv_iload_n hx hb dX4_shift_6 rfl (lv_at hl 1 rfl) ?_
  refine lv_iload_n hx hb dX4_shift_7 rfl (lv_at hl 2 rfl) ?_
  refine fb_callVi (r := o) hx hb hml hown hts hM ((hA.1).1) (ce4 ((hA.1).2)) rfl (As := [.int (nI t), .int (nI f)]) (rest := []) (c_X4_isSquare_in D y l S V (t0 I o) o nt cf rf hA ns df hF.t0 t ht f hf) (cwV 2 hts gX4_shift_X4_isSquare rfl rfl rfl (by decide +kernel) ⟨Nat.le_of_ble_eq_true rfl, Nat.le_of_ble_eq_true rfl⟩) rfl hl.1 rfl (Nat.le_of_ble_eq_true rfl) dX4_shift_8 ⟨Nat.le_of_ble_eq_true rfl, Nat.le_of_ble_eq_true rfl⟩ (fun v_1 u H locs hp hM => ?_)
  obtain ⟨hv_, hu_⟩ := hp
  have hv_ := Eq.symm hv_
  have hu_ := Eq.symm hu_
  subst hv_
  subst hu_
  refine lv_if_eq (tgt := 23) hx hb dX4_shift_11 (by decide) (fun c_2 => absurd c_2 (by decide)) (fun c_2 => ?_)
  refine lv_aload_n hx hb dX4_shift_14 rfl (lv_at hl 0 rfl) ?_
  refine lv_iload_n hx hb dX4_shift_15 rfl (lv_at hl 1 rfl) ?_
  refine lv_iload_n hx hb dX4_shift_16 rfl (lv_at hl 3 rfl) ?_
  refine fb_callVi (r := o) hx hb hml hown hts hM ((hA.1).1) (ce4 ((hA.1).2)) rfl (As := [.int (nI t), .int (nI z)]) (rest := []) (c_X4_isSquare_in D y l S V (t0 I o) o nt cf rf hA ns df hF.t0 t ht z hz) (cwV 2 hts gX4_shift_X4_isSquare rfl rfl rfl (by decide +kernel) ⟨Nat.le_of_ble_eq_true rfl, Nat.le_of_ble_eq_true rfl⟩) rfl hl.1 rfl (Nat.le_of_ble_eq_true rfl) dX4_shift_17 ⟨Nat.le_of_ble_eq_true rfl, Nat.le_of_ble_eq_true rfl⟩ (fun v_3 u H locs hp hM => ?_)
  obtain ⟨hv_, hu_⟩ := hp
  have hv_ := Eq.symm hv_
  have hu_ := Eq.symm hu_
  subst hv_
  subst hu_
  refine lv_if_ne (tgt := 29) hx hb dX4_shift_20 (by decide) (fun c_4 => ?_) (fun c_4 => absurd c_4 (by decide))
  refine lv_iload_n hx hb dX4_shift_29 rfl (lv_at hl 2 rfl) ?_
  refine lv_iload_n hx hb dX4_shift_30 rfl (lv_at hl 3 rfl) ?_
  refine lv_icmp_eq (tgt := 46) hx hb dX4_shift_31 (by decide) (fun c_5 => ?_) (fun c_5 => absurd (by rw [heq]) c_5)
  refine lv_aload_n hx hb dX4_shift_46 rfl (lv_at hl 0 rfl) ?_
  refine lv_iconst (v := 2) hx hb dX4_shift_47 (by decide) ?_
  refine fb_callVi (r := o) hx hb hml hown hts hM ((hA.1).1) (ce4 ((hA.1).2)) rfl (As := [.int 2]) (rest := []) (c_X4_fail D y l S V (t0 I o) o nt cf rf hA 2) (cwV 1 hts gX4_shift_X4_fail rfl rfl rfl (by decide +kernel) ⟨Nat.le_of_ble_eq_true rfl, Nat.le_of_ble_eq_true rfl⟩) rfl hl.1 rfl (Nat.le_of_ble_eq_true rfl) dX4_shift_48 ⟨Nat.le_of_ble_eq_true rfl, Nat.le_of_ble_eq_true rfl⟩ (fun v_6 u H locs hp hM => ?_)
  obtain ⟨hv_, hu_⟩ := hp
  have hv_ := Eq.symm hv_
  have hu_ := Eq.symm hu_
  subst hv_
  subst hu_
  have eI : (tf (t0 I o) o 2) = (tf I o 2) := tf_t0 _ _ _
  rw [eI] at hM
  clear eI
  rw [hQ]
  exact fb_iret hx hb hr hlocks hM (⟨rfl, rfl⟩) dX4_shift_51

set_option maxHeartbeats 4000000 in
set_option maxRecDepth 100000 in
theorem c_X4_shift_f3o (D : va_G) (y : Nat → ClassId) (l : Launch) (S : fb_Sh) (V I : fb_V) (o nt : Nat) (cf rf : Nat → Nat) (hA : MdAt S o nt cf rf) (ns : Nat) (df : Nat → Nat) (hF : MF I o ns nt cf rf df) (t : Nat) (ht : t < nt) (f : Nat) (hf : f < cf t * rf t) (z : Nat) (hz : z < cf t * rf t) (hne : f ≠ z) (p3 : Int32) (ho : p3 < 1 ∨ 300 < p3) : CI D y l yX4_shift wsX4_shift rm_X4_shift [.ref (sa S o), .int (nI t), .int (nI f), .int (nI z), .int p3] (S, V, (sT V), I) (fun z u => z = 0 ∧ u = (S, V, sT V, (tf I o 2))) 0 0 := by
  refine CI.of (cc := cX4_shift) (maxL := 5) (ret := (some .int)) (by decide) rfl (Nat.le_of_ble_eq_true rfl) ?_
  intro pv ev s mv below meth cv A hx hb hml hr hown hts hlocks hname hM ls hl
  have hown : s.vm.findClass RX4 = some mv.cls := hown
  have hl : lv_has ls 5 [(0, .ref (sa S o)), (1, .int (nI t)), (2, .int (nI f)), (3, .int (nI z)), (4, .int p3)] := hl
  have hin4 : ∀ x ∈ wsX40, x ∈ wsX4_shift := by decide +kernel
  obtain ⟨Q, hQ⟩ : ∃ Q, Q = MQ below (va_Qi (fun z u => z = 0 ∧ u = (S, V, sT V, (tf I o 2))) (fun u t => fb_P D y A u t) A) (([.ref (sa S o), .int (nI t), .int (nI f), .int (nI z), .int p3] : List Value).toArray) s 0 0 A := ⟨_, rfl⟩
  rw [← hQ]
  have hns : ns ≤ 12 := hF.2.2.1
  have hnt : nt ≤ 6 := hF.2.2.2.1
  have hcr := hF.cr ht
  have htF := hF.2.2.2.2.1 t ht
  refine lv_aload_n hx hb dX4_shift_0 rfl (lv_at hl 0 rfl) ?_
  refine lv_iconst (v := 0) hx hb dX4_shift_1 (by decide) ?_
  refine fb_put (r := o) hx hb hown hts hin4 tyX4 tyX4_ok nmX4 hM ((hA.1).1) (ce4 ((hA.1).2)) rfl 0 (by decide) (hts (.fieldLink RX4 40 "FeatherBedsModel" "thrown" "I") (by decide +kernel)) (fun _ h9 => h9) rfl (ty := .int) (by decide +kernel) rfl rfl (Nat.le_of_ble_eq_true rfl) dX4_shift_2 (up_I (j := 0) (v := 0) (by rw [ce4 ((hA.1).2)]; simp [va_up, upd])) (w' := (S, V, (sT V), (va_up I o (upd (I o) 0 0)))) ⟨rfl, rfl, rfl⟩ (fun H locs hM => ?_)
  have eI : (va_up I o (upd (I o) 0 0)) = (t0 I o) := rfl
  rw [eI] at hM
  clear eI
  refine lv_aload_n hx hb dX4_shift_5 rfl (lv_at hl 0 rfl) ?_
  refine lv_iload_n hx hb dX4_shift_6 rfl (lv_at hl 1 rfl) ?_
  refine lv_iload_n hx hb dX4_shift_7 rfl (lv_at hl 2 rfl) ?_
  refine fb_callVi (r := o) hx hb hml hown hts hM ((hA.1).1) (ce4 ((hA.1).2)) rfl (As := [.int (nI t), .int (nI f)]) (rest := []) (c_X4_isSquare_in D y l S V (t0 I o) o nt cf rf hA ns df hF.t0 t ht f hf) (cwV 2 hts gX4_shift_X4_isSquare rfl rfl rfl (by decide +kernel) ⟨Nat.le_of_ble_eq_true rfl, Nat.le_of_ble_eq_true rfl⟩) rfl hl.1 rfl (Nat.le_of_ble_eq_true rfl) dX4_shift_8 ⟨Nat.le_of_ble_eq_true rfl, Nat.le_of_ble_eq_true rfl⟩ (fun v_1 u H locs hp hM => ?_)
  obtain ⟨hv_, hu_⟩ := hp
  have hv_ := Eq.symm hv_
  have hu_ := Eq.symm hu_
  subst hv_
  subst hu_
  refine lv_if_eq (tgt := 23) hx hb dX4_shift_11 (by decide) (fun c_2 => absurd c_2 (by decide)) (fun c_2 => ?_)
  refine lv_aload_n hx hb dX4_shift_14 rfl (lv_at hl 0 rfl) ?_
  refine lv_iload_n hx hb dX4_shift_15 rfl (lv_at hl 1 rfl) ?_
  refine lv_iload_n hx hb dX4_shift_16 rfl (lv_at hl 3 rfl) ?_
  refine fb_callVi (r := o) hx hb hml hown hts hM ((hA.1).1) (ce4 ((hA.1).2)) rfl (As := [.int (nI t), .int (nI z)]) (rest := []) (c_X4_isSquare_in D y l S V (t0 I o) o nt cf rf hA ns df hF.t0 t ht z hz) (cwV 2 hts gX4_shift_X4_isSquare rfl rfl rfl (by decide +kernel) ⟨Nat.le_of_ble_eq_true rfl, Nat.le_of_ble_eq_true rfl⟩) rfl hl.1 rfl (Nat.le_of_ble_eq_true rfl) dX4_shift_17 ⟨Nat.le_of_ble_eq_true rfl, Nat.le_of_ble_eq_true rfl⟩ (fun v_3 u H locs hp hM => ?_)
  obtain ⟨hv_, hu_⟩ := hp
  have hv_ := Eq.symm hv_
  have hu_ := Eq.symm hu_
  subst hv_
  subst hu_
  refine lv_if_ne (tgt := 29) hx hb dX4_shift_20 (by decide) (fun c_4 => ?_) (fun c_4 => absurd c_4 (by decide))
  refine lv_iload_n hx hb dX4_shift_29 rfl (lv_at hl 2 rfl) ?_
  refine lv_iload_n hx hb dX4_shift_30 rfl (lv_at hl 3 rfl) ?_
  refine lv_icmp_eq (tgt := 46) hx hb dX4_shift_31 (by decide) (fun c_5 => absurd c_5 (fun h => hne ((nI_eq (by omega) (by omega)).mp h))) (fun c_5 => ?_)
  refine lv_iload hx hb dX4_shift_34 (lv_at hl 4 rfl) ?_
  refine lv_iconst (v := 1) hx hb dX4_shift_36 (by decide) ?_
  refine lv_sipush (v := 300) hx hb dX4_shift_37 (by decide) ?_
  refine fb_callSi hx hb hml hown hts hM (As := [.int p3, .int 1, .int 300]) (rest := []) (c_X4_isIn D y l S V (t0 I o) p3 1 300) (cwS 3 hts gX4_shift_X4_isIn rfl rfl rfl (by decide +kernel) ⟨Nat.le_of_ble_eq_true rfl, Nat.le_of_ble_eq_true rfl⟩) rfl hl.1 rfl (Nat.le_of_ble_eq_true rfl) dX4_shift_40 ⟨Nat.le_of_ble_eq_true rfl, Nat.le_of_ble_eq_true rfl⟩ (fun v_6 u H locs hp hM => ?_)
  obtain ⟨hv_, hu_⟩ := hp
  have hv_ := Eq.symm hv_
  have hu_ := Eq.symm hu_
  subst hv_
  subst hu_
  rw [show (isN p3 1 300 : Int32) = 0 from isN_0 ho]
  refine lv_if_ne (tgt := 52) hx hb dX4_shift_43 (by decide) (fun c_7 => absurd (by decide) c_7) (fun c_7 => ?_)
  refine lv_aload_n hx hb dX4_shift_46 rfl (lv_at hl 0 rfl) ?_
  refine lv_iconst (v := 2) hx hb dX4_shift_47 (by decide) ?_
  refine fb_callVi (r := o) hx hb hml hown hts hM ((hA.1).1) (ce4 ((hA.1).2)) rfl (As := [.int 2]) (rest := []) (c_X4_fail D y l S V (t0 I o) o nt cf rf hA 2) (cwV 1 hts gX4_shift_X4_fail rfl rfl rfl (by decide +kernel) ⟨Nat.le_of_ble_eq_true rfl, Nat.le_of_ble_eq_true rfl⟩) rfl hl.1 rfl (Nat.le_of_ble_eq_true rfl) dX4_shift_48 ⟨Nat.le_of_ble_eq_true rfl, Nat.le_of_ble_eq_true rfl⟩ (fun v_8 u H locs hp hM => ?_)
  obtain ⟨hv_, hu_⟩ := hp
  have hv_ := Eq.symm hv_
  have hu_ := Eq.symm hu_
  subst hv_
  subst hu_
  have eI : (tf (t0 I o) o 2) = (tf I o 2) := tf_t0 _ _ _
  rw [eI] at hM
  clear eI
  rw [hQ]
  exact fb_iret hx hb hr hlocks hM (⟨rfl, rfl⟩) dX4_shift_51

set_option maxHeartbeats 4000000 in
set_option maxRecDepth 100000 in
theorem c_X4_shift_ok (D : va_G) (y : Nat → ClassId) (l : Launch) (S : fb_Sh) (V I : fb_V) (o nt : Nat) (cf rf : Nat → Nat) (hA : MdAt S o nt cf rf) (ns : Nat) (df : Nat → Nat) (hF : MF I o ns nt cf rf df) (t : Nat) (ht : t < nt) (f : Nat) (hf : f < cf t * rf t) (z : Nat) (hz : z < cf t * rf t) (hne : f ≠ z) (n : Nat) (hna : 1 ≤ n) (hn : n ≤ 300)  : CI D y l yX4_shift wsX4_shift rm_X4_shift [.ref (sa S o), .int (nI t), .int (nI f), .int (nI z), .int (nI n)] (S, V, (sT V), I) (fun v u => v = (tkg (I (o + 10 + t)) f (I (o + 10 + t)) z (nI n)) ∧ u = (S, V, sT V, mvI (t0 I o) (o + 10 + t) f (o + 10 + t) z (tkg (I (o + 10 + t)) f (I (o + 10 + t)) z (nI n)) 6)) 0 0 := by
  refine CI.of (cc := cX4_shift) (maxL := 5) (ret := (some .int)) (by decide) rfl (Nat.le_of_ble_eq_true rfl) ?_
  intro pv ev s mv below meth cv A hx hb hml hr hown hts hlocks hname hM ls hl
  have hown : s.vm.findClass RX4 = some mv.cls := hown
  have hl : lv_has ls 5 [(0, .ref (sa S o)), (1, .int (nI t)), (2, .int (nI f)), (3, .int (nI z)), (4, .int (nI n))] := hl
  have hin4 : ∀ x ∈ wsX40, x ∈ wsX4_shift := by decide +kernel
  obtain ⟨Q, hQ⟩ : ∃ Q, Q = MQ below (va_Qi (fun v u => v = (tkg (I (o + 10 + t)) f (I (o + 10 + t)) z (nI n)) ∧ u = (S, V, sT V, mvI (t0 I o) (o + 10 + t) f (o + 10 + t) z (tkg (I (o + 10 + t)) f (I (o + 10 + t)) z (nI n)) 6)) (fun u t => fb_P D y A u t) A) (([.ref (sa S o), .int (nI t), .int (nI f), .int (nI z), .int (nI n)] : List Value).toArray) s 0 0 A := ⟨_, rfl⟩
  rw [← hQ]
  have hns : ns ≤ 12 := hF.2.2.1
  have hnt : nt ≤ 6 := hF.2.2.2.1
  have hcr := hF.cr ht
  have htF := hF.2.2.2.2.1 t ht
  refine lv_aload_n hx hb dX4_shift_0 rfl (lv_at hl 0 rfl) ?_
  refine lv_iconst (v := 0) hx hb dX4_shift_1 (by decide) ?_
  refine fb_put (r := o) hx hb hown hts hin4 tyX4 tyX4_ok nmX4 hM ((hA.1).1) (ce4 ((hA.1).2)) rfl 0 (by decide) (hts (.fieldLink RX4 40 "FeatherBedsModel" "thrown" "I") (by decide +kernel)) (fun _ h9 => h9) rfl (ty := .int) (by decide +kernel) rfl rfl (Nat.le_of_ble_eq_true rfl) dX4_shift_2 (up_I (j := 0) (v := 0) (by rw [ce4 ((hA.1).2)]; simp [va_up, upd])) (w' := (S, V, (sT V), (va_up I o (upd (I o) 0 0)))) ⟨rfl, rfl, rfl⟩ (fun H locs hM => ?_)
  have eI : (va_up I o (upd (I o) 0 0)) = (t0 I o) := rfl
  rw [eI] at hM
  clear eI
  refine lv_aload_n hx hb dX4_shift_5 rfl (lv_at hl 0 rfl) ?_
  refine lv_iload_n hx hb dX4_shift_6 rfl (lv_at hl 1 rfl) ?_
  refine lv_iload_n hx hb dX4_shift_7 rfl (lv_at hl 2 rfl) ?_
  refine fb_callVi (r := o) hx hb hml hown hts hM ((hA.1).1) (ce4 ((hA.1).2)) rfl (As := [.int (nI t), .int (nI f)]) (rest := []) (c_X4_isSquare_in D y l S V (t0 I o) o nt cf rf hA ns df hF.t0 t ht f hf) (cwV 2 hts gX4_shift_X4_isSquare rfl rfl rfl (by decide +kernel) ⟨Nat.le_of_ble_eq_true rfl, Nat.le_of_ble_eq_true rfl⟩) rfl hl.1 rfl (Nat.le_of_ble_eq_true rfl) dX4_shift_8 ⟨Nat.le_of_ble_eq_true rfl, Nat.le_of_ble_eq_true rfl⟩ (fun v_1 u H locs hp hM => ?_)
  obtain ⟨hv_, hu_⟩ := hp
  have hv_ := Eq.symm hv_
  have hu_ := Eq.symm hu_
  subst hv_
  subst hu_
  refine lv_if_eq (tgt := 23) hx hb dX4_shift_11 (by decide) (fun c_2 => absurd c_2 (by decide)) (fun c_2 => ?_)
  refine lv_aload_n hx hb dX4_shift_14 rfl (lv_at hl 0 rfl) ?_
  refine lv_iload_n hx hb dX4_shift_15 rfl (lv_at hl 1 rfl) ?_
  refine lv_iload_n hx hb dX4_shift_16 rfl (lv_at hl 3 rfl) ?_
  refine fb_callVi (r := o) hx hb hml hown hts hM ((hA.1).1) (ce4 ((hA.1).2)) rfl (As := [.int (nI t), .int (nI z)]) (rest := []) (c_X4_isSquare_in D y l S V (t0 I o) o nt cf rf hA ns df hF.t0 t ht z hz) (cwV 2 hts gX4_shift_X4_isSquare rfl rfl rfl (by decide +kernel) ⟨Nat.le_of_ble_eq_true rfl, Nat.le_of_ble_eq_true rfl⟩) rfl hl.1 rfl (Nat.le_of_ble_eq_true rfl) dX4_shift_17 ⟨Nat.le_of_ble_eq_true rfl, Nat.le_of_ble_eq_true rfl⟩ (fun v_3 u H locs hp hM => ?_)
  obtain ⟨hv_, hu_⟩ := hp
  have hv_ := Eq.symm hv_
  have hu_ := Eq.symm hu_
  subst hv_
  subst hu_
  refine lv_if_ne (tgt := 29) hx hb dX4_shift_20 (by decide) (fun c_4 => ?_) (fun c_4 => absurd c_4 (by decide))
  refine lv_iload_n hx hb dX4_shift_29 rfl (lv_at hl 2 rfl) ?_
  refine lv_iload_n hx hb dX4_shift_30 rfl (lv_at hl 3 rfl) ?_
  refine lv_icmp_eq (tgt := 46) hx hb dX4_shift_31 (by decide) (fun c_5 => absurd c_5 (fun h => hne ((nI_eq (by omega) (by omega)).mp h))) (fun c_5 => ?_)
  refine lv_iload hx hb dX4_shift_34 (lv_at hl 4 rfl) ?_
  refine lv_iconst (v := 1) hx hb dX4_shift_36 (by decide) ?_
  refine lv_sipush (v := 300) hx hb dX4_shift_37 (by decide) ?_
  refine fb_callSi hx hb hml hown hts hM (As := [.int (nI n), .int 1, .int 300]) (rest := []) (c_X4_isIn D y l S V (t0 I o) (nI n) 1 300) (cwS 3 hts gX4_shift_X4_isIn rfl rfl rfl (by decide +kernel) ⟨Nat.le_of_ble_eq_true rfl, Nat.le_of_ble_eq_true rfl⟩) rfl hl.1 rfl (Nat.le_of_ble_eq_true rfl) dX4_shift_40 ⟨Nat.le_of_ble_eq_true rfl, Nat.le_of_ble_eq_true rfl⟩ (fun v_6 u H locs hp hM => ?_)
  obtain ⟨hv_, hu_⟩ := hp
  have hv_ := Eq.symm hv_
  have hu_ := Eq.symm hu_
  subst hv_
  subst hu_
  rw [show (isN (nI n) 1 300 : Int32) = 1 from isN_k (lo := 1) (hi := 300) (by decide) hna hn]
  refine lv_if_ne (tgt := 52) hx hb dX4_shift_43 (by decide) (fun c_7 => ?_) (fun c_7 => absurd c_7 (by decide))
  refine lv_aload_n hx hb dX4_shift_52 rfl (lv_at hl 0 rfl) ?_
  refine lv_aload_n hx hb dX4_shift_53 rfl (lv_at hl 0 rfl) ?_
  refine fb_get (r := o) hx hb hown hts hin4 hM ((hA.1).1) (ce4 ((hA.1).2)) rfl 8 (by decide) (hts (.fieldLink RX4 27 "FeatherBedsModel" "squares" "[[I") (by decide +kernel)) (fun _ h9 => h9) (v := .ref (sa S (o + 5))) (congrArg (fun z => some (va_rf z)) ((hA.2.1).2.2.2.2.1)) dX4_shift_54 ?_
  refine lv_iload_n hx hb dX4_shift_57 rfl (lv_at hl 1 rfl) ?_
  refine fb_aaldA (r := (o + 5)) hx hb hM ((hA.2.2.2.2.2.2.1).1) (ce10 ((hA.2.2.2.2.2.2.1).2.1)) 4 rfl (k := t) (nI_clamp (by omega)) (b := sa S (o + 10 + t)) (((hA.2.2.2.2.2.2.2.2.2) t (by omega)).1.1) (by rw [(hA.2.2.2.2.2.2.1).2.2]; exact vp_in_nI (by omega) (by omega)) dX4_shift_58 ?_
  refine lv_iload_n hx hb dX4_shift_59 rfl (lv_at hl 2 rfl) ?_
  refine lv_iload_n hx hb dX4_shift_60 rfl (lv_at hl 1 rfl) ?_
  refine lv_iload_n hx hb dX4_shift_61 rfl (lv_at hl 3 rfl) ?_
  refine lv_iload hx hb dX4_shift_62 (lv_at hl 4 rfl) ?_
  refine fb_callVi (r := o) hx hb hml hown hts hM ((hA.1).1) (ce4 ((hA.1).2)) rfl (As := [.ref (sa S (o + 10 + t)), .int (nI f), .int (nI t), .int (nI z), .int (nI n)]) (rest := []) (c_X4_take D y l S V (t0 I o) o nt cf rf hA ns df hF.t0 t ht z hz (o + 10 + t) (6 * (cf t * rf t)) (hA.2.2.2.2.2.2.2.2.2 t ht).1.2.1 (hA.2.2.2.2.2.2.2.2.2 t ht).1.2.2.1 (hA.2.2.2.2.2.2.2.2.2 t ht).1.2.2.2 (by omega) f (by omega) (Or.inr hne) (nI n)) (cwV 5 hts gX4_shift_X4_take rfl rfl rfl (by decide +kernel) ⟨Nat.le_of_ble_eq_true rfl, Nat.le_of_ble_eq_true rfl⟩) rfl hl.1 rfl (Nat.le_of_ble_eq_true rfl) dX4_shift_64 ⟨Nat.le_of_ble_eq_true rfl, Nat.le_of_ble_eq_true rfl⟩ (fun v_8 u H locs hp hM => ?_)
  obtain ⟨hv_, hu_⟩ := hp
  have hv_ := Eq.symm hv_
  have hu_ := Eq.symm hu_
  subst hv_
  subst hu_
  rw [hQ]
  exact fb_iret hx hb hr hlocks hM (⟨by rw [t0_ne I (show o + 10 + t ≠ o by omega)], by rw [t0_ne I (show o + 10 + t ≠ o by omega)]⟩) dX4_shift_67

abbrev rm_X4_pass : Room := { frames := 5, cells := 0, slots := 0, locals := 117 }
set_option maxHeartbeats 4000000 in
set_option maxRecDepth 100000 in
theorem c_X4_pass_f0o (D : va_G) (y : Nat → ClassId) (l : Launch) (S : fb_Sh) (V I : fb_V) (o nt : Nat) (cf rf : Nat → Nat) (hA : MdAt S o nt cf rf) (ns : Nat) (df : Nat → Nat) (hF : MF I o ns nt cf rf df) (p0 : Int32) (ho : p0 < 1 ∨ 200 < p0) : CI D y l yX4_pass wsX4_pass rm_X4_pass [.ref (sa S o), .int p0] (S, V, (sT V), I) (fun z u => z = 0 ∧ u = (S, V, sT V, (tf I o 1))) 0 0 := by
  refine CI.of (cc := cX4_pass) (maxL := 5) (ret := (some .int)) (by decide) rfl (Nat.le_of_ble_eq_true rfl) ?_
  intro pv ev s mv below meth cv A hx hb hml hr hown hts hlocks hname hM ls hl
  have hown : s.vm.findClass RX4 = some mv.cls := hown
  have hl : lv_has ls 5 [(0, .ref (sa S o)), (1, .int p0)] := hl
  have hin4 : ∀ x ∈ wsX40, x ∈ wsX4_pass := by decide +kernel
  obtain ⟨Q, hQ⟩ : ∃ Q, Q = MQ below (va_Qi (fun z u => z = 0 ∧ u = (S, V, sT V, (tf I o 1))) (fun u t => fb_P D y A u t) A) (([.ref (sa S o), .int p0] : List Value).toArray) s 0 0 A := ⟨_, rfl⟩
  rw [← hQ]
  have hns : ns ≤ 12 := hF.2.2.1
  have hnt : nt ≤ 6 := hF.2.2.2.1
  refine lv_aload_n hx hb dX4_pass_0 rfl (lv_at hl 0 rfl) ?_
  refine lv_iconst (v := 0) hx hb dX4_pass_1 (by decide) ?_
  refine fb_put (r := o) hx hb hown hts hin4 tyX4 tyX4_ok nmX4 hM ((hA.1).1) (ce4 ((hA.1).2)) rfl 0 (by decide) (hts (.fieldLink RX4 40 "FeatherBedsModel" "thrown" "I") (by decide +kernel)) (fun _ h9 => h9) rfl (ty := .int) (by decide +kernel) rfl rfl (Nat.le_of_ble_eq_true rfl) dX4_pass_2 (up_I (j := 0) (v := 0) (by rw [ce4 ((hA.1).2)]; simp [va_up, upd])) (w' := (S, V, (sT V), (va_up I o (upd (I o) 0 0)))) ⟨rfl, rfl, rfl⟩ (fun H locs hM => ?_)
  have eI : (va_up I o (upd (I o) 0 0)) = (t0 I o) := rfl
  rw [eI] at hM
  clear eI
  refine lv_iload_n hx hb dX4_pass_5 rfl (lv_at hl 1 rfl) ?_
  refine lv_iconst (v := 1) hx hb dX4_pass_6 (by decide) ?_
  refine lv_sipush (v := 200) hx hb dX4_pass_7 (by decide) ?_
  refine fb_callSi hx hb hml hown hts hM (As := [.int p0, .int 1, .int 200]) (rest := []) (c_X4_isIn D y l S V (t0 I o) p0 1 200) (cwS 3 hts gX4_pass_X4_isIn rfl rfl rfl (by decide +kernel) ⟨Nat.le_of_ble_eq_true rfl, Nat.le_of_ble_eq_true rfl⟩) rfl hl.1 rfl (Nat.le_of_ble_eq_true rfl) dX4_pass_10 ⟨Nat.le_of_ble_eq_true rfl, Nat.le_of_ble_eq_true rfl⟩ (fun v_1 u H locs hp hM => ?_)
  obtain ⟨hv_, hu_⟩ := hp
  have hv_ := Eq.symm hv_
  have hu_ := Eq.symm hu_
  subst hv_
  subst hu_
  rw [show (isN p0 1 200 : Int32) = 0 from isN_0 ho]
  refine lv_if_ne (tgt := 22) hx hb dX4_pass_13 (by decide) (fun c_2 => absurd (by decide) c_2) (fun c_2 => ?_)
  refine lv_aload_n hx hb dX4_pass_16 rfl (lv_at hl 0 rfl) ?_
  refine lv_iconst (v := 1) hx hb dX4_pass_17 (by decide) ?_
  refine fb_callVi (r := o) hx hb hml hown hts hM ((hA.1).1) (ce4 ((hA.1).2)) rfl (As := [.int 1]) (rest := []) (c_X4_fail D y l S V (t0 I o) o nt cf rf hA 1) (cwV 1 hts gX4_pass_X4_fail rfl rfl rfl (by decide +kernel) ⟨Nat.le_of_ble_eq_true rfl, Nat.le_of_ble_eq_true rfl⟩) rfl hl.1 rfl (Nat.le_of_ble_eq_true rfl) dX4_pass_18 ⟨Nat.le_of_ble_eq_true rfl, Nat.le_of_ble_eq_true rfl⟩ (fun v_3 u H locs hp hM => ?_)
  obtain ⟨hv_, hu_⟩ := hp
  have hv_ := Eq.symm hv_
  have hu_ := Eq.symm hu_
  subst hv_
  subst hu_
  have eI : (tf (t0 I o) o 1) = (tf I o 1) := tf_t0 _ _ _
  rw [eI] at hM
  clear eI
  rw [hQ]
  exact fb_iret hx hb hr hlocks hM (⟨rfl, rfl⟩) dX4_pass_21

set_option maxHeartbeats 4000000 in
set_option maxRecDepth 100000 in
theorem c_X4_pass_ok (D : va_G) (y : Nat → ClassId) (l : Launch) (S : fb_Sh) (V I : fb_V) (o nt : Nat) (cf rf : Nat → Nat) (hA : MdAt S o nt cf rf) (ns : Nat) (df : Nat → Nat) (hF : MF I o ns nt cf rf df) (z : Nat) (hza : 1 ≤ z) (hz : z ≤ 200)  : CI D y l yX4_pass wsX4_pass rm_X4_pass [.ref (sa S o), .int (nI z)] (S, V, (sT V), I) (fun v u => v = psn I o nt cf rf df z ∧ u = (S, V, sT V, (va_up (va_up (pK (t0 I o) o nt (pF I o cf rf df z 0)) o (upd (t0 I o o) 10 (I o 10 + nI z))) o (upd (upd (t0 I o o) 10 (I o 10 + nI z)) 12 (I o 12 + psn I o nt cf rf df z))))) 0 0 := by
  refine CI.of (cc := cX4_pass) (maxL := 5) (ret := (some .int)) (by decide) rfl (Nat.le_of_ble_eq_true rfl) ?_
  intro pv ev s mv below meth cv A hx hb hml hr hown hts hlocks hname hM ls hl
  have hown : s.vm.findClass RX4 = some mv.cls := hown
  have hl : lv_has ls 5 [(0, .ref (sa S o)), (1, .int (nI z))] := hl
  have hin4 : ∀ x ∈ wsX40, x ∈ wsX4_pass := by decide +kernel
  obtain ⟨Q, hQ⟩ : ∃ Q, Q = MQ below (va_Qi (fun v u => v = psn I o nt cf rf df z ∧ u = (S, V, sT V, (va_up (va_up (pK (t0 I o) o nt (pF I o cf rf df z 0)) o (upd (t0 I o o) 10 (I o 10 + nI z))) o (upd (upd (t0 I o o) 10 (I o 10 + nI z)) 12 (I o 12 + psn I o nt cf rf df z))))) (fun u t => fb_P D y A u t) A) (([.ref (sa S o), .int (nI z)] : List Value).toArray) s 0 0 A := ⟨_, rfl⟩
  rw [← hQ]
  have hns : ns ≤ 12 := hF.2.2.1
  have hnt : nt ≤ 6 := hF.2.2.2.1
  refine lv_aload_n hx hb dX4_pass_0 rfl (lv_at hl 0 rfl) ?_
  refine lv_iconst (v := 0) hx hb dX4_pass_1 (by decide) ?_
  refine fb_put (r := o) hx hb hown hts hin4 tyX4 tyX4_ok nmX4 hM ((hA.1).1) (ce4 ((hA.1).2)) rfl 0 (by decide) (hts (.fieldLink RX4 40 "FeatherBedsModel" "thrown" "I") (by decide +kernel)) (fun _ h9 => h9) rfl (ty := .int) (by decide +kernel) rfl rfl (Nat.le_of_ble_eq_true rfl) dX4_pass_2 (up_I (j := 0) (v := 0) (by rw [ce4 ((hA.1).2)]; simp [va_up, upd])) (w' := (S, V, (sT V), (va_up I o (upd (I o) 0 0)))) ⟨rfl, rfl, rfl⟩ (fun H locs hM => ?_)
  have eI : (va_up I o (upd (I o) 0 0)) = (t0 I o) := rfl
  rw [eI] at hM
  clear eI
  refine lv_iload_n hx hb dX4_pass_5 rfl (lv_at hl 1 rfl) ?_
  refine lv_iconst (v := 1) hx hb dX4_pass_6 (by decide) ?_
  refine lv_sipush (v := 200) hx hb dX4_pass_7 (by decide) ?_
  refine fb_callSi hx hb hml hown hts hM (As := [.int (nI z), .int 1, .int 200]) (rest := []) (c_X4_isIn D y l S V (t0 I o) (nI z) 1 200) (cwS 3 hts gX4_pass_X4_isIn rfl rfl rfl (by decide +kernel) ⟨Nat.le_of_ble_eq_true rfl, Nat.le_of_ble_eq_true rfl⟩) rfl hl.1 rfl (Nat.le_of_ble_eq_true rfl) dX4_pass_10 ⟨Nat.le_of_ble_eq_true rfl, Nat.le_of_ble_eq_true rfl⟩ (fun v_1 u H locs hp hM => ?_)
  obtain ⟨hv_, hu_⟩ := hp
  have hv_ := Eq.symm hv_
  have hu_ := Eq.symm hu_
  subst hv_
  subst hu_
  rw [show (isN (nI z) 1 200 : Int32) = 1 from isN_k (lo := 1) (hi := 200) (by decide) hza hz]
  refine lv_if_ne (tgt := 22) hx hb dX4_pass_13 (by decide) (fun c_2 => ?_) (fun c_2 => absurd c_2 (by decide))
  refine lv_iconst (v := 0) hx hb dX4_pass_22 (by decide) ?_
  refine lv_istore_n (lv' := [(2, .int 0), (0, .ref (sa S o)), (1, .int (nI z))]) hx hb dX4_pass_23 rfl hl (by decide) rfl (fun ls hl => ?_)
  refine lv_iconst (v := 0) hx hb dX4_pass_24 (by decide) ?_
  refine lv_istore_n (lv' := [(3, .int 0), (2, .int 0), (0, .ref (sa S o)), (1, .int (nI z))]) hx hb dX4_pass_25 rfl hl (by decide) rfl (fun ls hl => ?_)
  have LP_26 : ∀ (n : Nat) (k : Nat) (hk : k ≤ z), z - k < n → ∀ (H : Heap) (locs : List Loc), fb_M D y A s (S, V, (sT V), (pK (t0 I o) o nt (pF I o cf rf df k 0))) H locs → ∀ ls, lv_has ls 5 [(3, .int (nI k)), (2, .int (psn I o nt cf rf df k)), (0, .ref (sa S o)), (1, .int (nI z))] → W pv l ev rm_X4_pass s mv ([.ref (sa S o), .int (nI z)] : List Value).toArray below meth cv H locs 0 0 Q (F0 mv 26 ls []) := by
    intro n_26
    induction n_26 with
    | zero => intro k hk hmu; exact absurd hmu (Nat.not_lt_zero _)
    | succ n_26 ih_26 =>
      intro k hk hmu H locs hM ls hl
      refine lv_iload_n hx hb dX4_pass_26 rfl (lv_at hl 0 rfl) ?_
      refine lv_iload_n hx hb dX4_pass_27 rfl (lv_at hl 3 rfl) ?_
      refine lv_icmp_ge (tgt := 64) hx hb dX4_pass_28 (by decide) (fun c_3 => ?_) (fun c_3 => ?_)
      · skip
        have e_k : k = z := by have := (nI_leI (a := z) (b := k) (by omega) (by omega)).mp c_3; omega
        have e_k := Eq.symm e_k
        subst e_k
        refine lv_aload_n hx hb dX4_pass_64 rfl (lv_at hl 2 rfl) ?_
        refine lv_dup hx hb dX4_pass_65 rfl ?_
        refine fb_get (r := o) hx hb hown hts hin4 hM ((hA.1).1) (ce4 ((hA.1).2)) rfl 10 (by decide) (hts (.fieldLink RX4 147 "FeatherBedsModel" "nights" "I") (by decide +kernel)) (fun _ h9 => h9) (v := .int ((pK (t0 I o) o nt (pF I o cf rf df z 0)) o 10)) rfl dX4_pass_66 ?_
        rw [show (pK (t0 I o) o nt (pF I o cf rf df z 0)) o 10 = I o 10 from (congrFun (pK_out _ _ _ _ (by omega)) 10).trans (t0_f I o (by decide))]
        refine lv_iload_n hx hb dX4_pass_69 rfl (lv_at hl 3 rfl) ?_
        refine lv_iadd hx hb dX4_pass_70 ?_
        refine fb_put (r := o) hx hb hown hts hin4 tyX4 tyX4_ok nmX4 hM ((hA.1).1) (ce4 ((hA.1).2)) rfl 10 (by decide) (hts (.fieldLink RX4 147 "FeatherBedsModel" "nights" "I") (by decide +kernel)) (fun _ h9 => h9) rfl (ty := .int) (by decide +kernel) rfl rfl (Nat.le_of_ble_eq_true rfl) dX4_pass_71 (up_I (j := 10) (v := (I o 10) + (nI z)) (by rw [ce4 ((hA.1).2)]; simp [va_up, upd])) (w' := (S, V, (sT V), (va_up (pK (t0 I o) o nt (pF I o cf rf df z 0)) o (upd ((pK (t0 I o) o nt (pF I o cf rf df z 0)) o) 10 ((I o 10) + (nI z)))))) ⟨rfl, rfl, rfl⟩ (fun H locs hM => ?_)
        have eI : (va_up (pK (t0 I o) o nt (pF I o cf rf df z 0)) o (upd ((pK (t0 I o) o nt (pF I o cf rf df z 0)) o) 10 ((I o 10) + (nI z)))) = (va_up (pK (t0 I o) o nt (pF I o cf rf df z 0)) o (upd (t0 I o o) 10 (I o 10 + nI z))) := by rw [pK_out _ _ _ _ (show o < o + 10 ∨ _ by omega)]
        rw [eI] at hM
        clear eI
        refine lv_aload_n hx hb dX4_pass_74 rfl (lv_at hl 2 rfl) ?_
        refine lv_dup hx hb dX4_pass_75 rfl ?_
        refine fb_get (r := o) hx hb hown hts hin4 hM ((hA.1).1) (ce4 ((hA.1).2)) rfl 12 (by decide) (hts (.fieldLink RX4 150 "FeatherBedsModel" "pricked" "I") (by decide +kernel)) (fun _ h9 => h9) (v := .int ((va_up (pK (t0 I o) o nt (pF I o cf rf df z 0)) o (upd (t0 I o o) 10 (I o 10 + nI z))) o 12)) rfl dX4_pass_76 ?_
        rw [show (va_up (pK (t0 I o) o nt (pF I o cf rf df z 0)) o (upd (t0 I o o) 10 (I o 10 + nI z))) o 12 = I o 12 from by rw [va_up_self]; simp [upd]; exact t0_f I o (by decide)]
        refine lv_iload_n hx hb dX4_pass_79 rfl (lv_at hl 1 rfl) ?_
        refine lv_iadd hx hb dX4_pass_80 ?_
        refine fb_put (r := o) hx hb hown hts hin4 tyX4 tyX4_ok nmX4 hM ((hA.1).1) (ce4 ((hA.1).2)) rfl 12 (by decide) (hts (.fieldLink RX4 150 "FeatherBedsModel" "pricked" "I") (by decide +kernel)) (fun _ h9 => h9) rfl (ty := .int) (by decide +kernel) rfl rfl (Nat.le_of_ble_eq_true rfl) dX4_pass_81 (up_I (j := 12) (v := (I o 12) + (psn I o nt cf rf df z)) (by rw [ce4 ((hA.1).2)]; simp [va_up, upd])) (w' := (S, V, (sT V), (va_up (va_up (pK (t0 I o) o nt (pF I o cf rf df z 0)) o (upd (t0 I o o) 10 (I o 10 + nI z))) o (upd ((va_up (pK (t0 I o) o nt (pF I o cf rf df z 0)) o (upd (t0 I o o) 10 (I o 10 + nI z))) o) 12 ((I o 12) + (psn I o nt cf rf df z)))))) ⟨rfl, rfl, rfl⟩ (fun H locs hM => ?_)
        have eI : (va_up (va_up (pK (t0 I o) o nt (pF I o cf rf df z 0)) o (upd (t0 I o o) 10 (I o 10 + nI z))) o (upd ((va_up (pK (t0 I o) o nt (pF I o cf rf df z 0)) o (upd (t0 I o o) 10 (I o 10 + nI z))) o) 12 ((I o 12) + (psn I o nt cf rf df z)))) = (va_up (va_up (pK (t0 I o) o nt (pF I o cf rf df z 0)) o (upd (t0 I o o) 10 (I o 10 + nI z))) o (upd (upd (t0 I o o) 10 (I o 10 + nI z)) 12 (I o 12 + psn I o nt cf rf df z))) := by rw [va_up_self]
        rw [eI] at hM
        clear eI
        refine lv_iload_n hx hb dX4_pass_84 rfl (lv_at hl 1 rfl) ?_
        rw [hQ]
        exact fb_iret hx hb hr hlocks hM (⟨rfl, rfl⟩) dX4_pass_85
      · skip
        have hkk : k < z := Nat.lt_of_not_le (fun h => c_3 (nI_le h (by omega)))
        refine lv_iconst (v := 0) hx hb dX4_pass_31 (by decide) ?_
        refine lv_istore (lv' := [(4, .int 0), (3, .int (nI k)), (2, .int (psn I o nt cf rf df k)), (0, .ref (sa S o)), (1, .int (nI z))]) hx hb dX4_pass_32 hl (by decide) rfl (fun ls hl => ?_)
        have LP_34 : ∀ (n : Nat) (t : Nat) (ht : t ≤ nt), nt - t < n → ∀ (H : Heap) (locs : List Loc), fb_M D y A s (S, V, (sT V), (pK (t0 I o) o nt (pF I o cf rf df k t))) H locs → ∀ ls, lv_has ls 5 [(4, .int (nI t)), (3, .int (nI k)), (2, .int (psl I o cf rf df (psn I o nt cf rf df k) k t)), (0, .ref (sa S o)), (1, .int (nI z))] → W pv l ev rm_X4_pass s mv ([.ref (sa S o), .int (nI z)] : List Value).toArray below meth cv H locs 0 0 Q (F0 mv 34 ls []) := by
          intro n_34
          induction n_34 with
          | zero => intro t ht hmu; exact absurd hmu (Nat.not_lt_zero _)
          | succ n_34 ih_34 =>
            intro t ht hmu H locs hM ls hl
            refine lv_iload hx hb dX4_pass_34 (lv_at hl 0 rfl) ?_
            refine lv_aload_n hx hb dX4_pass_36 rfl (lv_at hl 3 rfl) ?_
            refine fb_get (r := o) hx hb hown hts hin4 hM ((hA.1).1) (ce4 ((hA.1).2)) rfl 6 (by decide) (hts (.fieldLink RX4 50 "FeatherBedsModel" "ticks" "I") (by decide +kernel)) (fun _ h9 => h9) (v := .int (nI nt)) (congrArg (fun z => some (Value.int z)) ((congrFun (pK_out _ _ _ _ (by omega)) 6).trans ((t0_f I o (by decide)).trans hF.2.1))) dX4_pass_37 ?_
            refine lv_icmp_ge (tgt := 58) hx hb dX4_pass_40 (by decide) (fun c_4 => ?_) (fun c_4 => ?_)
            · skip
              have e_t : t = nt := by have := (nI_leI (a := nt) (b := t) (by omega) (by omega)).mp c_4; omega
              have e_t := Eq.symm e_t
              subst e_t
              refine lv_iinc (v := nI (k + 1)) (lv' := [(3, .int (nI (k + 1))), (4, .int (nI nt)), (2, .int (psl I o cf rf df (psn I o nt cf rf df k) k nt)), (0, .ref (sa S o)), (1, .int (nI z))]) hx hb dX4_pass_58 hl (k := 1) rfl (nI_1 _) (by decide) rfl (fun ls hl => ?_)
              refine lv_goto (tgt := 26) hx hb dX4_pass_61 (by decide) ?_
              rw [pF_k] at hM
              exact ih_26 (k + 1) (by omega) (by omega) _ _ hM ls (lv_sub hl [0, 2, 3, 4] rfl)
            · skip
              have htk : t < nt := Nat.lt_of_not_le (fun h => c_4 (nI_le h (by omega)))
              refine lv_iload_n hx hb dX4_pass_43 rfl (lv_at hl 2 rfl) ?_
              refine lv_aload_n hx hb dX4_pass_44 rfl (lv_at hl 3 rfl) ?_
              refine lv_iload hx hb dX4_pass_45 (lv_at hl 0 rfl) ?_
              refine fb_callVi (r := o) hx hb hml hown hts hM ((hA.1).1) (ce4 ((hA.1).2)) rfl (As := [.int (nI t)]) (rest := [.int (psl I o cf rf df (psn I o nt cf rf df k) k t)]) (c_X4_nightOf D y l S V (pK (t0 I o) o nt (pF I o cf rf df k t)) o nt cf rf hA ns df (hF.t0.pK _) t htk) (cwV 1 hts gX4_pass_X4_nightOf rfl rfl rfl (by decide +kernel) ⟨Nat.le_of_ble_eq_true rfl, Nat.le_of_ble_eq_true rfl⟩) rfl hl.1 rfl (Nat.le_of_ble_eq_true rfl) dX4_pass_47 ⟨Nat.le_of_ble_eq_true rfl, Nat.le_of_ble_eq_true rfl⟩ (fun v_5 u H locs hp hM => ?_)
              obtain ⟨hv_, hu_⟩ := hp
              have hv_ := Eq.symm hv_
              have hu_ := Eq.symm hu_
              subst hv_
              subst hu_
              have eq1 : (pK (t0 I o) o nt (pF I o cf rf df k t)) (o + 10 + t) = pF I o cf rf df k t t := pK_at _ _ _ _ htk
              have eq2 : (pK (t0 I o) o nt (pF I o cf rf df k t)) (o + 20 + t) = I (o + 20 + t) := (pK_out _ _ _ _ (by omega)).trans (t0_ne I (by omega))
              have eq3 : pF I o cf rf df k t t = ngf (cf t) (cf t * rf t) (df t) (I (o + 20 + t)) (I (o + 10 + t)) k := by unfold pF; rw [if_neg (by omega)]
              have eI : (va_up (pK (t0 I o) o nt (pF I o cf rf df k t)) (o + 10 + t) (fsh (cf t) (cf t * rf t) ((pK (t0 I o) o nt (pF I o cf rf df k t)) (o + 20 + t)) (fpk (nI (df t)) ((pK (t0 I o) o nt (pF I o cf rf df k t)) (o + 10 + t)) (6 * (cf t * rf t))) (2 * (cf t * rf t)))) = (pK (t0 I o) o nt (pF I o cf rf df k (t + 1))) := by rw [eq1, eq2, pK_up _ _ _ _ htk]; exact congrArg (pK (t0 I o) o nt) (pF_s I o cf rf df k t)
              rw [eI] at hM
              clear eI
              rw [eq1, eq3]
              refine lv_iadd hx hb dX4_pass_50 ?_
              rw [show ((psl I o cf rf df (psn I o nt cf rf df k) k t) + (fpl (nI (df t)) (ngf (cf t) (cf t * rf t) (df t) (I (o + 20 + t)) (I (o + 10 + t)) k) (6 * (cf t * rf t))) : Int32) = psl I o cf rf df (psn I o nt cf rf df k) k (t + 1) from rfl]
              refine lv_istore_n (lv' := [(2, .int (psl I o cf rf df (psn I o nt cf rf df k) k (t + 1))), (4, .int (nI t)), (3, .int (nI k)), (0, .ref (sa S o)), (1, .int (nI z))]) hx hb dX4_pass_51 rfl hl (by decide) rfl (fun ls hl => ?_)
              refine lv_iinc (v := nI (t + 1)) (lv' := [(4, .int (nI (t + 1))), (2, .int (psl I o cf rf df (psn I o nt cf rf df k) k (t + 1))), (3, .int (nI k)), (0, .ref (sa S o)), (1, .int (nI z))]) hx hb dX4_pass_52 hl (k := 1) rfl (nI_1 _) (by decide) rfl (fun ls hl => ?_)
              refine lv_goto (tgt := 34) hx hb dX4_pass_55 (by decide) ?_
              exact ih_34 (t + 1) (by omega) (by omega) _ _ hM ls (lv_sub hl [0, 2, 1, 3, 4] rfl)
        exact LP_34 _ 0 (by omega) (Nat.lt_succ_self _) _ _ hM ls (lv_sub hl [0, 1, 2, 3, 4] rfl)
  rw [show t0 I o = (pK (t0 I o) o nt (pF I o cf rf df 0 0)) from (pK_id _ _ _ (fun t ht => (t0_ne I (show o + 10 + t ≠ o by omega)).symm)).symm] at hM
  exact LP_26 _ 0 (by omega) (Nat.lt_succ_self _) _ _ hM ls (lv_sub hl [0, 1, 2, 3] rfl)
