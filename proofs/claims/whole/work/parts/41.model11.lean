abbrev rm_X4_advise : Room := { frames := 7, cells := 1, slots := 216, locals := 164 }
set_option maxHeartbeats 4000000 in
set_option maxRecDepth 100000 in
theorem c_X4_advise_f0o (D : va_G) (y : Nat → ClassId) (l : Launch) (S : fb_Sh) (V I : fb_V) (o nt : Nat) (cf rf : Nat → Nat) (hA : MdAt S o nt cf rf) (ns : Nat) (df : Nat → Nat) (hF : MF I o ns nt cf rf df) (p0 : Int32) (ho : p0 < 0 ∨ nI nt ≤ p0) (p1 : Int32) : CI D y l yX4_advise wsX4_advise rm_X4_advise [.ref (sa S o), .int p0, .int p1] (S, V, (sT V), I) (fun z u => z = 0 ∧ u = (S, V, sT V, (tf I o 1))) 0 0 := by
  refine CI.of (cc := cX4_advise) (maxL := 8) (ret := (some .int)) (by decide) rfl (Nat.le_of_ble_eq_true rfl) ?_
  intro pv ev s mv below meth cv A hx hb hml hr hown hts hlocks hname hM ls hl
  have hown : s.vm.findClass RX4 = some mv.cls := hown
  have hl : lv_has ls 8 [(0, .ref (sa S o)), (1, .int p0), (2, .int p1)] := hl
  have hin4 : ∀ x ∈ wsX40, x ∈ wsX4_advise := by decide +kernel
  obtain ⟨Q, hQ⟩ : ∃ Q, Q = MQ below (va_Qi (fun z u => z = 0 ∧ u = (S, V, sT V, (tf I o 1))) (fun u t => fb_P D y A u t) A) (([.ref (sa S o), .int p0, .int p1] : List Value).toArray) s 0 0 A := ⟨_, rfl⟩
  rw [← hQ]
  have hns : ns ≤ 12 := hF.2.2.1
  have hnt : nt ≤ 6 := hF.2.2.2.1
  refine lv_aload_n hx hb dX4_advise_0 rfl (lv_at hl 0 rfl) ?_
  refine lv_iconst (v := 0) hx hb dX4_advise_1 (by decide) ?_
  refine fb_put (r := o) hx hb hown hts hin4 tyX4 tyX4_ok nmX4 hM ((hA.1).1) (ce4 ((hA.1).2)) rfl 0 (by decide) (hts (.fieldLink RX4 40 "FeatherBedsModel" "thrown" "I") (by decide +kernel)) (fun _ h9 => h9) rfl (ty := .int) (by decide +kernel) rfl rfl (Nat.le_of_ble_eq_true rfl) dX4_advise_2 (up_I (j := 0) (v := 0) (by rw [ce4 ((hA.1).2)]; simp [va_up, upd])) (w' := (S, V, (sT V), (va_up I o (upd (I o) 0 0)))) ⟨rfl, rfl, rfl⟩ (fun H locs hM => ?_)
  have eI : (va_up I o (upd (I o) 0 0)) = (t0 I o) := rfl
  rw [eI] at hM
  clear eI
  refine lv_aload_n hx hb dX4_advise_5 rfl (lv_at hl 0 rfl) ?_
  refine lv_iload_n hx hb dX4_advise_6 rfl (lv_at hl 1 rfl) ?_
  refine fb_callVi (r := o) hx hb hml hown hts hM ((hA.1).1) (ce4 ((hA.1).2)) rfl (As := [.int p0]) (rest := []) (c_X4_isTick D y l S V (t0 I o) o nt cf rf hA ns df hF.t0 p0) (cwV 1 hts gX4_advise_X4_isTick rfl rfl rfl (by decide +kernel) ⟨Nat.le_of_ble_eq_true rfl, Nat.le_of_ble_eq_true rfl⟩) rfl hl.1 rfl (Nat.le_of_ble_eq_true rfl) dX4_advise_7 ⟨Nat.le_of_ble_eq_true rfl, Nat.le_of_ble_eq_true rfl⟩ (fun v_1 u H locs hp hM => ?_)
  obtain ⟨hv_, hu_⟩ := hp
  have hv_ := Eq.symm hv_
  have hu_ := Eq.symm hu_
  subst hv_
  subst hu_
  rw [show (isN p0 0 (nI nt - 1) : Int32) = 0 from isN_out (by omega) ho]
  refine lv_if_ne (tgt := 19) hx hb dX4_advise_10 (by decide) (fun c_2 => absurd (by decide) c_2) (fun c_2 => ?_)
  refine lv_aload_n hx hb dX4_advise_13 rfl (lv_at hl 0 rfl) ?_
  refine lv_iconst (v := 1) hx hb dX4_advise_14 (by decide) ?_
  refine fb_callVi (r := o) hx hb hml hown hts hM ((hA.1).1) (ce4 ((hA.1).2)) rfl (As := [.int 1]) (rest := []) (c_X4_fail D y l S V (t0 I o) o nt cf rf hA 1) (cwV 1 hts gX4_advise_X4_fail rfl rfl rfl (by decide +kernel) ⟨Nat.le_of_ble_eq_true rfl, Nat.le_of_ble_eq_true rfl⟩) rfl hl.1 rfl (Nat.le_of_ble_eq_true rfl) dX4_advise_15 ⟨Nat.le_of_ble_eq_true rfl, Nat.le_of_ble_eq_true rfl⟩ (fun v_3 u H locs hp hM => ?_)
  obtain ⟨hv_, hu_⟩ := hp
  have hv_ := Eq.symm hv_
  have hu_ := Eq.symm hu_
  subst hv_
  subst hu_
  have eI : (tf (t0 I o) o 1) = (tf I o 1) := tf_t0 _ _ _
  rw [eI] at hM
  clear eI
  rw [hQ]
  exact fb_iret hx hb hr hlocks hM (⟨rfl, rfl⟩) dX4_advise_18

set_option maxHeartbeats 4000000 in
set_option maxRecDepth 100000 in
theorem c_X4_advise_f1o (D : va_G) (y : Nat → ClassId) (l : Launch) (S : fb_Sh) (V I : fb_V) (o nt : Nat) (cf rf : Nat → Nat) (hA : MdAt S o nt cf rf) (ns : Nat) (df : Nat → Nat) (hF : MF I o ns nt cf rf df) (t : Nat) (ht : t < nt) (p1 : Int32) (ho : p1 < 1 ∨ 60 < p1) : CI D y l yX4_advise wsX4_advise rm_X4_advise [.ref (sa S o), .int (nI t), .int p1] (S, V, (sT V), I) (fun z u => z = 0 ∧ u = (S, V, sT V, (tf I o 2))) 0 0 := by
  refine CI.of (cc := cX4_advise) (maxL := 8) (ret := (some .int)) (by decide) rfl (Nat.le_of_ble_eq_true rfl) ?_
  intro pv ev s mv below meth cv A hx hb hml hr hown hts hlocks hname hM ls hl
  have hown : s.vm.findClass RX4 = some mv.cls := hown
  have hl : lv_has ls 8 [(0, .ref (sa S o)), (1, .int (nI t)), (2, .int p1)] := hl
  have hin4 : ∀ x ∈ wsX40, x ∈ wsX4_advise := by decide +kernel
  obtain ⟨Q, hQ⟩ : ∃ Q, Q = MQ below (va_Qi (fun z u => z = 0 ∧ u = (S, V, sT V, (tf I o 2))) (fun u t => fb_P D y A u t) A) (([.ref (sa S o), .int (nI t), .int p1] : List Value).toArray) s 0 0 A := ⟨_, rfl⟩
  rw [← hQ]
  have hns : ns ≤ 12 := hF.2.2.1
  have hnt : nt ≤ 6 := hF.2.2.2.1
  have hcr := hF.cr ht
  have htF := hF.2.2.2.2.1 t ht
  refine lv_aload_n hx hb dX4_advise_0 rfl (lv_at hl 0 rfl) ?_
  refine lv_iconst (v := 0) hx hb dX4_advise_1 (by decide) ?_
  refine fb_put (r := o) hx hb hown hts hin4 tyX4 tyX4_ok nmX4 hM ((hA.1).1) (ce4 ((hA.1).2)) rfl 0 (by decide) (hts (.fieldLink RX4 40 "FeatherBedsModel" "thrown" "I") (by decide +kernel)) (fun _ h9 => h9) rfl (ty := .int) (by decide +kernel) rfl rfl (Nat.le_of_ble_eq_true rfl) dX4_advise_2 (up_I (j := 0) (v := 0) (by rw [ce4 ((hA.1).2)]; simp [va_up, upd])) (w' := (S, V, (sT V), (va_up I o (upd (I o) 0 0)))) ⟨rfl, rfl, rfl⟩ (fun H locs hM => ?_)
  have eI : (va_up I o (upd (I o) 0 0)) = (t0 I o) := rfl
  rw [eI] at hM
  clear eI
  refine lv_aload_n hx hb dX4_advise_5 rfl (lv_at hl 0 rfl) ?_
  refine lv_iload_n hx hb dX4_advise_6 rfl (lv_at hl 1 rfl) ?_
  refine fb_callVi (r := o) hx hb hml hown hts hM ((hA.1).1) (ce4 ((hA.1).2)) rfl (As := [.int (nI t)]) (rest := []) (c_X4_isTick D y l S V (t0 I o) o nt cf rf hA ns df hF.t0 (nI t)) (cwV 1 hts gX4_advise_X4_isTick rfl rfl rfl (by decide +kernel) ⟨Nat.le_of_ble_eq_true rfl, Nat.le_of_ble_eq_true rfl⟩) rfl hl.1 rfl (Nat.le_of_ble_eq_true rfl) dX4_advise_7 ⟨Nat.le_of_ble_eq_true rfl, Nat.le_of_ble_eq_true rfl⟩ (fun v_1 u H locs hp hM => ?_)
  obtain ⟨hv_, hu_⟩ := hp
  have hv_ := Eq.symm hv_
  have hu_ := Eq.symm hu_
  subst hv_
  subst hu_
  rw [show (isN (nI t) 0 (nI nt - 1) : Int32) = 1 from isN_in (by omega) ht]
  refine lv_if_ne (tgt := 19) hx hb dX4_advise_10 (by decide) (fun c_2 => ?_) (fun c_2 => absurd c_2 (by decide))
  refine lv_iload_n hx hb dX4_advise_19 rfl (lv_at hl 2 rfl) ?_
  refine lv_iconst (v := 1) hx hb dX4_advise_20 (by decide) ?_
  refine lv_bipush (v := 60) hx hb dX4_advise_21 (by decide) ?_
  refine fb_callSi hx hb hml hown hts hM (As := [.int p1, .int 1, .int 60]) (rest := []) (c_X4_isIn D y l S V (t0 I o) p1 1 60) (cwS 3 hts gX4_advise_X4_isIn rfl rfl rfl (by decide +kernel) ⟨Nat.le_of_ble_eq_true rfl, Nat.le_of_ble_eq_true rfl⟩) rfl hl.1 rfl (Nat.le_of_ble_eq_true rfl) dX4_advise_23 ⟨Nat.le_of_ble_eq_true rfl, Nat.le_of_ble_eq_true rfl⟩ (fun v_3 u H locs hp hM => ?_)
  obtain ⟨hv_, hu_⟩ := hp
  have hv_ := Eq.symm hv_
  have hu_ := Eq.symm hu_
  subst hv_
  subst hu_
  rw [show (isN p1 1 60 : Int32) = 0 from isN_0 ho]
  refine lv_if_ne (tgt := 35) hx hb dX4_advise_26 (by decide) (fun c_4 => absurd (by decide) c_4) (fun c_4 => ?_)
  refine lv_aload_n hx hb dX4_advise_29 rfl (lv_at hl 0 rfl) ?_
  refine lv_iconst (v := 2) hx hb dX4_advise_30 (by decide) ?_
  refine fb_callVi (r := o) hx hb hml hown hts hM ((hA.1).1) (ce4 ((hA.1).2)) rfl (As := [.int 2]) (rest := []) (c_X4_fail D y l S V (t0 I o) o nt cf rf hA 2) (cwV 1 hts gX4_advise_X4_fail rfl rfl rfl (by decide +kernel) ⟨Nat.le_of_ble_eq_true rfl, Nat.le_of_ble_eq_true rfl⟩) rfl hl.1 rfl (Nat.le_of_ble_eq_true rfl) dX4_advise_31 ⟨Nat.le_of_ble_eq_true rfl, Nat.le_of_ble_eq_true rfl⟩ (fun v_5 u H locs hp hM => ?_)
  obtain ⟨hv_, hu_⟩ := hp
  have hv_ := Eq.symm hv_
  have hu_ := Eq.symm hu_
  subst hv_
  subst hu_
  have eI : (tf (t0 I o) o 2) = (tf I o 2) := tf_t0 _ _ _
  rw [eI] at hM
  clear eI
  rw [hQ]
  exact fb_iret hx hb hr hlocks hM (⟨rfl, rfl⟩) dX4_advise_34

set_option maxHeartbeats 4000000 in
set_option maxRecDepth 100000 in
theorem c_X4_advise_ok (D : va_G) (y : Nat → ClassId) (l : Launch) (S : fb_Sh) (V I : fb_V) (o nt : Nat) (cf rf : Nat → Nat) (hA : MdAt S o nt cf rf) (ns : Nat) (df : Nat → Nat) (hF : MF I o ns nt cf rf df) (t : Nat) (ht : t < nt) (z : Nat) (hza : 1 ≤ z) (hz : z ≤ 60)  (hnew : o + 30 ∉ sR S) : CI D y l yX4_advise wsX4_advise rm_X4_advise [.ref (sa S o), .int (nI t), .int (nI z)] (S, V, (sT V), I) (fun v u => v = (adv (cf t) (cf t * rf t) (df t) z (I (o + 20 + t)) (I (o + 10 + t)) (2 * (cf t * rf t))).1 ∧ u = (S, V, sT V, t0 I o)) 1 216 := by
  refine CI.of (cc := cX4_advise) (maxL := 8) (ret := (some .int)) (by decide) rfl (Nat.le_of_ble_eq_true rfl) ?_
  intro pv ev s mv below meth cv A hx hb hml hr hown hts hlocks hname hM ls hl
  have hown : s.vm.findClass RX4 = some mv.cls := hown
  have hl : lv_has ls 8 [(0, .ref (sa S o)), (1, .int (nI t)), (2, .int (nI z))] := hl
  have hin4 : ∀ x ∈ wsX40, x ∈ wsX4_advise := by decide +kernel
  obtain ⟨Q, hQ⟩ : ∃ Q, Q = MQ below (va_Qi (fun v u => v = (adv (cf t) (cf t * rf t) (df t) z (I (o + 20 + t)) (I (o + 10 + t)) (2 * (cf t * rf t))).1 ∧ u = (S, V, sT V, t0 I o)) (fun u t => fb_P D y A u t) A) (([.ref (sa S o), .int (nI t), .int (nI z)] : List Value).toArray) s 1 216 A := ⟨_, rfl⟩
  rw [← hQ]
  have hns : ns ≤ 12 := hF.2.2.1
  have hnt : nt ≤ 6 := hF.2.2.2.1
  have hcr := hF.cr ht
  have htF := hF.2.2.2.2.1 t ht
  have hc1 := (hF.2.2.2.2.1 t ht).2.2.2.1
  refine lv_aload_n hx hb dX4_advise_0 rfl (lv_at hl 0 rfl) ?_
  refine lv_iconst (v := 0) hx hb dX4_advise_1 (by decide) ?_
  refine fb_put (r := o) hx hb hown hts hin4 tyX4 tyX4_ok nmX4 hM ((hA.1).1) (ce4 ((hA.1).2)) rfl 0 (by decide) (hts (.fieldLink RX4 40 "FeatherBedsModel" "thrown" "I") (by decide +kernel)) (fun _ h9 => h9) rfl (ty := .int) (by decide +kernel) rfl rfl (Nat.le_of_ble_eq_true rfl) dX4_advise_2 (up_I (j := 0) (v := 0) (by rw [ce4 ((hA.1).2)]; simp [va_up, upd])) (w' := (S, V, (sT V), (va_up I o (upd (I o) 0 0)))) ⟨rfl, rfl, rfl⟩ (fun H locs hM => ?_)
  have eI : (va_up I o (upd (I o) 0 0)) = (t0 I o) := rfl
  rw [eI] at hM
  clear eI
  refine lv_aload_n hx hb dX4_advise_5 rfl (lv_at hl 0 rfl) ?_
  refine lv_iload_n hx hb dX4_advise_6 rfl (lv_at hl 1 rfl) ?_
  refine fb_callVi (r := o) hx hb hml hown hts hM ((hA.1).1) (ce4 ((hA.1).2)) rfl (As := [.int (nI t)]) (rest := []) (c_X4_isTick D y l S V (t0 I o) o nt cf rf hA ns df hF.t0 (nI t)) (cwV 1 hts gX4_advise_X4_isTick rfl rfl rfl (by decide +kernel) ⟨Nat.le_of_ble_eq_true rfl, Nat.le_of_ble_eq_true rfl⟩) rfl hl.1 rfl (Nat.le_of_ble_eq_true rfl) dX4_advise_7 ⟨Nat.le_of_ble_eq_true rfl, Nat.le_of_ble_eq_true rfl⟩ (fun v_1 u H locs hp hM => ?_)
  obtain ⟨hv_, hu_⟩ := hp
  have hv_ := Eq.symm hv_
  have hu_ := Eq.symm hu_
  subst hv_
  subst hu_
  rw [show (isN (nI t) 0 (nI nt - 1) : Int32) = 1 from isN_in (by omega) ht]
  refine lv_if_ne (tgt := 19) hx hb dX4_advise_10 (by decide) (fun c_2 => ?_) (fun c_2 => absurd c_2 (by decide))
  refine lv_iload_n hx hb dX4_advise_19 rfl (lv_at hl 2 rfl) ?_
  refine lv_iconst (v := 1) hx hb dX4_advise_20 (by decide) ?_
  refine lv_bipush (v := 60) hx hb dX4_advise_21 (by decide) ?_
  refine fb_callSi hx hb hml hown hts hM (As := [.int (nI z), .int 1, .int 60]) (rest := []) (c_X4_isIn D y l S V (t0 I o) (nI z) 1 60) (cwS 3 hts gX4_advise_X4_isIn rfl rfl rfl (by decide +kernel) ⟨Nat.le_of_ble_eq_true rfl, Nat.le_of_ble_eq_true rfl⟩) rfl hl.1 rfl (Nat.le_of_ble_eq_true rfl) dX4_advise_23 ⟨Nat.le_of_ble_eq_true rfl, Nat.le_of_ble_eq_true rfl⟩ (fun v_3 u H locs hp hM => ?_)
  obtain ⟨hv_, hu_⟩ := hp
  have hv_ := Eq.symm hv_
  have hu_ := Eq.symm hu_
  subst hv_
  subst hu_
  rw [show (isN (nI z) 1 60 : Int32) = 1 from isN_k (lo := 1) (hi := 60) (by decide) hza hz]
  refine lv_if_ne (tgt := 35) hx hb dX4_advise_26 (by decide) (fun c_4 => ?_) (fun c_4 => absurd c_4 (by decide))
  refine lv_aload_n hx hb dX4_advise_35 rfl (lv_at hl 0 rfl) ?_
  refine fb_get (r := o) hx hb hown hts hin4 hM ((hA.1).1) (ce4 ((hA.1).2)) rfl 8 (by decide) (hts (.fieldLink RX4 27 "FeatherBedsModel" "squares" "[[I") (by decide +kernel)) (fun _ h9 => h9) (v := .ref (sa S (o + 5))) (congrArg (fun z => some (va_rf z)) ((hA.2.1).2.2.2.2.1)) dX4_advise_36 ?_
  refine lv_iload_n hx hb dX4_advise_39 rfl (lv_at hl 1 rfl) ?_
  refine fb_aaldA (r := (o + 5)) hx hb hM ((hA.2.2.2.2.2.2.1).1) (ce10 ((hA.2.2.2.2.2.2.1).2.1)) 4 rfl (k := t) (nI_clamp (by omega)) (b := sa S (o + 10 + t)) (((hA.2.2.2.2.2.2.2.2.2) t (by omega)).1.1) (by rw [(hA.2.2.2.2.2.2.1).2.2]; exact vp_in_nI (by omega) (by omega)) dX4_advise_40 ?_
  refine fb_clone hx hb (hml.trans hl.1.symm) hown (hts (.methodLink RX4 156 ⟨"[I", "clone", "()Ljava/lang/Object;"⟩) (by decide +kernel)) (hts (.sameMethod "[I" "java/lang/Object" "clone" "()Ljava/lang/Object;") (by decide +kernel)) (hts (.native ⟨"java/lang/Object", "clone", "()Ljava/lang/Object;"⟩) (by decide +kernel)) (hts (.instanceMethod ⟨"java/lang/Object", "clone", "()Ljava/lang/Object;"⟩) (by decide +kernel)) (hts (.selects "[I" ⟨"[I", "clone", "()Ljava/lang/Object;"⟩ ⟨"java/lang/Object", "clone", "()Ljava/lang/Object;"⟩) (by decide +kernel)) hM (r := (o + 10 + t)) (((hA.2.2.2.2.2.2.2.2.2) t (by omega)).1.2.1) (((hA.2.2.2.2.2.2.2.2.2) t (by omega)).1.2.2.1) (n := (6 * (cf t * rf t))) (((hA.2.2.2.2.2.2.2.2.2) t (by omega)).1.2.2.2) (o + 30) hnew (Nat.le_of_ble_eq_true rfl) (Nat.le_of_ble_eq_true rfl) (Nat.le_of_ble_eq_true rfl) (by show 0 + _ ≤ 216; omega) dX4_advise_41 (fun q9 H hM => ?_)
  have hA2 := hA.new hnt q9 6 (6 * (cf t * rf t))
  have k1 : o + 30 ∈ sR (fb_new S (o + 30) q9 6 (6 * (cf t * rf t))) := List.mem_append_right _ (List.mem_singleton.mpr rfl)
  have k2 : sk (fb_new S (o + 30) q9 6 (6 * (cf t * rf t))) (o + 30) = 6 := va_up_self _ _ _
  have k3 : sn (fb_new S (o + 30) q9 6 (6 * (cf t * rf t))) (o + 30) = (6 * (cf t * rf t)) := va_up_self _ _ _
  have k4 : sa (fb_new S (o + 30) q9 6 (6 * (cf t * rf t))) (o + 30) = q9 := va_up_self _ _ _
  have k5 : sa (fb_new S (o + 30) q9 6 (6 * (cf t * rf t))) o = sa S o := va_up_ne _ _ (by omega)
  obtain ⟨S2, eS⟩ : ∃ S2, S2 = (fb_new S (o + 30) q9 6 (6 * (cf t * rf t))) := ⟨_, rfl⟩
  rw [← eS] at hM hA2 k1 k2 k3 k4 k5
  obtain ⟨B0, eB⟩ : ∃ B0, B0 = (va_up (t0 I o) (o + 30) ((t0 I o) (o + 10 + t))) := ⟨_, rfl⟩
  have hF2 : MF B0 o ns nt cf rf df := by rw [eB]; exact hF.t0.up _ (by omega) (by omega) (by omega)
  have hB1 : B0 (o + 10 + t) = I (o + 10 + t) := by rw [eB, va_up_ne _ _ (show o + 10 + t ≠ o + 30 by omega)]; exact t0_ne I (show o + 10 + t ≠ o by omega)
  have hB2 : B0 (o + 20 + t) = I (o + 20 + t) := by rw [eB, va_up_ne _ _ (show o + 20 + t ≠ o + 30 by omega)]; exact t0_ne I (show o + 20 + t ≠ o by omega)
  have hsame : B0 (o + 30) = B0 (o + 10 + t) := by rw [eB, va_up_self, va_up_ne _ _ (show o + 10 + t ≠ o + 30 by omega)]
  rw [← eB] at hM
  rw [← k5] at hl
  rw [← k4]
  refine W.widen (show 0 + 1 ≤ 1 from Nat.le_refl _) (show 0 + (6 * (cf t * rf t)) ≤ 216 by omega) ?_
  refine fb_castA hx hb hown (hts (.classLink RX4 26 "[I") (by decide +kernel)) hM (r := o + 30) k1 k2 dX4_advise_44 ?_
  refine lv_astore_n (lv' := [(3, .ref (sa S2 (o + 30))), (0, .ref (sa S2 o)), (1, .int (nI t)), (2, .int (nI z))]) hx hb dX4_advise_47 rfl hl (by decide) rfl (fun ls hl => ?_)
  refine lv_iconst (v := (-1)) hx hb dX4_advise_48 (by decide) ?_
  refine lv_istore (lv' := [(4, .int (-1)), (3, .ref (sa S2 (o + 30))), (0, .ref (sa S2 o)), (1, .int (nI t)), (2, .int (nI z))]) hx hb dX4_advise_49 hl (by decide) rfl (fun ls hl => ?_)
  refine lv_aload_n hx hb dX4_advise_51 rfl (lv_at hl 2 rfl) ?_
  refine lv_iload_n hx hb dX4_advise_52 rfl (lv_at hl 3 rfl) ?_
  refine lv_iload_n hx hb dX4_advise_53 rfl (lv_at hl 4 rfl) ?_
  refine lv_aload_n hx hb dX4_advise_54 rfl (lv_at hl 1 rfl) ?_
  refine fb_callVi (r := o) hx hb hml hown hts hM ((hA2.1).1) (ce4 ((hA2.1).2)) rfl (As := [.int (nI t), .int (nI z), .ref (sa S2 (o + 30))]) (rest := []) (c_X4_coldBehind D y l S2 V B0 o nt cf rf hA2 ns df hF2 t ht (o + 30) k1 k2 k3 (by omega) hsame z (by omega)) (cwV 3 hts gX4_advise_X4_coldBehind rfl rfl rfl (by decide +kernel) ⟨Nat.le_of_ble_eq_true rfl, Nat.le_of_ble_eq_true rfl⟩) rfl hl.1 rfl (Nat.le_of_ble_eq_true rfl) dX4_advise_55 ⟨Nat.le_of_ble_eq_true rfl, Nat.le_of_ble_eq_true rfl⟩ (fun v_5 u H locs hp hM => ?_)
  obtain ⟨hv_, hu_⟩ := hp
  have hv_ := Eq.symm hv_
  have hu_ := Eq.symm hu_
  subst hv_
  subst hu_
  rw [show (wm (mx (ngf (cf t) (cf t * rf t) (df t) (B0 (o + 20 + t)) (B0 (o + 10 + t)) z) (cld (mx (ngf (cf t) (cf t * rf t) (df t) (B0 (o + 20 + t)) (B0 (o + 10 + t)) z)) (cf t * rf t))) : Int32) = (wmk (cf t) (cf t * rf t) (df t) (I (o + 20 + t)) (I (o + 10 + t)) z) from by rw [hB1, hB2]; rfl]
  refine lv_istore (lv' := [(5, .int ((wmk (cf t) (cf t * rf t) (df t) (I (o + 20 + t)) (I (o + 10 + t)) z))), (4, .int (-1)), (3, .ref (sa S2 (o + 30))), (0, .ref (sa S2 o)), (1, .int (nI t)), (2, .int (nI z))]) hx hb dX4_advise_58 hl (by decide) rfl (fun ls hl => ?_)
  refine lv_iconst (v := 0) hx hb dX4_advise_60 (by decide) ?_
  refine lv_istore (lv' := [(6, .int 0), (5, .int ((wmk (cf t) (cf t * rf t) (df t) (I (o + 20 + t)) (I (o + 10 + t)) z))), (4, .int (-1)), (3, .ref (sa S2 (o + 30))), (0, .ref (sa S2 o)), (1, .int (nI t)), (2, .int (nI z))]) hx hb dX4_advise_61 hl (by decide) rfl (fun ls hl => ?_)
  have LP_63 : ∀ (n : Nat) (i : Nat) (hi : i ≤ 2 * (cf t * rf t)), 2 * (cf t * rf t) - i < n → ∀ (H : Heap) (locs : List Loc), fb_M D y A s (S2, V, (sT V), B0) H locs → ∀ ls, lv_has ls 8 [(6, .int (nI i)), (5, .int ((adv (cf t) (cf t * rf t) (df t) z (I (o + 20 + t)) (I (o + 10 + t)) i).2)), (4, .int ((adv (cf t) (cf t * rf t) (df t) z (I (o + 20 + t)) (I (o + 10 + t)) i).1)), (3, .ref (sa S2 (o + 30))), (0, .ref (sa S2 o)), (1, .int (nI t)), (2, .int (nI z))] → W pv l ev rm_X4_advise s mv ([.ref (sa S o), .int (nI t), .int (nI z)] : List Value).toArray below meth cv H locs 1 216 Q (F0 mv 63 ls []) := by
    intro n_63
    induction n_63 with
    | zero => intro i hi hmu; exact absurd hmu (Nat.not_lt_zero _)
    | succ n_63 ih_63 =>
      intro i hi hmu H locs hM ls hl
      refine lv_iload hx hb dX4_advise_63 (lv_at hl 0 rfl) ?_
      refine lv_iconst (v := 2) hx hb dX4_advise_65 (by decide) ?_
      refine lv_aload_n hx hb dX4_advise_66 rfl (lv_at hl 4 rfl) ?_
      refine lv_iload_n hx hb dX4_advise_67 rfl (lv_at hl 5 rfl) ?_
      refine fb_callVi (r := o) hx hb hml hown hts hM ((hA2.1).1) (ce4 ((hA2.1).2)) rfl (As := [.int (nI t)]) (rest := [.int 2, .int (nI i)]) (c_X4_squaresOf D y l S2 V B0 o nt cf rf hA2 ns df hF2 t ht) (cwV 1 hts gX4_advise_X4_squaresOf rfl rfl rfl (by decide +kernel) ⟨Nat.le_of_ble_eq_true rfl, Nat.le_of_ble_eq_true rfl⟩) rfl hl.1 rfl (Nat.le_of_ble_eq_true rfl) dX4_advise_68 ⟨Nat.le_of_ble_eq_true rfl, Nat.le_of_ble_eq_true rfl⟩ (fun v_6 u H locs hp hM => ?_)
      obtain ⟨hv_, hu_⟩ := hp
      have hv_ := Eq.symm hv_
      have hu_ := Eq.symm hu_
      subst hv_
      subst hu_
      refine lv_imul hx hb dX4_advise_71 ?_
      refine W.eq (g2 := F0 mv _ ls (.int (nI (2 * (cf t * rf t))) :: .int (nI i) :: [])) (by first | rfl | rw [show (2 * (nI (cf t * rf t)) : Int32) = nI (2 * (cf t * rf t)) from pk_mul 2 _]) ?_
      refine lv_icmp_ge (tgt := 147) hx hb dX4_advise_72 (by decide) (fun c_7 => ?_) (fun c_7 => ?_)
      · skip
        have e_i : i = 2 * (cf t * rf t) := by have := (nI_leI (a := 2 * (cf t * rf t)) (b := i) (by omega) (by omega)).mp c_7; omega
        have e_i := Eq.symm e_i
        subst e_i
        refine lv_iload hx hb dX4_advise_147 (lv_at hl 2 rfl) ?_
        rw [eS] at hM; have hM := fb_drop (I := t0 I o) hnew (fun x h => by rw [eB]; exact va_up_ne _ _ h) hM
        rw [hQ]
        refine W.widen (show _ ≤ 1 from Nat.le_of_ble_eq_true rfl) (show _ ≤ 216 from Nat.le_of_ble_eq_true rfl) ?_
        exact fb_iret hx hb hr hlocks hM (⟨rfl, rfl⟩) dX4_advise_149
      · skip
        have hik : i < 2 * (cf t * rf t) := Nat.lt_of_not_le (fun h => c_7 (nI_le h (by omega)))
        refine lv_aload_n hx hb dX4_advise_75 rfl (lv_at hl 4 rfl) ?_
        refine lv_iload_n hx hb dX4_advise_76 rfl (lv_at hl 5 rfl) ?_
        refine lv_iload hx hb dX4_advise_77 (lv_at hl 0 rfl) ?_
        refine lv_iconst (v := 2) hx hb dX4_advise_79 (by decide) ?_
        refine lv_idiv hx hb dX4_advise_80 (by decide) ?_
        refine W.eq (g2 := F0 mv _ ls (.int (nI (i / 2)) :: .int (nI t) :: .ref (sa S2 o) :: [])) (by first | rfl | rw [show ((nI i) / 2 : Int32) = nI (i / 2) from pk_div (d := 2) (by omega) (by omega) (by omega)]) ?_
        refine lv_iload hx hb dX4_advise_81 (lv_at hl 0 rfl) ?_
        refine lv_iconst (v := 2) hx hb dX4_advise_83 (by decide) ?_
        refine lv_irem hx hb dX4_advise_84 (by decide) ?_
        refine W.eq (g2 := F0 mv _ ls (.int (nI (i % 2)) :: .int (nI (i / 2)) :: .int (nI t) :: .ref (sa S2 o) :: [])) (by first | rfl | rw [show ((nI i) - (nI i) / 2 * 2 : Int32) = nI (i % 2) from pk_rem (d := 2) (by omega) (by omega) (by omega)]) ?_
        refine fb_callVi (r := o) hx hb hml hown hts hM ((hA2.1).1) (ce4 ((hA2.1).2)) rfl (As := [.int (nI t), .int (nI (i / 2)), .int (nI (i % 2))]) (rest := []) (c_X4_isOpen D y l S2 V B0 o nt cf rf hA2 ns df hF2 t ht (i / 2) (by omega) (i % 2) (by omega)) (cwV 3 hts gX4_advise_X4_isOpen rfl rfl rfl (by decide +kernel) ⟨Nat.le_of_ble_eq_true rfl, Nat.le_of_ble_eq_true rfl⟩) rfl hl.1 rfl (Nat.le_of_ble_eq_true rfl) dX4_advise_85 ⟨Nat.le_of_ble_eq_true rfl, Nat.le_of_ble_eq_true rfl⟩ (fun v_8 u H locs hp hM => ?_)
        obtain ⟨hv_, hu_⟩ := hp
        have hv_ := Eq.symm hv_
        have hu_ := Eq.symm hu_
        subst hv_
        subst hu_
        rw [show (ob (cf t) (cf t * rf t) (B0 (o + 20 + t)) (i / 2) (i % 2) : Int32) = ob (cf t) (cf t * rf t) (I (o + 20 + t)) (i / 2) (i % 2) from by rw [hB2]]
        refine lv_if_ne (tgt := 94) hx hb dX4_advise_88 (by decide) (fun c_9 => ?_) (fun c_9 => ?_)
        · skip
          have ho := ob_1 c_9
          refine lv_aload_n hx hb dX4_advise_94 rfl (lv_at hl 4 rfl) ?_
          refine fb_get (r := o) hx hb hown hts hin4 hM ((hA2.1).1) (ce4 ((hA2.1).2)) rfl 9 (by decide) (hts (.fieldLink RX4 33 "FeatherBedsModel" "seams" "[[Z") (by decide +kernel)) (fun _ h9 => h9) (v := .ref (sa S2 (o + 6))) (congrArg (fun z => some (va_rf z)) ((hA2.2.1).2.2.2.2.2.1)) dX4_advise_95 ?_
          refine lv_iload_n hx hb dX4_advise_98 rfl (lv_at hl 5 rfl) ?_
          refine fb_aaldA (r := (o + 6)) hx hb hM ((hA2.2.2.2.2.2.2.2.1).1) (ce11 ((hA2.2.2.2.2.2.2.2.1).2.1)) 5 rfl (k := t) (nI_clamp (by omega)) (b := sa S2 (o + 20 + t)) (((hA2.2.2.2.2.2.2.2.2.2) t (by omega)).2.1) (by rw [(hA2.2.2.2.2.2.2.2.1).2.2]; exact vp_in_nI (by omega) (by omega)) dX4_advise_99 ?_
          refine lv_iload hx hb dX4_advise_100 (lv_at hl 0 rfl) ?_
          refine lv_iconst (v := 1) hx hb dX4_advise_102 (by decide) ?_
          refine fb_zast (r := (o + 20 + t)) hx hb hM (((hA2.2.2.2.2.2.2.2.2.2) t (by omega)).2.2.1) (ce7 (((hA2.2.2.2.2.2.2.2.2.2) t (by omega)).2.2.2.1)) (k := i) (nI_clamp (by omega)) (by rw [((hA2.2.2.2.2.2.2.2.2.2) t (by omega)).2.2.2.2]; exact vp_in_nI (by omega) (by omega)) dX4_advise_103 (up_I (j := i) (by rw [ce7 (((hA2.2.2.2.2.2.2.2.2.2) t (by omega)).2.2.2.1)]; simp [va_up])) (w' := (S2, V, (sT V), (va_up B0 (o + 20 + t) (upd (B0 (o + 20 + t)) i (vp_nar .boolean 1))))) ⟨rfl, rfl, rfl⟩ (fun H locs hM => ?_)
          have eI : (va_up B0 (o + 20 + t) (upd (B0 (o + 20 + t)) i (vp_nar .boolean 1))) = (va_up B0 (o + 20 + t) (sewn (I (o + 20 + t)) i)) := by rw [hB2]; rfl
          rw [eI] at hM
          clear eI
          refine lv_aload_n hx hb dX4_advise_104 rfl (lv_at hl 4 rfl) ?_
          refine lv_iload_n hx hb dX4_advise_105 rfl (lv_at hl 5 rfl) ?_
          refine lv_iload_n hx hb dX4_advise_106 rfl (lv_at hl 6 rfl) ?_
          refine lv_aload_n hx hb dX4_advise_107 rfl (lv_at hl 3 rfl) ?_
          refine fb_callVi (r := o) hx hb hml hown hts hM ((hA2.1).1) (ce4 ((hA2.1).2)) rfl (As := [.int (nI t), .int (nI z), .ref (sa S2 (o + 30))]) (rest := []) (c_X4_coldBehind D y l S2 V (va_up B0 (o + 20 + t) (sewn (I (o + 20 + t)) i)) o nt cf rf hA2 ns df (hF2.up _ (by omega) (by omega) (by omega)) t ht (o + 30) k1 k2 k3 (by omega) (by rw [va_up_ne _ _ (show o + 30 ≠ o + 20 + t by omega), va_up_ne _ _ (show o + 10 + t ≠ o + 20 + t by omega)]; exact hsame) z (by omega)) (cwV 3 hts gX4_advise_X4_coldBehind rfl rfl rfl (by decide +kernel) ⟨Nat.le_of_ble_eq_true rfl, Nat.le_of_ble_eq_true rfl⟩) rfl hl.1 rfl (Nat.le_of_ble_eq_true rfl) dX4_advise_108 ⟨Nat.le_of_ble_eq_true rfl, Nat.le_of_ble_eq_true rfl⟩ (fun v_10 u H locs hp hM => ?_)
          obtain ⟨hv_, hu_⟩ := hp
          have hv_ := Eq.symm hv_
          have hu_ := Eq.symm hu_
          subst hv_
          subst hu_
          rw [show (wm (mx (ngf (cf t) (cf t * rf t) (df t) ((va_up B0 (o + 20 + t) (sewn (I (o + 20 + t)) i)) (o + 20 + t)) ((va_up B0 (o + 20 + t) (sewn (I (o + 20 + t)) i)) (o + 10 + t)) z) (cld (mx (ngf (cf t) (cf t * rf t) (df t) ((va_up B0 (o + 20 + t) (sewn (I (o + 20 + t)) i)) (o + 20 + t)) ((va_up B0 (o + 20 + t) (sewn (I (o + 20 + t)) i)) (o + 10 + t)) z)) (cf t * rf t))) : Int32) = (wmk (cf t) (cf t * rf t) (df t) (sewn (I (o + 20 + t)) i) (I (o + 10 + t)) z) from by rw [va_up_self, va_up_ne _ _ (show o + 10 + t ≠ o + 20 + t by omega), hB1]; rfl]
          refine lv_istore (lv' := [(7, .int ((wmk (cf t) (cf t * rf t) (df t) (sewn (I (o + 20 + t)) i) (I (o + 10 + t)) z))), (6, .int (nI i)), (5, .int ((adv (cf t) (cf t * rf t) (df t) z (I (o + 20 + t)) (I (o + 10 + t)) i).2)), (4, .int ((adv (cf t) (cf t * rf t) (df t) z (I (o + 20 + t)) (I (o + 10 + t)) i).1)), (3, .ref (sa S2 (o + 30))), (0, .ref (sa S2 o)), (1, .int (nI t)), (2, .int (nI z))]) hx hb dX4_advise_111 hl (by decide) rfl (fun ls hl => ?_)
          refine lv_aload_n hx hb dX4_advise_113 rfl (lv_at hl 5 rfl) ?_
          refine fb_get (r := o) hx hb hown hts hin4 hM ((hA2.1).1) (ce4 ((hA2.1).2)) rfl 9 (by decide) (hts (.fieldLink RX4 33 "FeatherBedsModel" "seams" "[[Z") (by decide +kernel)) (fun _ h9 => h9) (v := .ref (sa S2 (o + 6))) (congrArg (fun z => some (va_rf z)) ((hA2.2.1).2.2.2.2.2.1)) dX4_advise_114 ?_
          refine lv_iload_n hx hb dX4_advise_117 rfl (lv_at hl 6 rfl) ?_
          refine fb_aaldA (r := (o + 6)) hx hb hM ((hA2.2.2.2.2.2.2.2.1).1) (ce11 ((hA2.2.2.2.2.2.2.2.1).2.1)) 5 rfl (k := t) (nI_clamp (by omega)) (b := sa S2 (o + 20 + t)) (((hA2.2.2.2.2.2.2.2.2.2) t (by omega)).2.1) (by rw [(hA2.2.2.2.2.2.2.2.1).2.2]; exact vp_in_nI (by omega) (by omega)) dX4_advise_118 ?_
          refine lv_iload hx hb dX4_advise_119 (lv_at hl 1 rfl) ?_
          refine lv_iconst (v := 0) hx hb dX4_advise_121 (by decide) ?_
          refine fb_zast (r := (o + 20 + t)) hx hb hM (((hA2.2.2.2.2.2.2.2.2.2) t (by omega)).2.2.1) (ce7 (((hA2.2.2.2.2.2.2.2.2.2) t (by omega)).2.2.2.1)) (k := i) (nI_clamp (by omega)) (by rw [((hA2.2.2.2.2.2.2.2.2.2) t (by omega)).2.2.2.2]; exact vp_in_nI (by omega) (by omega)) dX4_advise_122 (up_I (j := i) (by rw [ce7 (((hA2.2.2.2.2.2.2.2.2.2) t (by omega)).2.2.2.1)]; simp [va_up])) (w' := (S2, V, (sT V), (va_up (va_up B0 (o + 20 + t) (sewn (I (o + 20 + t)) i)) (o + 20 + t) (upd ((va_up B0 (o + 20 + t) (sewn (I (o + 20 + t)) i)) (o + 20 + t)) i (vp_nar .boolean 0))))) ⟨rfl, rfl, rfl⟩ (fun H locs hM => ?_)
          have eI : (va_up (va_up B0 (o + 20 + t) (sewn (I (o + 20 + t)) i)) (o + 20 + t) (upd ((va_up B0 (o + 20 + t) (sewn (I (o + 20 + t)) i)) (o + 20 + t)) i (vp_nar .boolean 0))) = B0 := by rw [va_up_self, up_up, sewn_back ho]; exact up_id _ _ _ hB2.symm
          rw [eI] at hM
          clear eI
          refine lv_iload hx hb dX4_advise_123 (lv_at hl 0 rfl) ?_
          refine lv_iload hx hb dX4_advise_125 (lv_at hl 2 rfl) ?_
          refine lv_icmp_gt (tgt := 133) hx hb dX4_advise_127 (by decide) (fun c_11 => ?_) (fun c_11 => ?_)
          · skip
            have eB : (adv (cf t) (cf t * rf t) (df t) z (I (o + 20 + t)) (I (o + 10 + t)) (i + 1)) = (nI i, (wmk (cf t) (cf t * rf t) (df t) (sewn (I (o + 20 + t)) i) (I (o + 10 + t)) z)) := (if_pos ho).trans (if_pos c_11)
            refine lv_iload hx hb dX4_advise_133 (lv_at hl 1 rfl) ?_
            refine lv_istore (lv' := [(4, .int (nI i)), (7, .int ((wmk (cf t) (cf t * rf t) (df t) (sewn (I (o + 20 + t)) i) (I (o + 10 + t)) z))), (6, .int (nI i)), (5, .int ((adv (cf t) (cf t * rf t) (df t) z (I (o + 20 + t)) (I (o + 10 + t)) i).2)), (3, .ref (sa S2 (o + 30))), (0, .ref (sa S2 o)), (1, .int (nI t)), (2, .int (nI z))]) hx hb dX4_advise_135 hl (by decide) rfl (fun ls hl => ?_)
            refine lv_iload hx hb dX4_advise_137 (lv_at hl 1 rfl) ?_
            refine lv_istore (lv' := [(5, .int ((wmk (cf t) (cf t * rf t) (df t) (sewn (I (o + 20 + t)) i) (I (o + 10 + t)) z))), (4, .int (nI i)), (7, .int ((wmk (cf t) (cf t * rf t) (df t) (sewn (I (o + 20 + t)) i) (I (o + 10 + t)) z))), (6, .int (nI i)), (3, .ref (sa S2 (o + 30))), (0, .ref (sa S2 o)), (1, .int (nI t)), (2, .int (nI z))]) hx hb dX4_advise_139 hl (by decide) rfl (fun ls hl => ?_)
            refine lv_iinc (v := nI (i + 1)) (lv' := [(6, .int (nI (i + 1))), (5, .int ((wmk (cf t) (cf t * rf t) (df t) (sewn (I (o + 20 + t)) i) (I (o + 10 + t)) z))), (4, .int (nI i)), (7, .int ((wmk (cf t) (cf t * rf t) (df t) (sewn (I (o + 20 + t)) i) (I (o + 10 + t)) z))), (3, .ref (sa S2 (o + 30))), (0, .ref (sa S2 o)), (1, .int (nI t)), (2, .int (nI z))]) hx hb dX4_advise_141 hl (k := 3) rfl (nI_1 _) (by decide) rfl (fun ls hl => ?_)
            refine lv_goto (tgt := 63) hx hb dX4_advise_144 (by decide) ?_
            have hl : lv_has ls 8 [(6, .int (nI (i + 1))), (5, .int (adv (cf t) (cf t * rf t) (df t) z (I (o + 20 + t)) (I (o + 10 + t)) (i + 1)).2), (4, .int (adv (cf t) (cf t * rf t) (df t) z (I (o + 20 + t)) (I (o + 10 + t)) (i + 1)).1), (3, .ref (sa S2 (o + 30))), (0, .ref (sa S2 o)), (1, .int (nI t)), (2, .int (nI z))] := by rw [eB]; exact lv_sub hl [0, 1, 2, 4, 5, 6, 7] rfl
            exact ih_63 (i + 1) (by omega) (by omega) _ _ hM ls (lv_sub hl [0, 1, 2, 3, 4, 5, 6] rfl)
          · skip
            have eB : (adv (cf t) (cf t * rf t) (df t) z (I (o + 20 + t)) (I (o + 10 + t)) (i + 1)) = (adv (cf t) (cf t * rf t) (df t) z (I (o + 20 + t)) (I (o + 10 + t)) i) := (if_pos ho).trans (if_neg c_11)
            refine lv_goto (tgt := 141) hx hb dX4_advise_130 (by decide) ?_
            refine lv_iinc (v := nI (i + 1)) (lv' := [(6, .int (nI (i + 1))), (7, .int ((wmk (cf t) (cf t * rf t) (df t) (sewn (I (o + 20 + t)) i) (I (o + 10 + t)) z))), (5, .int ((adv (cf t) (cf t * rf t) (df t) z (I (o + 20 + t)) (I (o + 10 + t)) i).2)), (4, .int ((adv (cf t) (cf t * rf t) (df t) z (I (o + 20 + t)) (I (o + 10 + t)) i).1)), (3, .ref (sa S2 (o + 30))), (0, .ref (sa S2 o)), (1, .int (nI t)), (2, .int (nI z))]) hx hb dX4_advise_141 hl (k := 1) rfl (nI_1 _) (by decide) rfl (fun ls hl => ?_)
            refine lv_goto (tgt := 63) hx hb dX4_advise_144 (by decide) ?_
            have hl : lv_has ls 8 [(6, .int (nI (i + 1))), (5, .int (adv (cf t) (cf t * rf t) (df t) z (I (o + 20 + t)) (I (o + 10 + t)) (i + 1)).2), (4, .int (adv (cf t) (cf t * rf t) (df t) z (I (o + 20 + t)) (I (o + 10 + t)) (i + 1)).1), (3, .ref (sa S2 (o + 30))), (0, .ref (sa S2 o)), (1, .int (nI t)), (2, .int (nI z))] := by rw [eB]; exact lv_sub hl [0, 2, 3, 4, 5, 6, 7] rfl
            exact ih_63 (i + 1) (by omega) (by omega) _ _ hM ls (lv_sub hl [0, 1, 2, 3, 4, 5, 6] rfl)
        · skip
          have hob := c_9
          have eB : (adv (cf t) (cf t * rf t) (df t) z (I (o + 20 + t)) (I (o + 10 + t)) (i + 1)) = (adv (cf t) (cf t * rf t) (df t) z (I (o + 20 + t)) (I (o + 10 + t)) i) := if_neg (by rw [ob_0 hob]; decide)
          refine lv_goto (tgt := 141) hx hb dX4_advise_91 (by decide) ?_
          refine lv_iinc (v := nI (i + 1)) (lv' := [(6, .int (nI (i + 1))), (5, .int ((adv (cf t) (cf t * rf t) (df t) z (I (o + 20 + t)) (I (o + 10 + t)) i).2)), (4, .int ((adv (cf t) (cf t * rf t) (df t) z (I (o + 20 + t)) (I (o + 10 + t)) i).1)), (3, .ref (sa S2 (o + 30))), (0, .ref (sa S2 o)), (1, .int (nI t)), (2, .int (nI z))]) hx hb dX4_advise_141 hl (k := 0) rfl (nI_1 _) (by decide) rfl (fun ls hl => ?_)
          refine lv_goto (tgt := 63) hx hb dX4_advise_144 (by decide) ?_
          have hl : lv_has ls 8 [(6, .int (nI (i + 1))), (5, .int (adv (cf t) (cf t * rf t) (df t) z (I (o + 20 + t)) (I (o + 10 + t)) (i + 1)).2), (4, .int (adv (cf t) (cf t * rf t) (df t) z (I (o + 20 + t)) (I (o + 10 + t)) (i + 1)).1), (3, .ref (sa S2 (o + 30))), (0, .ref (sa S2 o)), (1, .int (nI t)), (2, .int (nI z))] := by rw [eB]; exact lv_sub hl [0, 1, 2, 3, 4, 5, 6] rfl
          exact ih_63 (i + 1) (by omega) (by omega) _ _ hM ls (lv_sub hl [0, 1, 2, 3, 4, 5, 6] rfl)
  exact LP_63 _ 0 (by omega) (Nat.lt_succ_self _) _ _ hM ls (lv_sub hl [0, 1, 2, 3, 4, 5, 6] rfl)
