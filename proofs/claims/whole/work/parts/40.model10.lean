abbrev rm_X4_lasts : Room := { frames := 6, cells := 1, slots := 216, locals := 140 }
set_option maxHeartbeats 4000000 in
set_option maxRecDepth 100000 in
theorem c_X4_lasts_f0o (D : va_G) (y : Nat → ClassId) (l : Launch) (S : fb_Sh) (V I : fb_V) (o nt : Nat) (cf rf : Nat → Nat) (hA : MdAt S o nt cf rf) (ns : Nat) (df : Nat → Nat) (hF : MF I o ns nt cf rf df) (p0 : Int32) (ho : p0 < 0 ∨ nI nt ≤ p0) (p1 : Int32) : CI D y l yX4_lasts wsX4_lasts rm_X4_lasts [.ref (sa S o), .int p0, .int p1] (S, V, (sT V), I) (fun z u => z = 0 ∧ u = (S, V, sT V, (tf I o 1))) 0 0 := by
  refine CI.of (cc := cX4_lasts) (maxL := 5) (ret := (some .int)) (by decide) rfl (Nat.le_of_ble_eq_true rfl) ?_
  intro pv ev s mv below meth cv A hx hb hml hr hown hts hlocks hname hM ls hl
  have hown : s.vm.findClass RX4 = some mv.cls := hown
  have hl : lv_has ls 5 [(0, .ref (sa S o)), (1, .int p0), (2, .int p1)] := hl
  have hin4 : ∀ x ∈ wsX40, x ∈ wsX4_lasts := by decide +kernel
  obtain ⟨Q, hQ⟩ : ∃ Q, Q = MQ below (va_Qi (fun z u => z = 0 ∧ u = (S, V, sT V, (tf I o 1))) (fun u t => fb_P D y A u t) A) (([.ref (sa S o), .int p0, .int p1] : List Value).toArray) s 0 0 A := ⟨_, rfl⟩
  rw [← hQ]
  have hns : ns ≤ 12 := hF.2.2.1
  have hnt : nt ≤ 6 := hF.2.2.2.1
  refine lv_aload_n hx hb dX4_lasts_0 rfl (lv_at hl 0 rfl) ?_
  refine lv_iconst (v := 0) hx hb dX4_lasts_1 (by decide) ?_
  refine fb_put (r := o) hx hb hown hts hin4 tyX4 tyX4_ok nmX4 hM ((hA.1).1) (ce4 ((hA.1).2)) rfl 0 (by decide) (hts (.fieldLink RX4 40 "FeatherBedsModel" "thrown" "I") (by decide +kernel)) (fun _ h9 => h9) rfl (ty := .int) (by decide +kernel) rfl rfl (Nat.le_of_ble_eq_true rfl) dX4_lasts_2 (up_I (j := 0) (v := 0) (by rw [ce4 ((hA.1).2)]; simp [va_up, upd])) (w' := (S, V, (sT V), (va_up I o (upd (I o) 0 0)))) ⟨rfl, rfl, rfl⟩ (fun H locs hM => ?_)
  have eI : (va_up I o (upd (I o) 0 0)) = (t0 I o) := rfl
  rw [eI] at hM
  clear eI
  refine lv_aload_n hx hb dX4_lasts_5 rfl (lv_at hl 0 rfl) ?_
  refine lv_iload_n hx hb dX4_lasts_6 rfl (lv_at hl 1 rfl) ?_
  refine fb_callVi (r := o) hx hb hml hown hts hM ((hA.1).1) (ce4 ((hA.1).2)) rfl (As := [.int p0]) (rest := []) (c_X4_isTick D y l S V (t0 I o) o nt cf rf hA ns df hF.t0 p0) (cwV 1 hts gX4_lasts_X4_isTick rfl rfl rfl (by decide +kernel) ⟨Nat.le_of_ble_eq_true rfl, Nat.le_of_ble_eq_true rfl⟩) rfl hl.1 rfl (Nat.le_of_ble_eq_true rfl) dX4_lasts_7 ⟨Nat.le_of_ble_eq_true rfl, Nat.le_of_ble_eq_true rfl⟩ (fun v_1 u H locs hp hM => ?_)
  obtain ⟨hv_, hu_⟩ := hp
  have hv_ := Eq.symm hv_
  have hu_ := Eq.symm hu_
  subst hv_
  subst hu_
  rw [show (isN p0 0 (nI nt - 1) : Int32) = 0 from isN_out (by omega) ho]
  refine lv_if_ne (tgt := 19) hx hb dX4_lasts_10 (by decide) (fun c_2 => absurd (by decide) c_2) (fun c_2 => ?_)
  refine lv_aload_n hx hb dX4_lasts_13 rfl (lv_at hl 0 rfl) ?_
  refine lv_iconst (v := 1) hx hb dX4_lasts_14 (by decide) ?_
  refine fb_callVi (r := o) hx hb hml hown hts hM ((hA.1).1) (ce4 ((hA.1).2)) rfl (As := [.int 1]) (rest := []) (c_X4_fail D y l S V (t0 I o) o nt cf rf hA 1) (cwV 1 hts gX4_lasts_X4_fail rfl rfl rfl (by decide +kernel) ⟨Nat.le_of_ble_eq_true rfl, Nat.le_of_ble_eq_true rfl⟩) rfl hl.1 rfl (Nat.le_of_ble_eq_true rfl) dX4_lasts_15 ⟨Nat.le_of_ble_eq_true rfl, Nat.le_of_ble_eq_true rfl⟩ (fun v_3 u H locs hp hM => ?_)
  obtain ⟨hv_, hu_⟩ := hp
  have hv_ := Eq.symm hv_
  have hu_ := Eq.symm hu_
  subst hv_
  subst hu_
  have eI : (tf (t0 I o) o 1) = (tf I o 1) := tf_t0 _ _ _
  rw [eI] at hM
  clear eI
  rw [hQ]
  exact fb_iret hx hb hr hlocks hM (⟨rfl, rfl⟩) dX4_lasts_18

set_option maxHeartbeats 4000000 in
set_option maxRecDepth 100000 in
theorem c_X4_lasts_f1o (D : va_G) (y : Nat → ClassId) (l : Launch) (S : fb_Sh) (V I : fb_V) (o nt : Nat) (cf rf : Nat → Nat) (hA : MdAt S o nt cf rf) (ns : Nat) (df : Nat → Nat) (hF : MF I o ns nt cf rf df) (t : Nat) (ht : t < nt) (p1 : Int32) (ho : p1 < 0 ∨ 900 < p1) : CI D y l yX4_lasts wsX4_lasts rm_X4_lasts [.ref (sa S o), .int (nI t), .int p1] (S, V, (sT V), I) (fun z u => z = 0 ∧ u = (S, V, sT V, (tf I o 2))) 0 0 := by
  refine CI.of (cc := cX4_lasts) (maxL := 5) (ret := (some .int)) (by decide) rfl (Nat.le_of_ble_eq_true rfl) ?_
  intro pv ev s mv below meth cv A hx hb hml hr hown hts hlocks hname hM ls hl
  have hown : s.vm.findClass RX4 = some mv.cls := hown
  have hl : lv_has ls 5 [(0, .ref (sa S o)), (1, .int (nI t)), (2, .int p1)] := hl
  have hin4 : ∀ x ∈ wsX40, x ∈ wsX4_lasts := by decide +kernel
  obtain ⟨Q, hQ⟩ : ∃ Q, Q = MQ below (va_Qi (fun z u => z = 0 ∧ u = (S, V, sT V, (tf I o 2))) (fun u t => fb_P D y A u t) A) (([.ref (sa S o), .int (nI t), .int p1] : List Value).toArray) s 0 0 A := ⟨_, rfl⟩
  rw [← hQ]
  have hns : ns ≤ 12 := hF.2.2.1
  have hnt : nt ≤ 6 := hF.2.2.2.1
  have hcr := hF.cr ht
  have htF := hF.2.2.2.2.1 t ht
  refine lv_aload_n hx hb dX4_lasts_0 rfl (lv_at hl 0 rfl) ?_
  refine lv_iconst (v := 0) hx hb dX4_lasts_1 (by decide) ?_
  refine fb_put (r := o) hx hb hown hts hin4 tyX4 tyX4_ok nmX4 hM ((hA.1).1) (ce4 ((hA.1).2)) rfl 0 (by decide) (hts (.fieldLink RX4 40 "FeatherBedsModel" "thrown" "I") (by decide +kernel)) (fun _ h9 => h9) rfl (ty := .int) (by decide +kernel) rfl rfl (Nat.le_of_ble_eq_true rfl) dX4_lasts_2 (up_I (j := 0) (v := 0) (by rw [ce4 ((hA.1).2)]; simp [va_up, upd])) (w' := (S, V, (sT V), (va_up I o (upd (I o) 0 0)))) ⟨rfl, rfl, rfl⟩ (fun H locs hM => ?_)
  have eI : (va_up I o (upd (I o) 0 0)) = (t0 I o) := rfl
  rw [eI] at hM
  clear eI
  refine lv_aload_n hx hb dX4_lasts_5 rfl (lv_at hl 0 rfl) ?_
  refine lv_iload_n hx hb dX4_lasts_6 rfl (lv_at hl 1 rfl) ?_
  refine fb_callVi (r := o) hx hb hml hown hts hM ((hA.1).1) (ce4 ((hA.1).2)) rfl (As := [.int (nI t)]) (rest := []) (c_X4_isTick D y l S V (t0 I o) o nt cf rf hA ns df hF.t0 (nI t)) (cwV 1 hts gX4_lasts_X4_isTick rfl rfl rfl (by decide +kernel) ⟨Nat.le_of_ble_eq_true rfl, Nat.le_of_ble_eq_true rfl⟩) rfl hl.1 rfl (Nat.le_of_ble_eq_true rfl) dX4_lasts_7 ⟨Nat.le_of_ble_eq_true rfl, Nat.le_of_ble_eq_true rfl⟩ (fun v_1 u H locs hp hM => ?_)
  obtain ⟨hv_, hu_⟩ := hp
  have hv_ := Eq.symm hv_
  have hu_ := Eq.symm hu_
  subst hv_
  subst hu_
  rw [show (isN (nI t) 0 (nI nt - 1) : Int32) = 1 from isN_in (by omega) ht]
  refine lv_if_ne (tgt := 19) hx hb dX4_lasts_10 (by decide) (fun c_2 => ?_) (fun c_2 => absurd c_2 (by decide))
  refine lv_iload_n hx hb dX4_lasts_19 rfl (lv_at hl 2 rfl) ?_
  refine lv_iconst (v := 0) hx hb dX4_lasts_20 (by decide) ?_
  refine lv_sipush (v := 900) hx hb dX4_lasts_21 (by decide) ?_
  refine fb_callSi hx hb hml hown hts hM (As := [.int p1, .int 0, .int 900]) (rest := []) (c_X4_isIn D y l S V (t0 I o) p1 0 900) (cwS 3 hts gX4_lasts_X4_isIn rfl rfl rfl (by decide +kernel) ⟨Nat.le_of_ble_eq_true rfl, Nat.le_of_ble_eq_true rfl⟩) rfl hl.1 rfl (Nat.le_of_ble_eq_true rfl) dX4_lasts_24 ⟨Nat.le_of_ble_eq_true rfl, Nat.le_of_ble_eq_true rfl⟩ (fun v_3 u H locs hp hM => ?_)
  obtain ⟨hv_, hu_⟩ := hp
  have hv_ := Eq.symm hv_
  have hu_ := Eq.symm hu_
  subst hv_
  subst hu_
  rw [show (isN p1 0 900 : Int32) = 0 from isN_0 ho]
  refine lv_if_ne (tgt := 36) hx hb dX4_lasts_27 (by decide) (fun c_4 => absurd (by decide) c_4) (fun c_4 => ?_)
  refine lv_aload_n hx hb dX4_lasts_30 rfl (lv_at hl 0 rfl) ?_
  refine lv_iconst (v := 2) hx hb dX4_lasts_31 (by decide) ?_
  refine fb_callVi (r := o) hx hb hml hown hts hM ((hA.1).1) (ce4 ((hA.1).2)) rfl (As := [.int 2]) (rest := []) (c_X4_fail D y l S V (t0 I o) o nt cf rf hA 2) (cwV 1 hts gX4_lasts_X4_fail rfl rfl rfl (by decide +kernel) ⟨Nat.le_of_ble_eq_true rfl, Nat.le_of_ble_eq_true rfl⟩) rfl hl.1 rfl (Nat.le_of_ble_eq_true rfl) dX4_lasts_32 ⟨Nat.le_of_ble_eq_true rfl, Nat.le_of_ble_eq_true rfl⟩ (fun v_5 u H locs hp hM => ?_)
  obtain ⟨hv_, hu_⟩ := hp
  have hv_ := Eq.symm hv_
  have hu_ := Eq.symm hu_
  subst hv_
  subst hu_
  have eI : (tf (t0 I o) o 2) = (tf I o 2) := tf_t0 _ _ _
  rw [eI] at hM
  clear eI
  rw [hQ]
  exact fb_iret hx hb hr hlocks hM (⟨rfl, rfl⟩) dX4_lasts_35

set_option maxHeartbeats 4000000 in
set_option maxRecDepth 100000 in
theorem c_X4_lasts_ok (D : va_G) (y : Nat → ClassId) (l : Launch) (S : fb_Sh) (V I : fb_V) (o nt : Nat) (cf rf : Nat → Nat) (hA : MdAt S o nt cf rf) (ns : Nat) (df : Nat → Nat) (hF : MF I o ns nt cf rf df) (t : Nat) (ht : t < nt) (w : Nat) (hwa : 0 ≤ w) (hw : w ≤ 900)  (hnew : o + 30 ∉ sR S) : CI D y l yX4_lasts wsX4_lasts rm_X4_lasts [.ref (sa S o), .int (nI t), .int (nI w)] (S, V, (sT V), I) (fun v u => (∃ k, k ≤ 200 ∧ (∀ j, j < k → ¬ (wmk (cf t) (cf t * rf t) (df t) (I (o + 20 + t)) (I (o + 10 + t)) j) < nI w) ∧ (k < 200 → (wmk (cf t) (cf t * rf t) (df t) (I (o + 20 + t)) (I (o + 10 + t)) k) < nI w) ∧ v = (if (wmk (cf t) (cf t * rf t) (df t) (I (o + 20 + t)) (I (o + 10 + t)) k) < nI w then nI k else -1)) ∧ u = (S, V, sT V, t0 I o)) 1 216 := by
  refine CI.of (cc := cX4_lasts) (maxL := 5) (ret := (some .int)) (by decide) rfl (Nat.le_of_ble_eq_true rfl) ?_
  intro pv ev s mv below meth cv A hx hb hml hr hown hts hlocks hname hM ls hl
  have hown : s.vm.findClass RX4 = some mv.cls := hown
  have hl : lv_has ls 5 [(0, .ref (sa S o)), (1, .int (nI t)), (2, .int (nI w))] := hl
  have hin4 : ∀ x ∈ wsX40, x ∈ wsX4_lasts := by decide +kernel
  obtain ⟨Q, hQ⟩ : ∃ Q, Q = MQ below (va_Qi (fun v u => (∃ k, k ≤ 200 ∧ (∀ j, j < k → ¬ (wmk (cf t) (cf t * rf t) (df t) (I (o + 20 + t)) (I (o + 10 + t)) j) < nI w) ∧ (k < 200 → (wmk (cf t) (cf t * rf t) (df t) (I (o + 20 + t)) (I (o + 10 + t)) k) < nI w) ∧ v = (if (wmk (cf t) (cf t * rf t) (df t) (I (o + 20 + t)) (I (o + 10 + t)) k) < nI w then nI k else -1)) ∧ u = (S, V, sT V, t0 I o)) (fun u t => fb_P D y A u t) A) (([.ref (sa S o), .int (nI t), .int (nI w)] : List Value).toArray) s 1 216 A := ⟨_, rfl⟩
  rw [← hQ]
  have hns : ns ≤ 12 := hF.2.2.1
  have hnt : nt ≤ 6 := hF.2.2.2.1
  have hcr := hF.cr ht
  have htF := hF.2.2.2.2.1 t ht
  have hc1 := (hF.2.2.2.2.1 t ht).2.2.2.1
  refine lv_aload_n hx hb dX4_lasts_0 rfl (lv_at hl 0 rfl) ?_
  refine lv_iconst (v := 0) hx hb dX4_lasts_1 (by decide) ?_
  refine fb_put (r := o) hx hb hown hts hin4 tyX4 tyX4_ok nmX4 hM ((hA.1).1) (ce4 ((hA.1).2)) rfl 0 (by decide) (hts (.fieldLink RX4 40 "FeatherBedsModel" "thrown" "I") (by decide +kernel)) (fun _ h9 => h9) rfl (ty := .int) (by decide +kernel) rfl rfl (Nat.le_of_ble_eq_true rfl) dX4_lasts_2 (up_I (j := 0) (v := 0) (by rw [ce4 ((hA.1).2)]; simp [va_up, upd])) (w' := (S, V, (sT V), (va_up I o (upd (I o) 0 0)))) ⟨rfl, rfl, rfl⟩ (fun H locs hM => ?_)
  have eI : (va_up I o (upd (I o) 0 0)) = (t0 I o) := rfl
  rw [eI] at hM
  clear eI
  refine lv_aload_n hx hb dX4_lasts_5 rfl (lv_at hl 0 rfl) ?_
  refine lv_iload_n hx hb dX4_lasts_6 rfl (lv_at hl 1 rfl) ?_
  refine fb_callVi (r := o) hx hb hml hown hts hM ((hA.1).1) (ce4 ((hA.1).2)) rfl (As := [.int (nI t)]) (rest := []) (c_X4_isTick D y l S V (t0 I o) o nt cf rf hA ns df hF.t0 (nI t)) (cwV 1 hts gX4_lasts_X4_isTick rfl rfl rfl (by decide +kernel) ⟨Nat.le_of_ble_eq_true rfl, Nat.le_of_ble_eq_true rfl⟩) rfl hl.1 rfl (Nat.le_of_ble_eq_true rfl) dX4_lasts_7 ⟨Nat.le_of_ble_eq_true rfl, Nat.le_of_ble_eq_true rfl⟩ (fun v_1 u H locs hp hM => ?_)
  obtain ⟨hv_, hu_⟩ := hp
  have hv_ := Eq.symm hv_
  have hu_ := Eq.symm hu_
  subst hv_
  subst hu_
  rw [show (isN (nI t) 0 (nI nt - 1) : Int32) = 1 from isN_in (by omega) ht]
  refine lv_if_ne (tgt := 19) hx hb dX4_lasts_10 (by decide) (fun c_2 => ?_) (fun c_2 => absurd c_2 (by decide))
  refine lv_iload_n hx hb dX4_lasts_19 rfl (lv_at hl 2 rfl) ?_
  refine lv_iconst (v := 0) hx hb dX4_lasts_20 (by decide) ?_
  refine lv_sipush (v := 900) hx hb dX4_lasts_21 (by decide) ?_
  refine fb_callSi hx hb hml hown hts hM (As := [.int (nI w), .int 0, .int 900]) (rest := []) (c_X4_isIn D y l S V (t0 I o) (nI w) 0 900) (cwS 3 hts gX4_lasts_X4_isIn rfl rfl rfl (by decide +kernel) ⟨Nat.le_of_ble_eq_true rfl, Nat.le_of_ble_eq_true rfl⟩) rfl hl.1 rfl (Nat.le_of_ble_eq_true rfl) dX4_lasts_24 ⟨Nat.le_of_ble_eq_true rfl, Nat.le_of_ble_eq_true rfl⟩ (fun v_3 u H locs hp hM => ?_)
  obtain ⟨hv_, hu_⟩ := hp
  have hv_ := Eq.symm hv_
  have hu_ := Eq.symm hu_
  subst hv_
  subst hu_
  rw [show (isN (nI w) 0 900 : Int32) = 1 from isN_k (lo := 0) (hi := 900) (by decide) hwa hw]
  refine lv_if_ne (tgt := 36) hx hb dX4_lasts_27 (by decide) (fun c_4 => ?_) (fun c_4 => absurd c_4 (by decide))
  refine lv_aload_n hx hb dX4_lasts_36 rfl (lv_at hl 0 rfl) ?_
  refine fb_get (r := o) hx hb hown hts hin4 hM ((hA.1).1) (ce4 ((hA.1).2)) rfl 8 (by decide) (hts (.fieldLink RX4 27 "FeatherBedsModel" "squares" "[[I") (by decide +kernel)) (fun _ h9 => h9) (v := .ref (sa S (o + 5))) (congrArg (fun z => some (va_rf z)) ((hA.2.1).2.2.2.2.1)) dX4_lasts_37 ?_
  refine lv_iload_n hx hb dX4_lasts_40 rfl (lv_at hl 1 rfl) ?_
  refine fb_aaldA (r := (o + 5)) hx hb hM ((hA.2.2.2.2.2.2.1).1) (ce10 ((hA.2.2.2.2.2.2.1).2.1)) 4 rfl (k := t) (nI_clamp (by omega)) (b := sa S (o + 10 + t)) (((hA.2.2.2.2.2.2.2.2.2) t (by omega)).1.1) (by rw [(hA.2.2.2.2.2.2.1).2.2]; exact vp_in_nI (by omega) (by omega)) dX4_lasts_41 ?_
  refine fb_clone hx hb (hml.trans hl.1.symm) hown (hts (.methodLink RX4 156 ⟨"[I", "clone", "()Ljava/lang/Object;"⟩) (by decide +kernel)) (hts (.sameMethod "[I" "java/lang/Object" "clone" "()Ljava/lang/Object;") (by decide +kernel)) (hts (.native ⟨"java/lang/Object", "clone", "()Ljava/lang/Object;"⟩) (by decide +kernel)) (hts (.instanceMethod ⟨"java/lang/Object", "clone", "()Ljava/lang/Object;"⟩) (by decide +kernel)) (hts (.selects "[I" ⟨"[I", "clone", "()Ljava/lang/Object;"⟩ ⟨"java/lang/Object", "clone", "()Ljava/lang/Object;"⟩) (by decide +kernel)) hM (r := (o + 10 + t)) (((hA.2.2.2.2.2.2.2.2.2) t (by omega)).1.2.1) (((hA.2.2.2.2.2.2.2.2.2) t (by omega)).1.2.2.1) (n := (6 * (cf t * rf t))) (((hA.2.2.2.2.2.2.2.2.2) t (by omega)).1.2.2.2) (o + 30) hnew (Nat.le_of_ble_eq_true rfl) (Nat.le_of_ble_eq_true rfl) (Nat.le_of_ble_eq_true rfl) (by show 0 + _ ≤ 216; omega) dX4_lasts_42 (fun q9 H hM => ?_)
  have hA2 := hA.new hnt q9 6 (6 * (cf t * rf t))
  have k1 : o + 30 ∈ sR (fb_new S (o + 30) q9 6 (6 * (cf t * rf t))) := List.mem_append_right _ (List.mem_singleton.mpr rfl)
  have k2 : sk (fb_new S (o + 30) q9 6 (6 * (cf t * rf t))) (o + 30) = 6 := va_up_self _ _ _
  have k3 : sn (fb_new S (o + 30) q9 6 (6 * (cf t * rf t))) (o + 30) = (6 * (cf t * rf t)) := va_up_self _ _ _
  have k4 : sa (fb_new S (o + 30) q9 6 (6 * (cf t * rf t))) (o + 30) = q9 := va_up_self _ _ _
  have k5 : sa (fb_new S (o + 30) q9 6 (6 * (cf t * rf t))) o = sa S o := va_up_ne _ _ (by omega)
  obtain ⟨S2, eS⟩ : ∃ S2, S2 = (fb_new S (o + 30) q9 6 (6 * (cf t * rf t))) := ⟨_, rfl⟩
  rw [← eS] at hM hA2 k1 k2 k3 k4 k5
  obtain ⟨B0, eB⟩ : ∃ B0, B0 = (va_up (t0 I o) (o + 30) ((t0 I o) (o + 10 + t))) := ⟨_, rfl⟩
  have hF2 : MF B0 o ns nt cf rf df := by rw [eB]; exact hF.t0.up _ (by omega) (by omega) (by omega)
  have hB1 : B0 (o + 10 + t) = I (o + 10 + t) := by rw [eB, va_up_ne _ _ (show o + 10 + t ≠ o + 30 by omega)]; exact t0_ne I (show o + 10 + t ≠ o by omega)
  have hB2 : B0 (o + 20 + t) = I (o + 20 + t) := by rw [eB, va_up_ne _ _ (show o + 20 + t ≠ o + 30 by omega)]; exact t0_ne I (show o + 20 + t ≠ o by omega)
  have hsame : B0 (o + 30) = B0 (o + 10 + t) := by rw [eB, va_up_self, va_up_ne _ _ (show o + 10 + t ≠ o + 30 by omega)]
  rw [← eB] at hM
  rw [← k5] at hl
  rw [← k4]
  refine W.widen (show 0 + 1 ≤ 1 from Nat.le_refl _) (show 0 + (6 * (cf t * rf t)) ≤ 216 by omega) ?_
  refine fb_castA hx hb hown (hts (.classLink RX4 26 "[I") (by decide +kernel)) hM (r := o + 30) k1 k2 dX4_lasts_45 ?_
  refine lv_astore_n (lv' := [(3, .ref (sa S2 (o + 30))), (0, .ref (sa S2 o)), (1, .int (nI t)), (2, .int (nI w))]) hx hb dX4_lasts_48 rfl hl (by decide) rfl (fun ls hl => ?_)
  refine lv_iconst (v := 0) hx hb dX4_lasts_49 (by decide) ?_
  refine lv_istore (lv' := [(4, .int 0), (3, .ref (sa S2 (o + 30))), (0, .ref (sa S2 o)), (1, .int (nI t)), (2, .int (nI w))]) hx hb dX4_lasts_50 hl (by decide) rfl (fun ls hl => ?_)
  have LP_52 : ∀ (n : Nat) (k9 : Nat) (hk9 : k9 ≤ 200) (hW : ∀ j, j < k9 → ¬ (wmk (cf t) (cf t * rf t) (df t) (I (o + 20 + t)) (I (o + 10 + t)) j) < nI w), 200 - k9 < n → ∀ (H : Heap) (locs : List Loc), fb_M D y A s (S2, V, (sT V), (va_up B0 (o + 10 + t) (ngf (cf t) (cf t * rf t) (df t) (B0 (o + 20 + t)) (B0 (o + 10 + t)) k9))) H locs → ∀ ls, lv_has ls 5 [(4, .int (nI k9)), (3, .ref (sa S2 (o + 30))), (0, .ref (sa S2 o)), (1, .int (nI t)), (2, .int (nI w))] → W pv l ev rm_X4_lasts s mv ([.ref (sa S o), .int (nI t), .int (nI w)] : List Value).toArray below meth cv H locs 1 216 Q (F0 mv 52 ls []) := by
    intro n_52
    induction n_52 with
    | zero => intro k9 hk9 hW hmu; exact absurd hmu (Nat.not_lt_zero _)
    | succ n_52 ih_52 =>
      intro k9 hk9 hW hmu H locs hM ls hl
      refine lv_iload hx hb dX4_lasts_52 (lv_at hl 0 rfl) ?_
      refine lv_sipush (v := 200) hx hb dX4_lasts_54 (by decide) ?_
      refine lv_icmp_ge (tgt := 82) hx hb dX4_lasts_57 (by decide) (fun c_5 => ?_) (fun c_5 => ?_)
      · skip
        have e_k9 : k9 = 200 := by have := (nI_leI (a := 200) (b := k9) (by omega) (by omega)).mp c_5; omega
        have e_k9 := Eq.symm e_k9
        subst e_k9
        refine lv_aload_n hx hb dX4_lasts_82 rfl (lv_at hl 2 rfl) ?_
        refine lv_iload_n hx hb dX4_lasts_83 rfl (lv_at hl 3 rfl) ?_
        refine lv_iconst (v := 5) hx hb dX4_lasts_84 (by decide) ?_
        refine fb_callVi (r := o) hx hb hml hown hts hM ((hA2.1).1) (ce4 ((hA2.1).2)) rfl (As := [.int (nI t), .int 5]) (rest := []) (c_X4_tickTold_5 D y l S2 V (va_up B0 (o + 10 + t) (ngf (cf t) (cf t * rf t) (df t) (B0 (o + 20 + t)) (B0 (o + 10 + t)) 200)) o nt cf rf hA2 ns df (hF2.up _ (by omega) (by omega) (by omega)) t ht) (cwV 2 hts gX4_lasts_X4_tickTold rfl rfl rfl (by decide +kernel) ⟨Nat.le_of_ble_eq_true rfl, Nat.le_of_ble_eq_true rfl⟩) rfl hl.1 rfl (Nat.le_of_ble_eq_true rfl) dX4_lasts_85 ⟨Nat.le_of_ble_eq_true rfl, Nat.le_of_ble_eq_true rfl⟩ (fun v_6 u H locs hp hM => ?_)
        obtain ⟨hv_, hu_⟩ := hp
        have hv_ := Eq.symm hv_
        have hu_ := Eq.symm hu_
        subst hv_
        subst hu_
        rw [show (wm (mx ((va_up B0 (o + 10 + t) (ngf (cf t) (cf t * rf t) (df t) (B0 (o + 20 + t)) (B0 (o + 10 + t)) 200)) (o + 10 + t)) (cld (mx ((va_up B0 (o + 10 + t) (ngf (cf t) (cf t * rf t) (df t) (B0 (o + 20 + t)) (B0 (o + 10 + t)) 200)) (o + 10 + t))) (cf t * rf t))) : Int32) = (wmk (cf t) (cf t * rf t) (df t) (I (o + 20 + t)) (I (o + 10 + t)) 200) from by rw [va_up_self, hB1, hB2]; rfl]
        refine lv_iload_n hx hb dX4_lasts_88 rfl (lv_at hl 4 rfl) ?_
        refine lv_icmp_lt (tgt := 95) hx hb dX4_lasts_89 (by decide) (fun c_7 => ?_) (fun c_7 => ?_)
        · skip
          have c_end := c_7
          refine lv_aload_n hx hb dX4_lasts_95 rfl (lv_at hl 2 rfl) ?_
          refine lv_iload_n hx hb dX4_lasts_96 rfl (lv_at hl 3 rfl) ?_
          refine lv_aload_n hx hb dX4_lasts_97 rfl (lv_at hl 1 rfl) ?_
          refine fb_callVv (r := o) hx hb hml hown hts hM ((hA2.1).1) (ce4 ((hA2.1).2)) rfl (As := [.int (nI t), .ref (sa S2 (o + 30))]) (rest := []) (c_X4_bringBack D y l S2 V (va_up B0 (o + 10 + t) (ngf (cf t) (cf t * rf t) (df t) (B0 (o + 20 + t)) (B0 (o + 10 + t)) 200)) o nt cf rf hA2 ns df (hF2.up _ (by omega) (by omega) (by omega)) t ht (o + 30) k1 k2 k3 (by omega)) (cwV 2 hts gX4_lasts_X4_bringBack rfl rfl rfl (by decide +kernel) ⟨Nat.le_of_ble_eq_true rfl, Nat.le_of_ble_eq_true rfl⟩) rfl hl.1 rfl (Nat.le_of_ble_eq_true rfl) dX4_lasts_98 ⟨Nat.le_of_ble_eq_true rfl, Nat.le_of_ble_eq_true rfl⟩ (fun u H locs hp hM => ?_)
          have hp := Eq.symm hp
          subst hp
          have eI : (va_up (va_up B0 (o + 10 + t) (ngf (cf t) (cf t * rf t) (df t) (B0 (o + 20 + t)) (B0 (o + 10 + t)) 200)) (o + 10 + t) (va_cpy ((va_up B0 (o + 10 + t) (ngf (cf t) (cf t * rf t) (df t) (B0 (o + 20 + t)) (B0 (o + 10 + t)) 200)) (o + 30)) ((va_up B0 (o + 10 + t) (ngf (cf t) (cf t * rf t) (df t) (B0 (o + 20 + t)) (B0 (o + 10 + t)) 200)) (o + 10 + t)) 0 0 (6 * (cf t * rf t)))) = B0 := by rw [va_up_self, va_up_ne _ _ (show (o + 30) ≠ o + 10 + t by omega), up_up, hsame, cpy_ngf rfl hc1, up_id _ _ _ rfl]
          rw [eI] at hM
          clear eI
          refine lv_iload hx hb dX4_lasts_101 (lv_at hl 0 rfl) ?_
          rw [eS] at hM; have hM := fb_drop (I := t0 I o) hnew (fun x h => by rw [eB]; exact va_up_ne _ _ h) hM
          rw [hQ]
          refine W.widen (show _ ≤ 1 from Nat.le_of_ble_eq_true rfl) (show _ ≤ 216 from Nat.le_of_ble_eq_true rfl) ?_
          exact fb_iret hx hb hr hlocks hM (⟨⟨200, by omega, hW, (by first | exact fun _ => c_brk | exact fun h => absurd h (by omega)), by first | exact (if_pos c_end).symm | exact (if_neg c_end).symm⟩, rfl⟩) dX4_lasts_103
        · skip
          have c_end := c_7
          refine lv_iconst (v := (-1)) hx hb dX4_lasts_92 (by decide) ?_
          refine lv_istore (lv' := [(4, .int (-1)), (3, .ref (sa S2 (o + 30))), (0, .ref (sa S2 o)), (1, .int (nI t)), (2, .int (nI w))]) hx hb dX4_lasts_93 hl (by decide) rfl (fun ls hl => ?_)
          refine lv_aload_n hx hb dX4_lasts_95 rfl (lv_at hl 2 rfl) ?_
          refine lv_iload_n hx hb dX4_lasts_96 rfl (lv_at hl 3 rfl) ?_
          refine lv_aload_n hx hb dX4_lasts_97 rfl (lv_at hl 1 rfl) ?_
          refine fb_callVv (r := o) hx hb hml hown hts hM ((hA2.1).1) (ce4 ((hA2.1).2)) rfl (As := [.int (nI t), .ref (sa S2 (o + 30))]) (rest := []) (c_X4_bringBack D y l S2 V (va_up B0 (o + 10 + t) (ngf (cf t) (cf t * rf t) (df t) (B0 (o + 20 + t)) (B0 (o + 10 + t)) 200)) o nt cf rf hA2 ns df (hF2.up _ (by omega) (by omega) (by omega)) t ht (o + 30) k1 k2 k3 (by omega)) (cwV 2 hts gX4_lasts_X4_bringBack rfl rfl rfl (by decide +kernel) ⟨Nat.le_of_ble_eq_true rfl, Nat.le_of_ble_eq_true rfl⟩) rfl hl.1 rfl (Nat.le_of_ble_eq_true rfl) dX4_lasts_98 ⟨Nat.le_of_ble_eq_true rfl, Nat.le_of_ble_eq_true rfl⟩ (fun u H locs hp hM => ?_)
          have hp := Eq.symm hp
          subst hp
          have eI : (va_up (va_up B0 (o + 10 + t) (ngf (cf t) (cf t * rf t) (df t) (B0 (o + 20 + t)) (B0 (o + 10 + t)) 200)) (o + 10 + t) (va_cpy ((va_up B0 (o + 10 + t) (ngf (cf t) (cf t * rf t) (df t) (B0 (o + 20 + t)) (B0 (o + 10 + t)) 200)) (o + 30)) ((va_up B0 (o + 10 + t) (ngf (cf t) (cf t * rf t) (df t) (B0 (o + 20 + t)) (B0 (o + 10 + t)) 200)) (o + 10 + t)) 0 0 (6 * (cf t * rf t)))) = B0 := by rw [va_up_self, va_up_ne _ _ (show (o + 30) ≠ o + 10 + t by omega), up_up, hsame, cpy_ngf rfl hc1, up_id _ _ _ rfl]
          rw [eI] at hM
          clear eI
          refine lv_iload hx hb dX4_lasts_101 (lv_at hl 0 rfl) ?_
          rw [eS] at hM; have hM := fb_drop (I := t0 I o) hnew (fun x h => by rw [eB]; exact va_up_ne _ _ h) hM
          rw [hQ]
          refine W.widen (show _ ≤ 1 from Nat.le_of_ble_eq_true rfl) (show _ ≤ 216 from Nat.le_of_ble_eq_true rfl) ?_
          exact fb_iret hx hb hr hlocks hM (⟨⟨200, by omega, hW, (by first | exact fun _ => c_brk | exact fun h => absurd h (by omega)), by first | exact (if_pos c_end).symm | exact (if_neg c_end).symm⟩, rfl⟩) dX4_lasts_103
      · skip
        have hkk : k9 < 200 := Nat.lt_of_not_le (fun h => c_5 (nI_le (a := 200) h (by omega)))
        refine lv_aload_n hx hb dX4_lasts_60 rfl (lv_at hl 2 rfl) ?_
        refine lv_iload_n hx hb dX4_lasts_61 rfl (lv_at hl 3 rfl) ?_
        refine lv_iconst (v := 5) hx hb dX4_lasts_62 (by decide) ?_
        refine fb_callVi (r := o) hx hb hml hown hts hM ((hA2.1).1) (ce4 ((hA2.1).2)) rfl (As := [.int (nI t), .int 5]) (rest := []) (c_X4_tickTold_5 D y l S2 V (va_up B0 (o + 10 + t) (ngf (cf t) (cf t * rf t) (df t) (B0 (o + 20 + t)) (B0 (o + 10 + t)) k9)) o nt cf rf hA2 ns df (hF2.up _ (by omega) (by omega) (by omega)) t ht) (cwV 2 hts gX4_lasts_X4_tickTold rfl rfl rfl (by decide +kernel) ⟨Nat.le_of_ble_eq_true rfl, Nat.le_of_ble_eq_true rfl⟩) rfl hl.1 rfl (Nat.le_of_ble_eq_true rfl) dX4_lasts_63 ⟨Nat.le_of_ble_eq_true rfl, Nat.le_of_ble_eq_true rfl⟩ (fun v_10 u H locs hp hM => ?_)
        obtain ⟨hv_, hu_⟩ := hp
        have hv_ := Eq.symm hv_
        have hu_ := Eq.symm hu_
        subst hv_
        subst hu_
        rw [show (wm (mx ((va_up B0 (o + 10 + t) (ngf (cf t) (cf t * rf t) (df t) (B0 (o + 20 + t)) (B0 (o + 10 + t)) k9)) (o + 10 + t)) (cld (mx ((va_up B0 (o + 10 + t) (ngf (cf t) (cf t * rf t) (df t) (B0 (o + 20 + t)) (B0 (o + 10 + t)) k9)) (o + 10 + t))) (cf t * rf t))) : Int32) = (wmk (cf t) (cf t * rf t) (df t) (I (o + 20 + t)) (I (o + 10 + t)) k9) from by rw [va_up_self, hB1, hB2]; rfl]
        refine lv_iload_n hx hb dX4_lasts_66 rfl (lv_at hl 4 rfl) ?_
        refine lv_icmp_lt (tgt := 82) hx hb dX4_lasts_67 (by decide) (fun c_11 => ?_) (fun c_11 => ?_)
        · skip
          have c_brk := c_11
          refine lv_aload_n hx hb dX4_lasts_82 rfl (lv_at hl 2 rfl) ?_
          refine lv_iload_n hx hb dX4_lasts_83 rfl (lv_at hl 3 rfl) ?_
          refine lv_iconst (v := 5) hx hb dX4_lasts_84 (by decide) ?_
          refine fb_callVi (r := o) hx hb hml hown hts hM ((hA2.1).1) (ce4 ((hA2.1).2)) rfl (As := [.int (nI t), .int 5]) (rest := []) (c_X4_tickTold_5 D y l S2 V (va_up B0 (o + 10 + t) (ngf (cf t) (cf t * rf t) (df t) (B0 (o + 20 + t)) (B0 (o + 10 + t)) k9)) o nt cf rf hA2 ns df (hF2.up _ (by omega) (by omega) (by omega)) t ht) (cwV 2 hts gX4_lasts_X4_tickTold rfl rfl rfl (by decide +kernel) ⟨Nat.le_of_ble_eq_true rfl, Nat.le_of_ble_eq_true rfl⟩) rfl hl.1 rfl (Nat.le_of_ble_eq_true rfl) dX4_lasts_85 ⟨Nat.le_of_ble_eq_true rfl, Nat.le_of_ble_eq_true rfl⟩ (fun v_12 u H locs hp hM => ?_)
          obtain ⟨hv_, hu_⟩ := hp
          have hv_ := Eq.symm hv_
          have hu_ := Eq.symm hu_
          subst hv_
          subst hu_
          rw [show (wm (mx ((va_up B0 (o + 10 + t) (ngf (cf t) (cf t * rf t) (df t) (B0 (o + 20 + t)) (B0 (o + 10 + t)) k9)) (o + 10 + t)) (cld (mx ((va_up B0 (o + 10 + t) (ngf (cf t) (cf t * rf t) (df t) (B0 (o + 20 + t)) (B0 (o + 10 + t)) k9)) (o + 10 + t))) (cf t * rf t))) : Int32) = (wmk (cf t) (cf t * rf t) (df t) (I (o + 20 + t)) (I (o + 10 + t)) k9) from by rw [va_up_self, hB1, hB2]; rfl]
          refine lv_iload_n hx hb dX4_lasts_88 rfl (lv_at hl 4 rfl) ?_
          refine lv_icmp_lt (tgt := 95) hx hb dX4_lasts_89 (by decide) (fun c_13 => ?_) (fun c_13 => ?_)
          · skip
            have c_end := c_13
            refine lv_aload_n hx hb dX4_lasts_95 rfl (lv_at hl 2 rfl) ?_
            refine lv_iload_n hx hb dX4_lasts_96 rfl (lv_at hl 3 rfl) ?_
            refine lv_aload_n hx hb dX4_lasts_97 rfl (lv_at hl 1 rfl) ?_
            refine fb_callVv (r := o) hx hb hml hown hts hM ((hA2.1).1) (ce4 ((hA2.1).2)) rfl (As := [.int (nI t), .ref (sa S2 (o + 30))]) (rest := []) (c_X4_bringBack D y l S2 V (va_up B0 (o + 10 + t) (ngf (cf t) (cf t * rf t) (df t) (B0 (o + 20 + t)) (B0 (o + 10 + t)) k9)) o nt cf rf hA2 ns df (hF2.up _ (by omega) (by omega) (by omega)) t ht (o + 30) k1 k2 k3 (by omega)) (cwV 2 hts gX4_lasts_X4_bringBack rfl rfl rfl (by decide +kernel) ⟨Nat.le_of_ble_eq_true rfl, Nat.le_of_ble_eq_true rfl⟩) rfl hl.1 rfl (Nat.le_of_ble_eq_true rfl) dX4_lasts_98 ⟨Nat.le_of_ble_eq_true rfl, Nat.le_of_ble_eq_true rfl⟩ (fun u H locs hp hM => ?_)
            have hp := Eq.symm hp
            subst hp
            have eI : (va_up (va_up B0 (o + 10 + t) (ngf (cf t) (cf t * rf t) (df t) (B0 (o + 20 + t)) (B0 (o + 10 + t)) k9)) (o + 10 + t) (va_cpy ((va_up B0 (o + 10 + t) (ngf (cf t) (cf t * rf t) (df t) (B0 (o + 20 + t)) (B0 (o + 10 + t)) k9)) (o + 30)) ((va_up B0 (o + 10 + t) (ngf (cf t) (cf t * rf t) (df t) (B0 (o + 20 + t)) (B0 (o + 10 + t)) k9)) (o + 10 + t)) 0 0 (6 * (cf t * rf t)))) = B0 := by rw [va_up_self, va_up_ne _ _ (show (o + 30) ≠ o + 10 + t by omega), up_up, hsame, cpy_ngf rfl hc1, up_id _ _ _ rfl]
            rw [eI] at hM
            clear eI
            refine lv_iload hx hb dX4_lasts_101 (lv_at hl 0 rfl) ?_
            rw [eS] at hM; have hM := fb_drop (I := t0 I o) hnew (fun x h => by rw [eB]; exact va_up_ne _ _ h) hM
            rw [hQ]
            refine W.widen (show _ ≤ 1 from Nat.le_of_ble_eq_true rfl) (show _ ≤ 216 from Nat.le_of_ble_eq_true rfl) ?_
            exact fb_iret hx hb hr hlocks hM (⟨⟨k9, by omega, hW, (by first | exact fun _ => c_brk | exact fun h => absurd h (by omega)), by first | exact (if_pos c_end).symm | exact (if_neg c_end).symm⟩, rfl⟩) dX4_lasts_103
          · skip
            have c_end := c_13
            refine lv_iconst (v := (-1)) hx hb dX4_lasts_92 (by decide) ?_
            refine lv_istore (lv' := [(4, .int (-1)), (3, .ref (sa S2 (o + 30))), (0, .ref (sa S2 o)), (1, .int (nI t)), (2, .int (nI w))]) hx hb dX4_lasts_93 hl (by decide) rfl (fun ls hl => ?_)
            refine lv_aload_n hx hb dX4_lasts_95 rfl (lv_at hl 2 rfl) ?_
            refine lv_iload_n hx hb dX4_lasts_96 rfl (lv_at hl 3 rfl) ?_
            refine lv_aload_n hx hb dX4_lasts_97 rfl (lv_at hl 1 rfl) ?_
            refine fb_callVv (r := o) hx hb hml hown hts hM ((hA2.1).1) (ce4 ((hA2.1).2)) rfl (As := [.int (nI t), .ref (sa S2 (o + 30))]) (rest := []) (c_X4_bringBack D y l S2 V (va_up B0 (o + 10 + t) (ngf (cf t) (cf t * rf t) (df t) (B0 (o + 20 + t)) (B0 (o + 10 + t)) k9)) o nt cf rf hA2 ns df (hF2.up _ (by omega) (by omega) (by omega)) t ht (o + 30) k1 k2 k3 (by omega)) (cwV 2 hts gX4_lasts_X4_bringBack rfl rfl rfl (by decide +kernel) ⟨Nat.le_of_ble_eq_true rfl, Nat.le_of_ble_eq_true rfl⟩) rfl hl.1 rfl (Nat.le_of_ble_eq_true rfl) dX4_lasts_98 ⟨Nat.le_of_ble_eq_true rfl, Nat.le_of_ble_eq_true rfl⟩ (fun u H locs hp hM => ?_)
            have hp := Eq.symm hp
            subst hp
            have eI : (va_up (va_up B0 (o + 10 + t) (ngf (cf t) (cf t * rf t) (df t) (B0 (o + 20 + t)) (B0 (o + 10 + t)) k9)) (o + 10 + t) (va_cpy ((va_up B0 (o + 10 + t) (ngf (cf t) (cf t * rf t) (df t) (B0 (o + 20 + t)) (B0 (o + 10 + t)) k9)) (o + 30)) ((va_up B0 (o + 10 + t) (ngf (cf t) (cf t * rf t) (df t) (B0 (o + 20 + t)) (B0 (o + 10 + t)) k9)) (o + 10 + t)) 0 0 (6 * (cf t * rf t)))) = B0 := by rw [va_up_self, va_up_ne _ _ (show (o + 30) ≠ o + 10 + t by omega), up_up, hsame, cpy_ngf rfl hc1, up_id _ _ _ rfl]
            rw [eI] at hM
            clear eI
            refine lv_iload hx hb dX4_lasts_101 (lv_at hl 0 rfl) ?_
            rw [eS] at hM; have hM := fb_drop (I := t0 I o) hnew (fun x h => by rw [eB]; exact va_up_ne _ _ h) hM
            rw [hQ]
            refine W.widen (show _ ≤ 1 from Nat.le_of_ble_eq_true rfl) (show _ ≤ 216 from Nat.le_of_ble_eq_true rfl) ?_
            exact fb_iret hx hb hr hlocks hM (⟨⟨k9, by omega, hW, (by first | exact fun _ => c_brk | exact fun h => absurd h (by omega)), by first | exact (if_pos c_end).symm | exact (if_neg c_end).symm⟩, rfl⟩) dX4_lasts_103
        · skip
          have c_brk := c_11
          refine lv_aload_n hx hb dX4_lasts_70 rfl (lv_at hl 2 rfl) ?_
          refine lv_iload_n hx hb dX4_lasts_71 rfl (lv_at hl 3 rfl) ?_
          refine fb_callVi (r := o) hx hb hml hown hts hM ((hA2.1).1) (ce4 ((hA2.1).2)) rfl (As := [.int (nI t)]) (rest := []) (c_X4_nightOf D y l S2 V (va_up B0 (o + 10 + t) (ngf (cf t) (cf t * rf t) (df t) (B0 (o + 20 + t)) (B0 (o + 10 + t)) k9)) o nt cf rf hA2 ns df (hF2.up _ (by omega) (by omega) (by omega)) t ht) (cwV 1 hts gX4_lasts_X4_nightOf rfl rfl rfl (by decide +kernel) ⟨Nat.le_of_ble_eq_true rfl, Nat.le_of_ble_eq_true rfl⟩) rfl hl.1 rfl (Nat.le_of_ble_eq_true rfl) dX4_lasts_72 ⟨Nat.le_of_ble_eq_true rfl, Nat.le_of_ble_eq_true rfl⟩ (fun v_16 u H locs hp hM => ?_)
          obtain ⟨hv_, hu_⟩ := hp
          have hv_ := Eq.symm hv_
          have hu_ := Eq.symm hu_
          subst hv_
          subst hu_
          have eI : (va_up (va_up B0 (o + 10 + t) (ngf (cf t) (cf t * rf t) (df t) (B0 (o + 20 + t)) (B0 (o + 10 + t)) k9)) (o + 10 + t) (fsh (cf t) (cf t * rf t) ((va_up B0 (o + 10 + t) (ngf (cf t) (cf t * rf t) (df t) (B0 (o + 20 + t)) (B0 (o + 10 + t)) k9)) (o + 20 + t)) (fpk (nI (df t)) ((va_up B0 (o + 10 + t) (ngf (cf t) (cf t * rf t) (df t) (B0 (o + 20 + t)) (B0 (o + 10 + t)) k9)) (o + 10 + t)) (6 * (cf t * rf t))) (2 * (cf t * rf t)))) = (va_up B0 (o + 10 + t) (ngf (cf t) (cf t * rf t) (df t) (B0 (o + 20 + t)) (B0 (o + 10 + t)) (k9 + 1))) := by rw [va_up_self, va_up_ne _ _ (show o + 20 + t ≠ o + 10 + t by omega), up_up]; rfl
          rw [eI] at hM
          clear eI
          refine lv_pop hx hb dX4_lasts_75 rfl ?_
          refine lv_iinc (v := nI (k9 + 1)) (lv' := [(4, .int (nI (k9 + 1))), (3, .ref (sa S2 (o + 30))), (0, .ref (sa S2 o)), (1, .int (nI t)), (2, .int (nI w))]) hx hb dX4_lasts_76 hl (k := 0) rfl (nI_1 _) (by decide) rfl (fun ls hl => ?_)
          refine lv_goto (tgt := 52) hx hb dX4_lasts_79 (by decide) ?_
          exact ih_52 (k9 + 1) (by omega) (fun j hj => by rcases Nat.lt_or_ge j k9 with h | h; exact hW j h; rw [show j = k9 by omega]; exact c_brk) (by omega) _ _ hM ls (lv_sub hl [0, 1, 2, 3, 4] rfl)
  rw [show B0 = (va_up B0 (o + 10 + t) (ngf (cf t) (cf t * rf t) (df t) (B0 (o + 20 + t)) (B0 (o + 10 + t)) 0)) from (up_id _ _ _ rfl).symm] at hM
  exact LP_52 _ 0 (by omega) (fun j hj => absurd hj (Nat.not_lt_zero _)) (Nat.lt_succ_self _) _ _ hM ls (lv_sub hl [0, 1, 2, 3, 4] rfl)
