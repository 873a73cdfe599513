abbrev rm_X4_blow : Room := { frames := 2, cells := 0, slots := 0, locals := 46 }
set_option maxHeartbeats 4000000 in
set_option maxRecDepth 100000 in
theorem c_X4_blow_f0o (D : va_G) (y : Nat → ClassId) (l : Launch) (S : fb_Sh) (V I : fb_V) (o nt : Nat) (cf rf : Nat → Nat) (hA : MdAt S o nt cf rf) (ns : Nat) (df : Nat → Nat) (hF : MF I o ns nt cf rf df) (p0 : Int32) (ho : p0 < 0 ∨ nI ns ≤ p0) : CI D y l yX4_blow wsX4_blow rm_X4_blow [.ref (sa S o), .int p0] (S, V, (sT V), I) (fun z u => z = 0 ∧ u = (S, V, sT V, (tf I o 1))) 0 0 := by
  refine CI.of (cc := cX4_blow) (maxL := 7) (ret := (some .int)) (by decide) rfl (Nat.le_of_ble_eq_true rfl) ?_
  intro pv ev s mv below meth cv A hx hb hml hr hown hts hlocks hname hM ls hl
  have hown : s.vm.findClass RX4 = some mv.cls := hown
  have hl : lv_has ls 7 [(0, .ref (sa S o)), (1, .int p0)] := hl
  have hin4 : ∀ x ∈ wsX40, x ∈ wsX4_blow := by decide +kernel
  obtain ⟨Q, hQ⟩ : ∃ Q, Q = MQ below (va_Qi (fun z u => z = 0 ∧ u = (S, V, sT V, (tf I o 1))) (fun u t => fb_P D y A u t) A) (([.ref (sa S o), .int p0] : List Value).toArray) s 0 0 A := ⟨_, rfl⟩
  rw [← hQ]
  have hns : ns ≤ 12 := hF.2.2.1
  have hnt : nt ≤ 6 := hF.2.2.2.1
  refine lv_aload_n hx hb dX4_blow_0 rfl (lv_at hl 0 rfl) ?_
  refine lv_iconst (v := 0) hx hb dX4_blow_1 (by decide) ?_
  refine fb_put (r := o) hx hb hown hts hin4 tyX4 tyX4_ok nmX4 hM ((hA.1).1) (ce4 ((hA.1).2)) rfl 0 (by decide) (hts (.fieldLink RX4 40 "FeatherBedsModel" "thrown" "I") (by decide +kernel)) (fun _ h9 => h9) rfl (ty := .int) (by decide +kernel) rfl rfl (Nat.le_of_ble_eq_true rfl) dX4_blow_2 (up_I (j := 0) (v := 0) (by rw [ce4 ((hA.1).2)]; simp [va_up, upd])) (w' := (S, V, (sT V), (va_up I o (upd (I o) 0 0)))) ⟨rfl, rfl, rfl⟩ (fun H locs hM => ?_)
  have eI : (va_up I o (upd (I o) 0 0)) = (t0 I o) := rfl
  rw [eI] at hM
  clear eI
  refine lv_aload_n hx hb dX4_blow_5 rfl (lv_at hl 0 rfl) ?_
  refine lv_iload_n hx hb dX4_blow_6 rfl (lv_at hl 1 rfl) ?_
  refine fb_callVi (r := o) hx hb hml hown hts hM ((hA.1).1) (ce4 ((hA.1).2)) rfl (As := [.int p0]) (rest := []) (c_X4_isSack D y l S V (t0 I o) o nt cf rf hA ns df hF.t0 p0) (cwV 1 hts gX4_blow_X4_isSack rfl rfl rfl (by decide +kernel) ⟨Nat.le_of_ble_eq_true rfl, Nat.le_of_ble_eq_true rfl⟩) rfl hl.1 rfl (Nat.le_of_ble_eq_true rfl) dX4_blow_7 ⟨Nat.le_of_ble_eq_true rfl, Nat.le_of_ble_eq_true rfl⟩ (fun v_1 u H locs hp hM => ?_)
  obtain ⟨hv_, hu_⟩ := hp
  have hv_ := Eq.symm hv_
  have hu_ := Eq.symm hu_
  subst hv_
  subst hu_
  rw [show (isN p0 0 (nI ns - 1) : Int32) = 0 from isN_out (by omega) ho]
  refine lv_if_ne (tgt := 19) hx hb dX4_blow_10 (by decide) (fun c_2 => absurd (by decide) c_2) (fun c_2 => ?_)
  refine lv_aload_n hx hb dX4_blow_13 rfl (lv_at hl 0 rfl) ?_
  refine lv_iconst (v := 1) hx hb dX4_blow_14 (by decide) ?_
  refine fb_callVi (r := o) hx hb hml hown hts hM ((hA.1).1) (ce4 ((hA.1).2)) rfl (As := [.int 1]) (rest := []) (c_X4_fail D y l S V (t0 I o) o nt cf rf hA 1) (cwV 1 hts gX4_blow_X4_fail rfl rfl rfl (by decide +kernel) ⟨Nat.le_of_ble_eq_true rfl, Nat.le_of_ble_eq_true rfl⟩) rfl hl.1 rfl (Nat.le_of_ble_eq_true rfl) dX4_blow_15 ⟨Nat.le_of_ble_eq_true rfl, Nat.le_of_ble_eq_true rfl⟩ (fun v_3 u H locs hp hM => ?_)
  obtain ⟨hv_, hu_⟩ := hp
  have hv_ := Eq.symm hv_
  have hu_ := Eq.symm hu_
  subst hv_
  subst hu_
  have eI : (tf (t0 I o) o 1) = (tf I o 1) := tf_t0 _ _ _
  rw [eI] at hM
  clear eI
  rw [hQ]
  exact fb_iret hx hb hr hlocks hM (⟨rfl, rfl⟩) dX4_blow_18

set_option maxHeartbeats 4000000 in
set_option maxRecDepth 100000 in
theorem c_X4_blow_ok (D : va_G) (y : Nat → ClassId) (l : Launch) (S : fb_Sh) (V I : fb_V) (o nt : Nat) (cf rf : Nat → Nat) (hA : MdAt S o nt cf rf) (ns : Nat) (df : Nat → Nat) (hF : MF I o ns nt cf rf df) (i : Nat) (hi : i < ns)  : CI D y l yX4_blow wsX4_blow rm_X4_blow [.ref (sa S o), .int (nI i)] (S, V, (sT V), I) (fun z u => z = bls (blx I o i) (blt I o i) 6 ∧ u = (S, V, sT V, (va_up (va_up (va_up (t0 I o) (o + 1) (blH (blx I o i) (blt I o i) (I (o + 1)) i 6)) (o + 3) (blC (blx I o i) (blt I o i) (I (o + 3)) 6 0)) o (upd (t0 I o o) 11 (bly (blx I o i) (blt I o i) (I o 11) 6))))) 0 0 := by
  refine CI.of (cc := cX4_blow) (maxL := 7) (ret := (some .int)) (by decide) rfl (Nat.le_of_ble_eq_true rfl) ?_
  intro pv ev s mv below meth cv A hx hb hml hr hown hts hlocks hname hM ls hl
  have hown : s.vm.findClass RX4 = some mv.cls := hown
  have hl : lv_has ls 7 [(0, .ref (sa S o)), (1, .int (nI i))] := hl
  have hin4 : ∀ x ∈ wsX40, x ∈ wsX4_blow := by decide +kernel
  obtain ⟨Q, hQ⟩ : ∃ Q, Q = MQ below (va_Qi (fun z u => z = bls (blx I o i) (blt I o i) 6 ∧ u = (S, V, sT V, (va_up (va_up (va_up (t0 I o) (o + 1) (blH (blx I o i) (blt I o i) (I (o + 1)) i 6)) (o + 3) (blC (blx I o i) (blt I o i) (I (o + 3)) 6 0)) o (upd (t0 I o o) 11 (bly (blx I o i) (blt I o i) (I o 11) 6))))) (fun u t => fb_P D y A u t) A) (([.ref (sa S o), .int (nI i)] : List Value).toArray) s 0 0 A := ⟨_, rfl⟩
  rw [← hQ]
  have hns : ns ≤ 12 := hF.2.2.1
  have hnt : nt ≤ 6 := hF.2.2.2.1
  obtain ⟨dm, hdm9, hdm⟩ := hF.2.2.2.2.2 i hi
  refine lv_aload_n hx hb dX4_blow_0 rfl (lv_at hl 0 rfl) ?_
  refine lv_iconst (v := 0) hx hb dX4_blow_1 (by decide) ?_
  refine fb_put (r := o) hx hb hown hts hin4 tyX4 tyX4_ok nmX4 hM ((hA.1).1) (ce4 ((hA.1).2)) rfl 0 (by decide) (hts (.fieldLink RX4 40 "FeatherBedsModel" "thrown" "I") (by decide +kernel)) (fun _ h9 => h9) rfl (ty := .int) (by decide +kernel) rfl rfl (Nat.le_of_ble_eq_true rfl) dX4_blow_2 (up_I (j := 0) (v := 0) (by rw [ce4 ((hA.1).2)]; simp [va_up, upd])) (w' := (S, V, (sT V), (va_up I o (upd (I o) 0 0)))) ⟨rfl, rfl, rfl⟩ (fun H locs hM => ?_)
  have eI : (va_up I o (upd (I o) 0 0)) = (t0 I o) := rfl
  rw [eI] at hM
  clear eI
  refine lv_aload_n hx hb dX4_blow_5 rfl (lv_at hl 0 rfl) ?_
  refine lv_iload_n hx hb dX4_blow_6 rfl (lv_at hl 1 rfl) ?_
  refine fb_callVi (r := o) hx hb hml hown hts hM ((hA.1).1) (ce4 ((hA.1).2)) rfl (As := [.int (nI i)]) (rest := []) (c_X4_isSack D y l S V (t0 I o) o nt cf rf hA ns df hF.t0 (nI i)) (cwV 1 hts gX4_blow_X4_isSack rfl rfl rfl (by decide +kernel) ⟨Nat.le_of_ble_eq_true rfl, Nat.le_of_ble_eq_true rfl⟩) rfl hl.1 rfl (Nat.le_of_ble_eq_true rfl) dX4_blow_7 ⟨Nat.le_of_ble_eq_true rfl, Nat.le_of_ble_eq_true rfl⟩ (fun v_1 u H locs hp hM => ?_)
  obtain ⟨hv_, hu_⟩ := hp
  have hv_ := Eq.symm hv_
  have hu_ := Eq.symm hu_
  subst hv_
  subst hu_
  rw [show (isN (nI i) 0 (nI ns - 1) : Int32) = 1 from isN_in (by omega) hi]
  refine lv_if_ne (tgt := 19) hx hb dX4_blow_10 (by decide) (fun c_2 => ?_) (fun c_2 => absurd c_2 (by decide))
  refine lv_iconst (v := 0) hx hb dX4_blow_19 (by decide) ?_
  refine lv_istore_n (lv' := [(2, .int 0), (0, .ref (sa S o)), (1, .int (nI i))]) hx hb dX4_blow_20 rfl hl (by decide) rfl (fun ls hl => ?_)
  refine lv_iconst (v := 0) hx hb dX4_blow_21 (by decide) ?_
  refine lv_istore_n (lv' := [(3, .int 0), (2, .int 0), (0, .ref (sa S o)), (1, .int (nI i))]) hx hb dX4_blow_22 rfl hl (by decide) rfl (fun ls hl => ?_)
  have LP_23 : ∀ (n : Nat) (k : Nat) (hk : k ≤ 6), 6 - k < n → ∀ (H : Heap) (locs : List Loc), fb_M D y A s (S, V, (sT V), (va_up (va_up (va_up (t0 I o) (o + 1) (blH (blx I o i) (blt I o i) (I (o + 1)) i k)) (o + 3) (blC (blx I o i) (blt I o i) (I (o + 3)) k 0)) o (upd (t0 I o o) 11 (bly (blx I o i) (blt I o i) (I o 11) k)))) H locs → ∀ ls, lv_has ls 7 [(3, .int (nI k)), (2, .int (bls (blx I o i) (blt I o i) k)), (0, .ref (sa S o)), (1, .int (nI i))] → W pv l ev rm_X4_blow s mv ([.ref (sa S o), .int (nI i)] : List Value).toArray below meth cv H locs 0 0 Q (F0 mv 23 ls []) := by
    intro n_23
    induction n_23 with
    | zero => intro k hk hmu; exact absurd hmu (Nat.not_lt_zero _)
    | succ n_23 ih_23 =>
      intro k hk hmu H locs hM ls hl
      refine lv_iload_n hx hb dX4_blow_23 rfl (lv_at hl 0 rfl) ?_
      refine lv_bipush (v := 6) hx hb dX4_blow_24 (by decide) ?_
      refine lv_icmp_ge (tgt := 151) hx hb dX4_blow_26 (by decide) (fun c_3 => ?_) (fun c_3 => ?_)
      · skip
        have e_k : k = 6 := by have := (nI_leI (a := 6) (b := k) (by omega) (by omega)).mp c_3; omega
        subst e_k
        refine lv_iload_n hx hb dX4_blow_151 rfl (lv_at hl 1 rfl) ?_
        rw [hQ]
        exact fb_iret hx hb hr hlocks hM (⟨rfl, rfl⟩) dX4_blow_152
      · skip
        have hkk : k < 6 := Nat.lt_of_not_le (fun h => c_3 (nI_le h (by omega)))
        refine lv_aload_n hx hb dX4_blow_29 rfl (lv_at hl 2 rfl) ?_
        refine fb_get (r := o) hx hb hown hts hin4 hM ((hA.1).1) (ce4 ((hA.1).2)) rfl 2 (by decide) (hts (.fieldLink RX4 9 "FeatherBedsModel" "sackHeaps" "[I") (by decide +kernel)) (fun _ h9 => h9) (v := .ref (sa S (o + 1))) (congrArg (fun z => some (va_rf z)) ((hA.2.1).1)) dX4_blow_30 ?_
        refine lv_bipush (v := 6) hx hb dX4_blow_33 (by decide) ?_
        refine lv_iload_n hx hb dX4_blow_35 rfl (lv_at hl 3 rfl) ?_
        refine lv_imul hx hb dX4_blow_36 ?_
        refine W.eq (g2 := F0 mv _ ls (.int (nI (6 * i)) :: .ref (sa S (o + 1)) :: [])) (by first | rfl | rw [show (6 * (nI i) : Int32) = nI (6 * i) from pk_mul 6 i]) ?_
        refine lv_iload_n hx hb dX4_blow_37 rfl (lv_at hl 0 rfl) ?_
        refine lv_iadd hx hb dX4_blow_38 ?_
        refine W.eq (g2 := F0 mv _ ls (.int (nI (6 * i + k)) :: .ref (sa S (o + 1)) :: [])) (by first | rfl | rw [show ((nI (6 * i)) + (nI k) : Int32) = nI (6 * i + k) from nI_add _ _]) ?_
        refine fb_iald (r := (o + 1)) hx hb hM ((hA.2.2.1).1) (ce6 ((hA.2.2.1).2.1)) (k := 6 * i + k) (nI_clamp (by omega)) (by rw [(hA.2.2.1).2.2]; exact vp_in_nI (by omega) (by omega)) dX4_blow_39 ?_
        rw [show (va_up (va_up (va_up (t0 I o) (o + 1) (blH (blx I o i) (blt I o i) (I (o + 1)) i k)) (o + 3) (blC (blx I o i) (blt I o i) (I (o + 3)) k 0)) o (upd (t0 I o o) 11 (bly (blx I o i) (blt I o i) (I o 11) k))) (o + 1) (6 * i + k) = (blx I o i) k from by simp only [va_up, if_neg (show ¬ o + 1 = o by omega), if_neg (show ¬ o + 1 = o + 3 by omega), if_true]; exact blH_i _ _ _ _ _]
        refine lv_istore (lv' := [(4, .int ((blx I o i) k)), (3, .int (nI k)), (2, .int (bls (blx I o i) (blt I o i) k)), (0, .ref (sa S o)), (1, .int (nI i))]) hx hb dX4_blow_40 hl (by decide) rfl (fun ls hl => ?_)
        refine lv_aload_n hx hb dX4_blow_42 rfl (lv_at hl 3 rfl) ?_
        refine fb_get (r := o) hx hb hown hts hin4 hM ((hA.1).1) (ce4 ((hA.1).2)) rfl 4 (by decide) (hts (.fieldLink RX4 16 "FeatherBedsModel" "wind" "I") (by decide +kernel)) (fun _ h9 => h9) (v := .int ((va_up (va_up (va_up (t0 I o) (o + 1) (blH (blx I o i) (blt I o i) (I (o + 1)) i k)) (o + 3) (blC (blx I o i) (blt I o i) (I (o + 3)) k 0)) o (upd (t0 I o o) 11 (bly (blx I o i) (blt I o i) (I o 11) k))) o 4)) rfl dX4_blow_43 ?_
        rw [show (va_up (va_up (va_up (t0 I o) (o + 1) (blH (blx I o i) (blt I o i) (I (o + 1)) i k)) (o + 3) (blC (blx I o i) (blt I o i) (I (o + 3)) k 0)) o (upd (t0 I o o) 11 (bly (blx I o i) (blt I o i) (I o 11) k))) o 4 = I o 4 from by simp [va_up, t0, upd]]
        refine lv_iload_n hx hb dX4_blow_46 rfl (lv_at hl 1 rfl) ?_
        refine lv_aload_n hx hb dX4_blow_47 rfl (lv_at hl 3 rfl) ?_
        refine fb_get (r := o) hx hb hown hts hin4 hM ((hA.1).1) (ce4 ((hA.1).2)) rfl 3 (by decide) (hts (.fieldLink RX4 13 "FeatherBedsModel" "damp" "[I") (by decide +kernel)) (fun _ h9 => h9) (v := .ref (sa S (o + 2))) (congrArg (fun z => some (va_rf z)) ((hA.2.1).2.1)) dX4_blow_48 ?_
        refine lv_iload_n hx hb dX4_blow_51 rfl (lv_at hl 4 rfl) ?_
        refine fb_iald (r := (o + 2)) hx hb hM ((hA.2.2.2.1).1) (ce6 ((hA.2.2.2.1).2.1)) (k := i) (nI_clamp (by omega)) (by rw [(hA.2.2.2.1).2.2]; exact vp_in_nI (by omega) (by omega)) dX4_blow_52 ?_
        rw [show (va_up (va_up (va_up (t0 I o) (o + 1) (blH (blx I o i) (blt I o i) (I (o + 1)) i k)) (o + 3) (blC (blx I o i) (blt I o i) (I (o + 3)) k 0)) o (upd (t0 I o o) 11 (bly (blx I o i) (blt I o i) (I o 11) k))) (o + 2) i = I (o + 2) i from by simp [va_up, t0]]
        refine fb_callSi hx hb hml hown hts hM (As := [.int (I o 4), .int (nI k), .int (I (o + 2) i)]) (rest := []) (c_X4_flight D y l S V (va_up (va_up (va_up (t0 I o) (o + 1) (blH (blx I o i) (blt I o i) (I (o + 1)) i k)) (o + 3) (blC (blx I o i) (blt I o i) (I (o + 3)) k 0)) o (upd (t0 I o o) 11 (bly (blx I o i) (blt I o i) (I o 11) k))) (I o 4) (nI k) (I (o + 2) i) (by rw [hdm]; exact (fl_w hkk hdm9).1)) (cwS 3 hts gX4_blow_X4_flight rfl rfl rfl (by decide +kernel) ⟨Nat.le_of_ble_eq_true rfl, Nat.le_of_ble_eq_true rfl⟩) rfl hl.1 rfl (Nat.le_of_ble_eq_true rfl) dX4_blow_53 ⟨Nat.le_of_ble_eq_true rfl, Nat.le_of_ble_eq_true rfl⟩ (fun v_4 u H locs hp hM => ?_)
        obtain ⟨hv_, hu_⟩ := hp
        have hv_ := Eq.symm hv_
        have hu_ := Eq.symm hu_
        subst hv_
        subst hu_
        rw [show (flm (I o 4) (nI k) (I (o + 2) i) : Int32) = (blt I o i) k from rfl]
        refine lv_istore (lv' := [(5, .int ((blt I o i) k)), (4, .int ((blx I o i) k)), (3, .int (nI k)), (2, .int (bls (blx I o i) (blt I o i) k)), (0, .ref (sa S o)), (1, .int (nI i))]) hx hb dX4_blow_56 hl (by decide) rfl (fun ls hl => ?_)
        refine lv_iconst (v := 0) hx hb dX4_blow_58 (by decide) ?_
        refine lv_istore (lv' := [(6, .int 0), (5, .int ((blt I o i) k)), (4, .int ((blx I o i) k)), (3, .int (nI k)), (2, .int (bls (blx I o i) (blt I o i) k)), (0, .ref (sa S o)), (1, .int (nI i))]) hx hb dX4_blow_59 hl (by decide) rfl (fun ls hl => ?_)
        have LP_61 : ∀ (n : Nat) (c : Nat) (hc : c ≤ 5), 5 - c < n → ∀ (H : Heap) (locs : List Loc), fb_M D y A s (S, V, (sT V), (va_up (va_up (va_up (t0 I o) (o + 1) (blH (blx I o i) (blt I o i) (I (o + 1)) i k)) (o + 3) (blC (blx I o i) (blt I o i) (I (o + 3)) k c)) o (upd (t0 I o o) 11 (bly (blx I o i) (blt I o i) (I o 11) k)))) H locs → ∀ ls, lv_has ls 7 [(6, .int (nI c)), (5, .int ((blt I o i) k)), (4, .int ((blx I o i) k)), (3, .int (nI k)), (2, .int (bli (blx I o i) (blt I o i) (bls (blx I o i) (blt I o i) k) k c)), (0, .ref (sa S o)), (1, .int (nI i))] → W pv l ev rm_X4_blow s mv ([.ref (sa S o), .int (nI i)] : List Value).toArray below meth cv H locs 0 0 Q (F0 mv 61 ls []) := by
          intro n_61
          induction n_61 with
          | zero => intro c hc hmu; exact absurd hmu (Nat.not_lt_zero _)
          | succ n_61 ih_61 =>
            intro c hc hmu H locs hM ls hl
            refine lv_iload hx hb dX4_blow_61 (lv_at hl 0 rfl) ?_
            refine lv_iconst (v := 5) hx hb dX4_blow_63 (by decide) ?_
            refine lv_icmp_ge (tgt := 109) hx hb dX4_blow_64 (by decide) (fun c_5 => ?_) (fun c_5 => ?_)
            · skip
              have e_c : c = 5 := by have := (nI_leI (a := 5) (b := c) (by omega) (by omega)).mp c_5; omega
              subst e_c
              refine lv_aload_n hx hb dX4_blow_109 rfl (lv_at hl 5 rfl) ?_
              refine fb_get (r := o) hx hb hown hts hin4 hM ((hA.1).1) (ce4 ((hA.1).2)) rfl 2 (by decide) (hts (.fieldLink RX4 9 "FeatherBedsModel" "sackHeaps" "[I") (by decide +kernel)) (fun _ h9 => h9) (v := .ref (sa S (o + 1))) (congrArg (fun z => some (va_rf z)) ((hA.2.1).1)) dX4_blow_110 ?_
              refine lv_bipush (v := 6) hx hb dX4_blow_113 (by decide) ?_
              refine lv_iload_n hx hb dX4_blow_115 rfl (lv_at hl 6 rfl) ?_
              refine lv_imul hx hb dX4_blow_116 ?_
              refine W.eq (g2 := F0 mv _ ls (.int (nI (6 * i)) :: .ref (sa S (o + 1)) :: [])) (by first | rfl | rw [show (6 * (nI i) : Int32) = nI (6 * i) from pk_mul 6 i]) ?_
              refine lv_iload_n hx hb dX4_blow_117 rfl (lv_at hl 3 rfl) ?_
              refine lv_iadd hx hb dX4_blow_118 ?_
              refine W.eq (g2 := F0 mv _ ls (.int (nI (6 * i + k)) :: .ref (sa S (o + 1)) :: [])) (by first | rfl | rw [show ((nI (6 * i)) + (nI k) : Int32) = nI (6 * i + k) from nI_add _ _]) ?_
              refine lv_iload hx hb dX4_blow_119 (lv_at hl 2 rfl) ?_
              refine lv_iload hx hb dX4_blow_121 (lv_at hl 1 rfl) ?_
              refine lv_iconst (v := (-1)) hx hb dX4_blow_123 (by decide) ?_
              refine fb_callSi hx hb hml hown hts hM (As := [.int ((blx I o i) k), .int ((blt I o i) k), .int (-1)]) (rest := [.int (nI (6 * i + k)), .ref (sa S (o + 1))]) (c_X4_falls D y l S V (va_up (va_up (va_up (t0 I o) (o + 1) (blH (blx I o i) (blt I o i) (I (o + 1)) i k)) (o + 3) (blC (blx I o i) (blt I o i) (I (o + 3)) k 5)) o (upd (t0 I o o) 11 (bly (blx I o i) (blt I o i) (I o 11) k))) ((blx I o i) k) ((blt I o i) k) (-1)) (cwS 3 hts gX4_blow_X4_falls rfl rfl rfl (by decide +kernel) ⟨Nat.le_of_ble_eq_true rfl, Nat.le_of_ble_eq_true rfl⟩) rfl hl.1 rfl (Nat.le_of_ble_eq_true rfl) dX4_blow_124 ⟨Nat.le_of_ble_eq_true rfl, Nat.le_of_ble_eq_true rfl⟩ (fun v_6 u H locs hp hM => ?_)
              obtain ⟨hv_, hu_⟩ := hp
              have hv_ := Eq.symm hv_
              have hu_ := Eq.symm hu_
              subst hv_
              subst hu_
              refine fb_iast (r := (o + 1)) hx hb hM ((hA.2.2.1).1) (ce6 ((hA.2.2.1).2.1)) (k := 6 * i + k) (nI_clamp (by omega)) (by rw [(hA.2.2.1).2.2]; exact vp_in_nI (by omega) (by omega)) dX4_blow_127 (up_I (j := 6 * i + k) (by rw [ce6 ((hA.2.2.1).2.1)]; simp [va_up])) (w' := (S, V, (sT V), (va_up (va_up (va_up (va_up (t0 I o) (o + 1) (blH (blx I o i) (blt I o i) (I (o + 1)) i k)) (o + 3) (blC (blx I o i) (blt I o i) (I (o + 3)) k 5)) o (upd (t0 I o o) 11 (bly (blx I o i) (blt I o i) (I o 11) k))) (o + 1) (upd ((va_up (va_up (va_up (t0 I o) (o + 1) (blH (blx I o i) (blt I o i) (I (o + 1)) i k)) (o + 3) (blC (blx I o i) (blt I o i) (I (o + 3)) k 5)) o (upd (t0 I o o) 11 (bly (blx I o i) (blt I o i) (I o 11) k))) (o + 1)) (6 * i + k) (brn ((blx I o i) k) ((blt I o i) k) (-1)))))) ⟨rfl, rfl, rfl⟩ (fun H locs hM => ?_)
              have eI : (va_up (va_up (va_up (va_up (t0 I o) (o + 1) (blH (blx I o i) (blt I o i) (I (o + 1)) i k)) (o + 3) (blC (blx I o i) (blt I o i) (I (o + 3)) k 5)) o (upd (t0 I o o) 11 (bly (blx I o i) (blt I o i) (I o 11) k))) (o + 1) (upd ((va_up (va_up (va_up (t0 I o) (o + 1) (blH (blx I o i) (blt I o i) (I (o + 1)) i k)) (o + 3) (blC (blx I o i) (blt I o i) (I (o + 3)) k 5)) o (upd (t0 I o o) 11 (bly (blx I o i) (blt I o i) (I o 11) k))) (o + 1)) (6 * i + k) (brn ((blx I o i) k) ((blt I o i) k) (-1)))) = (va_up (va_up (va_up (t0 I o) (o + 1) (blH (blx I o i) (blt I o i) (I (o + 1)) i (k + 1))) (o + 3) (blC (blx I o i) (blt I o i) (I (o + 3)) (k + 1) 0)) o (upd (t0 I o o) 11 (bly (blx I o i) (blt I o i) (I o 11) k))) := by rw [blC_5]; exact blK1 _ _ _ _ _ (blH_s _ _ _ _ _)
              rw [eI] at hM
              clear eI
              refine lv_aload_n hx hb dX4_blow_128 rfl (lv_at hl 5 rfl) ?_
              refine lv_dup hx hb dX4_blow_129 rfl ?_
              refine fb_get (r := o) hx hb hown hts hin4 hM ((hA.1).1) (ce4 ((hA.1).2)) rfl 11 (by decide) (hts (.fieldLink RX4 93 "FeatherBedsModel" "yard" "I") (by decide +kernel)) (fun _ h9 => h9) (v := .int ((va_up (va_up (va_up (t0 I o) (o + 1) (blH (blx I o i) (blt I o i) (I (o + 1)) i (k + 1))) (o + 3) (blC (blx I o i) (blt I o i) (I (o + 3)) (k + 1) 0)) o (upd (t0 I o o) 11 (bly (blx I o i) (blt I o i) (I o 11) k))) o 11)) rfl dX4_blow_130 ?_
              rw [show (va_up (va_up (va_up (t0 I o) (o + 1) (blH (blx I o i) (blt I o i) (I (o + 1)) i (k + 1))) (o + 3) (blC (blx I o i) (blt I o i) (I (o + 3)) (k + 1) 0)) o (upd (t0 I o o) 11 (bly (blx I o i) (blt I o i) (I o 11) k))) o 11 = bly (blx I o i) (blt I o i) (I o 11) k from by simp [va_up, upd]]
              refine lv_iload hx hb dX4_blow_133 (lv_at hl 2 rfl) ?_
              refine lv_iload hx hb dX4_blow_135 (lv_at hl 1 rfl) ?_
              refine lv_iconst (v := 5) hx hb dX4_blow_137 (by decide) ?_
              refine fb_callSi hx hb hml hown hts hM (As := [.int ((blx I o i) k), .int ((blt I o i) k), .int 5]) (rest := [.int (bly (blx I o i) (blt I o i) (I o 11) k), .ref (sa S o)]) (c_X4_falls D y l S V (va_up (va_up (va_up (t0 I o) (o + 1) (blH (blx I o i) (blt I o i) (I (o + 1)) i (k + 1))) (o + 3) (blC (blx I o i) (blt I o i) (I (o + 3)) (k + 1) 0)) o (upd (t0 I o o) 11 (bly (blx I o i) (blt I o i) (I o 11) k))) ((blx I o i) k) ((blt I o i) k) 5) (cwS 3 hts gX4_blow_X4_falls rfl rfl rfl (by decide +kernel) ⟨Nat.le_of_ble_eq_true rfl, Nat.le_of_ble_eq_true rfl⟩) rfl hl.1 rfl (Nat.le_of_ble_eq_true rfl) dX4_blow_138 ⟨Nat.le_of_ble_eq_true rfl, Nat.le_of_ble_eq_true rfl⟩ (fun v_7 u H locs hp hM => ?_)
              obtain ⟨hv_, hu_⟩ := hp
              have hv_ := Eq.symm hv_
              have hu_ := Eq.symm hu_
              subst hv_
              subst hu_
              refine lv_iadd hx hb dX4_blow_141 ?_
              refine fb_put (r := o) hx hb hown hts hin4 tyX4 tyX4_ok nmX4 hM ((hA.1).1) (ce4 ((hA.1).2)) rfl 11 (by decide) (hts (.fieldLink RX4 93 "FeatherBedsModel" "yard" "I") (by decide +kernel)) (fun _ h9 => h9) rfl (ty := .int) (by decide +kernel) rfl rfl (Nat.le_of_ble_eq_true rfl) dX4_blow_142 (up_I (j := 11) (v := (bly (blx I o i) (blt I o i) (I o 11) k) + (brn ((blx I o i) k) ((blt I o i) k) 5)) (by rw [ce4 ((hA.1).2)]; simp [va_up, upd])) (w' := (S, V, (sT V), (va_up (va_up (va_up (va_up (t0 I o) (o + 1) (blH (blx I o i) (blt I o i) (I (o + 1)) i (k + 1))) (o + 3) (blC (blx I o i) (blt I o i) (I (o + 3)) (k + 1) 0)) o (upd (t0 I o o) 11 (bly (blx I o i) (blt I o i) (I o 11) k))) o (upd ((va_up (va_up (va_up (t0 I o) (o + 1) (blH (blx I o i) (blt I o i) (I (o + 1)) i (k + 1))) (o + 3) (blC (blx I o i) (blt I o i) (I (o + 3)) (k + 1) 0)) o (upd (t0 I o o) 11 (bly (blx I o i) (blt I o i) (I o 11) k))) o) 11 ((bly (blx I o i) (blt I o i) (I o 11) k) + (brn ((blx I o i) k) ((blt I o i) k) 5)))))) ⟨rfl, rfl, rfl⟩ (fun H locs hM => ?_)
              have eI : (va_up (va_up (va_up (va_up (t0 I o) (o + 1) (blH (blx I o i) (blt I o i) (I (o + 1)) i (k + 1))) (o + 3) (blC (blx I o i) (blt I o i) (I (o + 3)) (k + 1) 0)) o (upd (t0 I o o) 11 (bly (blx I o i) (blt I o i) (I o 11) k))) o (upd ((va_up (va_up (va_up (t0 I o) (o + 1) (blH (blx I o i) (blt I o i) (I (o + 1)) i (k + 1))) (o + 3) (blC (blx I o i) (blt I o i) (I (o + 3)) (k + 1) 0)) o (upd (t0 I o o) 11 (bly (blx I o i) (blt I o i) (I o 11) k))) o) 11 ((bly (blx I o i) (blt I o i) (I o 11) k) + (brn ((blx I o i) k) ((blt I o i) k) 5)))) = (va_up (va_up (va_up (t0 I o) (o + 1) (blH (blx I o i) (blt I o i) (I (o + 1)) i (k + 1))) (o + 3) (blC (blx I o i) (blt I o i) (I (o + 3)) (k + 1) 0)) o (upd (t0 I o o) 11 (bly (blx I o i) (blt I o i) (I o 11) (k + 1)))) := blK0s _ _ _ _ _ _ rfl
              rw [eI] at hM
              clear eI
              refine lv_iinc (v := nI (k + 1)) (lv' := [(3, .int (nI (k + 1))), (6, .int (nI 5)), (5, .int ((blt I o i) k)), (4, .int ((blx I o i) k)), (2, .int (bli (blx I o i) (blt I o i) (bls (blx I o i) (blt I o i) k) k 5)), (0, .ref (sa S o)), (1, .int (nI i))]) hx hb dX4_blow_145 hl (k := 3) rfl (nI_1 _) (by decide) rfl (fun ls hl => ?_)
              refine lv_goto (tgt := 23) hx hb dX4_blow_148 (by decide) ?_
              exact ih_23 (k + 1) (by omega) (by omega) _ _ hM ls (lv_sub hl [0, 4, 5, 6] rfl)
            · skip
              have hck : c < 5 := Nat.lt_of_not_le (fun h => c_5 (nI_le h (by omega)))
              refine lv_aload_n hx hb dX4_blow_67 rfl (lv_at hl 5 rfl) ?_
              refine fb_get (r := o) hx hb hown hts hin4 hM ((hA.1).1) (ce4 ((hA.1).2)) rfl 5 (by decide) (hts (.fieldLink RX4 20 "FeatherBedsModel" "chambers" "[I") (by decide +kernel)) (fun _ h9 => h9) (v := .ref (sa S (o + 3))) (congrArg (fun z => some (va_rf z)) ((hA.2.1).2.2.1)) dX4_blow_68 ?_
              refine lv_bipush (v := 6) hx hb dX4_blow_71 (by decide) ?_
              refine lv_iload hx hb dX4_blow_73 (lv_at hl 0 rfl) ?_
              refine lv_imul hx hb dX4_blow_75 ?_
              refine W.eq (g2 := F0 mv _ ls (.int (nI (6 * c)) :: .ref (sa S (o + 3)) :: [])) (by first | rfl | rw [show (6 * (nI c) : Int32) = nI (6 * c) from pk_mul 6 c]) ?_
              refine lv_iload_n hx hb dX4_blow_76 rfl (lv_at hl 3 rfl) ?_
              refine lv_iadd hx hb dX4_blow_77 ?_
              refine W.eq (g2 := F0 mv _ ls (.int (nI (6 * c + k)) :: .ref (sa S (o + 3)) :: [])) (by first | rfl | rw [show ((nI (6 * c)) + (nI k) : Int32) = nI (6 * c + k) from nI_add _ _]) ?_
              refine lv_dup2_11 hx hb dX4_blow_78 rfl rfl ?_
              refine fb_iald (r := (o + 3)) hx hb hM ((hA.2.2.2.2.1).1) (ce6 ((hA.2.2.2.2.1).2.1)) (k := 6 * c + k) (nI_clamp (by omega)) (by rw [(hA.2.2.2.2.1).2.2]; exact vp_in_nI (by omega) (by omega)) dX4_blow_79 ?_
              rw [show (va_up (va_up (va_up (t0 I o) (o + 1) (blH (blx I o i) (blt I o i) (I (o + 1)) i k)) (o + 3) (blC (blx I o i) (blt I o i) (I (o + 3)) k c)) o (upd (t0 I o o) 11 (bly (blx I o i) (blt I o i) (I o 11) k))) (o + 3) (6 * c + k) = I (o + 3) (6 * c + k) from by simp only [va_up, if_neg (show ¬ o + 3 = o by omega), if_true]; exact blC_i _ _ _ (by omega)]
              refine lv_iload hx hb dX4_blow_80 (lv_at hl 2 rfl) ?_
              refine lv_iload hx hb dX4_blow_82 (lv_at hl 1 rfl) ?_
              refine lv_iload hx hb dX4_blow_84 (lv_at hl 0 rfl) ?_
              refine fb_callSi hx hb hml hown hts hM (As := [.int ((blx I o i) k), .int ((blt I o i) k), .int (nI c)]) (rest := [.int (I (o + 3) (6 * c + k)), .int (nI (6 * c + k)), .ref (sa S (o + 3))]) (c_X4_falls D y l S V (va_up (va_up (va_up (t0 I o) (o + 1) (blH (blx I o i) (blt I o i) (I (o + 1)) i k)) (o + 3) (blC (blx I o i) (blt I o i) (I (o + 3)) k c)) o (upd (t0 I o o) 11 (bly (blx I o i) (blt I o i) (I o 11) k))) ((blx I o i) k) ((blt I o i) k) (nI c)) (cwS 3 hts gX4_blow_X4_falls rfl rfl rfl (by decide +kernel) ⟨Nat.le_of_ble_eq_true rfl, Nat.le_of_ble_eq_true rfl⟩) rfl hl.1 rfl (Nat.le_of_ble_eq_true rfl) dX4_blow_86 ⟨Nat.le_of_ble_eq_true rfl, Nat.le_of_ble_eq_true rfl⟩ (fun v_8 u H locs hp hM => ?_)
              obtain ⟨hv_, hu_⟩ := hp
              have hv_ := Eq.symm hv_
              have hu_ := Eq.symm hu_
              subst hv_
              subst hu_
              refine lv_iadd hx hb dX4_blow_89 ?_
              refine fb_iast (r := (o + 3)) hx hb hM ((hA.2.2.2.2.1).1) (ce6 ((hA.2.2.2.2.1).2.1)) (k := 6 * c + k) (nI_clamp (by omega)) (by rw [(hA.2.2.2.2.1).2.2]; exact vp_in_nI (by omega) (by omega)) dX4_blow_90 (up_I (j := 6 * c + k) (by rw [ce6 ((hA.2.2.2.2.1).2.1)]; simp [va_up])) (w' := (S, V, (sT V), (va_up (va_up (va_up (va_up (t0 I o) (o + 1) (blH (blx I o i) (blt I o i) (I (o + 1)) i k)) (o + 3) (blC (blx I o i) (blt I o i) (I (o + 3)) k c)) o (upd (t0 I o o) 11 (bly (blx I o i) (blt I o i) (I o 11) k))) (o + 3) (upd ((va_up (va_up (va_up (t0 I o) (o + 1) (blH (blx I o i) (blt I o i) (I (o + 1)) i k)) (o + 3) (blC (blx I o i) (blt I o i) (I (o + 3)) k c)) o (upd (t0 I o o) 11 (bly (blx I o i) (blt I o i) (I o 11) k))) (o + 3)) (6 * c + k) ((I (o + 3) (6 * c + k)) + (brn ((blx I o i) k) ((blt I o i) k) (nI c))))))) ⟨rfl, rfl, rfl⟩ (fun H locs hM => ?_)
              have eI : (va_up (va_up (va_up (va_up (t0 I o) (o + 1) (blH (blx I o i) (blt I o i) (I (o + 1)) i k)) (o + 3) (blC (blx I o i) (blt I o i) (I (o + 3)) k c)) o (upd (t0 I o o) 11 (bly (blx I o i) (blt I o i) (I o 11) k))) (o + 3) (upd ((va_up (va_up (va_up (t0 I o) (o + 1) (blH (blx I o i) (blt I o i) (I (o + 1)) i k)) (o + 3) (blC (blx I o i) (blt I o i) (I (o + 3)) k c)) o (upd (t0 I o o) 11 (bly (blx I o i) (blt I o i) (I o 11) k))) (o + 3)) (6 * c + k) ((I (o + 3) (6 * c + k)) + (brn ((blx I o i) k) ((blt I o i) k) (nI c))))) = (va_up (va_up (va_up (t0 I o) (o + 1) (blH (blx I o i) (blt I o i) (I (o + 1)) i k)) (o + 3) (blC (blx I o i) (blt I o i) (I (o + 3)) k (c + 1))) o (upd (t0 I o o) 11 (bly (blx I o i) (blt I o i) (I o 11) k))) := blK3 _ _ _ _ _ (blC_s _ _ _ (by omega) (by omega))
              rw [eI] at hM
              clear eI
              refine lv_iload_n hx hb dX4_blow_91 rfl (lv_at hl 4 rfl) ?_
              refine lv_iload hx hb dX4_blow_92 (lv_at hl 2 rfl) ?_
              refine lv_iload hx hb dX4_blow_94 (lv_at hl 1 rfl) ?_
              refine lv_iload hx hb dX4_blow_96 (lv_at hl 0 rfl) ?_
              refine fb_callSi hx hb hml hown hts hM (As := [.int ((blx I o i) k), .int ((blt I o i) k), .int (nI c)]) (rest := [.int (bli (blx I o i) (blt I o i) (bls (blx I o i) (blt I o i) k) k c)]) (c_X4_falls D y l S V (va_up (va_up (va_up (t0 I o) (o + 1) (blH (blx I o i) (blt I o i) (I (o + 1)) i k)) (o + 3) (blC (blx I o i) (blt I o i) (I (o + 3)) k (c + 1))) o (upd (t0 I o o) 11 (bly (blx I o i) (blt I o i) (I o 11) k))) ((blx I o i) k) ((blt I o i) k) (nI c)) (cwS 3 hts gX4_blow_X4_falls rfl rfl rfl (by decide +kernel) ⟨Nat.le_of_ble_eq_true rfl, Nat.le_of_ble_eq_true rfl⟩) rfl hl.1 rfl (Nat.le_of_ble_eq_true rfl) dX4_blow_98 ⟨Nat.le_of_ble_eq_true rfl, Nat.le_of_ble_eq_true rfl⟩ (fun v_9 u H locs hp hM => ?_)
              obtain ⟨hv_, hu_⟩ := hp
              have hv_ := Eq.symm hv_
              have hu_ := Eq.symm hu_
              subst hv_
              subst hu_
              refine lv_iadd hx hb dX4_blow_101 ?_
              rw [show ((bli (blx I o i) (blt I o i) (bls (blx I o i) (blt I o i) k) k c) + (brn ((blx I o i) k) ((blt I o i) k) (nI c)) : Int32) = bli (blx I o i) (blt I o i) (bls (blx I o i) (blt I o i) k) k (c + 1) from rfl]
              refine lv_istore_n (lv' := [(2, .int (bli (blx I o i) (blt I o i) (bls (blx I o i) (blt I o i) k) k (c + 1))), (6, .int (nI c)), (5, .int ((blt I o i) k)), (4, .int ((blx I o i) k)), (3, .int (nI k)), (0, .ref (sa S o)), (1, .int (nI i))]) hx hb dX4_blow_102 rfl hl (by decide) rfl (fun ls hl => ?_)
              refine lv_iinc (v := nI (c + 1)) (lv' := [(6, .int (nI (c + 1))), (2, .int (bli (blx I o i) (blt I o i) (bls (blx I o i) (blt I o i) k) k (c + 1))), (5, .int ((blt I o i) k)), (4, .int ((blx I o i) k)), (3, .int (nI k)), (0, .ref (sa S o)), (1, .int (nI i))]) hx hb dX4_blow_103 hl (k := 1) rfl (nI_1 _) (by decide) rfl (fun ls hl => ?_)
              refine lv_goto (tgt := 61) hx hb dX4_blow_106 (by decide) ?_
              exact ih_61 (c + 1) (by omega) (by omega) _ _ hM ls (lv_sub hl [0, 2, 3, 4, 1, 5, 6] rfl)
        exact LP_61 _ 0 (by omega) (Nat.lt_succ_self _) _ _ hM ls (lv_sub hl [0, 1, 2, 3, 4, 5, 6] rfl)
  rw [show t0 I o = (va_up (va_up (va_up (t0 I o) (o + 1) (blH (blx I o i) (blt I o i) (I (o + 1)) i 0)) (o + 3) (blC (blx I o i) (blt I o i) (I (o + 3)) 0 0)) o (upd (t0 I o o) 11 (bly (blx I o i) (blt I o i) (I o 11) 0))) by rw [blH_0, blC_00]; exact blK0 I o] at hM
  exact LP_23 _ 0 (by omega) (Nat.lt_succ_self _) _ _ hM ls (lv_sub hl [0, 1, 2, 3] rfl)

abbrev rm_X4_sweep : Room := { frames := 2, cells := 0, slots := 0, locals := 43 }
set_option maxHeartbeats 4000000 in
set_option maxRecDepth 100000 in
theorem c_X4_sweep_f0o (D : va_G) (y : Nat → ClassId) (l : Launch) (S : fb_Sh) (V I : fb_V) (o nt : Nat) (cf rf : Nat → Nat) (hA : MdAt S o nt cf rf) (ns : Nat) (df : Nat → Nat) (hF : MF I o ns nt cf rf df) (p0 : Int32) (ho : p0 < 0 ∨ 4 < p0) (p1 : Int32) : CI D y l yX4_sweep wsX4_sweep rm_X4_sweep [.ref (sa S o), .int p0, .int p1] (S, V, (sT V), I) (fun z u => z = 0 ∧ u = (S, V, sT V, (tf I o 1))) 0 0 := by
  refine CI.of (cc := cX4_sweep) (maxL := 6) (ret := (some .int)) (by decide) rfl (Nat.le_of_ble_eq_true rfl) ?_
  intro pv ev s mv below meth cv A hx hb hml hr hown hts hlocks hname hM ls hl
  have hown : s.vm.findClass RX4 = some mv.cls := hown
  have hl : lv_has ls 6 [(0, .ref (sa S o)), (1, .int p0), (2, .int p1)] := hl
  have hin4 : ∀ x ∈ wsX40, x ∈ wsX4_sweep := by decide +kernel
  obtain ⟨Q, hQ⟩ : ∃ Q, Q = MQ below (va_Qi (fun z u => z = 0 ∧ u = (S, V, sT V, (tf I o 1))) (fun u t => fb_P D y A u t) A) (([.ref (sa S o), .int p0, .int p1] : List Value).toArray) s 0 0 A := ⟨_, rfl⟩
  rw [← hQ]
  have hns : ns ≤ 12 := hF.2.2.1
  have hnt : nt ≤ 6 := hF.2.2.2.1
  refine lv_aload_n hx hb dX4_sweep_0 rfl (lv_at hl 0 rfl) ?_
  refine lv_iconst (v := 0) hx hb dX4_sweep_1 (by decide) ?_
  refine fb_put (r := o) hx hb hown hts hin4 tyX4 tyX4_ok nmX4 hM ((hA.1).1) (ce4 ((hA.1).2)) rfl 0 (by decide) (hts (.fieldLink RX4 40 "FeatherBedsModel" "thrown" "I") (by decide +kernel)) (fun _ h9 => h9) rfl (ty := .int) (by decide +kernel) rfl rfl (Nat.le_of_ble_eq_true rfl) dX4_sweep_2 (up_I (j := 0) (v := 0) (by rw [ce4 ((hA.1).2)]; simp [va_up, upd])) (w' := (S, V, (sT V), (va_up I o (upd (I o) 0 0)))) ⟨rfl, rfl, rfl⟩ (fun H locs hM => ?_)
  have eI : (va_up I o (upd (I o) 0 0)) = (t0 I o) := rfl
  rw [eI] at hM
  clear eI
  refine lv_iload_n hx hb dX4_sweep_5 rfl (lv_at hl 1 rfl) ?_
  refine lv_iconst (v := 0) hx hb dX4_sweep_6 (by decide) ?_
  refine lv_iconst (v := 4) hx hb dX4_sweep_7 (by decide) ?_
  refine fb_callSi hx hb hml hown hts hM (As := [.int p0, .int 0, .int 4]) (rest := []) (c_X4_isIn D y l S V (t0 I o) p0 0 4) (cwS 3 hts gX4_sweep_X4_isIn rfl rfl rfl (by decide +kernel) ⟨Nat.le_of_ble_eq_true rfl, Nat.le_of_ble_eq_true rfl⟩) rfl hl.1 rfl (Nat.le_of_ble_eq_true rfl) dX4_sweep_8 ⟨Nat.le_of_ble_eq_true rfl, Nat.le_of_ble_eq_true rfl⟩ (fun v_1 u H locs hp hM => ?_)
  obtain ⟨hv_, hu_⟩ := hp
  have hv_ := Eq.symm hv_
  have hu_ := Eq.symm hu_
  subst hv_
  subst hu_
  rw [show (isN p0 0 4 : Int32) = 0 from isN_0 ho]
  refine lv_if_eq (tgt := 22) hx hb dX4_sweep_11 (by decide) (fun c_2 => ?_) (fun c_2 => absurd (by decide) c_2)
  refine lv_aload_n hx hb dX4_sweep_22 rfl (lv_at hl 0 rfl) ?_
  refine lv_iconst (v := 1) hx hb dX4_sweep_23 (by decide) ?_
  refine fb_callVi (r := o) hx hb hml hown hts hM ((hA.1).1) (ce4 ((hA.1).2)) rfl (As := [.int 1]) (rest := []) (c_X4_fail D y l S V (t0 I o) o nt cf rf hA 1) (cwV 1 hts gX4_sweep_X4_fail rfl rfl rfl (by decide +kernel) ⟨Nat.le_of_ble_eq_true rfl, Nat.le_of_ble_eq_true rfl⟩) rfl hl.1 rfl (Nat.le_of_ble_eq_true rfl) dX4_sweep_24 ⟨Nat.le_of_ble_eq_true rfl, Nat.le_of_ble_eq_true rfl⟩ (fun v_3 u H locs hp hM => ?_)
  obtain ⟨hv_, hu_⟩ := hp
  have hv_ := Eq.symm hv_
  have hu_ := Eq.symm hu_
  subst hv_
  subst hu_
  have eI : (tf (t0 I o) o 1) = (tf I o 1) := tf_t0 _ _ _
  rw [eI] at hM
  clear eI
  rw [hQ]
  exact fb_iret hx hb hr hlocks hM (⟨rfl, rfl⟩) dX4_sweep_27

set_option maxHeartbeats 4000000 in
set_option maxRecDepth 100000 in
theorem c_X4_sweep_f1o (D : va_G) (y : Nat → ClassId) (l : Launch) (S : fb_Sh) (V I : fb_V) (o nt : Nat) (cf rf : Nat → Nat) (hA : MdAt S o nt cf rf) (ns : Nat) (df : Nat → Nat) (hF : MF I o ns nt cf rf df) (c : Nat) (hca : 0 ≤ c) (hc : c ≤ 4) (p1 : Int32) (ho : p1 < 0 ∨ nI ns ≤ p1) : CI D y l yX4_sweep wsX4_sweep rm_X4_sweep [.ref (sa S o), .int (nI c), .int p1] (S, V, (sT V), I) (fun z u => z = 0 ∧ u = (S, V, sT V, (tf I o 1))) 0 0 := by
  refine CI.of (cc := cX4_sweep) (maxL := 6) (ret := (some .int)) (by decide) rfl (Nat.le_of_ble_eq_true rfl) ?_
  intro pv ev s mv below meth cv A hx hb hml hr hown hts hlocks hname hM ls hl
  have hown : s.vm.findClass RX4 = some mv.cls := hown
  have hl : lv_has ls 6 [(0, .ref (sa S o)), (1, .int (nI c)), (2, .int p1)] := hl
  have hin4 : ∀ x ∈ wsX40, x ∈ wsX4_sweep := by decide +kernel
  obtain ⟨Q, hQ⟩ : ∃ Q, Q = MQ below (va_Qi (fun z u => z = 0 ∧ u = (S, V, sT V, (tf I o 1))) (fun u t => fb_P D y A u t) A) (([.ref (sa S o), .int (nI c), .int p1] : List Value).toArray) s 0 0 A := ⟨_, rfl⟩
  rw [← hQ]
  have hns : ns ≤ 12 := hF.2.2.1
  have hnt : nt ≤ 6 := hF.2.2.2.1
  refine lv_aload_n hx hb dX4_sweep_0 rfl (lv_at hl 0 rfl) ?_
  refine lv_iconst (v := 0) hx hb dX4_sweep_1 (by decide) ?_
  refine fb_put (r := o) hx hb hown hts hin4 tyX4 tyX4_ok nmX4 hM ((hA.1).1) (ce4 ((hA.1).2)) rfl 0 (by decide) (hts (.fieldLink RX4 40 "FeatherBedsModel" "thrown" "I") (by decide +kernel)) (fun _ h9 => h9) rfl (ty := .int) (by decide +kernel) rfl rfl (Nat.le_of_ble_eq_true rfl) dX4_sweep_2 (up_I (j := 0) (v := 0) (by rw [ce4 ((hA.1).2)]; simp [va_up, upd])) (w' := (S, V, (sT V), (va_up I o (upd (I o) 0 0)))) ⟨rfl, rfl, rfl⟩ (fun H locs hM => ?_)
  have eI : (va_up I o (upd (I o) 0 0)) = (t0 I o) := rfl
  rw [eI] at hM
  clear eI
  refine lv_iload_n hx hb dX4_sweep_5 rfl (lv_at hl 1 rfl) ?_
  refine lv_iconst (v := 0) hx hb dX4_sweep_6 (by decide) ?_
  refine lv_iconst (v := 4) hx hb dX4_sweep_7 (by decide) ?_
  refine fb_callSi hx hb hml hown hts hM (As := [.int (nI c), .int 0, .int 4]) (rest := []) (c_X4_isIn D y l S V (t0 I o) (nI c) 0 4) (cwS 3 hts gX4_sweep_X4_isIn rfl rfl rfl (by decide +kernel) ⟨Nat.le_of_ble_eq_true rfl, Nat.le_of_ble_eq_true rfl⟩) rfl hl.1 rfl (Nat.le_of_ble_eq_true rfl) dX4_sweep_8 ⟨Nat.le_of_ble_eq_true rfl, Nat.le_of_ble_eq_true rfl⟩ (fun v_1 u H locs hp hM => ?_)
  obtain ⟨hv_, hu_⟩ := hp
  have hv_ := Eq.symm hv_
  have hu_ := Eq.symm hu_
  subst hv_
  subst hu_
  rw [show (isN (nI c) 0 4 : Int32) = 1 from isN_k (lo := 0) (hi := 4) (by decide) hca hc]
  refine lv_if_eq (tgt := 22) hx hb dX4_sweep_11 (by decide) (fun c_2 => absurd c_2 (by decide)) (fun c_2 => ?_)
  refine lv_aload_n hx hb dX4_sweep_14 rfl (lv_at hl 0 rfl) ?_
  refine lv_iload_n hx hb dX4_sweep_15 rfl (lv_at hl 2 rfl) ?_
  refine fb_callVi (r := o) hx hb hml hown hts hM ((hA.1).1) (ce4 ((hA.1).2)) rfl (As := [.int p1]) (rest := []) (c_X4_isSack D y l S V (t0 I o) o nt cf rf hA ns df hF.t0 p1) (cwV 1 hts gX4_sweep_X4_isSack rfl rfl rfl (by decide +kernel) ⟨Nat.le_of_ble_eq_true rfl, Nat.le_of_ble_eq_true rfl⟩) rfl hl.1 rfl (Nat.le_of_ble_eq_true rfl) dX4_sweep_16 ⟨Nat.le_of_ble_eq_true rfl, Nat.le_of_ble_eq_true rfl⟩ (fun v_3 u H locs hp hM => ?_)
  obtain ⟨hv_, hu_⟩ := hp
  have hv_ := Eq.symm hv_
  have hu_ := Eq.symm hu_
  subst hv_
  subst hu_
  rw [show (isN p1 0 (nI ns - 1) : Int32) = 0 from isN_out (by omega) ho]
  refine lv_if_ne (tgt := 28) hx hb dX4_sweep_19 (by decide) (fun c_4 => absurd (by decide) c_4) (fun c_4 => ?_)
  refine lv_aload_n hx hb dX4_sweep_22 rfl (lv_at hl 0 rfl) ?_
  refine lv_iconst (v := 1) hx hb dX4_sweep_23 (by decide) ?_
  refine fb_callVi (r := o) hx hb hml hown hts hM ((hA.1).1) (ce4 ((hA.1).2)) rfl (As := [.int 1]) (rest := []) (c_X4_fail D y l S V (t0 I o) o nt cf rf hA 1) (cwV 1 hts gX4_sweep_X4_fail rfl rfl rfl (by decide +kernel) ⟨Nat.le_of_ble_eq_true rfl, Nat.le_of_ble_eq_true rfl⟩) rfl hl.1 rfl (Nat.le_of_ble_eq_true rfl) dX4_sweep_24 ⟨Nat.le_of_ble_eq_true rfl, Nat.le_of_ble_eq_true rfl⟩ (fun v_5 u H locs hp hM => ?_)
  obtain ⟨hv_, hu_⟩ := hp
  have hv_ := Eq.symm hv_
  have hu_ := Eq.symm hu_
  subst hv_
  subst hu_
  have eI : (tf (t0 I o) o 1) = (tf I o 1) := tf_t0 _ _ _
  rw [eI] at hM
  clear eI
  rw [hQ]
  exact fb_iret hx hb hr hlocks hM (⟨rfl, rfl⟩) dX4_sweep_27

set_option maxHeartbeats 4000000 in
set_option maxRecDepth 100000 in
theorem c_X4_sweep_ok (D : va_G) (y : Nat → ClassId) (l : Launch) (S : fb_Sh) (V I : fb_V) (o nt : Nat) (cf rf : Nat → Nat) (hA : MdAt S o nt cf rf) (ns : Nat) (df : Nat → Nat) (hF : MF I o ns nt cf rf df) (c : Nat) (hca : 0 ≤ c) (hc : c ≤ 4) (i : Nat) (hi : i < ns)  : CI D y l yX4_sweep wsX4_sweep rm_X4_sweep [.ref (sa S o), .int (nI c), .int (nI i)] (S, V, (sT V), I) (fun z u => z = sws (mx (I (o + 3)) c) (mx (I (o + 1)) i) 6 ∧ u = (S, V, sT V, (va_up (va_up (t0 I o) (o + 3) (bk (I (o + 3)) c (swa (mx (I (o + 3)) c) (mx (I (o + 1)) i) 6))) (o + 1) (bk (I (o + 1)) i (swb (mx (I (o + 3)) c) (mx (I (o + 1)) i) 6))))) 0 0 := by
  refine CI.of (cc := cX4_sweep) (maxL := 6) (ret := (some .int)) (by decide) rfl (Nat.le_of_ble_eq_true rfl) ?_
  intro pv ev s mv below meth cv A hx hb hml hr hown hts hlocks hname hM ls hl
  have hown : s.vm.findClass RX4 = some mv.cls := hown
  have hl : lv_has ls 6 [(0, .ref (sa S o)), (1, .int (nI c)), (2, .int (nI i))] := hl
  have hin4 : ∀ x ∈ wsX40, x ∈ wsX4_sweep := by decide +kernel
  obtain ⟨Q, hQ⟩ : ∃ Q, Q = MQ below (va_Qi (fun z u => z = sws (mx (I (o + 3)) c) (mx (I (o + 1)) i) 6 ∧ u = (S, V, sT V, (va_up (va_up (t0 I o) (o + 3) (bk (I (o + 3)) c (swa (mx (I (o + 3)) c) (mx (I (o + 1)) i) 6))) (o + 1) (bk (I (o + 1)) i (swb (mx (I (o + 3)) c) (mx (I (o + 1)) i) 6))))) (fun u t => fb_P D y A u t) A) (([.ref (sa S o), .int (nI c), .int (nI i)] : List Value).toArray) s 0 0 A := ⟨_, rfl⟩
  rw [← hQ]
  have hns : ns ≤ 12 := hF.2.2.1
  have hnt : nt ≤ 6 := hF.2.2.2.1
  refine lv_aload_n hx hb dX4_sweep_0 rfl (lv_at hl 0 rfl) ?_
  refine lv_iconst (v := 0) hx hb dX4_sweep_1 (by decide) ?_
  refine fb_put (r := o) hx hb hown hts hin4 tyX4 tyX4_ok nmX4 hM ((hA.1).1) (ce4 ((hA.1).2)) rfl 0 (by decide) (hts (.fieldLink RX4 40 "FeatherBedsModel" "thrown" "I") (by decide +kernel)) (fun _ h9 => h9) rfl (ty := .int) (by decide +kernel) rfl rfl (Nat.le_of_ble_eq_true rfl) dX4_sweep_2 (up_I (j := 0) (v := 0) (by rw [ce4 ((hA.1).2)]; simp [va_up, upd])) (w' := (S, V, (sT V), (va_up I o (upd (I o) 0 0)))) ⟨rfl, rfl, rfl⟩ (fun H locs hM => ?_)
  have eI : (va_up I o (upd (I o) 0 0)) = (t0 I o) := rfl
  rw [eI] at hM
  clear eI
  refine lv_iload_n hx hb dX4_sweep_5 rfl (lv_at hl 1 rfl) ?_
  refine lv_iconst (v := 0) hx hb dX4_sweep_6 (by decide) ?_
  refine lv_iconst (v := 4) hx hb dX4_sweep_7 (by decide) ?_
  refine fb_callSi hx hb hml hown hts hM (As := [.int (nI c), .int 0, .int 4]) (rest := []) (c_X4_isIn D y l S V (t0 I o) (nI c) 0 4) (cwS 3 hts gX4_sweep_X4_isIn rfl rfl rfl (by decide +kernel) ⟨Nat.le_of_ble_eq_true rfl, Nat.le_of_ble_eq_true rfl⟩) rfl hl.1 rfl (Nat.le_of_ble_eq_true rfl) dX4_sweep_8 ⟨Nat.le_of_ble_eq_true rfl, Nat.le_of_ble_eq_true rfl⟩ (fun v_1 u H locs hp hM => ?_)
  obtain ⟨hv_, hu_⟩ := hp
  have hv_ := Eq.symm hv_
  have hu_ := Eq.symm hu_
  subst hv_
  subst hu_
  rw [show (isN (nI c) 0 4 : Int32) = 1 from isN_k (lo := 0) (hi := 4) (by decide) hca hc]
  refine lv_if_eq (tgt := 22) hx hb dX4_sweep_11 (by decide) (fun c_2 => absurd c_2 (by decide)) (fun c_2 => ?_)
  refine lv_aload_n hx hb dX4_sweep_14 rfl (lv_at hl 0 rfl) ?_
  refine lv_iload_n hx hb dX4_sweep_15 rfl (lv_at hl 2 rfl) ?_
  refine fb_callVi (r := o) hx hb hml hown hts hM ((hA.1).1) (ce4 ((hA.1).2)) rfl (As := [.int (nI i)]) (rest := []) (c_X4_isSack D y l S V (t0 I o) o nt cf rf hA ns df hF.t0 (nI i)) (cwV 1 hts gX4_sweep_X4_isSack rfl rfl rfl (by decide +kernel) ⟨Nat.le_of_ble_eq_true rfl, Nat.le_of_ble_eq_true rfl⟩) rfl hl.1 rfl (Nat.le_of_ble_eq_true rfl) dX4_sweep_16 ⟨Nat.le_of_ble_eq_true rfl, Nat.le_of_ble_eq_true rfl⟩ (fun v_3 u H locs hp hM => ?_)
  obtain ⟨hv_, hu_⟩ := hp
  have hv_ := Eq.symm hv_
  have hu_ := Eq.symm hu_
  subst hv_
  subst hu_
  rw [show (isN (nI i) 0 (nI ns - 1) : Int32) = 1 from isN_in (by omega) hi]
  refine lv_if_ne (tgt := 28) hx hb dX4_sweep_19 (by decide) (fun c_4 => ?_) (fun c_4 => absurd c_4 (by decide))
  refine lv_iconst (v := 0) hx hb dX4_sweep_28 (by decide) ?_
  refine lv_istore_n (lv' := [(3, .int 0), (0, .ref (sa S o)), (1, .int (nI c)), (2, .int (nI i))]) hx hb dX4_sweep_29 rfl hl (by decide) rfl (fun ls hl => ?_)
  refine lv_iconst (v := 0) hx hb dX4_sweep_30 (by decide) ?_
  refine lv_istore (lv' := [(4, .int 0), (3, .int 0), (0, .ref (sa S o)), (1, .int (nI c)), (2, .int (nI i))]) hx hb dX4_sweep_31 hl (by decide) rfl (fun ls hl => ?_)
  have LP_33 : ∀ (n : Nat) (k : Nat) (hk : k ≤ 6), 6 - k < n → ∀ (H : Heap) (locs : List Loc), fb_M D y A s (S, V, (sT V), (va_up (va_up (t0 I o) (o + 3) (bk (I (o + 3)) c (swa (mx (I (o + 3)) c) (mx (I (o + 1)) i) k))) (o + 1) (bk (I (o + 1)) i (swb (mx (I (o + 3)) c) (mx (I (o + 1)) i) k)))) H locs → ∀ ls, lv_has ls 6 [(4, .int (nI k)), (3, .int (sws (mx (I (o + 3)) c) (mx (I (o + 1)) i) k)), (0, .ref (sa S o)), (1, .int (nI c)), (2, .int (nI i))] → W pv l ev rm_X4_sweep s mv ([.ref (sa S o), .int (nI c), .int (nI i)] : List Value).toArray below meth cv H locs 0 0 Q (F0 mv 33 ls []) := by
    intro n_33
    induction n_33 with
    | zero => intro k hk hmu; exact absurd hmu (Nat.not_lt_zero _)
    | succ n_33 ih_33 =>
      intro k hk hmu H locs hM ls hl
      refine lv_iload hx hb dX4_sweep_33 (lv_at hl 0 rfl) ?_
      refine lv_bipush (v := 6) hx hb dX4_sweep_35 (by decide) ?_
      refine lv_icmp_ge (tgt := 118) hx hb dX4_sweep_37 (by decide) (fun c_5 => ?_) (fun c_5 => ?_)
      · skip
        have e_k : k = 6 := by have := (nI_leI (a := 6) (b := k) (by omega) (by omega)).mp c_5; omega
        subst e_k
        refine lv_iload_n hx hb dX4_sweep_118 rfl (lv_at hl 1 rfl) ?_
        rw [hQ]
        exact fb_iret hx hb hr hlocks hM (⟨rfl, rfl⟩) dX4_sweep_119
      · skip
        have hkk : k < 6 := Nat.lt_of_not_le (fun h => c_5 (nI_le h (by omega)))
        refine lv_aload_n hx hb dX4_sweep_40 rfl (lv_at hl 2 rfl) ?_
        refine fb_get (r := o) hx hb hown hts hin4 hM ((hA.1).1) (ce4 ((hA.1).2)) rfl 5 (by decide) (hts (.fieldLink RX4 20 "FeatherBedsModel" "chambers" "[I") (by decide +kernel)) (fun _ h9 => h9) (v := .ref (sa S (o + 3))) (congrArg (fun z => some (va_rf z)) ((hA.2.1).2.2.1)) dX4_sweep_41 ?_
        refine lv_bipush (v := 6) hx hb dX4_sweep_44 (by decide) ?_
        refine lv_iload_n hx hb dX4_sweep_46 rfl (lv_at hl 3 rfl) ?_
        refine lv_imul hx hb dX4_sweep_47 ?_
        refine W.eq (g2 := F0 mv _ ls (.int (nI (6 * c)) :: .ref (sa S (o + 3)) :: [])) (by first | rfl | rw [show (6 * (nI c) : Int32) = nI (6 * c) from pk_mul 6 c]) ?_
        refine lv_iload hx hb dX4_sweep_48 (lv_at hl 0 rfl) ?_
        refine lv_iadd hx hb dX4_sweep_50 ?_
        refine W.eq (g2 := F0 mv _ ls (.int (nI (6 * c + k)) :: .ref (sa S (o + 3)) :: [])) (by first | rfl | rw [show ((nI (6 * c)) + (nI k) : Int32) = nI (6 * c + k) from nI_add _ _]) ?_
        refine fb_iald (r := (o + 3)) hx hb hM ((hA.2.2.2.2.1).1) (ce6 ((hA.2.2.2.2.1).2.1)) (k := 6 * c + k) (nI_clamp (by omega)) (by rw [(hA.2.2.2.2.1).2.2]; exact vp_in_nI (by omega) (by omega)) dX4_sweep_51 ?_
        rw [show (va_up (va_up (t0 I o) (o + 3) (bk (I (o + 3)) c (swa (mx (I (o + 3)) c) (mx (I (o + 1)) i) k))) (o + 1) (bk (I (o + 1)) i (swb (mx (I (o + 3)) c) (mx (I (o + 1)) i) k))) (o + 3) (6 * c + k) = (mx (I (o + 3)) c) k from by rw [va_up_ne _ _ (show o + 3 ≠ o + 1 by omega), va_up_self, bk_at _ _ _ (by omega)]; simp [swa]]
        refine lv_sipush (v := 500) hx hb dX4_sweep_52 (by decide) ?_
        refine lv_aload_n hx hb dX4_sweep_55 rfl (lv_at hl 2 rfl) ?_
        refine fb_get (r := o) hx hb hown hts hin4 hM ((hA.1).1) (ce4 ((hA.1).2)) rfl 2 (by decide) (hts (.fieldLink RX4 9 "FeatherBedsModel" "sackHeaps" "[I") (by decide +kernel)) (fun _ h9 => h9) (v := .ref (sa S (o + 1))) (congrArg (fun z => some (va_rf z)) ((hA.2.1).1)) dX4_sweep_56 ?_
        refine lv_bipush (v := 6) hx hb dX4_sweep_59 (by decide) ?_
        refine lv_iload_n hx hb dX4_sweep_61 rfl (lv_at hl 4 rfl) ?_
        refine lv_imul hx hb dX4_sweep_62 ?_
        refine W.eq (g2 := F0 mv _ ls (.int (nI (6 * i)) :: .ref (sa S (o + 1)) :: .int 500 :: .int ((mx (I (o + 3)) c) k) :: [])) (by first | rfl | rw [show (6 * (nI i) : Int32) = nI (6 * i) from pk_mul 6 i]) ?_
        refine lv_iload hx hb dX4_sweep_63 (lv_at hl 0 rfl) ?_
        refine lv_iadd hx hb dX4_sweep_65 ?_
        refine W.eq (g2 := F0 mv _ ls (.int (nI (6 * i + k)) :: .ref (sa S (o + 1)) :: .int 500 :: .int ((mx (I (o + 3)) c) k) :: [])) (by first | rfl | rw [show ((nI (6 * i)) + (nI k) : Int32) = nI (6 * i + k) from nI_add _ _]) ?_
        refine fb_iald (r := (o + 1)) hx hb hM ((hA.2.2.1).1) (ce6 ((hA.2.2.1).2.1)) (k := 6 * i + k) (nI_clamp (by omega)) (by rw [(hA.2.2.1).2.2]; exact vp_in_nI (by omega) (by omega)) dX4_sweep_66 ?_
        rw [show (va_up (va_up (t0 I o) (o + 3) (bk (I (o + 3)) c (swa (mx (I (o + 3)) c) (mx (I (o + 1)) i) k))) (o + 1) (bk (I (o + 1)) i (swb (mx (I (o + 3)) c) (mx (I (o + 1)) i) k))) (o + 1) (6 * i + k) = (mx (I (o + 1)) i) k from by rw [va_up_self, bk_at _ _ _ (by omega)]; simp [swb]]
        refine lv_isub hx hb dX4_sweep_67 ?_
        refine va_mmin hx hb (hml.trans hl.1.symm) hown (hts (.methodLink RX4 83 Lib.Math.min.name) (by decide +kernel)) (hts (.static Lib.Math.min.name) (by decide +kernel)) (hts (.initialized "java/lang/Math") (by decide +kernel)) (hts (.code Lib.Math.min.name Lib.Math.min.code 2 (some .int)) (by decide +kernel)) (Nat.le_of_ble_eq_true rfl) (Nat.le_of_ble_eq_true rfl) (Nat.le_of_ble_eq_true rfl) (Nat.le_of_ble_eq_true rfl) dX4_sweep_68 ?_
        refine W.eq (g2 := F0 mv _ ls (.int (swn (mx (I (o + 3)) c) (mx (I (o + 1)) i) k) :: [])) (by first | rfl | rw [show (if 500 - ((mx (I (o + 1)) i) k) < (mx (I (o + 3)) c) k then 500 - ((mx (I (o + 1)) i) k) else (mx (I (o + 3)) c) k : Int32) = swn (mx (I (o + 3)) c) (mx (I (o + 1)) i) k from rfl]) ?_
        refine lv_istore (lv' := [(5, .int (swn (mx (I (o + 3)) c) (mx (I (o + 1)) i) k)), (4, .int (nI k)), (3, .int (sws (mx (I (o + 3)) c) (mx (I (o + 1)) i) k)), (0, .ref (sa S o)), (1, .int (nI c)), (2, .int (nI i))]) hx hb dX4_sweep_71 hl (by decide) rfl (fun ls hl => ?_)
        refine lv_aload_n hx hb dX4_sweep_73 rfl (lv_at hl 3 rfl) ?_
        refine fb_get (r := o) hx hb hown hts hin4 hM ((hA.1).1) (ce4 ((hA.1).2)) rfl 5 (by decide) (hts (.fieldLink RX4 20 "FeatherBedsModel" "chambers" "[I") (by decide +kernel)) (fun _ h9 => h9) (v := .ref (sa S (o + 3))) (congrArg (fun z => some (va_rf z)) ((hA.2.1).2.2.1)) dX4_sweep_74 ?_
        refine lv_bipush (v := 6) hx hb dX4_sweep_77 (by decide) ?_
        refine lv_iload_n hx hb dX4_sweep_79 rfl (lv_at hl 4 rfl) ?_
        refine lv_imul hx hb dX4_sweep_80 ?_
        refine W.eq (g2 := F0 mv _ ls (.int (nI (6 * c)) :: .ref (sa S (o + 3)) :: [])) (by first | rfl | rw [show (6 * (nI c) : Int32) = nI (6 * c) from pk_mul 6 c]) ?_
        refine lv_iload hx hb dX4_sweep_81 (lv_at hl 1 rfl) ?_
        refine lv_iadd hx hb dX4_sweep_83 ?_
        refine W.eq (g2 := F0 mv _ ls (.int (nI (6 * c + k)) :: .ref (sa S (o + 3)) :: [])) (by first | rfl | rw [show ((nI (6 * c)) + (nI k) : Int32) = nI (6 * c + k) from nI_add _ _]) ?_
        refine lv_dup2_11 hx hb dX4_sweep_84 rfl rfl ?_
        refine fb_iald (r := (o + 3)) hx hb hM ((hA.2.2.2.2.1).1) (ce6 ((hA.2.2.2.2.1).2.1)) (k := 6 * c + k) (nI_clamp (by omega)) (by rw [(hA.2.2.2.2.1).2.2]; exact vp_in_nI (by omega) (by omega)) dX4_sweep_85 ?_
        rw [show (va_up (va_up (t0 I o) (o + 3) (bk (I (o + 3)) c (swa (mx (I (o + 3)) c) (mx (I (o + 1)) i) k))) (o + 1) (bk (I (o + 1)) i (swb (mx (I (o + 3)) c) (mx (I (o + 1)) i) k))) (o + 3) (6 * c + k) = (mx (I (o + 3)) c) k from by rw [va_up_ne _ _ (show o + 3 ≠ o + 1 by omega), va_up_self, bk_at _ _ _ (by omega)]; simp [swa]]
        refine lv_iload hx hb dX4_sweep_86 (lv_at hl 0 rfl) ?_
        refine lv_isub hx hb dX4_sweep_88 ?_
        refine fb_iast (r := (o + 3)) hx hb hM ((hA.2.2.2.2.1).1) (ce6 ((hA.2.2.2.2.1).2.1)) (k := 6 * c + k) (nI_clamp (by omega)) (by rw [(hA.2.2.2.2.1).2.2]; exact vp_in_nI (by omega) (by omega)) dX4_sweep_89 (up_I (j := 6 * c + k) (by rw [ce6 ((hA.2.2.2.2.1).2.1)]; simp [va_up])) (w' := (S, V, (sT V), (va_up (va_up (va_up (t0 I o) (o + 3) (bk (I (o + 3)) c (swa (mx (I (o + 3)) c) (mx (I (o + 1)) i) k))) (o + 1) (bk (I (o + 1)) i (swb (mx (I (o + 3)) c) (mx (I (o + 1)) i) k))) (o + 3) (upd ((va_up (va_up (t0 I o) (o + 3) (bk (I (o + 3)) c (swa (mx (I (o + 3)) c) (mx (I (o + 1)) i) k))) (o + 1) (bk (I (o + 1)) i (swb (mx (I (o + 3)) c) (mx (I (o + 1)) i) k))) (o + 3)) (6 * c + k) (((mx (I (o + 3)) c) k) - (swn (mx (I (o + 3)) c) (mx (I (o + 1)) i) k)))))) ⟨rfl, rfl, rfl⟩ (fun H locs hM => ?_)
        have eI : (va_up (va_up (va_up (t0 I o) (o + 3) (bk (I (o + 3)) c (swa (mx (I (o + 3)) c) (mx (I (o + 1)) i) k))) (o + 1) (bk (I (o + 1)) i (swb (mx (I (o + 3)) c) (mx (I (o + 1)) i) k))) (o + 3) (upd ((va_up (va_up (t0 I o) (o + 3) (bk (I (o + 3)) c (swa (mx (I (o + 3)) c) (mx (I (o + 1)) i) k))) (o + 1) (bk (I (o + 1)) i (swb (mx (I (o + 3)) c) (mx (I (o + 1)) i) k))) (o + 3)) (6 * c + k) (((mx (I (o + 3)) c) k) - (swn (mx (I (o + 3)) c) (mx (I (o + 1)) i) k)))) = (va_up (va_up (t0 I o) (o + 3) (bk (I (o + 3)) c (swa (mx (I (o + 3)) c) (mx (I (o + 1)) i) (k + 1)))) (o + 1) (bk (I (o + 1)) i (swb (mx (I (o + 3)) c) (mx (I (o + 1)) i) k))) := by rw [va_up_ne _ _ (show o + 3 ≠ o + 1 by omega), va_up_self, up_sw _ _ _ (show o + 1 ≠ o + 3 by omega), up_up, bk_u _ _ (by omega) (w := swa (mx (I (o + 3)) c) (mx (I (o + 1)) i) (k + 1)) (by simp [swa]) (fun j hj => swa_n _ _ hj)]
        rw [eI] at hM
        clear eI
        refine lv_aload_n hx hb dX4_sweep_90 rfl (lv_at hl 3 rfl) ?_
        refine fb_get (r := o) hx hb hown hts hin4 hM ((hA.1).1) (ce4 ((hA.1).2)) rfl 2 (by decide) (hts (.fieldLink RX4 9 "FeatherBedsModel" "sackHeaps" "[I") (by decide +kernel)) (fun _ h9 => h9) (v := .ref (sa S (o + 1))) (congrArg (fun z => some (va_rf z)) ((hA.2.1).1)) dX4_sweep_91 ?_
        refine lv_bipush (v := 6) hx hb dX4_sweep_94 (by decide) ?_
        refine lv_iload_n hx hb dX4_sweep_96 rfl (lv_at hl 5 rfl) ?_
        refine lv_imul hx hb dX4_sweep_97 ?_
        refine W.eq (g2 := F0 mv _ ls (.int (nI (6 * i)) :: .ref (sa S (o + 1)) :: [])) (by first | rfl | rw [show (6 * (nI i) : Int32) = nI (6 * i) from pk_mul 6 i]) ?_
        refine lv_iload hx hb dX4_sweep_98 (lv_at hl 1 rfl) ?_
        refine lv_iadd hx hb dX4_sweep_100 ?_
        refine W.eq (g2 := F0 mv _ ls (.int (nI (6 * i + k)) :: .ref (sa S (o + 1)) :: [])) (by first | rfl | rw [show ((nI (6 * i)) + (nI k) : Int32) = nI (6 * i + k) from nI_add _ _]) ?_
        refine lv_dup2_11 hx hb dX4_sweep_101 rfl rfl ?_
        refine fb_iald (r := (o + 1)) hx hb hM ((hA.2.2.1).1) (ce6 ((hA.2.2.1).2.1)) (k := 6 * i + k) (nI_clamp (by omega)) (by rw [(hA.2.2.1).2.2]; exact vp_in_nI (by omega) (by omega)) dX4_sweep_102 ?_
        rw [show (va_up (va_up (t0 I o) (o + 3) (bk (I (o + 3)) c (swa (mx (I (o + 3)) c) (mx (I (o + 1)) i) (k + 1)))) (o + 1) (bk (I (o + 1)) i (swb (mx (I (o + 3)) c) (mx (I (o + 1)) i) k))) (o + 1) (6 * i + k) = (mx (I (o + 1)) i) k from by rw [va_up_self, bk_at _ _ _ (by omega)]; simp [swb]]
        refine lv_iload hx hb dX4_sweep_103 (lv_at hl 0 rfl) ?_
        refine lv_iadd hx hb dX4_sweep_105 ?_
        refine fb_iast (r := (o + 1)) hx hb hM ((hA.2.2.1).1) (ce6 ((hA.2.2.1).2.1)) (k := 6 * i + k) (nI_clamp (by omega)) (by rw [(hA.2.2.1).2.2]; exact vp_in_nI (by omega) (by omega)) dX4_sweep_106 (up_I (j := 6 * i + k) (by rw [ce6 ((hA.2.2.1).2.1)]; simp [va_up])) (w' := (S, V, (sT V), (va_up (va_up (va_up (t0 I o) (o + 3) (bk (I (o + 3)) c (swa (mx (I (o + 3)) c) (mx (I (o + 1)) i) (k + 1)))) (o + 1) (bk (I (o + 1)) i (swb (mx (I (o + 3)) c) (mx (I (o + 1)) i) k))) (o + 1) (upd ((va_up (va_up (t0 I o) (o + 3) (bk (I (o + 3)) c (swa (mx (I (o + 3)) c) (mx (I (o + 1)) i) (k + 1)))) (o + 1) (bk (I (o + 1)) i (swb (mx (I (o + 3)) c) (mx (I (o + 1)) i) k))) (o + 1)) (6 * i + k) (((mx (I (o + 1)) i) k) + (swn (mx (I (o + 3)) c) (mx (I (o + 1)) i) k)))))) ⟨rfl, rfl, rfl⟩ (fun H locs hM => ?_)
        have eI : (va_up (va_up (va_up (t0 I o) (o + 3) (bk (I (o + 3)) c (swa (mx (I (o + 3)) c) (mx (I (o + 1)) i) (k + 1)))) (o + 1) (bk (I (o + 1)) i (swb (mx (I (o + 3)) c) (mx (I (o + 1)) i) k))) (o + 1) (upd ((va_up (va_up (t0 I o) (o + 3) (bk (I (o + 3)) c (swa (mx (I (o + 3)) c) (mx (I (o + 1)) i) (k + 1)))) (o + 1) (bk (I (o + 1)) i (swb (mx (I (o + 3)) c) (mx (I (o + 1)) i) k))) (o + 1)) (6 * i + k) (((mx (I (o + 1)) i) k) + (swn (mx (I (o + 3)) c) (mx (I (o + 1)) i) k)))) = (va_up (va_up (t0 I o) (o + 3) (bk (I (o + 3)) c (swa (mx (I (o + 3)) c) (mx (I (o + 1)) i) (k + 1)))) (o + 1) (bk (I (o + 1)) i (swb (mx (I (o + 3)) c) (mx (I (o + 1)) i) (k + 1)))) := by rw [up_up, va_up_self, bk_u _ _ (by omega) (w := swb (mx (I (o + 3)) c) (mx (I (o + 1)) i) (k + 1)) (by simp [swb]) (fun j hj => swb_n _ _ hj)]
        rw [eI] at hM
        clear eI
        refine lv_iload_n hx hb dX4_sweep_107 rfl (lv_at hl 2 rfl) ?_
        refine lv_iload hx hb dX4_sweep_108 (lv_at hl 0 rfl) ?_
        refine lv_iadd hx hb dX4_sweep_110 ?_
        rw [show ((sws (mx (I (o + 3)) c) (mx (I (o + 1)) i) k) + (swn (mx (I (o + 3)) c) (mx (I (o + 1)) i) k) : Int32) = sws (mx (I (o + 3)) c) (mx (I (o + 1)) i) (k + 1) from rfl]
        refine lv_istore_n (lv' := [(3, .int (sws (mx (I (o + 3)) c) (mx (I (o + 1)) i) (k + 1))), (5, .int (swn (mx (I (o + 3)) c) (mx (I (o + 1)) i) k)), (4, .int (nI k)), (0, .ref (sa S o)), (1, .int (nI c)), (2, .int (nI i))]) hx hb dX4_sweep_111 rfl hl (by decide) rfl (fun ls hl => ?_)
        refine lv_iinc (v := nI (k + 1)) (lv' := [(4, .int (nI (k + 1))), (3, .int (sws (mx (I (o + 3)) c) (mx (I (o + 1)) i) (k + 1))), (5, .int (swn (mx (I (o + 3)) c) (mx (I (o + 1)) i) k)), (0, .ref (sa S o)), (1, .int (nI c)), (2, .int (nI i))]) hx hb dX4_sweep_112 hl (k := 2) rfl (nI_1 _) (by decide) rfl (fun ls hl => ?_)
        refine lv_goto (tgt := 33) hx hb dX4_sweep_115 (by decide) ?_
        exact ih_33 (k + 1) (by omega) (by omega) _ _ hM ls (lv_sub hl [0, 1, 3, 4, 5] rfl)
  rw [show t0 I o = (va_up (va_up (t0 I o) (o + 3) (bk (I (o + 3)) c (swa (mx (I (o + 3)) c) (mx (I (o + 1)) i) 0))) (o + 1) (bk (I (o + 1)) i (swb (mx (I (o + 3)) c) (mx (I (o + 1)) i) 0))) by rw [swa_0, swb_0, bk_id rfl, bk_id rfl]; exact swK0 I o] at hM
  exact LP_33 _ 0 (by omega) (Nat.lt_succ_self _) _ _ hM ls (lv_sub hl [0, 1, 2, 3, 4] rfl)

abbrev rm_X4_chamber : Room := { frames := 2, cells := 0, slots := 0, locals := 48 }
set_option maxHeartbeats 4000000 in
set_option maxRecDepth 100000 in
theorem c_X4_chamber_f0o (D : va_G) (y : Nat → ClassId) (l : Launch) (S : fb_Sh) (V I : fb_V) (o nt : Nat) (cf rf : Nat → Nat) (hA : MdAt S o nt cf rf) (ns : Nat) (df : Nat → Nat) (hF : MF I o ns nt cf rf df) (p0 : Int32) (ho : p0 < 0 ∨ 4 < p0) (p1 : Int32) : CI D y l yX4_chamber wsX4_chamber rm_X4_chamber [.ref (sa S o), .int p0, .int p1] (S, V, (sT V), I) (fun z u => z = 0 ∧ u = (S, V, sT V, (tf I o 1))) 0 0 := by
  refine CI.of (cc := cX4_chamber) (maxL := 3) (ret := (some .int)) (by decide) rfl (Nat.le_of_ble_eq_true rfl) ?_
  intro pv ev s mv below meth cv A hx hb hml hr hown hts hlocks hname hM ls hl
  have hown : s.vm.findClass RX4 = some mv.cls := hown
  have hl : lv_has ls 3 [(0, .ref (sa S o)), (1, .int p0), (2, .int p1)] := hl
  have hin4 : ∀ x ∈ wsX40, x ∈ wsX4_chamber := by decide +kernel
  obtain ⟨Q, hQ⟩ : ∃ Q, Q = MQ below (va_Qi (fun z u => z = 0 ∧ u = (S, V, sT V, (tf I o 1))) (fun u t => fb_P D y A u t) A) (([.ref (sa S o), .int p0, .int p1] : List Value).toArray) s 0 0 A := ⟨_, rfl⟩
  rw [← hQ]
  have hns : ns ≤ 12 := hF.2.2.1
  have hnt : nt ≤ 6 := hF.2.2.2.1
  refine lv_aload_n hx hb dX4_chamber_0 rfl (lv_at hl 0 rfl) ?_
  refine lv_iconst (v := 0) hx hb dX4_chamber_1 (by decide) ?_
  refine fb_put (r := o) hx hb hown hts hin4 tyX4 tyX4_ok nmX4 hM ((hA.1).1) (ce4 ((hA.1).2)) rfl 0 (by decide) (hts (.fieldLink RX4 40 "FeatherBedsModel" "thrown" "I") (by decide +kernel)) (fun _ h9 => h9) rfl (ty := .int) (by decide +kernel) rfl rfl (Nat.le_of_ble_eq_true rfl) dX4_chamber_2 (up_I (j := 0) (v := 0) (by rw [ce4 ((hA.1).2)]; simp [va_up, upd])) (w' := (S, V, (sT V), (va_up I o (upd (I o) 0 0)))) ⟨rfl, rfl, rfl⟩ (fun H locs hM => ?_)
  have eI : (va_up I o (upd (I o) 0 0)) = (t0 I o) := rfl
  rw [eI] at hM
  clear eI
  refine lv_iload_n hx hb dX4_chamber_5 rfl (lv_at hl 1 rfl) ?_
  refine lv_iconst (v := 0) hx hb dX4_chamber_6 (by decide) ?_
  refine lv_iconst (v := 4) hx hb dX4_chamber_7 (by decide) ?_
  refine fb_callSi hx hb hml hown hts hM (As := [.int p0, .int 0, .int 4]) (rest := []) (c_X4_isIn D y l S V (t0 I o) p0 0 4) (cwS 3 hts gX4_chamber_X4_isIn rfl rfl rfl (by decide +kernel) ⟨Nat.le_of_ble_eq_true rfl, Nat.le_of_ble_eq_true rfl⟩) rfl hl.1 rfl (Nat.le_of_ble_eq_true rfl) dX4_chamber_8 ⟨Nat.le_of_ble_eq_true rfl, Nat.le_of_ble_eq_true rfl⟩ (fun v_1 u H locs hp hM => ?_)
  obtain ⟨hv_, hu_⟩ := hp
  have hv_ := Eq.symm hv_
  have hu_ := Eq.symm hu_
  subst hv_
  subst hu_
  rw [show (isN p0 0 4 : Int32) = 0 from isN_0 ho]
  refine lv_if_eq (tgt := 33) hx hb dX4_chamber_11 (by decide) (fun c_2 => ?_) (fun c_2 => absurd (by decide) c_2)
  refine lv_aload_n hx hb dX4_chamber_33 rfl (lv_at hl 0 rfl) ?_
  refine lv_iconst (v := 1) hx hb dX4_chamber_34 (by decide) ?_
  refine fb_callVi (r := o) hx hb hml hown hts hM ((hA.1).1) (ce4 ((hA.1).2)) rfl (As := [.int 1]) (rest := []) (c_X4_fail D y l S V (t0 I o) o nt cf rf hA 1) (cwV 1 hts gX4_chamber_X4_fail rfl rfl rfl (by decide +kernel) ⟨Nat.le_of_ble_eq_true rfl, Nat.le_of_ble_eq_true rfl⟩) rfl hl.1 rfl (Nat.le_of_ble_eq_true rfl) dX4_chamber_35 ⟨Nat.le_of_ble_eq_true rfl, Nat.le_of_ble_eq_true rfl⟩ (fun v_3 u H locs hp hM => ?_)
  obtain ⟨hv_, hu_⟩ := hp
  have hv_ := Eq.symm hv_
  have hu_ := Eq.symm hu_
  subst hv_
  subst hu_
  have eI : (tf (t0 I o) o 1) = (tf I o 1) := tf_t0 _ _ _
  rw [eI] at hM
  clear eI
  rw [hQ]
  exact fb_iret hx hb hr hlocks hM (⟨rfl, rfl⟩) dX4_chamber_38

set_option maxHeartbeats 4000000 in
set_option maxRecDepth 100000 in
theorem c_X4_chamber_f1o (D : va_G) (y : Nat → ClassId) (l : Launch) (S : fb_Sh) (V I : fb_V) (o nt : Nat) (cf rf : Nat → Nat) (hA : MdAt S o nt cf rf) (ns : Nat) (df : Nat → Nat) (hF : MF I o ns nt cf rf df) (q : Nat) (hqa : 0 ≤ q) (hq : q ≤ 4) (p1 : Int32) (ho : p1 < 0 ∨ 8 < p1) : CI D y l yX4_chamber wsX4_chamber rm_X4_chamber [.ref (sa S o), .int (nI q), .int p1] (S, V, (sT V), I) (fun z u => z = 0 ∧ u = (S, V, sT V, (tf I o 1))) 0 0 := by
  refine CI.of (cc := cX4_chamber) (maxL := 3) (ret := (some .int)) (by decide) rfl (Nat.le_of_ble_eq_true rfl) ?_
  intro pv ev s mv below meth cv A hx hb hml hr hown hts hlocks hname hM ls hl
  have hown : s.vm.findClass RX4 = some mv.cls := hown
  have hl : lv_has ls 3 [(0, .ref (sa S o)), (1, .int (nI q)), (2, .int p1)] := hl
  have hin4 : ∀ x ∈ wsX40, x ∈ wsX4_chamber := by decide +kernel
  obtain ⟨Q, hQ⟩ : ∃ Q, Q = MQ below (va_Qi (fun z u => z = 0 ∧ u = (S, V, sT V, (tf I o 1))) (fun u t => fb_P D y A u t) A) (([.ref (sa S o), .int (nI q), .int p1] : List Value).toArray) s 0 0 A := ⟨_, rfl⟩
  rw [← hQ]
  have hns : ns ≤ 12 := hF.2.2.1
  have hnt : nt ≤ 6 := hF.2.2.2.1
  refine lv_aload_n hx hb dX4_chamber_0 rfl (lv_at hl 0 rfl) ?_
  refine lv_iconst (v := 0) hx hb dX4_chamber_1 (by decide) ?_
  refine fb_put (r := o) hx hb hown hts hin4 tyX4 tyX4_ok nmX4 hM ((hA.1).1) (ce4 ((hA.1).2)) rfl 0 (by decide) (hts (.fieldLink RX4 40 "FeatherBedsModel" "thrown" "I") (by decide +kernel)) (fun _ h9 => h9) rfl (ty := .int) (by decide +kernel) rfl rfl (Nat.le_of_ble_eq_true rfl) dX4_chamber_2 (up_I (j := 0) (v := 0) (by rw [ce4 ((hA.1).2)]; simp [va_up, upd])) (w' := (S, V, (sT V), (va_up I o (upd (I o) 0 0)))) ⟨rfl, rfl, rfl⟩ (fun H locs hM => ?_)
  have eI : (va_up I o (upd (I o) 0 0)) = (t0 I o) := rfl
  rw [eI] at hM
  clear eI
  refine lv_iload_n hx hb dX4_chamber_5 rfl (lv_at hl 1 rfl) ?_
  refine lv_iconst (v := 0) hx hb dX4_chamber_6 (by decide) ?_
  refine lv_iconst (v := 4) hx hb dX4_chamber_7 (by decide) ?_
  refine fb_callSi hx hb hml hown hts hM (As := [.int (nI q), .int 0, .int 4]) (rest := []) (c_X4_isIn D y l S V (t0 I o) (nI q) 0 4) (cwS 3 hts gX4_chamber_X4_isIn rfl rfl rfl (by decide +kernel) ⟨Nat.le_of_ble_eq_true rfl, Nat.le_of_ble_eq_true rfl⟩) rfl hl.1 rfl (Nat.le_of_ble_eq_true rfl) dX4_chamber_8 ⟨Nat.le_of_ble_eq_true rfl, Nat.le_of_ble_eq_true rfl⟩ (fun v_1 u H locs hp hM => ?_)
  obtain ⟨hv_, hu_⟩ := hp
  have hv_ := Eq.symm hv_
  have hu_ := Eq.symm hu_
  subst hv_
  subst hu_
  rw [show (isN (nI q) 0 4 : Int32) = 1 from isN_k (lo := 0) (hi := 4) (by decide) hqa hq]
  refine lv_if_eq (tgt := 33) hx hb dX4_chamber_11 (by decide) (fun c_2 => absurd c_2 (by decide)) (fun c_2 => ?_)
  refine lv_iload_n hx hb dX4_chamber_14 rfl (lv_at hl 2 rfl) ?_
  refine lv_iconst (v := 0) hx hb dX4_chamber_15 (by decide) ?_
  refine lv_bipush (v := 8) hx hb dX4_chamber_16 (by decide) ?_
  refine fb_callSi hx hb hml hown hts hM (As := [.int p1, .int 0, .int 8]) (rest := []) (c_X4_isIn D y l S V (t0 I o) p1 0 8) (cwS 3 hts gX4_chamber_X4_isIn rfl rfl rfl (by decide +kernel) ⟨Nat.le_of_ble_eq_true rfl, Nat.le_of_ble_eq_true rfl⟩) rfl hl.1 rfl (Nat.le_of_ble_eq_true rfl) dX4_chamber_18 ⟨Nat.le_of_ble_eq_true rfl, Nat.le_of_ble_eq_true rfl⟩ (fun v_3 u H locs hp hM => ?_)
  obtain ⟨hv_, hu_⟩ := hp
  have hv_ := Eq.symm hv_
  have hu_ := Eq.symm hu_
  subst hv_
  subst hu_
  rw [show (isN p1 0 8 : Int32) = 0 from isN_0 ho]
  refine lv_if_eq (tgt := 33) hx hb dX4_chamber_21 (by decide) (fun c_4 => ?_) (fun c_4 => absurd (by decide) c_4)
  refine lv_aload_n hx hb dX4_chamber_33 rfl (lv_at hl 0 rfl) ?_
  refine lv_iconst (v := 1) hx hb dX4_chamber_34 (by decide) ?_
  refine fb_callVi (r := o) hx hb hml hown hts hM ((hA.1).1) (ce4 ((hA.1).2)) rfl (As := [.int 1]) (rest := []) (c_X4_fail D y l S V (t0 I o) o nt cf rf hA 1) (cwV 1 hts gX4_chamber_X4_fail rfl rfl rfl (by decide +kernel) ⟨Nat.le_of_ble_eq_true rfl, Nat.le_of_ble_eq_true rfl⟩) rfl hl.1 rfl (Nat.le_of_ble_eq_true rfl) dX4_chamber_35 ⟨Nat.le_of_ble_eq_true rfl, Nat.le_of_ble_eq_true rfl⟩ (fun v_5 u H locs hp hM => ?_)
  obtain ⟨hv_, hu_⟩ := hp
  have hv_ := Eq.symm hv_
  have hu_ := Eq.symm hu_
  subst hv_
  subst hu_
  have eI : (tf (t0 I o) o 1) = (tf I o 1) := tf_t0 _ _ _
  rw [eI] at hM
  clear eI
  rw [hQ]
  exact fb_iret hx hb hr hlocks hM (⟨rfl, rfl⟩) dX4_chamber_38

set_option maxHeartbeats 4000000 in
set_option maxRecDepth 100000 in
theorem c_X4_chamber_0 (D : va_G) (y : Nat → ClassId) (l : Launch) (S : fb_Sh) (V I : fb_V) (o nt : Nat) (cf rf : Nat → Nat) (hA : MdAt S o nt cf rf) (ns : Nat) (df : Nat → Nat) (hF : MF I o ns nt cf rf df) (q : Nat) (hq : q < 5) : CI D y l yX4_chamber wsX4_chamber rm_X4_chamber [.ref (sa S o), .int (nI q), .int 0] (S, V, (sT V), I) (fun z u => z = chTm (I (o + 3)) q 0 ∧ u = (S, V, sT V, t0 I o)) 0 0 := by
  refine CI.of (cc := cX4_chamber) (maxL := 3) (ret := (some .int)) (by decide) rfl (Nat.le_of_ble_eq_true rfl) ?_
  intro pv ev s mv below meth cv A hx hb hml hr hown hts hlocks hname hM ls hl
  have hown : s.vm.findClass RX4 = some mv.cls := hown
  have hl : lv_has ls 3 [(0, .ref (sa S o)), (1, .int (nI q)), (2, .int 0)] := hl
  have hin4 : ∀ x ∈ wsX40, x ∈ wsX4_chamber := by decide +kernel
  obtain ⟨Q, hQ⟩ : ∃ Q, Q = MQ below (va_Qi (fun z u => z = chTm (I (o + 3)) q 0 ∧ u = (S, V, sT V, t0 I o)) (fun u t => fb_P D y A u t) A) (([.ref (sa S o), .int (nI q), .int 0] : List Value).toArray) s 0 0 A := ⟨_, rfl⟩
  rw [← hQ]
  have hns : ns ≤ 12 := hF.2.2.1
  have hnt : nt ≤ 6 := hF.2.2.2.1
  have hqa : 0 ≤ q := Nat.zero_le _
  refine lv_aload_n hx hb dX4_chamber_0 rfl (lv_at hl 0 rfl) ?_
  refine lv_iconst (v := 0) hx hb dX4_chamber_1 (by decide) ?_
  refine fb_put (r := o) hx hb hown hts hin4 tyX4 tyX4_ok nmX4 hM ((hA.1).1) (ce4 ((hA.1).2)) rfl 0 (by decide) (hts (.fieldLink RX4 40 "FeatherBedsModel" "thrown" "I") (by decide +kernel)) (fun _ h9 => h9) rfl (ty := .int) (by decide +kernel) rfl rfl (Nat.le_of_ble_eq_true rfl) dX4_chamber_2 (up_I (j := 0) (v := 0) (by rw [ce4 ((hA.1).2)]; simp [va_up, upd])) (w' := (S, V, (sT V), (va_up I o (upd (I o) 0 0)))) ⟨rfl, rfl, rfl⟩ (fun H locs hM => ?_)
  have eI : (va_up I o (upd (I o) 0 0)) = (t0 I o) := rfl
  rw [eI] at hM
  clear eI
  refine lv_iload_n hx hb dX4_chamber_5 rfl (lv_at hl 1 rfl) ?_
  refine lv_iconst (v := 0) hx hb dX4_chamber_6 (by decide) ?_
  refine lv_iconst (v := 4) hx hb dX4_chamber_7 (by decide) ?_
  refine fb_callSi hx hb hml hown hts hM (As := [.int (nI q), .int 0, .int 4]) (rest := []) (c_X4_isIn D y l S V (t0 I o) (nI q) 0 4) (cwS 3 hts gX4_chamber_X4_isIn rfl rfl rfl (by decide +kernel) ⟨Nat.le_of_ble_eq_true rfl, Nat.le_of_ble_eq_true rfl⟩) rfl hl.1 rfl (Nat.le_of_ble_eq_true rfl) dX4_chamber_8 ⟨Nat.le_of_ble_eq_true rfl, Nat.le_of_ble_eq_true rfl⟩ (fun v_1 u H locs hp hM => ?_)
  obtain ⟨hv_, hu_⟩ := hp
  have hv_ := Eq.symm hv_
  have hu_ := Eq.symm hu_
  subst hv_
  subst hu_
  rw [show (isN (nI q) 0 4 : Int32) = 1 from isN_k (lo := 0) (hi := 4) (by decide) hqa (by omega)]
  refine lv_if_eq (tgt := 33) hx hb dX4_chamber_11 (by decide) (fun c_2 => absurd c_2 (by decide)) (fun c_2 => ?_)
  refine lv_iload_n hx hb dX4_chamber_14 rfl (lv_at hl 2 rfl) ?_
  refine lv_iconst (v := 0) hx hb dX4_chamber_15 (by decide) ?_
  refine lv_bipush (v := 8) hx hb dX4_chamber_16 (by decide) ?_
  refine fb_callSi hx hb hml hown hts hM (As := [.int 0, .int 0, .int 8]) (rest := []) (c_X4_isIn D y l S V (t0 I o) 0 0 8) (cwS 3 hts gX4_chamber_X4_isIn rfl rfl rfl (by decide +kernel) ⟨Nat.le_of_ble_eq_true rfl, Nat.le_of_ble_eq_true rfl⟩) rfl hl.1 rfl (Nat.le_of_ble_eq_true rfl) dX4_chamber_18 ⟨Nat.le_of_ble_eq_true rfl, Nat.le_of_ble_eq_true rfl⟩ (fun v_3 u H locs hp hM => ?_)
  obtain ⟨hv_, hu_⟩ := hp
  have hv_ := Eq.symm hv_
  have hu_ := Eq.symm hu_
  subst hv_
  subst hu_
  rw [show (isN 0 0 8 : Int32) = 1 from by decide]
  refine lv_if_eq (tgt := 33) hx hb dX4_chamber_21 (by decide) (fun c_4 => absurd c_4 (by decide)) (fun c_4 => ?_)
  refine lv_aload_n hx hb dX4_chamber_24 rfl (lv_at hl 0 rfl) ?_
  refine lv_iload_n hx hb dX4_chamber_25 rfl (lv_at hl 1 rfl) ?_
  refine lv_iload_n hx hb dX4_chamber_26 rfl (lv_at hl 2 rfl) ?_
  refine fb_callVi (r := o) hx hb hml hown hts hM ((hA.1).1) (ce4 ((hA.1).2)) rfl (As := [.int (nI q), .int 0]) (rest := []) (c_X4_chamberTold_0 D y l S V (t0 I o) o nt cf rf hA ns df hF.t0 q hq) (cwV 2 hts gX4_chamber_X4_chamberTold rfl rfl rfl (by decide +kernel) ⟨Nat.le_of_ble_eq_true rfl, Nat.le_of_ble_eq_true rfl⟩) rfl hl.1 rfl (Nat.le_of_ble_eq_true rfl) dX4_chamber_27 ⟨Nat.le_of_ble_eq_true rfl, Nat.le_of_ble_eq_true rfl⟩ (fun v_5 u H locs hp hM => ?_)
  obtain ⟨hv_, hu_⟩ := hp
  have hv_ := Eq.symm hv_
  have hu_ := Eq.symm hu_
  subst hv_
  subst hu_
  refine lv_goto (tgt := 38) hx hb dX4_chamber_30 (by decide) ?_
  rw [hQ]
  exact fb_iret hx hb hr hlocks hM (⟨by rw [t0_ne I (show o + 3 ≠ o by omega)], rfl⟩) dX4_chamber_38

set_option maxHeartbeats 4000000 in
set_option maxRecDepth 100000 in
theorem c_X4_chamber_1 (D : va_G) (y : Nat → ClassId) (l : Launch) (S : fb_Sh) (V I : fb_V) (o nt : Nat) (cf rf : Nat → Nat) (hA : MdAt S o nt cf rf) (ns : Nat) (df : Nat → Nat) (hF : MF I o ns nt cf rf df) (q : Nat) (hq : q < 5) : CI D y l yX4_chamber wsX4_chamber rm_X4_chamber [.ref (sa S o), .int (nI q), .int 1] (S, V, (sT V), I) (fun z u => z = chTm (I (o + 3)) q 1 ∧ u = (S, V, sT V, t0 I o)) 0 0 := by
  refine CI.of (cc := cX4_chamber) (maxL := 3) (ret := (some .int)) (by decide) rfl (Nat.le_of_ble_eq_true rfl) ?_
  intro pv ev s mv below meth cv A hx hb hml hr hown hts hlocks hname hM ls hl
  have hown : s.vm.findClass RX4 = some mv.cls := hown
  have hl : lv_has ls 3 [(0, .ref (sa S o)), (1, .int (nI q)), (2, .int 1)] := hl
  have hin4 : ∀ x ∈ wsX40, x ∈ wsX4_chamber := by decide +kernel
  obtain ⟨Q, hQ⟩ : ∃ Q, Q = MQ below (va_Qi (fun z u => z = chTm (I (o + 3)) q 1 ∧ u = (S, V, sT V, t0 I o)) (fun u t => fb_P D y A u t) A) (([.ref (sa S o), .int (nI q), .int 1] : List Value).toArray) s 0 0 A := ⟨_, rfl⟩
  rw [← hQ]
  have hns : ns ≤ 12 := hF.2.2.1
  have hnt : nt ≤ 6 := hF.2.2.2.1
  have hqa : 0 ≤ q := Nat.zero_le _
  refine lv_aload_n hx hb dX4_chamber_0 rfl (lv_at hl 0 rfl) ?_
  refine lv_iconst (v := 0) hx hb dX4_chamber_1 (by decide) ?_
  refine fb_put (r := o) hx hb hown hts hin4 tyX4 tyX4_ok nmX4 hM ((hA.1).1) (ce4 ((hA.1).2)) rfl 0 (by decide) (hts (.fieldLink RX4 40 "FeatherBedsModel" "thrown" "I") (by decide +kernel)) (fun _ h9 => h9) rfl (ty := .int) (by decide +kernel) rfl rfl (Nat.le_of_ble_eq_true rfl) dX4_chamber_2 (up_I (j := 0) (v := 0) (by rw [ce4 ((hA.1).2)]; simp [va_up, upd])) (w' := (S, V, (sT V), (va_up I o (upd (I o) 0 0)))) ⟨rfl, rfl, rfl⟩ (fun H locs hM => ?_)
  have eI : (va_up I o (upd (I o) 0 0)) = (t0 I o) := rfl
  rw [eI] at hM
  clear eI
  refine lv_iload_n hx hb dX4_chamber_5 rfl (lv_at hl 1 rfl) ?_
  refine lv_iconst (v := 0) hx hb dX4_chamber_6 (by decide) ?_
  refine lv_iconst (v := 4) hx hb dX4_chamber_7 (by decide) ?_
  refine fb_callSi hx hb hml hown hts hM (As := [.int (nI q), .int 0, .int 4]) (rest := []) (c_X4_isIn D y l S V (t0 I o) (nI q) 0 4) (cwS 3 hts gX4_chamber_X4_isIn rfl rfl rfl (by decide +kernel) ⟨Nat.le_of_ble_eq_true rfl, Nat.le_of_ble_eq_true rfl⟩) rfl hl.1 rfl (Nat.le_of_ble_eq_true rfl) dX4_chamber_8 ⟨Nat.le_of_ble_eq_true rfl, Nat.le_of_ble_eq_true rfl⟩ (fun v_1 u H locs hp hM => ?_)
  obtain ⟨hv_, hu_⟩ := hp
  have hv_ := Eq.symm hv_
  have hu_ := Eq.symm hu_
  subst hv_
  subst hu_
  rw [show (isN (nI q) 0 4 : Int32) = 1 from isN_k (lo := 0) (hi := 4) (by decide) hqa (by omega)]
  refine lv_if_eq (tgt := 33) hx hb dX4_chamber_11 (by decide) (fun c_2 => absurd c_2 (by decide)) (fun c_2 => ?_)
  refine lv_iload_n hx hb dX4_chamber_14 rfl (lv_at hl 2 rfl) ?_
  refine lv_iconst (v := 0) hx hb dX4_chamber_15 (by decide) ?_
  refine lv_bipush (v := 8) hx hb dX4_chamber_16 (by decide) ?_
  refine fb_callSi hx hb hml hown hts hM (As := [.int 1, .int 0, .int 8]) (rest := []) (c_X4_isIn D y l S V (t0 I o) 1 0 8) (cwS 3 hts gX4_chamber_X4_isIn rfl rfl rfl (by decide +kernel) ⟨Nat.le_of_ble_eq_true rfl, Nat.le_of_ble_eq_true rfl⟩) rfl hl.1 rfl (Nat.le_of_ble_eq_true rfl) dX4_chamber_18 ⟨Nat.le_of_ble_eq_true rfl, Nat.le_of_ble_eq_true rfl⟩ (fun v_3 u H locs hp hM => ?_)
  obtain ⟨hv_, hu_⟩ := hp
  have hv_ := Eq.symm hv_
  have hu_ := Eq.symm hu_
  subst hv_
  subst hu_
  rw [show (isN 1 0 8 : Int32) = 1 from by decide]
  refine lv_if_eq (tgt := 33) hx hb dX4_chamber_21 (by decide) (fun c_4 => absurd c_4 (by decide)) (fun c_4 => ?_)
  refine lv_aload_n hx hb dX4_chamber_24 rfl (lv_at hl 0 rfl) ?_
  refine lv_iload_n hx hb dX4_chamber_25 rfl (lv_at hl 1 rfl) ?_
  refine lv_iload_n hx hb dX4_chamber_26 rfl (lv_at hl 2 rfl) ?_
  refine fb_callVi (r := o) hx hb hml hown hts hM ((hA.1).1) (ce4 ((hA.1).2)) rfl (As := [.int (nI q), .int 1]) (rest := []) (c_X4_chamberTold_1 D y l S V (t0 I o) o nt cf rf hA ns df hF.t0 q hq) (cwV 2 hts gX4_chamber_X4_chamberTold rfl rfl rfl (by decide +kernel) ⟨Nat.le_of_ble_eq_true rfl, Nat.le_of_ble_eq_true rfl⟩) rfl hl.1 rfl (Nat.le_of_ble_eq_true rfl) dX4_chamber_27 ⟨Nat.le_of_ble_eq_true rfl, Nat.le_of_ble_eq_true rfl⟩ (fun v_5 u H locs hp hM => ?_)
  obtain ⟨hv_, hu_⟩ := hp
  have hv_ := Eq.symm hv_
  have hu_ := Eq.symm hu_
  subst hv_
  subst hu_
  refine lv_goto (tgt := 38) hx hb dX4_chamber_30 (by decide) ?_
  rw [hQ]
  exact fb_iret hx hb hr hlocks hM (⟨by rw [t0_ne I (show o + 3 ≠ o by omega)], rfl⟩) dX4_chamber_38

set_option maxHeartbeats 4000000 in
set_option maxRecDepth 100000 in
theorem c_X4_chamber_2 (D : va_G) (y : Nat → ClassId) (l : Launch) (S : fb_Sh) (V I : fb_V) (o nt : Nat) (cf rf : Nat → Nat) (hA : MdAt S o nt cf rf) (ns : Nat) (df : Nat → Nat) (hF : MF I o ns nt cf rf df) (q : Nat) (hq : q < 5) : CI D y l yX4_chamber wsX4_chamber rm_X4_chamber [.ref (sa S o), .int (nI q), .int 2] (S, V, (sT V), I) (fun z u => z = chTm (I (o + 3)) q 2 ∧ u = (S, V, sT V, t0 I o)) 0 0 := by
  refine CI.of (cc := cX4_chamber) (maxL := 3) (ret := (some .int)) (by decide) rfl (Nat.le_of_ble_eq_true rfl) ?_
  intro pv ev s mv below meth cv A hx hb hml hr hown hts hlocks hname hM ls hl
  have hown : s.vm.findClass RX4 = some mv.cls := hown
  have hl : lv_has ls 3 [(0, .ref (sa S o)), (1, .int (nI q)), (2, .int 2)] := hl
  have hin4 : ∀ x ∈ wsX40, x ∈ wsX4_chamber := by decide +kernel
  obtain ⟨Q, hQ⟩ : ∃ Q, Q = MQ below (va_Qi (fun z u => z = chTm (I (o + 3)) q 2 ∧ u = (S, V, sT V, t0 I o)) (fun u t => fb_P D y A u t) A) (([.ref (sa S o), .int (nI q), .int 2] : List Value).toArray) s 0 0 A := ⟨_, rfl⟩
  rw [← hQ]
  have hns : ns ≤ 12 := hF.2.2.1
  have hnt : nt ≤ 6 := hF.2.2.2.1
  have hqa : 0 ≤ q := Nat.zero_le _
  refine lv_aload_n hx hb dX4_chamber_0 rfl (lv_at hl 0 rfl) ?_
  refine lv_iconst (v := 0) hx hb dX4_chamber_1 (by decide) ?_
  refine fb_put (r := o) hx hb hown hts hin4 tyX4 tyX4_ok nmX4 hM ((hA.1).1) (ce4 ((hA.1).2)) rfl 0 (by decide) (hts (.fieldLink RX4 40 "FeatherBedsModel" "thrown" "I") (by decide +kernel)) (fun _ h9 => h9) rfl (ty := .int) (by decide +kernel) rfl rfl (Nat.le_of_ble_eq_true rfl) dX4_chamber_2 (up_I (j := 0) (v := 0) (by rw [ce4 ((hA.1).2)]; simp [va_up, upd])) (w' := (S, V, (sT V), (va_up I o (upd (I o) 0 0)))) ⟨rfl, rfl, rfl⟩ (fun H locs hM => ?_)
  have eI : (va_up I o (upd (I o) 0 0)) = (t0 I o) := rfl
  rw [eI] at hM
  clear eI
  refine lv_iload_n hx hb dX4_chamber_5 rfl (lv_at hl 1 rfl) ?_
  refine lv_iconst (v := 0) hx hb dX4_chamber_6 (by decide) ?_
  refine lv_iconst (v := 4) hx hb dX4_chamber_7 (by decide) ?_
  refine fb_callSi hx hb hml hown hts hM (As := [.int (nI q), .int 0, .int 4]) (rest := []) (c_X4_isIn D y l S V (t0 I o) (nI q) 0 4) (cwS 3 hts gX4_chamber_X4_isIn rfl rfl rfl (by decide +kernel) ⟨Nat.le_of_ble_eq_true rfl, Nat.le_of_ble_eq_true rfl⟩) rfl hl.1 rfl (Nat.le_of_ble_eq_true rfl) dX4_chamber_8 ⟨Nat.le_of_ble_eq_true rfl, Nat.le_of_ble_eq_true rfl⟩ (fun v_1 u H locs hp hM => ?_)
  obtain ⟨hv_, hu_⟩ := hp
  have hv_ := Eq.symm hv_
  have hu_ := Eq.symm hu_
  subst hv_
  subst hu_
  rw [show (isN (nI q) 0 4 : Int32) = 1 from isN_k (lo := 0) (hi := 4) (by decide) hqa (by omega)]
  refine lv_if_eq (tgt := 33) hx hb dX4_chamber_11 (by decide) (fun c_2 => absurd c_2 (by decide)) (fun c_2 => ?_)
  refine lv_iload_n hx hb dX4_chamber_14 rfl (lv_at hl 2 rfl) ?_
  refine lv_iconst (v := 0) hx hb dX4_chamber_15 (by decide) ?_
  refine lv_bipush (v := 8) hx hb dX4_chamber_16 (by decide) ?_
  refine fb_callSi hx hb hml hown hts hM (As := [.int 2, .int 0, .int 8]) (rest := []) (c_X4_isIn D y l S V (t0 I o) 2 0 8) (cwS 3 hts gX4_chamber_X4_isIn rfl rfl rfl (by decide +kernel) ⟨Nat.le_of_ble_eq_true rfl, Nat.le_of_ble_eq_true rfl⟩) rfl hl.1 rfl (Nat.le_of_ble_eq_true rfl) dX4_chamber_18 ⟨Nat.le_of_ble_eq_true rfl, Nat.le_of_ble_eq_true rfl⟩ (fun v_3 u H locs hp hM => ?_)
  obtain ⟨hv_, hu_⟩ := hp
  have hv_ := Eq.symm hv_
  have hu_ := Eq.symm hu_
  subst hv_
  subst hu_
  rw [show (isN 2 0 8 : Int32) = 1 from by decide]
  refine lv_if_eq (tgt := 33) hx hb dX4_chamber_21 (by decide) (fun c_4 => absurd c_4 (by decide)) (fun c_4 => ?_)
  refine lv_aload_n hx hb dX4_chamber_24 rfl (lv_at hl 0 rfl) ?_
  refine lv_iload_n hx hb dX4_chamber_25 rfl (lv_at hl 1 rfl) ?_
  refine lv_iload_n hx hb dX4_chamber_26 rfl (lv_at hl 2 rfl) ?_
  refine fb_callVi (r := o) hx hb hml hown hts hM ((hA.1).1) (ce4 ((hA.1).2)) rfl (As := [.int (nI q), .int 2]) (rest := []) (c_X4_chamberTold_2 D y l S V (t0 I o) o nt cf rf hA ns df hF.t0 q hq) (cwV 2 hts gX4_chamber_X4_chamberTold rfl rfl rfl (by decide +kernel) ⟨Nat.le_of_ble_eq_true rfl, Nat.le_of_ble_eq_true rfl⟩) rfl hl.1 rfl (Nat.le_of_ble_eq_true rfl) dX4_chamber_27 ⟨Nat.le_of_ble_eq_true rfl, Nat.le_of_ble_eq_true rfl⟩ (fun v_5 u H locs hp hM => ?_)
  obtain ⟨hv_, hu_⟩ := hp
  have hv_ := Eq.symm hv_
  have hu_ := Eq.symm hu_
  subst hv_
  subst hu_
  refine lv_goto (tgt := 38) hx hb dX4_chamber_30 (by decide) ?_
  rw [hQ]
  exact fb_iret hx hb hr hlocks hM (⟨by rw [t0_ne I (show o + 3 ≠ o by omega)], rfl⟩) dX4_chamber_38

set_option maxHeartbeats 4000000 in
set_option maxRecDepth 100000 in
theorem c_X4_chamber_3 (D : va_G) (y : Nat → ClassId) (l : Launch) (S : fb_Sh) (V I : fb_V) (o nt : Nat) (cf rf : Nat → Nat) (hA : MdAt S o nt cf rf) (ns : Nat) (df : Nat → Nat) (hF : MF I o ns nt cf rf df) (q : Nat) (hq : q < 5) : CI D y l yX4_chamber wsX4_chamber rm_X4_chamber [.ref (sa S o), .int (nI q), .int 3] (S, V, (sT V), I) (fun z u => z = chTm (I (o + 3)) q 3 ∧ u = (S, V, sT V, t0 I o)) 0 0 := by
  refine CI.of (cc := cX4_chamber) (maxL := 3) (ret := (some .int)) (by decide) rfl (Nat.le_of_ble_eq_true rfl) ?_
  intro pv ev s mv below meth cv A hx hb hml hr hown hts hlocks hname hM ls hl
  have hown : s.vm.findClass RX4 = some mv.cls := hown
  have hl : lv_has ls 3 [(0, .ref (sa S o)), (1, .int (nI q)), (2, .int 3)] := hl
  have hin4 : ∀ x ∈ wsX40, x ∈ wsX4_chamber := by decide +kernel
  obtain ⟨Q, hQ⟩ : ∃ Q, Q = MQ below (va_Qi (fun z u => z = chTm (I (o + 3)) q 3 ∧ u = (S, V, sT V, t0 I o)) (fun u t => fb_P D y A u t) A) (([.ref (sa S o), .int (nI q), .int 3] : List Value).toArray) s 0 0 A := ⟨_, rfl⟩
  rw [← hQ]
  have hns : ns ≤ 12 := hF.2.2.1
  have hnt : nt ≤ 6 := hF.2.2.2.1
  have hqa : 0 ≤ q := Nat.zero_le _
  refine lv_aload_n hx hb dX4_chamber_0 rfl (lv_at hl 0 rfl) ?_
  refine lv_iconst (v := 0) hx hb dX4_chamber_1 (by decide) ?_
  refine fb_put (r := o) hx hb hown hts hin4 tyX4 tyX4_ok nmX4 hM ((hA.1).1) (ce4 ((hA.1).2)) rfl 0 (by decide) (hts (.fieldLink RX4 40 "FeatherBedsModel" "thrown" "I") (by decide +kernel)) (fun _ h9 => h9) rfl (ty := .int) (by decide +kernel) rfl rfl (Nat.le_of_ble_eq_true rfl) dX4_chamber_2 (up_I (j := 0) (v := 0) (by rw [ce4 ((hA.1).2)]; simp [va_up, upd])) (w' := (S, V, (sT V), (va_up I o (upd (I o) 0 0)))) ⟨rfl, rfl, rfl⟩ (fun H locs hM => ?_)
  have eI : (va_up I o (upd (I o) 0 0)) = (t0 I o) := rfl
  rw [eI] at hM
  clear eI
  refine lv_iload_n hx hb dX4_chamber_5 rfl (lv_at hl 1 rfl) ?_
  refine lv_iconst (v := 0) hx hb dX4_chamber_6 (by decide) ?_
  refine lv_iconst (v := 4) hx hb dX4_chamber_7 (by decide) ?_
  refine fb_callSi hx hb hml hown hts hM (As := [.int (nI q), .int 0, .int 4]) (rest := []) (c_X4_isIn D y l S V (t0 I o) (nI q) 0 4) (cwS 3 hts gX4_chamber_X4_isIn rfl rfl rfl (by decide +kernel) ⟨Nat.le_of_ble_eq_true rfl, Nat.le_of_ble_eq_true rfl⟩) rfl hl.1 rfl (Nat.le_of_ble_eq_true rfl) dX4_chamber_8 ⟨Nat.le_of_ble_eq_true rfl, Nat.le_of_ble_eq_true rfl⟩ (fun v_1 u H locs hp hM => ?_)
  obtain ⟨hv_, hu_⟩ := hp
  have hv_ := Eq.symm hv_
  have hu_ := Eq.symm hu_
  subst hv_
  subst hu_
  rw [show (isN (nI q) 0 4 : Int32) = 1 from isN_k (lo := 0) (hi := 4) (by decide) hqa (by omega)]
  refine lv_if_eq (tgt := 33) hx hb dX4_chamber_11 (by decide) (fun c_2 => absurd c_2 (by decide)) (fun c_2 => ?_)
  refine lv_iload_n hx hb dX4_chamber_14 rfl (lv_at hl 2 rfl) ?_
  refine lv_iconst (v := 0) hx hb dX4_chamber_15 (by decide) ?_
  refine lv_bipush (v := 8) hx hb dX4_chamber_16 (by decide) ?_
  refine fb_callSi hx hb hml hown hts hM (As := [.int 3, .int 0, .int 8]) (rest := []) (c_X4_isIn D y l S V (t0 I o) 3 0 8) (cwS 3 hts gX4_chamber_X4_isIn rfl rfl rfl (by decide +kernel) ⟨Nat.le_of_ble_eq_true rfl, Nat.le_of_ble_eq_true rfl⟩) rfl hl.1 rfl (Nat.le_of_ble_eq_true rfl) dX4_chamber_18 ⟨Nat.le_of_ble_eq_true rfl, Nat.le_of_ble_eq_true rfl⟩ (fun v_3 u H locs hp hM => ?_)
  obtain ⟨hv_, hu_⟩ := hp
  have hv_ := Eq.symm hv_
  have hu_ := Eq.symm hu_
  subst hv_
  subst hu_
  rw [show (isN 3 0 8 : Int32) = 1 from by decide]
  refine lv_if_eq (tgt := 33) hx hb dX4_chamber_21 (by decide) (fun c_4 => absurd c_4 (by decide)) (fun c_4 => ?_)
  refine lv_aload_n hx hb dX4_chamber_24 rfl (lv_at hl 0 rfl) ?_
  refine lv_iload_n hx hb dX4_chamber_25 rfl (lv_at hl 1 rfl) ?_
  refine lv_iload_n hx hb dX4_chamber_26 rfl (lv_at hl 2 rfl) ?_
  refine fb_callVi (r := o) hx hb hml hown hts hM ((hA.1).1) (ce4 ((hA.1).2)) rfl (As := [.int (nI q), .int 3]) (rest := []) (c_X4_chamberTold_3 D y l S V (t0 I o) o nt cf rf hA ns df hF.t0 q hq) (cwV 2 hts gX4_chamber_X4_chamberTold rfl rfl rfl (by decide +kernel) ⟨Nat.le_of_ble_eq_true rfl, Nat.le_of_ble_eq_true rfl⟩) rfl hl.1 rfl (Nat.le_of_ble_eq_true rfl) dX4_chamber_27 ⟨Nat.le_of_ble_eq_true rfl, Nat.le_of_ble_eq_true rfl⟩ (fun v_5 u H locs hp hM => ?_)
  obtain ⟨hv_, hu_⟩ := hp
  have hv_ := Eq.symm hv_
  have hu_ := Eq.symm hu_
  subst hv_
  subst hu_
  refine lv_goto (tgt := 38) hx hb dX4_chamber_30 (by decide) ?_
  rw [hQ]
  exact fb_iret hx hb hr hlocks hM (⟨by rw [t0_ne I (show o + 3 ≠ o by omega)], rfl⟩) dX4_chamber_38

set_option maxHeartbeats 4000000 in
set_option maxRecDepth 100000 in
theorem c_X4_chamber_4 (D : va_G) (y : Nat → ClassId) (l : Launch) (S : fb_Sh) (V I : fb_V) (o nt : Nat) (cf rf : Nat → Nat) (hA : MdAt S o nt cf rf) (ns : Nat) (df : Nat → Nat) (hF : MF I o ns nt cf rf df) (q : Nat) (hq : q < 5) : CI D y l yX4_chamber wsX4_chamber rm_X4_chamber [.ref (sa S o), .int (nI q), .int 4] (S, V, (sT V), I) (fun z u => z = chTm (I (o + 3)) q 4 ∧ u = (S, V, sT V, t0 I o)) 0 0 := by
  refine CI.of (cc := cX4_chamber) (maxL := 3) (ret := (some .int)) (by decide) rfl (Nat.le_of_ble_eq_true rfl) ?_
  intro pv ev s mv below meth cv A hx hb hml hr hown hts hlocks hname hM ls hl
  have hown : s.vm.findClass RX4 = some mv.cls := hown
  have hl : lv_has ls 3 [(0, .ref (sa S o)), (1, .int (nI q)), (2, .int 4)] := hl
  have hin4 : ∀ x ∈ wsX40, x ∈ wsX4_chamber := by decide +kernel
  obtain ⟨Q, hQ⟩ : ∃ Q, Q = MQ below (va_Qi (fun z u => z = chTm (I (o + 3)) q 4 ∧ u = (S, V, sT V, t0 I o)) (fun u t => fb_P D y A u t) A) (([.ref (sa S o), .int (nI q), .int 4] : List Value).toArray) s 0 0 A := ⟨_, rfl⟩
  rw [← hQ]
  have hns : ns ≤ 12 := hF.2.2.1
  have hnt : nt ≤ 6 := hF.2.2.2.1
  have hqa : 0 ≤ q := Nat.zero_le _
  refine lv_aload_n hx hb dX4_chamber_0 rfl (lv_at hl 0 rfl) ?_
  refine lv_iconst (v := 0) hx hb dX4_chamber_1 (by decide) ?_
  refine fb_put (r := o) hx hb hown hts hin4 tyX4 tyX4_ok nmX4 hM ((hA.1).1) (ce4 ((hA.1).2)) rfl 0 (by decide) (hts (.fieldLink RX4 40 "FeatherBedsModel" "thrown" "I") (by decide +kernel)) (fun _ h9 => h9) rfl (ty := .int) (by decide +kernel) rfl rfl (Nat.le_of_ble_eq_true rfl) dX4_chamber_2 (up_I (j := 0) (v := 0) (by rw [ce4 ((hA.1).2)]; simp [va_up, upd])) (w' := (S, V, (sT V), (va_up I o (upd (I o) 0 0)))) ⟨rfl, rfl, rfl⟩ (fun H locs hM => ?_)
  have eI : (va_up I o (upd (I o) 0 0)) = (t0 I o) := rfl
  rw [eI] at hM
  clear eI
  refine lv_iload_n hx hb dX4_chamber_5 rfl (lv_at hl 1 rfl) ?_
  refine lv_iconst (v := 0) hx hb dX4_chamber_6 (by decide) ?_
  refine lv_iconst (v := 4) hx hb dX4_chamber_7 (by decide) ?_
  refine fb_callSi hx hb hml hown hts hM (As := [.int (nI q), .int 0, .int 4]) (rest := []) (c_X4_isIn D y l S V (t0 I o) (nI q) 0 4) (cwS 3 hts gX4_chamber_X4_isIn rfl rfl rfl (by decide +kernel) ⟨Nat.le_of_ble_eq_true rfl, Nat.le_of_ble_eq_true rfl⟩) rfl hl.1 rfl (Nat.le_of_ble_eq_true rfl) dX4_chamber_8 ⟨Nat.le_of_ble_eq_true rfl, Nat.le_of_ble_eq_true rfl⟩ (fun v_1 u H locs hp hM => ?_)
  obtain ⟨hv_, hu_⟩ := hp
  have hv_ := Eq.symm hv_
  have hu_ := Eq.symm hu_
  subst hv_
  subst hu_
  rw [show (isN (nI q) 0 4 : Int32) = 1 from isN_k (lo := 0) (hi := 4) (by decide) hqa (by omega)]
  refine lv_if_eq (tgt := 33) hx hb dX4_chamber_11 (by decide) (fun c_2 => absurd c_2 (by decide)) (fun c_2 => ?_)
  refine lv_iload_n hx hb dX4_chamber_14 rfl (lv_at hl 2 rfl) ?_
  refine lv_iconst (v := 0) hx hb dX4_chamber_15 (by decide) ?_
  refine lv_bipush (v := 8) hx hb dX4_chamber_16 (by decide) ?_
  refine fb_callSi hx hb hml hown hts hM (As := [.int 4, .int 0, .int 8]) (rest := []) (c_X4_isIn D y l S V (t0 I o) 4 0 8) (cwS 3 hts gX4_chamber_X4_isIn rfl rfl rfl (by decide +kernel) ⟨Nat.le_of_ble_eq_true rfl, Nat.le_of_ble_eq_true rfl⟩) rfl hl.1 rfl (Nat.le_of_ble_eq_true rfl) dX4_chamber_18 ⟨Nat.le_of_ble_eq_true rfl, Nat.le_of_ble_eq_true rfl⟩ (fun v_3 u H locs hp hM => ?_)
  obtain ⟨hv_, hu_⟩ := hp
  have hv_ := Eq.symm hv_
  have hu_ := Eq.symm hu_
  subst hv_
  subst hu_
  rw [show (isN 4 0 8 : Int32) = 1 from by decide]
  refine lv_if_eq (tgt := 33) hx hb dX4_chamber_21 (by decide) (fun c_4 => absurd c_4 (by decide)) (fun c_4 => ?_)
  refine lv_aload_n hx hb dX4_chamber_24 rfl (lv_at hl 0 rfl) ?_
  refine lv_iload_n hx hb dX4_chamber_25 rfl (lv_at hl 1 rfl) ?_
  refine lv_iload_n hx hb dX4_chamber_26 rfl (lv_at hl 2 rfl) ?_
  refine fb_callVi (r := o) hx hb hml hown hts hM ((hA.1).1) (ce4 ((hA.1).2)) rfl (As := [.int (nI q), .int 4]) (rest := []) (c_X4_chamberTold_4 D y l S V (t0 I o) o nt cf rf hA ns df hF.t0 q hq) (cwV 2 hts gX4_chamber_X4_chamberTold rfl rfl rfl (by decide +kernel) ⟨Nat.le_of_ble_eq_true rfl, Nat.le_of_ble_eq_true rfl⟩) rfl hl.1 rfl (Nat.le_of_ble_eq_true rfl) dX4_chamber_27 ⟨Nat.le_of_ble_eq_true rfl, Nat.le_of_ble_eq_true rfl⟩ (fun v_5 u H locs hp hM => ?_)
  obtain ⟨hv_, hu_⟩ := hp
  have hv_ := Eq.symm hv_
  have hu_ := Eq.symm hu_
  subst hv_
  subst hu_
  refine lv_goto (tgt := 38) hx hb dX4_chamber_30 (by decide) ?_
  rw [hQ]
  exact fb_iret hx hb hr hlocks hM (⟨by rw [t0_ne I (show o + 3 ≠ o by omega)], rfl⟩) dX4_chamber_38

set_option maxHeartbeats 4000000 in
set_option maxRecDepth 100000 in
theorem c_X4_chamber_5 (D : va_G) (y : Nat → ClassId) (l : Launch) (S : fb_Sh) (V I : fb_V) (o nt : Nat) (cf rf : Nat → Nat) (hA : MdAt S o nt cf rf) (ns : Nat) (df : Nat → Nat) (hF : MF I o ns nt cf rf df) (q : Nat) (hq : q < 5) : CI D y l yX4_chamber wsX4_chamber rm_X4_chamber [.ref (sa S o), .int (nI q), .int 5] (S, V, (sT V), I) (fun z u => z = chTm (I (o + 3)) q 5 ∧ u = (S, V, sT V, t0 I o)) 0 0 := by
  refine CI.of (cc := cX4_chamber) (maxL := 3) (ret := (some .int)) (by decide) rfl (Nat.le_of_ble_eq_true rfl) ?_
  intro pv ev s mv below meth cv A hx hb hml hr hown hts hlocks hname hM ls hl
  have hown : s.vm.findClass RX4 = some mv.cls := hown
  have hl : lv_has ls 3 [(0, .ref (sa S o)), (1, .int (nI q)), (2, .int 5)] := hl
  have hin4 : ∀ x ∈ wsX40, x ∈ wsX4_chamber := by decide +kernel
  obtain ⟨Q, hQ⟩ : ∃ Q, Q = MQ below (va_Qi (fun z u => z = chTm (I (o + 3)) q 5 ∧ u = (S, V, sT V, t0 I o)) (fun u t => fb_P D y A u t) A) (([.ref (sa S o), .int (nI q), .int 5] : List Value).toArray) s 0 0 A := ⟨_, rfl⟩
  rw [← hQ]
  have hns : ns ≤ 12 := hF.2.2.1
  have hnt : nt ≤ 6 := hF.2.2.2.1
  have hqa : 0 ≤ q := Nat.zero_le _
  refine lv_aload_n hx hb dX4_chamber_0 rfl (lv_at hl 0 rfl) ?_
  refine lv_iconst (v := 0) hx hb dX4_chamber_1 (by decide) ?_
  refine fb_put (r := o) hx hb hown hts hin4 tyX4 tyX4_ok nmX4 hM ((hA.1).1) (ce4 ((hA.1).2)) rfl 0 (by decide) (hts (.fieldLink RX4 40 "FeatherBedsModel" "thrown" "I") (by decide +kernel)) (fun _ h9 => h9) rfl (ty := .int) (by decide +kernel) rfl rfl (Nat.le_of_ble_eq_true rfl) dX4_chamber_2 (up_I (j := 0) (v := 0) (by rw [ce4 ((hA.1).2)]; simp [va_up, upd])) (w' := (S, V, (sT V), (va_up I o (upd (I o) 0 0)))) ⟨rfl, rfl, rfl⟩ (fun H locs hM => ?_)
  have eI : (va_up I o (upd (I o) 0 0)) = (t0 I o) := rfl
  rw [eI] at hM
  clear eI
  refine lv_iload_n hx hb dX4_chamber_5 rfl (lv_at hl 1 rfl) ?_
  refine lv_iconst (v := 0) hx hb dX4_chamber_6 (by decide) ?_
  refine lv_iconst (v := 4) hx hb dX4_chamber_7 (by decide) ?_
  refine fb_callSi hx hb hml hown hts hM (As := [.int (nI q), .int 0, .int 4]) (rest := []) (c_X4_isIn D y l S V (t0 I o) (nI q) 0 4) (cwS 3 hts gX4_chamber_X4_isIn rfl rfl rfl (by decide +kernel) ⟨Nat.le_of_ble_eq_true rfl, Nat.le_of_ble_eq_true rfl⟩) rfl hl.1 rfl (Nat.le_of_ble_eq_true rfl) dX4_chamber_8 ⟨Nat.le_of_ble_eq_true rfl, Nat.le_of_ble_eq_true rfl⟩ (fun v_1 u H locs hp hM => ?_)
  obtain ⟨hv_, hu_⟩ := hp
  have hv_ := Eq.symm hv_
  have hu_ := Eq.symm hu_
  subst hv_
  subst hu_
  rw [show (isN (nI q) 0 4 : Int32) = 1 from isN_k (lo := 0) (hi := 4) (by decide) hqa (by omega)]
  refine lv_if_eq (tgt := 33) hx hb dX4_chamber_11 (by decide) (fun c_2 => absurd c_2 (by decide)) (fun c_2 => ?_)
  refine lv_iload_n hx hb dX4_chamber_14 rfl (lv_at hl 2 rfl) ?_
  refine lv_iconst (v := 0) hx hb dX4_chamber_15 (by decide) ?_
  refine lv_bipush (v := 8) hx hb dX4_chamber_16 (by decide) ?_
  refine fb_callSi hx hb hml hown hts hM (As := [.int 5, .int 0, .int 8]) (rest := []) (c_X4_isIn D y l S V (t0 I o) 5 0 8) (cwS 3 hts gX4_chamber_X4_isIn rfl rfl rfl (by decide +kernel) ⟨Nat.le_of_ble_eq_true rfl, Nat.le_of_ble_eq_true rfl⟩) rfl hl.1 rfl (Nat.le_of_ble_eq_true rfl) dX4_chamber_18 ⟨Nat.le_of_ble_eq_true rfl, Nat.le_of_ble_eq_true rfl⟩ (fun v_3 u H locs hp hM => ?_)
  obtain ⟨hv_, hu_⟩ := hp
  have hv_ := Eq.symm hv_
  have hu_ := Eq.symm hu_
  subst hv_
  subst hu_
  rw [show (isN 5 0 8 : Int32) = 1 from by decide]
  refine lv_if_eq (tgt := 33) hx hb dX4_chamber_21 (by decide) (fun c_4 => absurd c_4 (by decide)) (fun c_4 => ?_)
  refine lv_aload_n hx hb dX4_chamber_24 rfl (lv_at hl 0 rfl) ?_
  refine lv_iload_n hx hb dX4_chamber_25 rfl (lv_at hl 1 rfl) ?_
  refine lv_iload_n hx hb dX4_chamber_26 rfl (lv_at hl 2 rfl) ?_
  refine fb_callVi (r := o) hx hb hml hown hts hM ((hA.1).1) (ce4 ((hA.1).2)) rfl (As := [.int (nI q), .int 5]) (rest := []) (c_X4_chamberTold_5 D y l S V (t0 I o) o nt cf rf hA ns df hF.t0 q hq) (cwV 2 hts gX4_chamber_X4_chamberTold rfl rfl rfl (by decide +kernel) ⟨Nat.le_of_ble_eq_true rfl, Nat.le_of_ble_eq_true rfl⟩) rfl hl.1 rfl (Nat.le_of_ble_eq_true rfl) dX4_chamber_27 ⟨Nat.le_of_ble_eq_true rfl, Nat.le_of_ble_eq_true rfl⟩ (fun v_5 u H locs hp hM => ?_)
  obtain ⟨hv_, hu_⟩ := hp
  have hv_ := Eq.symm hv_
  have hu_ := Eq.symm hu_
  subst hv_
  subst hu_
  refine lv_goto (tgt := 38) hx hb dX4_chamber_30 (by decide) ?_
  rw [hQ]
  exact fb_iret hx hb hr hlocks hM (⟨by rw [t0_ne I (show o + 3 ≠ o by omega)], rfl⟩) dX4_chamber_38

set_option maxHeartbeats 4000000 in
set_option maxRecDepth 100000 in
theorem c_X4_chamber_6 (D : va_G) (y : Nat → ClassId) (l : Launch) (S : fb_Sh) (V I : fb_V) (o nt : Nat) (cf rf : Nat → Nat) (hA : MdAt S o nt cf rf) (ns : Nat) (df : Nat → Nat) (hF : MF I o ns nt cf rf df) (q : Nat) (hq : q < 5) : CI D y l yX4_chamber wsX4_chamber rm_X4_chamber [.ref (sa S o), .int (nI q), .int 6] (S, V, (sT V), I) (fun z u => z = chTm (I (o + 3)) q 6 ∧ u = (S, V, sT V, t0 I o)) 0 0 := by
  refine CI.of (cc := cX4_chamber) (maxL := 3) (ret := (some .int)) (by decide) rfl (Nat.le_of_ble_eq_true rfl) ?_
  intro pv ev s mv below meth cv A hx hb hml hr hown hts hlocks hname hM ls hl
  have hown : s.vm.findClass RX4 = some mv.cls := hown
  have hl : lv_has ls 3 [(0, .ref (sa S o)), (1, .int (nI q)), (2, .int 6)] := hl
  have hin4 : ∀ x ∈ wsX40, x ∈ wsX4_chamber := by decide +kernel
  obtain ⟨Q, hQ⟩ : ∃ Q, Q = MQ below (va_Qi (fun z u => z = chTm (I (o + 3)) q 6 ∧ u = (S, V, sT V, t0 I o)) (fun u t => fb_P D y A u t) A) (([.ref (sa S o), .int (nI q), .int 6] : List Value).toArray) s 0 0 A := ⟨_, rfl⟩
  rw [← hQ]
  have hns : ns ≤ 12 := hF.2.2.1
  have hnt : nt ≤ 6 := hF.2.2.2.1
  have hqa : 0 ≤ q := Nat.zero_le _
  refine lv_aload_n hx hb dX4_chamber_0 rfl (lv_at hl 0 rfl) ?_
  refine lv_iconst (v := 0) hx hb dX4_chamber_1 (by decide) ?_
  refine fb_put (r := o) hx hb hown hts hin4 tyX4 tyX4_ok nmX4 hM ((hA.1).1) (ce4 ((hA.1).2)) rfl 0 (by decide) (hts (.fieldLink RX4 40 "FeatherBedsModel" "thrown" "I") (by decide +kernel)) (fun _ h9 => h9) rfl (ty := .int) (by decide +kernel) rfl rfl (Nat.le_of_ble_eq_true rfl) dX4_chamber_2 (up_I (j := 0) (v := 0) (by rw [ce4 ((hA.1).2)]; simp [va_up, upd])) (w' := (S, V, (sT V), (va_up I o (upd (I o) 0 0)))) ⟨rfl, rfl, rfl⟩ (fun H locs hM => ?_)
  have eI : (va_up I o (upd (I o) 0 0)) = (t0 I o) := rfl
  rw [eI] at hM
  clear eI
  refine lv_iload_n hx hb dX4_chamber_5 rfl (lv_at hl 1 rfl) ?_
  refine lv_iconst (v := 0) hx hb dX4_chamber_6 (by decide) ?_
  refine lv_iconst (v := 4) hx hb dX4_chamber_7 (by decide) ?_
  refine fb_callSi hx hb hml hown hts hM (As := [.int (nI q), .int 0, .int 4]) (rest := []) (c_X4_isIn D y l S V (t0 I o) (nI q) 0 4) (cwS 3 hts gX4_chamber_X4_isIn rfl rfl rfl (by decide +kernel) ⟨Nat.le_of_ble_eq_true rfl, Nat.le_of_ble_eq_true rfl⟩) rfl hl.1 rfl (Nat.le_of_ble_eq_true rfl) dX4_chamber_8 ⟨Nat.le_of_ble_eq_true rfl, Nat.le_of_ble_eq_true rfl⟩ (fun v_1 u H locs hp hM => ?_)
  obtain ⟨hv_, hu_⟩ := hp
  have hv_ := Eq.symm hv_
  have hu_ := Eq.symm hu_
  subst hv_
  subst hu_
  rw [show (isN (nI q) 0 4 : Int32) = 1 from isN_k (lo := 0) (hi := 4) (by decide) hqa (by omega)]
  refine lv_if_eq (tgt := 33) hx hb dX4_chamber_11 (by decide) (fun c_2 => absurd c_2 (by decide)) (fun c_2 => ?_)
  refine lv_iload_n hx hb dX4_chamber_14 rfl (lv_at hl 2 rfl) ?_
  refine lv_iconst (v := 0) hx hb dX4_chamber_15 (by decide) ?_
  refine lv_bipush (v := 8) hx hb dX4_chamber_16 (by decide) ?_
  refine fb_callSi hx hb hml hown hts hM (As := [.int 6, .int 0, .int 8]) (rest := []) (c_X4_isIn D y l S V (t0 I o) 6 0 8) (cwS 3 hts gX4_chamber_X4_isIn rfl rfl rfl (by decide +kernel) ⟨Nat.le_of_ble_eq_true rfl, Nat.le_of_ble_eq_true rfl⟩) rfl hl.1 rfl (Nat.le_of_ble_eq_true rfl) dX4_chamber_18 ⟨Nat.le_of_ble_eq_true rfl, Nat.le_of_ble_eq_true rfl⟩ (fun v_3 u H locs hp hM => ?_)
  obtain ⟨hv_, hu_⟩ := hp
  have hv_ := Eq.symm hv_
  have hu_ := Eq.symm hu_
  subst hv_
  subst hu_
  rw [show (isN 6 0 8 : Int32) = 1 from by decide]
  refine lv_if_eq (tgt := 33) hx hb dX4_chamber_21 (by decide) (fun c_4 => absurd c_4 (by decide)) (fun c_4 => ?_)
  refine lv_aload_n hx hb dX4_chamber_24 rfl (lv_at hl 0 rfl) ?_
  refine lv_iload_n hx hb dX4_chamber_25 rfl (lv_at hl 1 rfl) ?_
  refine lv_iload_n hx hb dX4_chamber_26 rfl (lv_at hl 2 rfl) ?_
  refine fb_callVi (r := o) hx hb hml hown hts hM ((hA.1).1) (ce4 ((hA.1).2)) rfl (As := [.int (nI q), .int 6]) (rest := []) (c_X4_chamberTold_6 D y l S V (t0 I o) o nt cf rf hA ns df hF.t0 q hq) (cwV 2 hts gX4_chamber_X4_chamberTold rfl rfl rfl (by decide +kernel) ⟨Nat.le_of_ble_eq_true rfl, Nat.le_of_ble_eq_true rfl⟩) rfl hl.1 rfl (Nat.le_of_ble_eq_true rfl) dX4_chamber_27 ⟨Nat.le_of_ble_eq_true rfl, Nat.le_of_ble_eq_true rfl⟩ (fun v_5 u H locs hp hM => ?_)
  obtain ⟨hv_, hu_⟩ := hp
  have hv_ := Eq.symm hv_
  have hu_ := Eq.symm hu_
  subst hv_
  subst hu_
  refine lv_goto (tgt := 38) hx hb dX4_chamber_30 (by decide) ?_
  rw [hQ]
  exact fb_iret hx hb hr hlocks hM (⟨by rw [t0_ne I (show o + 3 ≠ o by omega)], rfl⟩) dX4_chamber_38

set_option maxHeartbeats 4000000 in
set_option maxRecDepth 100000 in
theorem c_X4_chamber_7 (D : va_G) (y : Nat → ClassId) (l : Launch) (S : fb_Sh) (V I : fb_V) (o nt : Nat) (cf rf : Nat → Nat) (hA : MdAt S o nt cf rf) (ns : Nat) (df : Nat → Nat) (hF : MF I o ns nt cf rf df) (q : Nat) (hq : q < 5) : CI D y l yX4_chamber wsX4_chamber rm_X4_chamber [.ref (sa S o), .int (nI q), .int 7] (S, V, (sT V), I) (fun z u => z = chTm (I (o + 3)) q 7 ∧ u = (S, V, sT V, t0 I o)) 0 0 := by
  refine CI.of (cc := cX4_chamber) (maxL := 3) (ret := (some .int)) (by decide) rfl (Nat.le_of_ble_eq_true rfl) ?_
  intro pv ev s mv below meth cv A hx hb hml hr hown hts hlocks hname hM ls hl
  have hown : s.vm.findClass RX4 = some mv.cls := hown
  have hl : lv_has ls 3 [(0, .ref (sa S o)), (1, .int (nI q)), (2, .int 7)] := hl
  have hin4 : ∀ x ∈ wsX40, x ∈ wsX4_chamber := by decide +kernel
  obtain ⟨Q, hQ⟩ : ∃ Q, Q = MQ below (va_Qi (fun z u => z = chTm (I (o + 3)) q 7 ∧ u = (S, V, sT V, t0 I o)) (fun u t => fb_P D y A u t) A) (([.ref (sa S o), .int (nI q), .int 7] : List Value).toArray) s 0 0 A := ⟨_, rfl⟩
  rw [← hQ]
  have hns : ns ≤ 12 := hF.2.2.1
  have hnt : nt ≤ 6 := hF.2.2.2.1
  have hqa : 0 ≤ q := Nat.zero_le _
  refine lv_aload_n hx hb dX4_chamber_0 rfl (lv_at hl 0 rfl) ?_
  refine lv_iconst (v := 0) hx hb dX4_chamber_1 (by decide) ?_
  refine fb_put (r := o) hx hb hown hts hin4 tyX4 tyX4_ok nmX4 hM ((hA.1).1) (ce4 ((hA.1).2)) rfl 0 (by decide) (hts (.fieldLink RX4 40 "FeatherBedsModel" "thrown" "I") (by decide +kernel)) (fun _ h9 => h9) rfl (ty := .int) (by decide +kernel) rfl rfl (Nat.le_of_ble_eq_true rfl) dX4_chamber_2 (up_I (j := 0) (v := 0) (by rw [ce4 ((hA.1).2)]; simp [va_up, upd])) (w' := (S, V, (sT V), (va_up I o (upd (I o) 0 0)))) ⟨rfl, rfl, rfl⟩ (fun H locs hM => ?_)
  have eI : (va_up I o (upd (I o) 0 0)) = (t0 I o) := rfl
  rw [eI] at hM
  clear eI
  refine lv_iload_n hx hb dX4_chamber_5 rfl (lv_at hl 1 rfl) ?_
  refine lv_iconst (v := 0) hx hb dX4_chamber_6 (by decide) ?_
  refine lv_iconst (v := 4) hx hb dX4_chamber_7 (by decide) ?_
  refine fb_callSi hx hb hml hown hts hM (As := [.int (nI q), .int 0, .int 4]) (rest := []) (c_X4_isIn D y l S V (t0 I o) (nI q) 0 4) (cwS 3 hts gX4_chamber_X4_isIn rfl rfl rfl (by decide +kernel) ⟨Nat.le_of_ble_eq_true rfl, Nat.le_of_ble_eq_true rfl⟩) rfl hl.1 rfl (Nat.le_of_ble_eq_true rfl) dX4_chamber_8 ⟨Nat.le_of_ble_eq_true rfl, Nat.le_of_ble_eq_true rfl⟩ (fun v_1 u H locs hp hM => ?_)
  obtain ⟨hv_, hu_⟩ := hp
  have hv_ := Eq.symm hv_
  have hu_ := Eq.symm hu_
  subst hv_
  subst hu_
  rw [show (isN (nI q) 0 4 : Int32) = 1 from isN_k (lo := 0) (hi := 4) (by decide) hqa (by omega)]
  refine lv_if_eq (tgt := 33) hx hb dX4_chamber_11 (by decide) (fun c_2 => absurd c_2 (by decide)) (fun c_2 => ?_)
  refine lv_iload_n hx hb dX4_chamber_14 rfl (lv_at hl 2 rfl) ?_
  refine lv_iconst (v := 0) hx hb dX4_chamber_15 (by decide) ?_
  refine lv_bipush (v := 8) hx hb dX4_chamber_16 (by decide) ?_
  refine fb_callSi hx hb hml hown hts hM (As := [.int 7, .int 0, .int 8]) (rest := []) (c_X4_isIn D y l S V (t0 I o) 7 0 8) (cwS 3 hts gX4_chamber_X4_isIn rfl rfl rfl (by decide +kernel) ⟨Nat.le_of_ble_eq_true rfl, Nat.le_of_ble_eq_true rfl⟩) rfl hl.1 rfl (Nat.le_of_ble_eq_true rfl) dX4_chamber_18 ⟨Nat.le_of_ble_eq_true rfl, Nat.le_of_ble_eq_true rfl⟩ (fun v_3 u H locs hp hM => ?_)
  obtain ⟨hv_, hu_⟩ := hp
  have hv_ := Eq.symm hv_
  have hu_ := Eq.symm hu_
  subst hv_
  subst hu_
  rw [show (isN 7 0 8 : Int32) = 1 from by decide]
  refine lv_if_eq (tgt := 33) hx hb dX4_chamber_21 (by decide) (fun c_4 => absurd c_4 (by decide)) (fun c_4 => ?_)
  refine lv_aload_n hx hb dX4_chamber_24 rfl (lv_at hl 0 rfl) ?_
  refine lv_iload_n hx hb dX4_chamber_25 rfl (lv_at hl 1 rfl) ?_
  refine lv_iload_n hx hb dX4_chamber_26 rfl (lv_at hl 2 rfl) ?_
  refine fb_callVi (r := o) hx hb hml hown hts hM ((hA.1).1) (ce4 ((hA.1).2)) rfl (As := [.int (nI q), .int 7]) (rest := []) (c_X4_chamberTold_7 D y l S V (t0 I o) o nt cf rf hA ns df hF.t0 q hq) (cwV 2 hts gX4_chamber_X4_chamberTold rfl rfl rfl (by decide +kernel) ⟨Nat.le_of_ble_eq_true rfl, Nat.le_of_ble_eq_true rfl⟩) rfl hl.1 rfl (Nat.le_of_ble_eq_true rfl) dX4_chamber_27 ⟨Nat.le_of_ble_eq_true rfl, Nat.le_of_ble_eq_true rfl⟩ (fun v_5 u H locs hp hM => ?_)
  obtain ⟨hv_, hu_⟩ := hp
  have hv_ := Eq.symm hv_
  have hu_ := Eq.symm hu_
  subst hv_
  subst hu_
  refine lv_goto (tgt := 38) hx hb dX4_chamber_30 (by decide) ?_
  rw [hQ]
  exact fb_iret hx hb hr hlocks hM (⟨by rw [t0_ne I (show o + 3 ≠ o by omega)], rfl⟩) dX4_chamber_38

set_option maxHeartbeats 4000000 in
set_option maxRecDepth 100000 in
theorem c_X4_chamber_8 (D : va_G) (y : Nat → ClassId) (l : Launch) (S : fb_Sh) (V I : fb_V) (o nt : Nat) (cf rf : Nat → Nat) (hA : MdAt S o nt cf rf) (ns : Nat) (df : Nat → Nat) (hF : MF I o ns nt cf rf df) (q : Nat) (hq : q < 5) : CI D y l yX4_chamber wsX4_chamber rm_X4_chamber [.ref (sa S o), .int (nI q), .int 8] (S, V, (sT V), I) (fun z u => z = chTm (I (o + 3)) q 8 ∧ u = (S, V, sT V, t0 I o)) 0 0 := by
  refine CI.of (cc := cX4_chamber) (maxL := 3) (ret := (some .int)) (by decide) rfl (Nat.le_of_ble_eq_true rfl) ?_
  intro pv ev s mv below meth cv A hx hb hml hr hown hts hlocks hname hM ls hl
  have hown : s.vm.findClass RX4 = some mv.cls := hown
  have hl : lv_has ls 3 [(0, .ref (sa S o)), (1, .int (nI q)), (2, .int 8)] := hl
  have hin4 : ∀ x ∈ wsX40, x ∈ wsX4_chamber := by decide +kernel
  obtain ⟨Q, hQ⟩ : ∃ Q, Q = MQ below (va_Qi (fun z u => z = chTm (I (o + 3)) q 8 ∧ u = (S, V, sT V, t0 I o)) (fun u t => fb_P D y A u t) A) (([.ref (sa S o), .int (nI q), .int 8] : List Value).toArray) s 0 0 A := ⟨_, rfl⟩
  rw [← hQ]
  have hns : ns ≤ 12 := hF.2.2.1
  have hnt : nt ≤ 6 := hF.2.2.2.1
  have hqa : 0 ≤ q := Nat.zero_le _
  refine lv_aload_n hx hb dX4_chamber_0 rfl (lv_at hl 0 rfl) ?_
  refine lv_iconst (v := 0) hx hb dX4_chamber_1 (by decide) ?_
  refine fb_put (r := o) hx hb hown hts hin4 tyX4 tyX4_ok nmX4 hM ((hA.1).1) (ce4 ((hA.1).2)) rfl 0 (by decide) (hts (.fieldLink RX4 40 "FeatherBedsModel" "thrown" "I") (by decide +kernel)) (fun _ h9 => h9) rfl (ty := .int) (by decide +kernel) rfl rfl (Nat.le_of_ble_eq_true rfl) dX4_chamber_2 (up_I (j := 0) (v := 0) (by rw [ce4 ((hA.1).2)]; simp [va_up, upd])) (w' := (S, V, (sT V), (va_up I o (upd (I o) 0 0)))) ⟨rfl, rfl, rfl⟩ (fun H locs hM => ?_)
  have eI : (va_up I o (upd (I o) 0 0)) = (t0 I o) := rfl
  rw [eI] at hM
  clear eI
  refine lv_iload_n hx hb dX4_chamber_5 rfl (lv_at hl 1 rfl) ?_
  refine lv_iconst (v := 0) hx hb dX4_chamber_6 (by decide) ?_
  refine lv_iconst (v := 4) hx hb dX4_chamber_7 (by decide) ?_
  refine fb_callSi hx hb hml hown hts hM (As := [.int (nI q), .int 0, .int 4]) (rest := []) (c_X4_isIn D y l S V (t0 I o) (nI q) 0 4) (cwS 3 hts gX4_chamber_X4_isIn rfl rfl rfl (by decide +kernel) ⟨Nat.le_of_ble_eq_true rfl, Nat.le_of_ble_eq_true rfl⟩) rfl hl.1 rfl (Nat.le_of_ble_eq_true rfl) dX4_chamber_8 ⟨Nat.le_of_ble_eq_true rfl, Nat.le_of_ble_eq_true rfl⟩ (fun v_1 u H locs hp hM => ?_)
  obtain ⟨hv_, hu_⟩ := hp
  have hv_ := Eq.symm hv_
  have hu_ := Eq.symm hu_
  subst hv_
  subst hu_
  rw [show (isN (nI q) 0 4 : Int32) = 1 from isN_k (lo := 0) (hi := 4) (by decide) hqa (by omega)]
  refine lv_if_eq (tgt := 33) hx hb dX4_chamber_11 (by decide) (fun c_2 => absurd c_2 (by decide)) (fun c_2 => ?_)
  refine lv_iload_n hx hb dX4_chamber_14 rfl (lv_at hl 2 rfl) ?_
  refine lv_iconst (v := 0) hx hb dX4_chamber_15 (by decide) ?_
  refine lv_bipush (v := 8) hx hb dX4_chamber_16 (by decide) ?_
  refine fb_callSi hx hb hml hown hts hM (As := [.int 8, .int 0, .int 8]) (rest := []) (c_X4_isIn D y l S V (t0 I o) 8 0 8) (cwS 3 hts gX4_chamber_X4_isIn rfl rfl rfl (by decide +kernel) ⟨Nat.le_of_ble_eq_true rfl, Nat.le_of_ble_eq_true rfl⟩) rfl hl.1 rfl (Nat.le_of_ble_eq_true rfl) dX4_chamber_18 ⟨Nat.le_of_ble_eq_true rfl, Nat.le_of_ble_eq_true rfl⟩ (fun v_3 u H locs hp hM => ?_)
  obtain ⟨hv_, hu_⟩ := hp
  have hv_ := Eq.symm hv_
  have hu_ := Eq.symm hu_
  subst hv_
  subst hu_
  rw [show (isN 8 0 8 : Int32) = 1 from by decide]
  refine lv_if_eq (tgt := 33) hx hb dX4_chamber_21 (by decide) (fun c_4 => absurd c_4 (by decide)) (fun c_4 => ?_)
  refine lv_aload_n hx hb dX4_chamber_24 rfl (lv_at hl 0 rfl) ?_
  refine lv_iload_n hx hb dX4_chamber_25 rfl (lv_at hl 1 rfl) ?_
  refine lv_iload_n hx hb dX4_chamber_26 rfl (lv_at hl 2 rfl) ?_
  refine fb_callVi (r := o) hx hb hml hown hts hM ((hA.1).1) (ce4 ((hA.1).2)) rfl (As := [.int (nI q), .int 8]) (rest := []) (c_X4_chamberTold_8 D y l S V (t0 I o) o nt cf rf hA ns df hF.t0 q hq) (cwV 2 hts gX4_chamber_X4_chamberTold rfl rfl rfl (by decide +kernel) ⟨Nat.le_of_ble_eq_true rfl, Nat.le_of_ble_eq_true rfl⟩) rfl hl.1 rfl (Nat.le_of_ble_eq_true rfl) dX4_chamber_27 ⟨Nat.le_of_ble_eq_true rfl, Nat.le_of_ble_eq_true rfl⟩ (fun v_5 u H locs hp hM => ?_)
  obtain ⟨hv_, hu_⟩ := hp
  have hv_ := Eq.symm hv_
  have hu_ := Eq.symm hu_
  subst hv_
  subst hu_
  refine lv_goto (tgt := 38) hx hb dX4_chamber_30 (by decide) ?_
  rw [hQ]
  exact fb_iret hx hb hr hlocks hM (⟨by rw [t0_ne I (show o + 3 ≠ o by omega)], rfl⟩) dX4_chamber_38

abbrev rm_X4_tick : Room := { frames := 6, cells := 0, slots := 0, locals := 140 }
set_option maxHeartbeats 4000000 in
set_option maxRecDepth 100000 in
theorem c_X4_tick_f0o (D : va_G) (y : Nat → ClassId) (l : Launch) (S : fb_Sh) (V I : fb_V) (o nt : Nat) (cf rf : Nat → Nat) (hA : MdAt S o nt cf rf) (ns : Nat) (df : Nat → Nat) (hF : MF I o ns nt cf rf df) (p0 : Int32) (ho : p0 < 0 ∨ nI nt ≤ p0) (p1 : Int32) : CI D y l yX4_tick wsX4_tick rm_X4_tick [.ref (sa S o), .int p0, .int p1] (S, V, (sT V), I) (fun z u => z = 0 ∧ u = (S, V, sT V, (tf I o 1))) 0 0 := by
  refine CI.of (cc := cX4_tick) (maxL := 3) (ret := (some .int)) (by decide) rfl (Nat.le_of_ble_eq_true rfl) ?_
  intro pv ev s mv below meth cv A hx hb hml hr hown hts hlocks hname hM ls hl
  have hown : s.vm.findClass RX4 = some mv.cls := hown
  have hl : lv_has ls 3 [(0, .ref (sa S o)), (1, .int p0), (2, .int p1)] := hl
  have hin4 : ∀ x ∈ wsX40, x ∈ wsX4_tick := by decide +kernel
  obtain ⟨Q, hQ⟩ : ∃ Q, Q = MQ below (va_Qi (fun z u => z = 0 ∧ u = (S, V, sT V, (tf I o 1))) (fun u t => fb_P D y A u t) A) (([.ref (sa S o), .int p0, .int p1] : List Value).toArray) s 0 0 A := ⟨_, rfl⟩
  rw [← hQ]
  have hns : ns ≤ 12 := hF.2.2.1
  have hnt : nt ≤ 6 := hF.2.2.2.1
  refine lv_aload_n hx hb dX4_tick_0 rfl (lv_at hl 0 rfl) ?_
  refine lv_iconst (v := 0) hx hb dX4_tick_1 (by decide) ?_
  refine fb_put (r := o) hx hb hown hts hin4 tyX4 tyX4_ok nmX4 hM ((hA.1).1) (ce4 ((hA.1).2)) rfl 0 (by decide) (hts (.fieldLink RX4 40 "FeatherBedsModel" "thrown" "I") (by decide +kernel)) (fun _ h9 => h9) rfl (ty := .int) (by decide +kernel) rfl rfl (Nat.le_of_ble_eq_true rfl) dX4_tick_2 (up_I (j := 0) (v := 0) (by rw [ce4 ((hA.1).2)]; simp [va_up, upd])) (w' := (S, V, (sT V), (va_up I o (upd (I o) 0 0)))) ⟨rfl, rfl, rfl⟩ (fun H locs hM => ?_)
  have eI : (va_up I o (upd (I o) 0 0)) = (t0 I o) := rfl
  rw [eI] at hM
  clear eI
  refine lv_aload_n hx hb dX4_tick_5 rfl (lv_at hl 0 rfl) ?_
  refine lv_iload_n hx hb dX4_tick_6 rfl (lv_at hl 1 rfl) ?_
  refine fb_callVi (r := o) hx hb hml hown hts hM ((hA.1).1) (ce4 ((hA.1).2)) rfl (As := [.int p0]) (rest := []) (c_X4_isTick D y l S V (t0 I o) o nt cf rf hA ns df hF.t0 p0) (cwV 1 hts gX4_tick_X4_isTick rfl rfl rfl (by decide +kernel) ⟨Nat.le_of_ble_eq_true rfl, Nat.le_of_ble_eq_true rfl⟩) rfl hl.1 rfl (Nat.le_of_ble_eq_true rfl) dX4_tick_7 ⟨Nat.le_of_ble_eq_true rfl, Nat.le_of_ble_eq_true rfl⟩ (fun v_1 u H locs hp hM => ?_)
  obtain ⟨hv_, hu_⟩ := hp
  have hv_ := Eq.symm hv_
  have hu_ := Eq.symm hu_
  subst hv_
  subst hu_
  rw [show (isN p0 0 (nI nt - 1) : Int32) = 0 from isN_out (by omega) ho]
  refine lv_if_eq (tgt := 32) hx hb dX4_tick_10 (by decide) (fun c_2 => ?_) (fun c_2 => absurd (by decide) c_2)
  refine lv_aload_n hx hb dX4_tick_32 rfl (lv_at hl 0 rfl) ?_
  refine lv_iconst (v := 1) hx hb dX4_tick_33 (by decide) ?_
  refine fb_callVi (r := o) hx hb hml hown hts hM ((hA.1).1) (ce4 ((hA.1).2)) rfl (As := [.int 1]) (rest := []) (c_X4_fail D y l S V (t0 I o) o nt cf rf hA 1) (cwV 1 hts gX4_tick_X4_fail rfl rfl rfl (by decide +kernel) ⟨Nat.le_of_ble_eq_true rfl, Nat.le_of_ble_eq_true rfl⟩) rfl hl.1 rfl (Nat.le_of_ble_eq_true rfl) dX4_tick_34 ⟨Nat.le_of_ble_eq_true rfl, Nat.le_of_ble_eq_true rfl⟩ (fun v_3 u H locs hp hM => ?_)
  obtain ⟨hv_, hu_⟩ := hp
  have hv_ := Eq.symm hv_
  have hu_ := Eq.symm hu_
  subst hv_
  subst hu_
  have eI : (tf (t0 I o) o 1) = (tf I o 1) := tf_t0 _ _ _
  rw [eI] at hM
  clear eI
  rw [hQ]
  exact fb_iret hx hb hr hlocks hM (⟨rfl, rfl⟩) dX4_tick_37

set_option maxHeartbeats 4000000 in
set_option maxRecDepth 100000 in
theorem c_X4_tick_f1o (D : va_G) (y : Nat → ClassId) (l : Launch) (S : fb_Sh) (V I : fb_V) (o nt : Nat) (cf rf : Nat → Nat) (hA : MdAt S o nt cf rf) (ns : Nat) (df : Nat → Nat) (hF : MF I o ns nt cf rf df) (t : Nat) (ht : t < nt) (p1 : Int32) (ho : p1 < 0 ∨ 8 < p1) : CI D y l yX4_tick wsX4_tick rm_X4_tick [.ref (sa S o), .int (nI t), .int p1] (S, V, (sT V), I) (fun z u => z = 0 ∧ u = (S, V, sT V, (tf I o 1))) 0 0 := by
  refine CI.of (cc := cX4_tick) (maxL := 3) (ret := (some .int)) (by decide) rfl (Nat.le_of_ble_eq_true rfl) ?_
  intro pv ev s mv below meth cv A hx hb hml hr hown hts hlocks hname hM ls hl
  have hown : s.vm.findClass RX4 = some mv.cls := hown
  have hl : lv_has ls 3 [(0, .ref (sa S o)), (1, .int (nI t)), (2, .int p1)] := hl
  have hin4 : ∀ x ∈ wsX40, x ∈ wsX4_tick := by decide +kernel
  obtain ⟨Q, hQ⟩ : ∃ Q, Q = MQ below (va_Qi (fun z u => z = 0 ∧ u = (S, V, sT V, (tf I o 1))) (fun u t => fb_P D y A u t) A) (([.ref (sa S o), .int (nI t), .int p1] : List Value).toArray) s 0 0 A := ⟨_, rfl⟩
  rw [← hQ]
  have hns : ns ≤ 12 := hF.2.2.1
  have hnt : nt ≤ 6 := hF.2.2.2.1
  have hcr := hF.cr ht
  have htF := hF.2.2.2.2.1 t ht
  refine lv_aload_n hx hb dX4_tick_0 rfl (lv_at hl 0 rfl) ?_
  refine lv_iconst (v := 0) hx hb dX4_tick_1 (by decide) ?_
  refine fb_put (r := o) hx hb hown hts hin4 tyX4 tyX4_ok nmX4 hM ((hA.1).1) (ce4 ((hA.1).2)) rfl 0 (by decide) (hts (.fieldLink RX4 40 "FeatherBedsModel" "thrown" "I") (by decide +kernel)) (fun _ h9 => h9) rfl (ty := .int) (by decide +kernel) rfl rfl (Nat.le_of_ble_eq_true rfl) dX4_tick_2 (up_I (j := 0) (v := 0) (by rw [ce4 ((hA.1).2)]; simp [va_up, upd])) (w' := (S, V, (sT V), (va_up I o (upd (I o) 0 0)))) ⟨rfl, rfl, rfl⟩ (fun H locs hM => ?_)
  have eI : (va_up I o (upd (I o) 0 0)) = (t0 I o) := rfl
  rw [eI] at hM
  clear eI
  refine lv_aload_n hx hb dX4_tick_5 rfl (lv_at hl 0 rfl) ?_
  refine lv_iload_n hx hb dX4_tick_6 rfl (lv_at hl 1 rfl) ?_
  refine fb_callVi (r := o) hx hb hml hown hts hM ((hA.1).1) (ce4 ((hA.1).2)) rfl (As := [.int (nI t)]) (rest := []) (c_X4_isTick D y l S V (t0 I o) o nt cf rf hA ns df hF.t0 (nI t)) (cwV 1 hts gX4_tick_X4_isTick rfl rfl rfl (by decide +kernel) ⟨Nat.le_of_ble_eq_true rfl, Nat.le_of_ble_eq_true rfl⟩) rfl hl.1 rfl (Nat.le_of_ble_eq_true rfl) dX4_tick_7 ⟨Nat.le_of_ble_eq_true rfl, Nat.le_of_ble_eq_true rfl⟩ (fun v_1 u H locs hp hM => ?_)
  obtain ⟨hv_, hu_⟩ := hp
  have hv_ := Eq.symm hv_
  have hu_ := Eq.symm hu_
  subst hv_
  subst hu_
  rw [show (isN (nI t) 0 (nI nt - 1) : Int32) = 1 from isN_in (by omega) ht]
  refine lv_if_eq (tgt := 32) hx hb dX4_tick_10 (by decide) (fun c_2 => absurd c_2 (by decide)) (fun c_2 => ?_)
  refine lv_iload_n hx hb dX4_tick_13 rfl (lv_at hl 2 rfl) ?_
  refine lv_iconst (v := 0) hx hb dX4_tick_14 (by decide) ?_
  refine lv_bipush (v := 8) hx hb dX4_tick_15 (by decide) ?_
  refine fb_callSi hx hb hml hown hts hM (As := [.int p1, .int 0, .int 8]) (rest := []) (c_X4_isIn D y l S V (t0 I o) p1 0 8) (cwS 3 hts gX4_tick_X4_isIn rfl rfl rfl (by decide +kernel) ⟨Nat.le_of_ble_eq_true rfl, Nat.le_of_ble_eq_true rfl⟩) rfl hl.1 rfl (Nat.le_of_ble_eq_true rfl) dX4_tick_17 ⟨Nat.le_of_ble_eq_true rfl, Nat.le_of_ble_eq_true rfl⟩ (fun v_3 u H locs hp hM => ?_)
  obtain ⟨hv_, hu_⟩ := hp
  have hv_ := Eq.symm hv_
  have hu_ := Eq.symm hu_
  subst hv_
  subst hu_
  rw [show (isN p1 0 8 : Int32) = 0 from isN_0 ho]
  refine lv_if_eq (tgt := 32) hx hb dX4_tick_20 (by decide) (fun c_4 => ?_) (fun c_4 => absurd (by decide) c_4)
  refine lv_aload_n hx hb dX4_tick_32 rfl (lv_at hl 0 rfl) ?_
  refine lv_iconst (v := 1) hx hb dX4_tick_33 (by decide) ?_
  refine fb_callVi (r := o) hx hb hml hown hts hM ((hA.1).1) (ce4 ((hA.1).2)) rfl (As := [.int 1]) (rest := []) (c_X4_fail D y l S V (t0 I o) o nt cf rf hA 1) (cwV 1 hts gX4_tick_X4_fail rfl rfl rfl (by decide +kernel) ⟨Nat.le_of_ble_eq_true rfl, Nat.le_of_ble_eq_true rfl⟩) rfl hl.1 rfl (Nat.le_of_ble_eq_true rfl) dX4_tick_34 ⟨Nat.le_of_ble_eq_true rfl, Nat.le_of_ble_eq_true rfl⟩ (fun v_5 u H locs hp hM => ?_)
  obtain ⟨hv_, hu_⟩ := hp
  have hv_ := Eq.symm hv_
  have hu_ := Eq.symm hu_
  subst hv_
  subst hu_
  have eI : (tf (t0 I o) o 1) = (tf I o 1) := tf_t0 _ _ _
  rw [eI] at hM
  clear eI
  rw [hQ]
  exact fb_iret hx hb hr hlocks hM (⟨rfl, rfl⟩) dX4_tick_37

set_option maxHeartbeats 4000000 in
set_option maxRecDepth 100000 in
theorem c_X4_tick_0 (D : va_G) (y : Nat → ClassId) (l : Launch) (S : fb_Sh) (V I : fb_V) (o nt : Nat) (cf rf : Nat → Nat) (hA : MdAt S o nt cf rf) (ns : Nat) (df : Nat → Nat) (hF : MF I o ns nt cf rf df) (t : Nat) (ht : t < nt) : CI D y l yX4_tick wsX4_tick rm_X4_tick [.ref (sa S o), .int (nI t), .int 0] (S, V, (sT V), I) (fun z u => z = nI (cf t) ∧ u = (S, V, sT V, t0 I o)) 0 0 := by
  refine CI.of (cc := cX4_tick) (maxL := 3) (ret := (some .int)) (by decide) rfl (Nat.le_of_ble_eq_true rfl) ?_
  intro pv ev s mv below meth cv A hx hb hml hr hown hts hlocks hname hM ls hl
  have hown : s.vm.findClass RX4 = some mv.cls := hown
  have hl : lv_has ls 3 [(0, .ref (sa S o)), (1, .int (nI t)), (2, .int 0)] := hl
  have hin4 : ∀ x ∈ wsX40, x ∈ wsX4_tick := by decide +kernel
  obtain ⟨Q, hQ⟩ : ∃ Q, Q = MQ below (va_Qi (fun z u => z = nI (cf t) ∧ u = (S, V, sT V, t0 I o)) (fun u t => fb_P D y A u t) A) (([.ref (sa S o), .int (nI t), .int 0] : List Value).toArray) s 0 0 A := ⟨_, rfl⟩
  rw [← hQ]
  have hns : ns ≤ 12 := hF.2.2.1
  have hnt : nt ≤ 6 := hF.2.2.2.1
  have hcr := hF.cr ht
  refine lv_aload_n hx hb dX4_tick_0 rfl (lv_at hl 0 rfl) ?_
  refine lv_iconst (v := 0) hx hb dX4_tick_1 (by decide) ?_
  refine fb_put (r := o) hx hb hown hts hin4 tyX4 tyX4_ok nmX4 hM ((hA.1).1) (ce4 ((hA.1).2)) rfl 0 (by decide) (hts (.fieldLink RX4 40 "FeatherBedsModel" "thrown" "I") (by decide +kernel)) (fun _ h9 => h9) rfl (ty := .int) (by decide +kernel) rfl rfl (Nat.le_of_ble_eq_true rfl) dX4_tick_2 (up_I (j := 0) (v := 0) (by rw [ce4 ((hA.1).2)]; simp [va_up, upd])) (w' := (S, V, (sT V), (va_up I o (upd (I o) 0 0)))) ⟨rfl, rfl, rfl⟩ (fun H locs hM => ?_)
  have eI : (va_up I o (upd (I o) 0 0)) = (t0 I o) := rfl
  rw [eI] at hM
  clear eI
  refine lv_aload_n hx hb dX4_tick_5 rfl (lv_at hl 0 rfl) ?_
  refine lv_iload_n hx hb dX4_tick_6 rfl (lv_at hl 1 rfl) ?_
  refine fb_callVi (r := o) hx hb hml hown hts hM ((hA.1).1) (ce4 ((hA.1).2)) rfl (As := [.int (nI t)]) (rest := []) (c_X4_isTick D y l S V (t0 I o) o nt cf rf hA ns df hF.t0 (nI t)) (cwV 1 hts gX4_tick_X4_isTick rfl rfl rfl (by decide +kernel) ⟨Nat.le_of_ble_eq_true rfl, Nat.le_of_ble_eq_true rfl⟩) rfl hl.1 rfl (Nat.le_of_ble_eq_true rfl) dX4_tick_7 ⟨Nat.le_of_ble_eq_true rfl, Nat.le_of_ble_eq_true rfl⟩ (fun v_1 u H locs hp hM => ?_)
  obtain ⟨hv_, hu_⟩ := hp
  have hv_ := Eq.symm hv_
  have hu_ := Eq.symm hu_
  subst hv_
  subst hu_
  rw [show (isN (nI t) 0 (nI nt - 1) : Int32) = 1 from isN_in (by omega) ht]
  refine lv_if_eq (tgt := 32) hx hb dX4_tick_10 (by decide) (fun c_2 => absurd c_2 (by decide)) (fun c_2 => ?_)
  refine lv_iload_n hx hb dX4_tick_13 rfl (lv_at hl 2 rfl) ?_
  refine lv_iconst (v := 0) hx hb dX4_tick_14 (by decide) ?_
  refine lv_bipush (v := 8) hx hb dX4_tick_15 (by decide) ?_
  refine fb_callSi hx hb hml hown hts hM (As := [.int 0, .int 0, .int 8]) (rest := []) (c_X4_isIn D y l S V (t0 I o) 0 0 8) (cwS 3 hts gX4_tick_X4_isIn rfl rfl rfl (by decide +kernel) ⟨Nat.le_of_ble_eq_true rfl, Nat.le_of_ble_eq_true rfl⟩) rfl hl.1 rfl (Nat.le_of_ble_eq_true rfl) dX4_tick_17 ⟨Nat.le_of_ble_eq_true rfl, Nat.le_of_ble_eq_true rfl⟩ (fun v_3 u H locs hp hM => ?_)
  obtain ⟨hv_, hu_⟩ := hp
  have hv_ := Eq.symm hv_
  have hu_ := Eq.symm hu_
  subst hv_
  subst hu_
  rw [show (isN 0 0 8 : Int32) = 1 from by decide]
  refine lv_if_eq (tgt := 32) hx hb dX4_tick_20 (by decide) (fun c_4 => absurd c_4 (by decide)) (fun c_4 => ?_)
  refine lv_aload_n hx hb dX4_tick_23 rfl (lv_at hl 0 rfl) ?_
  refine lv_iload_n hx hb dX4_tick_24 rfl (lv_at hl 1 rfl) ?_
  refine lv_iload_n hx hb dX4_tick_25 rfl (lv_at hl 2 rfl) ?_
  refine fb_callVi (r := o) hx hb hml hown hts hM ((hA.1).1) (ce4 ((hA.1).2)) rfl (As := [.int (nI t), .int 0]) (rest := []) (c_X4_tickTold_0 D y l S V (t0 I o) o nt cf rf hA ns df hF.t0 t ht) (cwV 2 hts gX4_tick_X4_tickTold rfl rfl rfl (by decide +kernel) ⟨Nat.le_of_ble_eq_true rfl, Nat.le_of_ble_eq_true rfl⟩) rfl hl.1 rfl (Nat.le_of_ble_eq_true rfl) dX4_tick_26 ⟨Nat.le_of_ble_eq_true rfl, Nat.le_of_ble_eq_true rfl⟩ (fun v_5 u H locs hp hM => ?_)
  obtain ⟨hv_, hu_⟩ := hp
  have hv_ := Eq.symm hv_
  have hu_ := Eq.symm hu_
  subst hv_
  subst hu_
  refine lv_goto (tgt := 37) hx hb dX4_tick_29 (by decide) ?_
  rw [hQ]
  exact fb_iret hx hb hr hlocks hM (⟨by first | rfl | rw [t0_ne I (show o + 10 + t ≠ o by omega)] | rw [t0_ne I (show o + 20 + t ≠ o by omega)], rfl⟩) dX4_tick_37

set_option maxHeartbeats 4000000 in
set_option maxRecDepth 100000 in
theorem c_X4_tick_1 (D : va_G) (y : Nat → ClassId) (l : Launch) (S : fb_Sh) (V I : fb_V) (o nt : Nat) (cf rf : Nat → Nat) (hA : MdAt S o nt cf rf) (ns : Nat) (df : Nat → Nat) (hF : MF I o ns nt cf rf df) (t : Nat) (ht : t < nt) : CI D y l yX4_tick wsX4_tick rm_X4_tick [.ref (sa S o), .int (nI t), .int 1] (S, V, (sT V), I) (fun z u => z = nI (rf t) ∧ u = (S, V, sT V, t0 I o)) 0 0 := by
  refine CI.of (cc := cX4_tick) (maxL := 3) (ret := (some .int)) (by decide) rfl (Nat.le_of_ble_eq_true rfl) ?_
  intro pv ev s mv below meth cv A hx hb hml hr hown hts hlocks hname hM ls hl
  have hown : s.vm.findClass RX4 = some mv.cls := hown
  have hl : lv_has ls 3 [(0, .ref (sa S o)), (1, .int (nI t)), (2, .int 1)] := hl
  have hin4 : ∀ x ∈ wsX40, x ∈ wsX4_tick := by decide +kernel
  obtain ⟨Q, hQ⟩ : ∃ Q, Q = MQ below (va_Qi (fun z u => z = nI (rf t) ∧ u = (S, V, sT V, t0 I o)) (fun u t => fb_P D y A u t) A) (([.ref (sa S o), .int (nI t), .int 1] : List Value).toArray) s 0 0 A := ⟨_, rfl⟩
  rw [← hQ]
  have hns : ns ≤ 12 := hF.2.2.1
  have hnt : nt ≤ 6 := hF.2.2.2.1
  have hcr := hF.cr ht
  refine lv_aload_n hx hb dX4_tick_0 rfl (lv_at hl 0 rfl) ?_
  refine lv_iconst (v := 0) hx hb dX4_tick_1 (by decide) ?_
  refine fb_put (r := o) hx hb hown hts hin4 tyX4 tyX4_ok nmX4 hM ((hA.1).1) (ce4 ((hA.1).2)) rfl 0 (by decide) (hts (.fieldLink RX4 40 "FeatherBedsModel" "thrown" "I") (by decide +kernel)) (fun _ h9 => h9) rfl (ty := .int) (by decide +kernel) rfl rfl (Nat.le_of_ble_eq_true rfl) dX4_tick_2 (up_I (j := 0) (v := 0) (by rw [ce4 ((hA.1).2)]; simp [va_up, upd])) (w' := (S, V, (sT V), (va_up I o (upd (I o) 0 0)))) ⟨rfl, rfl, rfl⟩ (fun H locs hM => ?_)
  have eI : (va_up I o (upd (I o) 0 0)) = (t0 I o) := rfl
  rw [eI] at hM
  clear eI
  refine lv_aload_n hx hb dX4_tick_5 rfl (lv_at hl 0 rfl) ?_
  refine lv_iload_n hx hb dX4_tick_6 rfl (lv_at hl 1 rfl) ?_
  refine fb_callVi (r := o) hx hb hml hown hts hM ((hA.1).1) (ce4 ((hA.1).2)) rfl (As := [.int (nI t)]) (rest := []) (c_X4_isTick D y l S V (t0 I o) o nt cf rf hA ns df hF.t0 (nI t)) (cwV 1 hts gX4_tick_X4_isTick rfl rfl rfl (by decide +kernel) ⟨Nat.le_of_ble_eq_true rfl, Nat.le_of_ble_eq_true rfl⟩) rfl hl.1 rfl (Nat.le_of_ble_eq_true rfl) dX4_tick_7 ⟨Nat.le_of_ble_eq_true rfl, Nat.le_of_ble_eq_true rfl⟩ (fun v_1 u H locs hp hM => ?_)
  obtain ⟨hv_, hu_⟩ := hp
  have hv_ := Eq.symm hv_
  have hu_ := Eq.symm hu_
  subst hv_
  subst hu_
  rw [show (isN (nI t) 0 (nI nt - 1) : Int32) = 1 from isN_in (by omega) ht]
  refine lv_if_eq (tgt := 32) hx hb dX4_tick_10 (by decide) (fun c_2 => absurd c_2 (by decide)) (fun c_2 => ?_)
  refine lv_iload_n hx hb dX4_tick_13 rfl (lv_at hl 2 rfl) ?_
  refine lv_iconst (v := 0) hx hb dX4_tick_14 (by decide) ?_
  refine lv_bipush (v := 8) hx hb dX4_tick_15 (by decide) ?_
  refine fb_callSi hx hb hml hown hts hM (As := [.int 1, .int 0, .int 8]) (rest := []) (c_X4_isIn D y l S V (t0 I o) 1 0 8) (cwS 3 hts gX4_tick_X4_isIn rfl rfl rfl (by decide +kernel) ⟨Nat.le_of_ble_eq_true rfl, Nat.le_of_ble_eq_true rfl⟩) rfl hl.1 rfl (Nat.le_of_ble_eq_true rfl) dX4_tick_17 ⟨Nat.le_of_ble_eq_true rfl, Nat.le_of_ble_eq_true rfl⟩ (fun v_3 u H locs hp hM => ?_)
  obtain ⟨hv_, hu_⟩ := hp
  have hv_ := Eq.symm hv_
  have hu_ := Eq.symm hu_
  subst hv_
  subst hu_
  rw [show (isN 1 0 8 : Int32) = 1 from by decide]
  refine lv_if_eq (tgt := 32) hx hb dX4_tick_20 (by decide) (fun c_4 => absurd c_4 (by decide)) (fun c_4 => ?_)
  refine lv_aload_n hx hb dX4_tick_23 rfl (lv_at hl 0 rfl) ?_
  refine lv_iload_n hx hb dX4_tick_24 rfl (lv_at hl 1 rfl) ?_
  refine lv_iload_n hx hb dX4_tick_25 rfl (lv_at hl 2 rfl) ?_
  refine fb_callVi (r := o) hx hb hml hown hts hM ((hA.1).1) (ce4 ((hA.1).2)) rfl (As := [.int (nI t), .int 1]) (rest := []) (c_X4_tickTold_1 D y l S V (t0 I o) o nt cf rf hA ns df hF.t0 t ht) (cwV 2 hts gX4_tick_X4_tickTold rfl rfl rfl (by decide +kernel) ⟨Nat.le_of_ble_eq_true rfl, Nat.le_of_ble_eq_true rfl⟩) rfl hl.1 rfl (Nat.le_of_ble_eq_true rfl) dX4_tick_26 ⟨Nat.le_of_ble_eq_true rfl, Nat.le_of_ble_eq_true rfl⟩ (fun v_5 u H locs hp hM => ?_)
  obtain ⟨hv_, hu_⟩ := hp
  have hv_ := Eq.symm hv_
  have hu_ := Eq.symm hu_
  subst hv_
  subst hu_
  refine lv_goto (tgt := 37) hx hb dX4_tick_29 (by decide) ?_
  rw [hQ]
  exact fb_iret hx hb hr hlocks hM (⟨by first | rfl | rw [t0_ne I (show o + 10 + t ≠ o by omega)] | rw [t0_ne I (show o + 20 + t ≠ o by omega)], rfl⟩) dX4_tick_37

set_option maxHeartbeats 4000000 in
set_option maxRecDepth 100000 in
theorem c_X4_tick_2 (D : va_G) (y : Nat → ClassId) (l : Launch) (S : fb_Sh) (V I : fb_V) (o nt : Nat) (cf rf : Nat → Nat) (hA : MdAt S o nt cf rf) (ns : Nat) (df : Nat → Nat) (hF : MF I o ns nt cf rf df) (t : Nat) (ht : t < nt) : CI D y l yX4_tick wsX4_tick rm_X4_tick [.ref (sa S o), .int (nI t), .int 2] (S, V, (sT V), I) (fun z u => z = nI (df t) ∧ u = (S, V, sT V, t0 I o)) 0 0 := by
  refine CI.of (cc := cX4_tick) (maxL := 3) (ret := (some .int)) (by decide) rfl (Nat.le_of_ble_eq_true rfl) ?_
  intro pv ev s mv below meth cv A hx hb hml hr hown hts hlocks hname hM ls hl
  have hown : s.vm.findClass RX4 = some mv.cls := hown
  have hl : lv_has ls 3 [(0, .ref (sa S o)), (1, .int (nI t)), (2, .int 2)] := hl
  have hin4 : ∀ x ∈ wsX40, x ∈ wsX4_tick := by decide +kernel
  obtain ⟨Q, hQ⟩ : ∃ Q, Q = MQ below (va_Qi (fun z u => z = nI (df t) ∧ u = (S, V, sT V, t0 I o)) (fun u t => fb_P D y A u t) A) (([.ref (sa S o), .int (nI t), .int 2] : List Value).toArray) s 0 0 A := ⟨_, rfl⟩
  rw [← hQ]
  have hns : ns ≤ 12 := hF.2.2.1
  have hnt : nt ≤ 6 := hF.2.2.2.1
  have hcr := hF.cr ht
  refine lv_aload_n hx hb dX4_tick_0 rfl (lv_at hl 0 rfl) ?_
  refine lv_iconst (v := 0) hx hb dX4_tick_1 (by decide) ?_
  refine fb_put (r := o) hx hb hown hts hin4 tyX4 tyX4_ok nmX4 hM ((hA.1).1) (ce4 ((hA.1).2)) rfl 0 (by decide) (hts (.fieldLink RX4 40 "FeatherBedsModel" "thrown" "I") (by decide +kernel)) (fun _ h9 => h9) rfl (ty := .int) (by decide +kernel) rfl rfl (Nat.le_of_ble_eq_true rfl) dX4_tick_2 (up_I (j := 0) (v := 0) (by rw [ce4 ((hA.1).2)]; simp [va_up, upd])) (w' := (S, V, (sT V), (va_up I o (upd (I o) 0 0)))) ⟨rfl, rfl, rfl⟩ (fun H locs hM => ?_)
  have eI : (va_up I o (upd (I o) 0 0)) = (t0 I o) := rfl
  rw [eI] at hM
  clear eI
  refine lv_aload_n hx hb dX4_tick_5 rfl (lv_at hl 0 rfl) ?_
  refine lv_iload_n hx hb dX4_tick_6 rfl (lv_at hl 1 rfl) ?_
  refine fb_callVi (r := o) hx hb hml hown hts hM ((hA.1).1) (ce4 ((hA.1).2)) rfl (As := [.int (nI t)]) (rest := []) (c_X4_isTick D y l S V (t0 I o) o nt cf rf hA ns df hF.t0 (nI t)) (cwV 1 hts gX4_tick_X4_isTick rfl rfl rfl (by decide +kernel) ⟨Nat.le_of_ble_eq_true rfl, Nat.le_of_ble_eq_true rfl⟩) rfl hl.1 rfl (Nat.le_of_ble_eq_true rfl) dX4_tick_7 ⟨Nat.le_of_ble_eq_true rfl, Nat.le_of_ble_eq_true rfl⟩ (fun v_1 u H locs hp hM => ?_)
  obtain ⟨hv_, hu_⟩ := hp
  have hv_ := Eq.symm hv_
  have hu_ := Eq.symm hu_
  subst hv_
  subst hu_
  rw [show (isN (nI t) 0 (nI nt - 1) : Int32) = 1 from isN_in (by omega) ht]
  refine lv_if_eq (tgt := 32) hx hb dX4_tick_10 (by decide) (fun c_2 => absurd c_2 (by decide)) (fun c_2 => ?_)
  refine lv_iload_n hx hb dX4_tick_13 rfl (lv_at hl 2 rfl) ?_
  refine lv_iconst (v := 0) hx hb dX4_tick_14 (by decide) ?_
  refine lv_bipush (v := 8) hx hb dX4_tick_15 (by decide) ?_
  refine fb_callSi hx hb hml hown hts hM (As := [.int 2, .int 0, .int 8]) (rest := []) (c_X4_isIn D y l S V (t0 I o) 2 0 8) (cwS 3 hts gX4_tick_X4_isIn rfl rfl rfl (by decide +kernel) ⟨Nat.le_of_ble_eq_true rfl, Nat.le_of_ble_eq_true rfl⟩) rfl hl.1 rfl (Nat.le_of_ble_eq_true rfl) dX4_tick_17 ⟨Nat.le_of_ble_eq_true rfl, Nat.le_of_ble_eq_true rfl⟩ (fun v_3 u H locs hp hM => ?_)
  obtain ⟨hv_, hu_⟩ := hp
  have hv_ := Eq.symm hv_
  have hu_ := Eq.symm hu_
  subst hv_
  subst hu_
  rw [show (isN 2 0 8 : Int32) = 1 from by decide]
  refine lv_if_eq (tgt := 32) hx hb dX4_tick_20 (by decide) (fun c_4 => absurd c_4 (by decide)) (fun c_4 => ?_)
  refine lv_aload_n hx hb dX4_tick_23 rfl (lv_at hl 0 rfl) ?_
  refine lv_iload_n hx hb dX4_tick_24 rfl (lv_at hl 1 rfl) ?_
  refine lv_iload_n hx hb dX4_tick_25 rfl (lv_at hl 2 rfl) ?_
  refine fb_callVi (r := o) hx hb hml hown hts hM ((hA.1).1) (ce4 ((hA.1).2)) rfl (As := [.int (nI t), .int 2]) (rest := []) (c_X4_tickTold_2 D y l S V (t0 I o) o nt cf rf hA ns df hF.t0 t ht) (cwV 2 hts gX4_tick_X4_tickTold rfl rfl rfl (by decide +kernel) ⟨Nat.le_of_ble_eq_true rfl, Nat.le_of_ble_eq_true rfl⟩) rfl hl.1 rfl (Nat.le_of_ble_eq_true rfl) dX4_tick_26 ⟨Nat.le_of_ble_eq_true rfl, Nat.le_of_ble_eq_true rfl⟩ (fun v_5 u H locs hp hM => ?_)
  obtain ⟨hv_, hu_⟩ := hp
  have hv_ := Eq.symm hv_
  have hu_ := Eq.symm hu_
  subst hv_
  subst hu_
  refine lv_goto (tgt := 37) hx hb dX4_tick_29 (by decide) ?_
  rw [hQ]
  exact fb_iret hx hb hr hlocks hM (⟨by first | rfl | rw [t0_ne I (show o + 10 + t ≠ o by omega)] | rw [t0_ne I (show o + 20 + t ≠ o by omega)], rfl⟩) dX4_tick_37

set_option maxHeartbeats 4000000 in
set_option maxRecDepth 100000 in
theorem c_X4_tick_3 (D : va_G) (y : Nat → ClassId) (l : Launch) (S : fb_Sh) (V I : fb_V) (o nt : Nat) (cf rf : Nat → Nat) (hA : MdAt S o nt cf rf) (ns : Nat) (df : Nat → Nat) (hF : MF I o ns nt cf rf df) (t : Nat) (ht : t < nt) : CI D y l yX4_tick wsX4_tick rm_X4_tick [.ref (sa S o), .int (nI t), .int 3] (S, V, (sT V), I) (fun z u => z = asf (I (o + 10 + t)) (6 * (cf t * rf t)) ∧ u = (S, V, sT V, t0 I o)) 0 0 := by
  refine CI.of (cc := cX4_tick) (maxL := 3) (ret := (some .int)) (by decide) rfl (Nat.le_of_ble_eq_true rfl) ?_
  intro pv ev s mv below meth cv A hx hb hml hr hown hts hlocks hname hM ls hl
  have hown : s.vm.findClass RX4 = some mv.cls := hown
  have hl : lv_has ls 3 [(0, .ref (sa S o)), (1, .int (nI t)), (2, .int 3)] := hl
  have hin4 : ∀ x ∈ wsX40, x ∈ wsX4_tick := by decide +kernel
  obtain ⟨Q, hQ⟩ : ∃ Q, Q = MQ below (va_Qi (fun z u => z = asf (I (o + 10 + t)) (6 * (cf t * rf t)) ∧ u = (S, V, sT V, t0 I o)) (fun u t => fb_P D y A u t) A) (([.ref (sa S o), .int (nI t), .int 3] : List Value).toArray) s 0 0 A := ⟨_, rfl⟩
  rw [← hQ]
  have hns : ns ≤ 12 := hF.2.2.1
  have hnt : nt ≤ 6 := hF.2.2.2.1
  have hcr := hF.cr ht
  refine lv_aload_n hx hb dX4_tick_0 rfl (lv_at hl 0 rfl) ?_
  refine lv_iconst (v := 0) hx hb dX4_tick_1 (by decide) ?_
  refine fb_put (r := o) hx hb hown hts hin4 tyX4 tyX4_ok nmX4 hM ((hA.1).1) (ce4 ((hA.1).2)) rfl 0 (by decide) (hts (.fieldLink RX4 40 "FeatherBedsModel" "thrown" "I") (by decide +kernel)) (fun _ h9 => h9) rfl (ty := .int) (by decide +kernel) rfl rfl (Nat.le_of_ble_eq_true rfl) dX4_tick_2 (up_I (j := 0) (v := 0) (by rw [ce4 ((hA.1).2)]; simp [va_up, upd])) (w' := (S, V, (sT V), (va_up I o (upd (I o) 0 0)))) ⟨rfl, rfl, rfl⟩ (fun H locs hM => ?_)
  have eI : (va_up I o (upd (I o) 0 0)) = (t0 I o) := rfl
  rw [eI] at hM
  clear eI
  refine lv_aload_n hx hb dX4_tick_5 rfl (lv_at hl 0 rfl) ?_
  refine lv_iload_n hx hb dX4_tick_6 rfl (lv_at hl 1 rfl) ?_
  refine fb_callVi (r := o) hx hb hml hown hts hM ((hA.1).1) (ce4 ((hA.1).2)) rfl (As := [.int (nI t)]) (rest := []) (c_X4_isTick D y l S V (t0 I o) o nt cf rf hA ns df hF.t0 (nI t)) (cwV 1 hts gX4_tick_X4_isTick rfl rfl rfl (by decide +kernel) ⟨Nat.le_of_ble_eq_true rfl, Nat.le_of_ble_eq_true rfl⟩) rfl hl.1 rfl (Nat.le_of_ble_eq_true rfl) dX4_tick_7 ⟨Nat.le_of_ble_eq_true rfl, Nat.le_of_ble_eq_true rfl⟩ (fun v_1 u H locs hp hM => ?_)
  obtain ⟨hv_, hu_⟩ := hp
  have hv_ := Eq.symm hv_
  have hu_ := Eq.symm hu_
  subst hv_
  subst hu_
  rw [show (isN (nI t) 0 (nI nt - 1) : Int32) = 1 from isN_in (by omega) ht]
  refine lv_if_eq (tgt := 32) hx hb dX4_tick_10 (by decide) (fun c_2 => absurd c_2 (by decide)) (fun c_2 => ?_)
  refine lv_iload_n hx hb dX4_tick_13 rfl (lv_at hl 2 rfl) ?_
  refine lv_iconst (v := 0) hx hb dX4_tick_14 (by decide) ?_
  refine lv_bipush (v := 8) hx hb dX4_tick_15 (by decide) ?_
  refine fb_callSi hx hb hml hown hts hM (As := [.int 3, .int 0, .int 8]) (rest := []) (c_X4_isIn D y l S V (t0 I o) 3 0 8) (cwS 3 hts gX4_tick_X4_isIn rfl rfl rfl (by decide +kernel) ⟨Nat.le_of_ble_eq_true rfl, Nat.le_of_ble_eq_true rfl⟩) rfl hl.1 rfl (Nat.le_of_ble_eq_true rfl) dX4_tick_17 ⟨Nat.le_of_ble_eq_true rfl, Nat.le_of_ble_eq_true rfl⟩ (fun v_3 u H locs hp hM => ?_)
  obtain ⟨hv_, hu_⟩ := hp
  have hv_ := Eq.symm hv_
  have hu_ := Eq.symm hu_
  subst hv_
  subst hu_
  rw [show (isN 3 0 8 : Int32) = 1 from by decide]
  refine lv_if_eq (tgt := 32) hx hb dX4_tick_20 (by decide) (fun c_4 => absurd c_4 (by decide)) (fun c_4 => ?_)
  refine lv_aload_n hx hb dX4_tick_23 rfl (lv_at hl 0 rfl) ?_
  refine lv_iload_n hx hb dX4_tick_24 rfl (lv_at hl 1 rfl) ?_
  refine lv_iload_n hx hb dX4_tick_25 rfl (lv_at hl 2 rfl) ?_
  refine fb_callVi (r := o) hx hb hml hown hts hM ((hA.1).1) (ce4 ((hA.1).2)) rfl (As := [.int (nI t), .int 3]) (rest := []) (c_X4_tickTold_3 D y l S V (t0 I o) o nt cf rf hA ns df hF.t0 t ht) (cwV 2 hts gX4_tick_X4_tickTold rfl rfl rfl (by decide +kernel) ⟨Nat.le_of_ble_eq_true rfl, Nat.le_of_ble_eq_true rfl⟩) rfl hl.1 rfl (Nat.le_of_ble_eq_true rfl) dX4_tick_26 ⟨Nat.le_of_ble_eq_true rfl, Nat.le_of_ble_eq_true rfl⟩ (fun v_5 u H locs hp hM => ?_)
  obtain ⟨hv_, hu_⟩ := hp
  have hv_ := Eq.symm hv_
  have hu_ := Eq.symm hu_
  subst hv_
  subst hu_
  refine lv_goto (tgt := 37) hx hb dX4_tick_29 (by decide) ?_
  rw [hQ]
  exact fb_iret hx hb hr hlocks hM (⟨by first | rfl | rw [t0_ne I (show o + 10 + t ≠ o by omega)] | rw [t0_ne I (show o + 20 + t ≠ o by omega)], rfl⟩) dX4_tick_37

set_option maxHeartbeats 4000000 in
set_option maxRecDepth 100000 in
theorem c_X4_tick_4 (D : va_G) (y : Nat → ClassId) (l : Launch) (S : fb_Sh) (V I : fb_V) (o nt : Nat) (cf rf : Nat → Nat) (hA : MdAt S o nt cf rf) (ns : Nat) (df : Nat → Nat) (hF : MF I o ns nt cf rf df) (t : Nat) (ht : t < nt) : CI D y l yX4_tick wsX4_tick rm_X4_tick [.ref (sa S o), .int (nI t), .int 4] (S, V, (sT V), I) (fun z u => z = wsm (mx (I (o + 10 + t))) (cf t * rf t) ∧ u = (S, V, sT V, t0 I o)) 0 0 := by
  refine CI.of (cc := cX4_tick) (maxL := 3) (ret := (some .int)) (by decide) rfl (Nat.le_of_ble_eq_true rfl) ?_
  intro pv ev s mv below meth cv A hx hb hml hr hown hts hlocks hname hM ls hl
  have hown : s.vm.findClass RX4 = some mv.cls := hown
  have hl : lv_has ls 3 [(0, .ref (sa S o)), (1, .int (nI t)), (2, .int 4)] := hl
  have hin4 : ∀ x ∈ wsX40, x ∈ wsX4_tick := by decide +kernel
  obtain ⟨Q, hQ⟩ : ∃ Q, Q = MQ below (va_Qi (fun z u => z = wsm (mx (I (o + 10 + t))) (cf t * rf t) ∧ u = (S, V, sT V, t0 I o)) (fun u t => fb_P D y A u t) A) (([.ref (sa S o), .int (nI t), .int 4] : List Value).toArray) s 0 0 A := ⟨_, rfl⟩
  rw [← hQ]
  have hns : ns ≤ 12 := hF.2.2.1
  have hnt : nt ≤ 6 := hF.2.2.2.1
  have hcr := hF.cr ht
  refine lv_aload_n hx hb dX4_tick_0 rfl (lv_at hl 0 rfl) ?_
  refine lv_iconst (v := 0) hx hb dX4_tick_1 (by decide) ?_
  refine fb_put (r := o) hx hb hown hts hin4 tyX4 tyX4_ok nmX4 hM ((hA.1).1) (ce4 ((hA.1).2)) rfl 0 (by decide) (hts (.fieldLink RX4 40 "FeatherBedsModel" "thrown" "I") (by decide +kernel)) (fun _ h9 => h9) rfl (ty := .int) (by decide +kernel) rfl rfl (Nat.le_of_ble_eq_true rfl) dX4_tick_2 (up_I (j := 0) (v := 0) (by rw [ce4 ((hA.1).2)]; simp [va_up, upd])) (w' := (S, V, (sT V), (va_up I o (upd (I o) 0 0)))) ⟨rfl, rfl, rfl⟩ (fun H locs hM => ?_)
  have eI : (va_up I o (upd (I o) 0 0)) = (t0 I o) := rfl
  rw [eI] at hM
  clear eI
  refine lv_aload_n hx hb dX4_tick_5 rfl (lv_at hl 0 rfl) ?_
  refine lv_iload_n hx hb dX4_tick_6 rfl (lv_at hl 1 rfl) ?_
  refine fb_callVi (r := o) hx hb hml hown hts hM ((hA.1).1) (ce4 ((hA.1).2)) rfl (As := [.int (nI t)]) (rest := []) (c_X4_isTick D y l S V (t0 I o) o nt cf rf hA ns df hF.t0 (nI t)) (cwV 1 hts gX4_tick_X4_isTick rfl rfl rfl (by decide +kernel) ⟨Nat.le_of_ble_eq_true rfl, Nat.le_of_ble_eq_true rfl⟩) rfl hl.1 rfl (Nat.le_of_ble_eq_true rfl) dX4_tick_7 ⟨Nat.le_of_ble_eq_true rfl, Nat.le_of_ble_eq_true rfl⟩ (fun v_1 u H locs hp hM => ?_)
  obtain ⟨hv_, hu_⟩ := hp
  have hv_ := Eq.symm hv_
  have hu_ := Eq.symm hu_
  subst hv_
  subst hu_
  rw [show (isN (nI t) 0 (nI nt - 1) : Int32) = 1 from isN_in (by omega) ht]
  refine lv_if_eq (tgt := 32) hx hb dX4_tick_10 (by decide) (fun c_2 => absurd c_2 (by decide)) (fun c_2 => ?_)
  refine lv_iload_n hx hb dX4_tick_13 rfl (lv_at hl 2 rfl) ?_
  refine lv_iconst (v := 0) hx hb dX4_tick_14 (by decide) ?_
  refine lv_bipush (v := 8) hx hb dX4_tick_15 (by decide) ?_
  refine fb_callSi hx hb hml hown hts hM (As := [.int 4, .int 0, .int 8]) (rest := []) (c_X4_isIn D y l S V (t0 I o) 4 0 8) (cwS 3 hts gX4_tick_X4_isIn rfl rfl rfl (by decide +kernel) ⟨Nat.le_of_ble_eq_true rfl, Nat.le_of_ble_eq_true rfl⟩) rfl hl.1 rfl (Nat.le_of_ble_eq_true rfl) dX4_tick_17 ⟨Nat.le_of_ble_eq_true rfl, Nat.le_of_ble_eq_true rfl⟩ (fun v_3 u H locs hp hM => ?_)
  obtain ⟨hv_, hu_⟩ := hp
  have hv_ := Eq.symm hv_
  have hu_ := Eq.symm hu_
  subst hv_
  subst hu_
  rw [show (isN 4 0 8 : Int32) = 1 from by decide]
  refine lv_if_eq (tgt := 32) hx hb dX4_tick_20 (by decide) (fun c_4 => absurd c_4 (by decide)) (fun c_4 => ?_)
  refine lv_aload_n hx hb dX4_tick_23 rfl (lv_at hl 0 rfl) ?_
  refine lv_iload_n hx hb dX4_tick_24 rfl (lv_at hl 1 rfl) ?_
  refine lv_iload_n hx hb dX4_tick_25 rfl (lv_at hl 2 rfl) ?_
  refine fb_callVi (r := o) hx hb hml hown hts hM ((hA.1).1) (ce4 ((hA.1).2)) rfl (As := [.int (nI t), .int 4]) (rest := []) (c_X4_tickTold_4 D y l S V (t0 I o) o nt cf rf hA ns df hF.t0 t ht) (cwV 2 hts gX4_tick_X4_tickTold rfl rfl rfl (by decide +kernel) ⟨Nat.le_of_ble_eq_true rfl, Nat.le_of_ble_eq_true rfl⟩) rfl hl.1 rfl (Nat.le_of_ble_eq_true rfl) dX4_tick_26 ⟨Nat.le_of_ble_eq_true rfl, Nat.le_of_ble_eq_true rfl⟩ (fun v_5 u H locs hp hM => ?_)
  obtain ⟨hv_, hu_⟩ := hp
  have hv_ := Eq.symm hv_
  have hu_ := Eq.symm hu_
  subst hv_
  subst hu_
  refine lv_goto (tgt := 37) hx hb dX4_tick_29 (by decide) ?_
  rw [hQ]
  exact fb_iret hx hb hr hlocks hM (⟨by first | rfl | rw [t0_ne I (show o + 10 + t ≠ o by omega)] | rw [t0_ne I (show o + 20 + t ≠ o by omega)], rfl⟩) dX4_tick_37

set_option maxHeartbeats 4000000 in
set_option maxRecDepth 100000 in
theorem c_X4_tick_5 (D : va_G) (y : Nat → ClassId) (l : Launch) (S : fb_Sh) (V I : fb_V) (o nt : Nat) (cf rf : Nat → Nat) (hA : MdAt S o nt cf rf) (ns : Nat) (df : Nat → Nat) (hF : MF I o ns nt cf rf df) (t : Nat) (ht : t < nt) : CI D y l yX4_tick wsX4_tick rm_X4_tick [.ref (sa S o), .int (nI t), .int 5] (S, V, (sT V), I) (fun z u => z = wm (mx (I (o + 10 + t)) (cld (mx (I (o + 10 + t))) (cf t * rf t))) ∧ u = (S, V, sT V, t0 I o)) 0 0 := by
  refine CI.of (cc := cX4_tick) (maxL := 3) (ret := (some .int)) (by decide) rfl (Nat.le_of_ble_eq_true rfl) ?_
  intro pv ev s mv below meth cv A hx hb hml hr hown hts hlocks hname hM ls hl
  have hown : s.vm.findClass RX4 = some mv.cls := hown
  have hl : lv_has ls 3 [(0, .ref (sa S o)), (1, .int (nI t)), (2, .int 5)] := hl
  have hin4 : ∀ x ∈ wsX40, x ∈ wsX4_tick := by decide +kernel
  obtain ⟨Q, hQ⟩ : ∃ Q, Q = MQ below (va_Qi (fun z u => z = wm (mx (I (o + 10 + t)) (cld (mx (I (o + 10 + t))) (cf t * rf t))) ∧ u = (S, V, sT V, t0 I o)) (fun u t => fb_P D y A u t) A) (([.ref (sa S o), .int (nI t), .int 5] : List Value).toArray) s 0 0 A := ⟨_, rfl⟩
  rw [← hQ]
  have hns : ns ≤ 12 := hF.2.2.1
  have hnt : nt ≤ 6 := hF.2.2.2.1
  have hcr := hF.cr ht
  refine lv_aload_n hx hb dX4_tick_0 rfl (lv_at hl 0 rfl) ?_
  refine lv_iconst (v := 0) hx hb dX4_tick_1 (by decide) ?_
  refine fb_put (r := o) hx hb hown hts hin4 tyX4 tyX4_ok nmX4 hM ((hA.1).1) (ce4 ((hA.1).2)) rfl 0 (by decide) (hts (.fieldLink RX4 40 "FeatherBedsModel" "thrown" "I") (by decide +kernel)) (fun _ h9 => h9) rfl (ty := .int) (by decide +kernel) rfl rfl (Nat.le_of_ble_eq_true rfl) dX4_tick_2 (up_I (j := 0) (v := 0) (by rw [ce4 ((hA.1).2)]; simp [va_up, upd])) (w' := (S, V, (sT V), (va_up I o (upd (I o) 0 0)))) ⟨rfl, rfl, rfl⟩ (fun H locs hM => ?_)
  have eI : (va_up I o (upd (I o) 0 0)) = (t0 I o) := rfl
  rw [eI] at hM
  clear eI
  refine lv_aload_n hx hb dX4_tick_5 rfl (lv_at hl 0 rfl) ?_
  refine lv_iload_n hx hb dX4_tick_6 rfl (lv_at hl 1 rfl) ?_
  refine fb_callVi (r := o) hx hb hml hown hts hM ((hA.1).1) (ce4 ((hA.1).2)) rfl (As := [.int (nI t)]) (rest := []) (c_X4_isTick D y l S V (t0 I o) o nt cf rf hA ns df hF.t0 (nI t)) (cwV 1 hts gX4_tick_X4_isTick rfl rfl rfl (by decide +kernel) ⟨Nat.le_of_ble_eq_true rfl, Nat.le_of_ble_eq_true rfl⟩) rfl hl.1 rfl (Nat.le_of_ble_eq_true rfl) dX4_tick_7 ⟨Nat.le_of_ble_eq_true rfl, Nat.le_of_ble_eq_true rfl⟩ (fun v_1 u H locs hp hM => ?_)
  obtain ⟨hv_, hu_⟩ := hp
  have hv_ := Eq.symm hv_
  have hu_ := Eq.symm hu_
  subst hv_
  subst hu_
  rw [show (isN (nI t) 0 (nI nt - 1) : Int32) = 1 from isN_in (by omega) ht]
  refine lv_if_eq (tgt := 32) hx hb dX4_tick_10 (by decide) (fun c_2 => absurd c_2 (by decide)) (fun c_2 => ?_)
  refine lv_iload_n hx hb dX4_tick_13 rfl (lv_at hl 2 rfl) ?_
  refine lv_iconst (v := 0) hx hb dX4_tick_14 (by decide) ?_
  refine lv_bipush (v := 8) hx hb dX4_tick_15 (by decide) ?_
  refine fb_callSi hx hb hml hown hts hM (As := [.int 5, .int 0, .int 8]) (rest := []) (c_X4_isIn D y l S V (t0 I o) 5 0 8) (cwS 3 hts gX4_tick_X4_isIn rfl rfl rfl (by decide +kernel) ⟨Nat.le_of_ble_eq_true rfl, Nat.le_of_ble_eq_true rfl⟩) rfl hl.1 rfl (Nat.le_of_ble_eq_true rfl) dX4_tick_17 ⟨Nat.le_of_ble_eq_true rfl, Nat.le_of_ble_eq_true rfl⟩ (fun v_3 u H locs hp hM => ?_)
  obtain ⟨hv_, hu_⟩ := hp
  have hv_ := Eq.symm hv_
  have hu_ := Eq.symm hu_
  subst hv_
  subst hu_
  rw [show (isN 5 0 8 : Int32) = 1 from by decide]
  refine lv_if_eq (tgt := 32) hx hb dX4_tick_20 (by decide) (fun c_4 => absurd c_4 (by decide)) (fun c_4 => ?_)
  refine lv_aload_n hx hb dX4_tick_23 rfl (lv_at hl 0 rfl) ?_
  refine lv_iload_n hx hb dX4_tick_24 rfl (lv_at hl 1 rfl) ?_
  refine lv_iload_n hx hb dX4_tick_25 rfl (lv_at hl 2 rfl) ?_
  refine fb_callVi (r := o) hx hb hml hown hts hM ((hA.1).1) (ce4 ((hA.1).2)) rfl (As := [.int (nI t), .int 5]) (rest := []) (c_X4_tickTold_5 D y l S V (t0 I o) o nt cf rf hA ns df hF.t0 t ht) (cwV 2 hts gX4_tick_X4_tickTold rfl rfl rfl (by decide +kernel) ⟨Nat.le_of_ble_eq_true rfl, Nat.le_of_ble_eq_true rfl⟩) rfl hl.1 rfl (Nat.le_of_ble_eq_true rfl) dX4_tick_26 ⟨Nat.le_of_ble_eq_true rfl, Nat.le_of_ble_eq_true rfl⟩ (fun v_5 u H locs hp hM => ?_)
  obtain ⟨hv_, hu_⟩ := hp
  have hv_ := Eq.symm hv_
  have hu_ := Eq.symm hu_
  subst hv_
  subst hu_
  refine lv_goto (tgt := 37) hx hb dX4_tick_29 (by decide) ?_
  rw [hQ]
  exact fb_iret hx hb hr hlocks hM (⟨by first | rfl | rw [t0_ne I (show o + 10 + t ≠ o by omega)] | rw [t0_ne I (show o + 20 + t ≠ o by omega)], rfl⟩) dX4_tick_37

set_option maxHeartbeats 4000000 in
set_option maxRecDepth 100000 in
theorem c_X4_tick_6 (D : va_G) (y : Nat → ClassId) (l : Launch) (S : fb_Sh) (V I : fb_V) (o nt : Nat) (cf rf : Nat → Nat) (hA : MdAt S o nt cf rf) (ns : Nat) (df : Nat → Nat) (hF : MF I o ns nt cf rf df) (t : Nat) (ht : t < nt) : CI D y l yX4_tick wsX4_tick rm_X4_tick [.ref (sa S o), .int (nI t), .int 6] (S, V, (sT V), I) (fun z u => z = nI (cld (mx (I (o + 10 + t))) (cf t * rf t)) ∧ u = (S, V, sT V, t0 I o)) 0 0 := by
  refine CI.of (cc := cX4_tick) (maxL := 3) (ret := (some .int)) (by decide) rfl (Nat.le_of_ble_eq_true rfl) ?_
  intro pv ev s mv below meth cv A hx hb hml hr hown hts hlocks hname hM ls hl
  have hown : s.vm.findClass RX4 = some mv.cls := hown
  have hl : lv_has ls 3 [(0, .ref (sa S o)), (1, .int (nI t)), (2, .int 6)] := hl
  have hin4 : ∀ x ∈ wsX40, x ∈ wsX4_tick := by decide +kernel
  obtain ⟨Q, hQ⟩ : ∃ Q, Q = MQ below (va_Qi (fun z u => z = nI (cld (mx (I (o + 10 + t))) (cf t * rf t)) ∧ u = (S, V, sT V, t0 I o)) (fun u t => fb_P D y A u t) A) (([.ref (sa S o), .int (nI t), .int 6] : List Value).toArray) s 0 0 A := ⟨_, rfl⟩
  rw [← hQ]
  have hns : ns ≤ 12 := hF.2.2.1
  have hnt : nt ≤ 6 := hF.2.2.2.1
  have hcr := hF.cr ht
  refine lv_aload_n hx hb dX4_tick_0 rfl (lv_at hl 0 rfl) ?_
  refine lv_iconst (v := 0) hx hb dX4_tick_1 (by decide) ?_
  refine fb_put (r := o) hx hb hown hts hin4 tyX4 tyX4_ok nmX4 hM ((hA.1).1) (ce4 ((hA.1).2)) rfl 0 (by decide) (hts (.fieldLink RX4 40 "FeatherBedsModel" "thrown" "I") (by decide +kernel)) (fun _ h9 => h9) rfl (ty := .int) (by decide +kernel) rfl rfl (Nat.le_of_ble_eq_true rfl) dX4_tick_2 (up_I (j := 0) (v := 0) (by rw [ce4 ((hA.1).2)]; simp [va_up, upd])) (w' := (S, V, (sT V), (va_up I o (upd (I o) 0 0)))) ⟨rfl, rfl, rfl⟩ (fun H locs hM => ?_)
  have eI : (va_up I o (upd (I o) 0 0)) = (t0 I o) := rfl
  rw [eI] at hM
  clear eI
  refine lv_aload_n hx hb dX4_tick_5 rfl (lv_at hl 0 rfl) ?_
  refine lv_iload_n hx hb dX4_tick_6 rfl (lv_at hl 1 rfl) ?_
  refine fb_callVi (r := o) hx hb hml hown hts hM ((hA.1).1) (ce4 ((hA.1).2)) rfl (As := [.int (nI t)]) (rest := []) (c_X4_isTick D y l S V (t0 I o) o nt cf rf hA ns df hF.t0 (nI t)) (cwV 1 hts gX4_tick_X4_isTick rfl rfl rfl (by decide +kernel) ⟨Nat.le_of_ble_eq_true rfl, Nat.le_of_ble_eq_true rfl⟩) rfl hl.1 rfl (Nat.le_of_ble_eq_true rfl) dX4_tick_7 ⟨Nat.le_of_ble_eq_true rfl, Nat.le_of_ble_eq_true rfl⟩ (fun v_1 u H locs hp hM => ?_)
  obtain ⟨hv_, hu_⟩ := hp
  have hv_ := Eq.symm hv_
  have hu_ := Eq.symm hu_
  subst hv_
  subst hu_
  rw [show (isN (nI t) 0 (nI nt - 1) : Int32) = 1 from isN_in (by omega) ht]
  refine lv_if_eq (tgt := 32) hx hb dX4_tick_10 (by decide) (fun c_2 => absurd c_2 (by decide)) (fun c_2 => ?_)
  refine lv_iload_n hx hb dX4_tick_13 rfl (lv_at hl 2 rfl) ?_
  refine lv_iconst (v := 0) hx hb dX4_tick_14 (by decide) ?_
  refine lv_bipush (v := 8) hx hb dX4_tick_15 (by decide) ?_
  refine fb_callSi hx hb hml hown hts hM (As := [.int 6, .int 0, .int 8]) (rest := []) (c_X4_isIn D y l S V (t0 I o) 6 0 8) (cwS 3 hts gX4_tick_X4_isIn rfl rfl rfl (by decide +kernel) ⟨Nat.le_of_ble_eq_true rfl, Nat.le_of_ble_eq_true rfl⟩) rfl hl.1 rfl (Nat.le_of_ble_eq_true rfl) dX4_tick_17 ⟨Nat.le_of_ble_eq_true rfl, Nat.le_of_ble_eq_true rfl⟩ (fun v_3 u H locs hp hM => ?_)
  obtain ⟨hv_, hu_⟩ := hp
  have hv_ := Eq.symm hv_
  have hu_ := Eq.symm hu_
  subst hv_
  subst hu_
  rw [show (isN 6 0 8 : Int32) = 1 from by decide]
  refine lv_if_eq (tgt := 32) hx hb dX4_tick_20 (by decide) (fun c_4 => absurd c_4 (by decide)) (fun c_4 => ?_)
  refine lv_aload_n hx hb dX4_tick_23 rfl (lv_at hl 0 rfl) ?_
  refine lv_iload_n hx hb dX4_tick_24 rfl (lv_at hl 1 rfl) ?_
  refine lv_iload_n hx hb dX4_tick_25 rfl (lv_at hl 2 rfl) ?_
  refine fb_callVi (r := o) hx hb hml hown hts hM ((hA.1).1) (ce4 ((hA.1).2)) rfl (As := [.int (nI t), .int 6]) (rest := []) (c_X4_tickTold_6 D y l S V (t0 I o) o nt cf rf hA ns df hF.t0 t ht) (cwV 2 hts gX4_tick_X4_tickTold rfl rfl rfl (by decide +kernel) ⟨Nat.le_of_ble_eq_true rfl, Nat.le_of_ble_eq_true rfl⟩) rfl hl.1 rfl (Nat.le_of_ble_eq_true rfl) dX4_tick_26 ⟨Nat.le_of_ble_eq_true rfl, Nat.le_of_ble_eq_true rfl⟩ (fun v_5 u H locs hp hM => ?_)
  obtain ⟨hv_, hu_⟩ := hp
  have hv_ := Eq.symm hv_
  have hu_ := Eq.symm hu_
  subst hv_
  subst hu_
  refine lv_goto (tgt := 37) hx hb dX4_tick_29 (by decide) ?_
  rw [hQ]
  exact fb_iret hx hb hr hlocks hM (⟨by first | rfl | rw [t0_ne I (show o + 10 + t ≠ o by omega)] | rw [t0_ne I (show o + 20 + t ≠ o by omega)], rfl⟩) dX4_tick_37

set_option maxHeartbeats 4000000 in
set_option maxRecDepth 100000 in
theorem c_X4_tick_7 (D : va_G) (y : Nat → ClassId) (l : Launch) (S : fb_Sh) (V I : fb_V) (o nt : Nat) (cf rf : Nat → Nat) (hA : MdAt S o nt cf rf) (ns : Nat) (df : Nat → Nat) (hF : MF I o ns nt cf rf df) (t : Nat) (ht : t < nt) : CI D y l yX4_tick wsX4_tick rm_X4_tick [.ref (sa S o), .int (nI t), .int 7] (S, V, (sT V), I) (fun z u => z = opc (cf t) (cf t * rf t) (I (o + 20 + t)) (2 * (cf t * rf t)) ∧ u = (S, V, sT V, t0 I o)) 0 0 := by
  refine CI.of (cc := cX4_tick) (maxL := 3) (ret := (some .int)) (by decide) rfl (Nat.le_of_ble_eq_true rfl) ?_
  intro pv ev s mv below meth cv A hx hb hml hr hown hts hlocks hname hM ls hl
  have hown : s.vm.findClass RX4 = some mv.cls := hown
  have hl : lv_has ls 3 [(0, .ref (sa S o)), (1, .int (nI t)), (2, .int 7)] := hl
  have hin4 : ∀ x ∈ wsX40, x ∈ wsX4_tick := by decide +kernel
  obtain ⟨Q, hQ⟩ : ∃ Q, Q = MQ below (va_Qi (fun z u => z = opc (cf t) (cf t * rf t) (I (o + 20 + t)) (2 * (cf t * rf t)) ∧ u = (S, V, sT V, t0 I o)) (fun u t => fb_P D y A u t) A) (([.ref (sa S o), .int (nI t), .int 7] : List Value).toArray) s 0 0 A := ⟨_, rfl⟩
  rw [← hQ]
  have hns : ns ≤ 12 := hF.2.2.1
  have hnt : nt ≤ 6 := hF.2.2.2.1
  have hcr := hF.cr ht
  refine lv_aload_n hx hb dX4_tick_0 rfl (lv_at hl 0 rfl) ?_
  refine lv_iconst (v := 0) hx hb dX4_tick_1 (by decide) ?_
  refine fb_put (r := o) hx hb hown hts hin4 tyX4 tyX4_ok nmX4 hM ((hA.1).1) (ce4 ((hA.1).2)) rfl 0 (by decide) (hts (.fieldLink RX4 40 "FeatherBedsModel" "thrown" "I") (by decide +kernel)) (fun _ h9 => h9) rfl (ty := .int) (by decide +kernel) rfl rfl (Nat.le_of_ble_eq_true rfl) dX4_tick_2 (up_I (j := 0) (v := 0) (by rw [ce4 ((hA.1).2)]; simp [va_up, upd])) (w' := (S, V, (sT V), (va_up I o (upd (I o) 0 0)))) ⟨rfl, rfl, rfl⟩ (fun H locs hM => ?_)
  have eI : (va_up I o (upd (I o) 0 0)) = (t0 I o) := rfl
  rw [eI] at hM
  clear eI
  refine lv_aload_n hx hb dX4_tick_5 rfl (lv_at hl 0 rfl) ?_
  refine lv_iload_n hx hb dX4_tick_6 rfl (lv_at hl 1 rfl) ?_
  refine fb_callVi (r := o) hx hb hml hown hts hM ((hA.1).1) (ce4 ((hA.1).2)) rfl (As := [.int (nI t)]) (rest := []) (c_X4_isTick D y l S V (t0 I o) o nt cf rf hA ns df hF.t0 (nI t)) (cwV 1 hts gX4_tick_X4_isTick rfl rfl rfl (by decide +kernel) ⟨Nat.le_of_ble_eq_true rfl, Nat.le_of_ble_eq_true rfl⟩) rfl hl.1 rfl (Nat.le_of_ble_eq_true rfl) dX4_tick_7 ⟨Nat.le_of_ble_eq_true rfl, Nat.le_of_ble_eq_true rfl⟩ (fun v_1 u H locs hp hM => ?_)
  obtain ⟨hv_, hu_⟩ := hp
  have hv_ := Eq.symm hv_
  have hu_ := Eq.symm hu_
  subst hv_
  subst hu_
  rw [show (isN (nI t) 0 (nI nt - 1) : Int32) = 1 from isN_in (by omega) ht]
  refine lv_if_eq (tgt := 32) hx hb dX4_tick_10 (by decide) (fun c_2 => absurd c_2 (by decide)) (fun c_2 => ?_)
  refine lv_iload_n hx hb dX4_tick_13 rfl (lv_at hl 2 rfl) ?_
  refine lv_iconst (v := 0) hx hb dX4_tick_14 (by decide) ?_
  refine lv_bipush (v := 8) hx hb dX4_tick_15 (by decide) ?_
  refine fb_callSi hx hb hml hown hts hM (As := [.int 7, .int 0, .int 8]) (rest := []) (c_X4_isIn D y l S V (t0 I o) 7 0 8) (cwS 3 hts gX4_tick_X4_isIn rfl rfl rfl (by decide +kernel) ⟨Nat.le_of_ble_eq_true rfl, Nat.le_of_ble_eq_true rfl⟩) rfl hl.1 rfl (Nat.le_of_ble_eq_true rfl) dX4_tick_17 ⟨Nat.le_of_ble_eq_true rfl, Nat.le_of_ble_eq_true rfl⟩ (fun v_3 u H locs hp hM => ?_)
  obtain ⟨hv_, hu_⟩ := hp
  have hv_ := Eq.symm hv_
  have hu_ := Eq.symm hu_
  subst hv_
  subst hu_
  rw [show (isN 7 0 8 : Int32) = 1 from by decide]
  refine lv_if_eq (tgt := 32) hx hb dX4_tick_20 (by decide) (fun c_4 => absurd c_4 (by decide)) (fun c_4 => ?_)
  refine lv_aload_n hx hb dX4_tick_23 rfl (lv_at hl 0 rfl) ?_
  refine lv_iload_n hx hb dX4_tick_24 rfl (lv_at hl 1 rfl) ?_
  refine lv_iload_n hx hb dX4_tick_25 rfl (lv_at hl 2 rfl) ?_
  refine fb_callVi (r := o) hx hb hml hown hts hM ((hA.1).1) (ce4 ((hA.1).2)) rfl (As := [.int (nI t), .int 7]) (rest := []) (c_X4_tickTold_7 D y l S V (t0 I o) o nt cf rf hA ns df hF.t0 t ht) (cwV 2 hts gX4_tick_X4_tickTold rfl rfl rfl (by decide +kernel) ⟨Nat.le_of_ble_eq_true rfl, Nat.le_of_ble_eq_true rfl⟩) rfl hl.1 rfl (Nat.le_of_ble_eq_true rfl) dX4_tick_26 ⟨Nat.le_of_ble_eq_true rfl, Nat.le_of_ble_eq_true rfl⟩ (fun v_5 u H locs hp hM => ?_)
  obtain ⟨hv_, hu_⟩ := hp
  have hv_ := Eq.symm hv_
  have hu_ := Eq.symm hu_
  subst hv_
  subst hu_
  refine lv_goto (tgt := 37) hx hb dX4_tick_29 (by decide) ?_
  rw [hQ]
  exact fb_iret hx hb hr hlocks hM (⟨by first | rfl | rw [t0_ne I (show o + 10 + t ≠ o by omega)] | rw [t0_ne I (show o + 20 + t ≠ o by omega)], rfl⟩) dX4_tick_37

abbrev rm_X4_square : Room := { frames := 5, cells := 0, slots := 0, locals := 113 }
set_option maxHeartbeats 4000000 in
set_option maxRecDepth 100000 in
theorem c_X4_square_f0t (D : va_G) (y : Nat → ClassId) (l : Launch) (S : fb_Sh) (V I : fb_V) (o nt : Nat) (cf rf : Nat → Nat) (hA : MdAt S o nt cf rf) (ns : Nat) (df : Nat → Nat) (hF : MF I o ns nt cf rf df) (p0 : Int32) (ho : p0 < 0 ∨ nI nt ≤ p0) (p1 : Int32) (p2 : Int32) : CI D y l yX4_square wsX4_square rm_X4_square [.ref (sa S o), .int p0, .int p1, .int p2] (S, V, (sT V), I) (fun z u => z = 0 ∧ u = (S, V, sT V, (tf I o 1))) 0 0 := by
  refine CI.of (cc := cX4_square) (maxL := 4) (ret := (some .int)) (by decide) rfl (Nat.le_of_ble_eq_true rfl) ?_
  intro pv ev s mv below meth cv A hx hb hml hr hown hts hlocks hname hM ls hl
  have hown : s.vm.findClass RX4 = some mv.cls := hown
  have hl : lv_has ls 4 [(0, .ref (sa S o)), (1, .int p0), (2, .int p1), (3, .int p2)] := hl
  have hin4 : ∀ x ∈ wsX40, x ∈ wsX4_square := by decide +kernel
  obtain ⟨Q, hQ⟩ : ∃ Q, Q = MQ below (va_Qi (fun z u => z = 0 ∧ u = (S, V, sT V, (tf I o 1))) (fun u t => fb_P D y A u t) A) (([.ref (sa S o), .int p0, .int p1, .int p2] : List Value).toArray) s 0 0 A := ⟨_, rfl⟩
  rw [← hQ]
  have hns : ns ≤ 12 := hF.2.2.1
  have hnt : nt ≤ 6 := hF.2.2.2.1
  refine lv_aload_n hx hb dX4_square_0 rfl (lv_at hl 0 rfl) ?_
  refine lv_iconst (v := 0) hx hb dX4_square_1 (by decide) ?_
  refine fb_put (r := o) hx hb hown hts hin4 tyX4 tyX4_ok nmX4 hM ((hA.1).1) (ce4 ((hA.1).2)) rfl 0 (by decide) (hts (.fieldLink RX4 40 "FeatherBedsModel" "thrown" "I") (by decide +kernel)) (fun _ h9 => h9) rfl (ty := .int) (by decide +kernel) rfl rfl (Nat.le_of_ble_eq_true rfl) dX4_square_2 (up_I (j := 0) (v := 0) (by rw [ce4 ((hA.1).2)]; simp [va_up, upd])) (w' := (S, V, (sT V), (va_up I o (upd (I o) 0 0)))) ⟨rfl, rfl, rfl⟩ (fun H locs hM => ?_)
  have eI : (va_up I o (upd (I o) 0 0)) = (t0 I o) := rfl
  rw [eI] at hM
  clear eI
  refine lv_aload_n hx hb dX4_square_5 rfl (lv_at hl 0 rfl) ?_
  refine lv_iload_n hx hb dX4_square_6 rfl (lv_at hl 1 rfl) ?_
  refine lv_iload_n hx hb dX4_square_7 rfl (lv_at hl 2 rfl) ?_
  refine fb_callVi (r := o) hx hb hml hown hts hM ((hA.1).1) (ce4 ((hA.1).2)) rfl (As := [.int p0, .int p1]) (rest := []) (c_X4_isSquare_ot D y l S V (t0 I o) o nt cf rf hA ns df hF.t0 p0 ho p1) (cwV 2 hts gX4_square_X4_isSquare rfl rfl rfl (by decide +kernel) ⟨Nat.le_of_ble_eq_true rfl, Nat.le_of_ble_eq_true rfl⟩) rfl hl.1 rfl (Nat.le_of_ble_eq_true rfl) dX4_square_8 ⟨Nat.le_of_ble_eq_true rfl, Nat.le_of_ble_eq_true rfl⟩ (fun v_1 u H locs hp hM => ?_)
  obtain ⟨hv_, hu_⟩ := hp
  have hv_ := Eq.symm hv_
  have hu_ := Eq.symm hu_
  subst hv_
  subst hu_
  refine lv_if_eq (tgt := 34) hx hb dX4_square_11 (by decide) (fun c_2 => ?_) (fun c_2 => absurd (by decide) c_2)
  refine lv_aload_n hx hb dX4_square_34 rfl (lv_at hl 0 rfl) ?_
  refine lv_iconst (v := 1) hx hb dX4_square_35 (by decide) ?_
  refine fb_callVi (r := o) hx hb hml hown hts hM ((hA.1).1) (ce4 ((hA.1).2)) rfl (As := [.int 1]) (rest := []) (c_X4_fail D y l S V (t0 I o) o nt cf rf hA 1) (cwV 1 hts gX4_square_X4_fail rfl rfl rfl (by decide +kernel) ⟨Nat.le_of_ble_eq_true rfl, Nat.le_of_ble_eq_true rfl⟩) rfl hl.1 rfl (Nat.le_of_ble_eq_true rfl) dX4_square_36 ⟨Nat.le_of_ble_eq_true rfl, Nat.le_of_ble_eq_true rfl⟩ (fun v_3 u H locs hp hM => ?_)
  obtain ⟨hv_, hu_⟩ := hp
  have hv_ := Eq.symm hv_
  have hu_ := Eq.symm hu_
  subst hv_
  subst hu_
  have eI : (tf (t0 I o) o 1) = (tf I o 1) := tf_t0 _ _ _
  rw [eI] at hM
  clear eI
  rw [hQ]
  exact fb_iret hx hb hr hlocks hM (⟨rfl, rfl⟩) dX4_square_39

set_option maxHeartbeats 4000000 in
set_option maxRecDepth 100000 in
theorem c_X4_square_f0q (D : va_G) (y : Nat → ClassId) (l : Launch) (S : fb_Sh) (V I : fb_V) (o nt : Nat) (cf rf : Nat → Nat) (hA : MdAt S o nt cf rf) (ns : Nat) (df : Nat → Nat) (hF : MF I o ns nt cf rf df) (t : Nat) (ht : t < nt) (p1 : Int32) (ho : p1 < 0 ∨ nI (cf t * rf t) ≤ p1) (p2 : Int32) : CI D y l yX4_square wsX4_square rm_X4_square [.ref (sa S o), .int (nI t), .int p1, .int p2] (S, V, (sT V), I) (fun z u => z = 0 ∧ u = (S, V, sT V, (tf I o 1))) 0 0 := by
  refine CI.of (cc := cX4_square) (maxL := 4) (ret := (some .int)) (by decide) rfl (Nat.le_of_ble_eq_true rfl) ?_
  intro pv ev s mv below meth cv A hx hb hml hr hown hts hlocks hname hM ls hl
  have hown : s.vm.findClass RX4 = some mv.cls := hown
  have hl : lv_has ls 4 [(0, .ref (sa S o)), (1, .int (nI t)), (2, .int p1), (3, .int p2)] := hl
  have hin4 : ∀ x ∈ wsX40, x ∈ wsX4_square := by decide +kernel
  obtain ⟨Q, hQ⟩ : ∃ Q, Q = MQ below (va_Qi (fun z u => z = 0 ∧ u = (S, V, sT V, (tf I o 1))) (fun u t => fb_P D y A u t) A) (([.ref (sa S o), .int (nI t), .int p1, .int p2] : List Value).toArray) s 0 0 A := ⟨_, rfl⟩
  rw [← hQ]
  have hns : ns ≤ 12 := hF.2.2.1
  have hnt : nt ≤ 6 := hF.2.2.2.1
  have hcr := hF.cr ht
  have htF := hF.2.2.2.2.1 t ht
  refine lv_aload_n hx hb dX4_square_0 rfl (lv_at hl 0 rfl) ?_
  refine lv_iconst (v := 0) hx hb dX4_square_1 (by decide) ?_
  refine fb_put (r := o) hx hb hown hts hin4 tyX4 tyX4_ok nmX4 hM ((hA.1).1) (ce4 ((hA.1).2)) rfl 0 (by decide) (hts (.fieldLink RX4 40 "FeatherBedsModel" "thrown" "I") (by decide +kernel)) (fun _ h9 => h9) rfl (ty := .int) (by decide +kernel) rfl rfl (Nat.le_of_ble_eq_true rfl) dX4_square_2 (up_I (j := 0) (v := 0) (by rw [ce4 ((hA.1).2)]; simp [va_up, upd])) (w' := (S, V, (sT V), (va_up I o (upd (I o) 0 0)))) ⟨rfl, rfl, rfl⟩ (fun H locs hM => ?_)
  have eI : (va_up I o (upd (I o) 0 0)) = (t0 I o) := rfl
  rw [eI] at hM
  clear eI
  refine lv_aload_n hx hb dX4_square_5 rfl (lv_at hl 0 rfl) ?_
  refine lv_iload_n hx hb dX4_square_6 rfl (lv_at hl 1 rfl) ?_
  refine lv_iload_n hx hb dX4_square_7 rfl (lv_at hl 2 rfl) ?_
  refine fb_callVi (r := o) hx hb hml hown hts hM ((hA.1).1) (ce4 ((hA.1).2)) rfl (As := [.int (nI t), .int p1]) (rest := []) (c_X4_isSquare_oq D y l S V (t0 I o) o nt cf rf hA ns df hF.t0 t ht p1 ho) (cwV 2 hts gX4_square_X4_isSquare rfl rfl rfl (by decide +kernel) ⟨Nat.le_of_ble_eq_true rfl, Nat.le_of_ble_eq_true rfl⟩) rfl hl.1 rfl (Nat.le_of_ble_eq_true rfl) dX4_square_8 ⟨Nat.le_of_ble_eq_true rfl, Nat.le_of_ble_eq_true rfl⟩ (fun v_1 u H locs hp hM => ?_)
  obtain ⟨hv_, hu_⟩ := hp
  have hv_ := Eq.symm hv_
  have hu_ := Eq.symm hu_
  subst hv_
  subst hu_
  refine lv_if_eq (tgt := 34) hx hb dX4_square_11 (by decide) (fun c_2 => ?_) (fun c_2 => absurd (by decide) c_2)
  refine lv_aload_n hx hb dX4_square_34 rfl (lv_at hl 0 rfl) ?_
  refine lv_iconst (v := 1) hx hb dX4_square_35 (by decide) ?_
  refine fb_callVi (r := o) hx hb hml hown hts hM ((hA.1).1) (ce4 ((hA.1).2)) rfl (As := [.int 1]) (rest := []) (c_X4_fail D y l S V (t0 I o) o nt cf rf hA 1) (cwV 1 hts gX4_square_X4_fail rfl rfl rfl (by decide +kernel) ⟨Nat.le_of_ble_eq_true rfl, Nat.le_of_ble_eq_true rfl⟩) rfl hl.1 rfl (Nat.le_of_ble_eq_true rfl) dX4_square_36 ⟨Nat.le_of_ble_eq_true rfl, Nat.le_of_ble_eq_true rfl⟩ (fun v_3 u H locs hp hM => ?_)
  obtain ⟨hv_, hu_⟩ := hp
  have hv_ := Eq.symm hv_
  have hu_ := Eq.symm hu_
  subst hv_
  subst hu_
  have eI : (tf (t0 I o) o 1) = (tf I o 1) := tf_t0 _ _ _
  rw [eI] at hM
  clear eI
  rw [hQ]
  exact fb_iret hx hb hr hlocks hM (⟨rfl, rfl⟩) dX4_square_39

set_option maxHeartbeats 4000000 in
set_option maxRecDepth 100000 in
theorem c_X4_square_f1o (D : va_G) (y : Nat → ClassId) (l : Launch) (S : fb_Sh) (V I : fb_V) (o nt : Nat) (cf rf : Nat → Nat) (hA : MdAt S o nt cf rf) (ns : Nat) (df : Nat → Nat) (hF : MF I o ns nt cf rf df) (t : Nat) (ht : t < nt) (q : Nat) (hq : q < cf t * rf t) (p2 : Int32) (ho : p2 < 0 ∨ 9 < p2) : CI D y l yX4_square wsX4_square rm_X4_square [.ref (sa S o), .int (nI t), .int (nI q), .int p2] (S, V, (sT V), I) (fun z u => z = 0 ∧ u = (S, V, sT V, (tf I o 1))) 0 0 := by
  refine CI.of (cc := cX4_square) (maxL := 4) (ret := (some .int)) (by decide) rfl (Nat.le_of_ble_eq_true rfl) ?_
  intro pv ev s mv below meth cv A hx hb hml hr hown hts hlocks hname hM ls hl
  have hown : s.vm.findClass RX4 = some mv.cls := hown
  have hl : lv_has ls 4 [(0, .ref (sa S o)), (1, .int (nI t)), (2, .int (nI q)), (3, .int p2)] := hl
  have hin4 : ∀ x ∈ wsX40, x ∈ wsX4_square := by decide +kernel
  obtain ⟨Q, hQ⟩ : ∃ Q, Q = MQ below (va_Qi (fun z u => z = 0 ∧ u = (S, V, sT V, (tf I o 1))) (fun u t => fb_P D y A u t) A) (([.ref (sa S o), .int (nI t), .int (nI q), .int p2] : List Value).toArray) s 0 0 A := ⟨_, rfl⟩
  rw [← hQ]
  have hns : ns ≤ 12 := hF.2.2.1
  have hnt : nt ≤ 6 := hF.2.2.2.1
  have hcr := hF.cr ht
  have htF := hF.2.2.2.2.1 t ht
  refine lv_aload_n hx hb dX4_square_0 rfl (lv_at hl 0 rfl) ?_
  refine lv_iconst (v := 0) hx hb dX4_square_1 (by decide) ?_
  refine fb_put (r := o) hx hb hown hts hin4 tyX4 tyX4_ok nmX4 hM ((hA.1).1) (ce4 ((hA.1).2)) rfl 0 (by decide) (hts (.fieldLink RX4 40 "FeatherBedsModel" "thrown" "I") (by decide +kernel)) (fun _ h9 => h9) rfl (ty := .int) (by decide +kernel) rfl rfl (Nat.le_of_ble_eq_true rfl) dX4_square_2 (up_I (j := 0) (v := 0) (by rw [ce4 ((hA.1).2)]; simp [va_up, upd])) (w' := (S, V, (sT V), (va_up I o (upd (I o) 0 0)))) ⟨rfl, rfl, rfl⟩ (fun H locs hM => ?_)
  have eI : (va_up I o (upd (I o) 0 0)) = (t0 I o) := rfl
  rw [eI] at hM
  clear eI
  refine lv_aload_n hx hb dX4_square_5 rfl (lv_at hl 0 rfl) ?_
  refine lv_iload_n hx hb dX4_square_6 rfl (lv_at hl 1 rfl) ?_
  refine lv_iload_n hx hb dX4_square_7 rfl (lv_at hl 2 rfl) ?_
  refine fb_callVi (r := o) hx hb hml hown hts hM ((hA.1).1) (ce4 ((hA.1).2)) rfl (As := [.int (nI t), .int (nI q)]) (rest := []) (c_X4_isSquare_in D y l S V (t0 I o) o nt cf rf hA ns df hF.t0 t ht q hq) (cwV 2 hts gX4_square_X4_isSquare rfl rfl rfl (by decide +kernel) ⟨Nat.le_of_ble_eq_true rfl, Nat.le_of_ble_eq_true rfl⟩) rfl hl.1 rfl (Nat.le_of_ble_eq_true rfl) dX4_square_8 ⟨Nat.le_of_ble_eq_true rfl, Nat.le_of_ble_eq_true rfl⟩ (fun v_1 u H locs hp hM => ?_)
  obtain ⟨hv_, hu_⟩ := hp
  have hv_ := Eq.symm hv_
  have hu_ := Eq.symm hu_
  subst hv_
  subst hu_
  refine lv_if_eq (tgt := 34) hx hb dX4_square_11 (by decide) (fun c_2 => absurd c_2 (by decide)) (fun c_2 => ?_)
  refine lv_iload_n hx hb dX4_square_14 rfl (lv_at hl 3 rfl) ?_
  refine lv_iconst (v := 0) hx hb dX4_square_15 (by decide) ?_
  refine lv_bipush (v := 9) hx hb dX4_square_16 (by decide) ?_
  refine fb_callSi hx hb hml hown hts hM (As := [.int p2, .int 0, .int 9]) (rest := []) (c_X4_isIn D y l S V (t0 I o) p2 0 9) (cwS 3 hts gX4_square_X4_isIn rfl rfl rfl (by decide +kernel) ⟨Nat.le_of_ble_eq_true rfl, Nat.le_of_ble_eq_true rfl⟩) rfl hl.1 rfl (Nat.le_of_ble_eq_true rfl) dX4_square_18 ⟨Nat.le_of_ble_eq_true rfl, Nat.le_of_ble_eq_true rfl⟩ (fun v_3 u H locs hp hM => ?_)
  obtain ⟨hv_, hu_⟩ := hp
  have hv_ := Eq.symm hv_
  have hu_ := Eq.symm hu_
  subst hv_
  subst hu_
  rw [show (isN p2 0 9 : Int32) = 0 from isN_0 ho]
  refine lv_if_eq (tgt := 34) hx hb dX4_square_21 (by decide) (fun c_4 => ?_) (fun c_4 => absurd (by decide) c_4)
  refine lv_aload_n hx hb dX4_square_34 rfl (lv_at hl 0 rfl) ?_
  refine lv_iconst (v := 1) hx hb dX4_square_35 (by decide) ?_
  refine fb_callVi (r := o) hx hb hml hown hts hM ((hA.1).1) (ce4 ((hA.1).2)) rfl (As := [.int 1]) (rest := []) (c_X4_fail D y l S V (t0 I o) o nt cf rf hA 1) (cwV 1 hts gX4_square_X4_fail rfl rfl rfl (by decide +kernel) ⟨Nat.le_of_ble_eq_true rfl, Nat.le_of_ble_eq_true rfl⟩) rfl hl.1 rfl (Nat.le_of_ble_eq_true rfl) dX4_square_36 ⟨Nat.le_of_ble_eq_true rfl, Nat.le_of_ble_eq_true rfl⟩ (fun v_5 u H locs hp hM => ?_)
  obtain ⟨hv_, hu_⟩ := hp
  have hv_ := Eq.symm hv_
  have hu_ := Eq.symm hu_
  subst hv_
  subst hu_
  have eI : (tf (t0 I o) o 1) = (tf I o 1) := tf_t0 _ _ _
  rw [eI] at hM
  clear eI
  rw [hQ]
  exact fb_iret hx hb hr hlocks hM (⟨rfl, rfl⟩) dX4_square_39

set_option maxHeartbeats 4000000 in
set_option maxRecDepth 100000 in
theorem c_X4_square_0 (D : va_G) (y : Nat → ClassId) (l : Launch) (S : fb_Sh) (V I : fb_V) (o nt : Nat) (cf rf : Nat → Nat) (hA : MdAt S o nt cf rf) (ns : Nat) (df : Nat → Nat) (hF : MF I o ns nt cf rf df) (t : Nat) (ht : t < nt) (q : Nat) (hq : q < cf t * rf t) : CI D y l yX4_square wsX4_square rm_X4_square [.ref (sa S o), .int (nI t), .int (nI q), .int 0] (S, V, (sT V), I) (fun z u => z = mx (I (o + 10 + t)) q 0 ∧ u = (S, V, sT V, t0 I o)) 0 0 := by
  refine CI.of (cc := cX4_square) (maxL := 4) (ret := (some .int)) (by decide) rfl (Nat.le_of_ble_eq_true rfl) ?_
  intro pv ev s mv below meth cv A hx hb hml hr hown hts hlocks hname hM ls hl
  have hown : s.vm.findClass RX4 = some mv.cls := hown
  have hl : lv_has ls 4 [(0, .ref (sa S o)), (1, .int (nI t)), (2, .int (nI q)), (3, .int 0)] := hl
  have hin4 : ∀ x ∈ wsX40, x ∈ wsX4_square := by decide +kernel
  obtain ⟨Q, hQ⟩ : ∃ Q, Q = MQ below (va_Qi (fun z u => z = mx (I (o + 10 + t)) q 0 ∧ u = (S, V, sT V, t0 I o)) (fun u t => fb_P D y A u t) A) (([.ref (sa S o), .int (nI t), .int (nI q), .int 0] : List Value).toArray) s 0 0 A := ⟨_, rfl⟩
  rw [← hQ]
  have hns : ns ≤ 12 := hF.2.2.1
  have hnt : nt ≤ 6 := hF.2.2.2.1
  have hcr := hF.cr ht
  refine lv_aload_n hx hb dX4_square_0 rfl (lv_at hl 0 rfl) ?_
  refine lv_iconst (v := 0) hx hb dX4_square_1 (by decide) ?_
  refine fb_put (r := o) hx hb hown hts hin4 tyX4 tyX4_ok nmX4 hM ((hA.1).1) (ce4 ((hA.1).2)) rfl 0 (by decide) (hts (.fieldLink RX4 40 "FeatherBedsModel" "thrown" "I") (by decide +kernel)) (fun _ h9 => h9) rfl (ty := .int) (by decide +kernel) rfl rfl (Nat.le_of_ble_eq_true rfl) dX4_square_2 (up_I (j := 0) (v := 0) (by rw [ce4 ((hA.1).2)]; simp [va_up, upd])) (w' := (S, V, (sT V), (va_up I o (upd (I o) 0 0)))) ⟨rfl, rfl, rfl⟩ (fun H locs hM => ?_)
  have eI : (va_up I o (upd (I o) 0 0)) = (t0 I o) := rfl
  rw [eI] at hM
  clear eI
  refine lv_aload_n hx hb dX4_square_5 rfl (lv_at hl 0 rfl) ?_
  refine lv_iload_n hx hb dX4_square_6 rfl (lv_at hl 1 rfl) ?_
  refine lv_iload_n hx hb dX4_square_7 rfl (lv_at hl 2 rfl) ?_
  refine fb_callVi (r := o) hx hb hml hown hts hM ((hA.1).1) (ce4 ((hA.1).2)) rfl (As := [.int (nI t), .int (nI q)]) (rest := []) (c_X4_isSquare_in D y l S V (t0 I o) o nt cf rf hA ns df hF.t0 t ht q hq) (cwV 2 hts gX4_square_X4_isSquare rfl rfl rfl (by decide +kernel) ⟨Nat.le_of_ble_eq_true rfl, Nat.le_of_ble_eq_true rfl⟩) rfl hl.1 rfl (Nat.le_of_ble_eq_true rfl) dX4_square_8 ⟨Nat.le_of_ble_eq_true rfl, Nat.le_of_ble_eq_true rfl⟩ (fun v_1 u H locs hp hM => ?_)
  obtain ⟨hv_, hu_⟩ := hp
  have hv_ := Eq.symm hv_
  have hu_ := Eq.symm hu_
  subst hv_
  subst hu_
  refine lv_if_eq (tgt := 34) hx hb dX4_square_11 (by decide) (fun c_2 => absurd c_2 (by decide)) (fun c_2 => ?_)
  refine lv_iload_n hx hb dX4_square_14 rfl (lv_at hl 3 rfl) ?_
  refine lv_iconst (v := 0) hx hb dX4_square_15 (by decide) ?_
  refine lv_bipush (v := 9) hx hb dX4_square_16 (by decide) ?_
  refine fb_callSi hx hb hml hown hts hM (As := [.int 0, .int 0, .int 9]) (rest := []) (c_X4_isIn D y l S V (t0 I o) 0 0 9) (cwS 3 hts gX4_square_X4_isIn rfl rfl rfl (by decide +kernel) ⟨Nat.le_of_ble_eq_true rfl, Nat.le_of_ble_eq_true rfl⟩) rfl hl.1 rfl (Nat.le_of_ble_eq_true rfl) dX4_square_18 ⟨Nat.le_of_ble_eq_true rfl, Nat.le_of_ble_eq_true rfl⟩ (fun v_3 u H locs hp hM => ?_)
  obtain ⟨hv_, hu_⟩ := hp
  have hv_ := Eq.symm hv_
  have hu_ := Eq.symm hu_
  subst hv_
  subst hu_
  rw [show (isN 0 0 9 : Int32) = 1 from by decide]
  refine lv_if_eq (tgt := 34) hx hb dX4_square_21 (by decide) (fun c_4 => absurd c_4 (by decide)) (fun c_4 => ?_)
  refine lv_aload_n hx hb dX4_square_24 rfl (lv_at hl 0 rfl) ?_
  refine lv_iload_n hx hb dX4_square_25 rfl (lv_at hl 1 rfl) ?_
  refine lv_iload_n hx hb dX4_square_26 rfl (lv_at hl 2 rfl) ?_
  refine lv_iload_n hx hb dX4_square_27 rfl (lv_at hl 3 rfl) ?_
  refine fb_callVi (r := o) hx hb hml hown hts hM ((hA.1).1) (ce4 ((hA.1).2)) rfl (As := [.int (nI t), .int (nI q), .int 0]) (rest := []) (c_X4_squareTold_0 D y l S V (t0 I o) o nt cf rf hA ns df hF.t0 t ht q hq) (cwV 3 hts gX4_square_X4_squareTold rfl rfl rfl (by decide +kernel) ⟨Nat.le_of_ble_eq_true rfl, Nat.le_of_ble_eq_true rfl⟩) rfl hl.1 rfl (Nat.le_of_ble_eq_true rfl) dX4_square_28 ⟨Nat.le_of_ble_eq_true rfl, Nat.le_of_ble_eq_true rfl⟩ (fun v_5 u H locs hp hM => ?_)
  obtain ⟨hv_, hu_⟩ := hp
  have hv_ := Eq.symm hv_
  have hu_ := Eq.symm hu_
  subst hv_
  subst hu_
  refine lv_goto (tgt := 39) hx hb dX4_square_31 (by decide) ?_
  rw [hQ]
  exact fb_iret hx hb hr hlocks hM (⟨by first | rfl | rw [t0_ne I (show o + 10 + t ≠ o by omega)] | rw [t0_ne I (show o + 20 + t ≠ o by omega)], rfl⟩) dX4_square_39

set_option maxHeartbeats 4000000 in
set_option maxRecDepth 100000 in
theorem c_X4_square_1 (D : va_G) (y : Nat → ClassId) (l : Launch) (S : fb_Sh) (V I : fb_V) (o nt : Nat) (cf rf : Nat → Nat) (hA : MdAt S o nt cf rf) (ns : Nat) (df : Nat → Nat) (hF : MF I o ns nt cf rf df) (t : Nat) (ht : t < nt) (q : Nat) (hq : q < cf t * rf t) : CI D y l yX4_square wsX4_square rm_X4_square [.ref (sa S o), .int (nI t), .int (nI q), .int 1] (S, V, (sT V), I) (fun z u => z = mx (I (o + 10 + t)) q 1 ∧ u = (S, V, sT V, t0 I o)) 0 0 := by
  refine CI.of (cc := cX4_square) (maxL := 4) (ret := (some .int)) (by decide) rfl (Nat.le_of_ble_eq_true rfl) ?_
  intro pv ev s mv below meth cv A hx hb hml hr hown hts hlocks hname hM ls hl
  have hown : s.vm.findClass RX4 = some mv.cls := hown
  have hl : lv_has ls 4 [(0, .ref (sa S o)), (1, .int (nI t)), (2, .int (nI q)), (3, .int 1)] := hl
  have hin4 : ∀ x ∈ wsX40, x ∈ wsX4_square := by decide +kernel
  obtain ⟨Q, hQ⟩ : ∃ Q, Q = MQ below (va_Qi (fun z u => z = mx (I (o + 10 + t)) q 1 ∧ u = (S, V, sT V, t0 I o)) (fun u t => fb_P D y A u t) A) (([.ref (sa S o), .int (nI t), .int (nI q), .int 1] : List Value).toArray) s 0 0 A := ⟨_, rfl⟩
  rw [← hQ]
  have hns : ns ≤ 12 := hF.2.2.1
  have hnt : nt ≤ 6 := hF.2.2.2.1
  have hcr := hF.cr ht
  refine lv_aload_n hx hb dX4_square_0 rfl (lv_at hl 0 rfl) ?_
  refine lv_iconst (v := 0) hx hb dX4_square_1 (by decide) ?_
  refine fb_put (r := o) hx hb hown hts hin4 tyX4 tyX4_ok nmX4 hM ((hA.1).1) (ce4 ((hA.1).2)) rfl 0 (by decide) (hts (.fieldLink RX4 40 "FeatherBedsModel" "thrown" "I") (by decide +kernel)) (fun _ h9 => h9) rfl (ty := .int) (by decide +kernel) rfl rfl (Nat.le_of_ble_eq_true rfl) dX4_square_2 (up_I (j := 0) (v := 0) (by rw [ce4 ((hA.1).2)]; simp [va_up, upd])) (w' := (S, V, (sT V), (va_up I o (upd (I o) 0 0)))) ⟨rfl, rfl, rfl⟩ (fun H locs hM => ?_)
  have eI : (va_up I o (upd (I o) 0 0)) = (t0 I o) := rfl
  rw [eI] at hM
  clear eI
  refine lv_aload_n hx hb dX4_square_5 rfl (lv_at hl 0 rfl) ?_
  refine lv_iload_n hx hb dX4_square_6 rfl (lv_at hl 1 rfl) ?_
  refine lv_iload_n hx hb dX4_square_7 rfl (lv_at hl 2 rfl) ?_
  refine fb_callVi (r := o) hx hb hml hown hts hM ((hA.1).1) (ce4 ((hA.1).2)) rfl (As := [.int (nI t), .int (nI q)]) (rest := []) (c_X4_isSquare_in D y l S V (t0 I o) o nt cf rf hA ns df hF.t0 t ht q hq) (cwV 2 hts gX4_square_X4_isSquare rfl rfl rfl (by decide +kernel) ⟨Nat.le_of_ble_eq_true rfl, Nat.le_of_ble_eq_true rfl⟩) rfl hl.1 rfl (Nat.le_of_ble_eq_true rfl) dX4_square_8 ⟨Nat.le_of_ble_eq_true rfl, Nat.le_of_ble_eq_true rfl⟩ (fun v_1 u H locs hp hM => ?_)
  obtain ⟨hv_, hu_⟩ := hp
  have hv_ := Eq.symm hv_
  have hu_ := Eq.symm hu_
  subst hv_
  subst hu_
  refine lv_if_eq (tgt := 34) hx hb dX4_square_11 (by decide) (fun c_2 => absurd c_2 (by decide)) (fun c_2 => ?_)
  refine lv_iload_n hx hb dX4_square_14 rfl (lv_at hl 3 rfl) ?_
  refine lv_iconst (v := 0) hx hb dX4_square_15 (by decide) ?_
  refine lv_bipush (v := 9) hx hb dX4_square_16 (by decide) ?_
  refine fb_callSi hx hb hml hown hts hM (As := [.int 1, .int 0, .int 9]) (rest := []) (c_X4_isIn D y l S V (t0 I o) 1 0 9) (cwS 3 hts gX4_square_X4_isIn rfl rfl rfl (by decide +kernel) ⟨Nat.le_of_ble_eq_true rfl, Nat.le_of_ble_eq_true rfl⟩) rfl hl.1 rfl (Nat.le_of_ble_eq_true rfl) dX4_square_18 ⟨Nat.le_of_ble_eq_true rfl, Nat.le_of_ble_eq_true rfl⟩ (fun v_3 u H locs hp hM => ?_)
  obtain ⟨hv_, hu_⟩ := hp
  have hv_ := Eq.symm hv_
  have hu_ := Eq.symm hu_
  subst hv_
  subst hu_
  rw [show (isN 1 0 9 : Int32) = 1 from by decide]
  refine lv_if_eq (tgt := 34) hx hb dX4_square_21 (by decide) (fun c_4 => absurd c_4 (by decide)) (fun c_4 => ?_)
  refine lv_aload_n hx hb dX4_square_24 rfl (lv_at hl 0 rfl) ?_
  refine lv_iload_n hx hb dX4_square_25 rfl (lv_at hl 1 rfl) ?_
  refine lv_iload_n hx hb dX4_square_26 rfl (lv_at hl 2 rfl) ?_
  refine lv_iload_n hx hb dX4_square_27 rfl (lv_at hl 3 rfl) ?_
  refine fb_callVi (r := o) hx hb hml hown hts hM ((hA.1).1) (ce4 ((hA.1).2)) rfl (As := [.int (nI t), .int (nI q), .int 1]) (rest := []) (c_X4_squareTold_1 D y l S V (t0 I o) o nt cf rf hA ns df hF.t0 t ht q hq) (cwV 3 hts gX4_square_X4_squareTold rfl rfl rfl (by decide +kernel) ⟨Nat.le_of_ble_eq_true rfl, Nat.le_of_ble_eq_true rfl⟩) rfl hl.1 rfl (Nat.le_of_ble_eq_true rfl) dX4_square_28 ⟨Nat.le_of_ble_eq_true rfl, Nat.le_of_ble_eq_true rfl⟩ (fun v_5 u H locs hp hM => ?_)
  obtain ⟨hv_, hu_⟩ := hp
  have hv_ := Eq.symm hv_
  have hu_ := Eq.symm hu_
  subst hv_
  subst hu_
  refine lv_goto (tgt := 39) hx hb dX4_square_31 (by decide) ?_
  rw [hQ]
  exact fb_iret hx hb hr hlocks hM (⟨by first | rfl | rw [t0_ne I (show o + 10 + t ≠ o by omega)] | rw [t0_ne I (show o + 20 + t ≠ o by omega)], rfl⟩) dX4_square_39

set_option maxHeartbeats 4000000 in
set_option maxRecDepth 100000 in
theorem c_X4_square_2 (D : va_G) (y : Nat → ClassId) (l : Launch) (S : fb_Sh) (V I : fb_V) (o nt : Nat) (cf rf : Nat → Nat) (hA : MdAt S o nt cf rf) (ns : Nat) (df : Nat → Nat) (hF : MF I o ns nt cf rf df) (t : Nat) (ht : t < nt) (q : Nat) (hq : q < cf t * rf t) : CI D y l yX4_square wsX4_square rm_X4_square [.ref (sa S o), .int (nI t), .int (nI q), .int 2] (S, V, (sT V), I) (fun z u => z = mx (I (o + 10 + t)) q 2 ∧ u = (S, V, sT V, t0 I o)) 0 0 := by
  refine CI.of (cc := cX4_square) (maxL := 4) (ret := (some .int)) (by decide) rfl (Nat.le_of_ble_eq_true rfl) ?_
  intro pv ev s mv below meth cv A hx hb hml hr hown hts hlocks hname hM ls hl
  have hown : s.vm.findClass RX4 = some mv.cls := hown
  have hl : lv_has ls 4 [(0, .ref (sa S o)), (1, .int (nI t)), (2, .int (nI q)), (3, .int 2)] := hl
  have hin4 : ∀ x ∈ wsX40, x ∈ wsX4_square := by decide +kernel
  obtain ⟨Q, hQ⟩ : ∃ Q, Q = MQ below (va_Qi (fun z u => z = mx (I (o + 10 + t)) q 2 ∧ u = (S, V, sT V, t0 I o)) (fun u t => fb_P D y A u t) A) (([.ref (sa S o), .int (nI t), .int (nI q), .int 2] : List Value).toArray) s 0 0 A := ⟨_, rfl⟩
  rw [← hQ]
  have hns : ns ≤ 12 := hF.2.2.1
  have hnt : nt ≤ 6 := hF.2.2.2.1
  have hcr := hF.cr ht
  refine lv_aload_n hx hb dX4_square_0 rfl (lv_at hl 0 rfl) ?_
  refine lv_iconst (v := 0) hx hb dX4_square_1 (by decide) ?_
  refine fb_put (r := o) hx hb hown hts hin4 tyX4 tyX4_ok nmX4 hM ((hA.1).1) (ce4 ((hA.1).2)) rfl 0 (by decide) (hts (.fieldLink RX4 40 "FeatherBedsModel" "thrown" "I") (by decide +kernel)) (fun _ h9 => h9) rfl (ty := .int) (by decide +kernel) rfl rfl (Nat.le_of_ble_eq_true rfl) dX4_square_2 (up_I (j := 0) (v := 0) (by rw [ce4 ((hA.1).2)]; simp [va_up, upd])) (w' := (S, V, (sT V), (va_up I o (upd (I o) 0 0)))) ⟨rfl, rfl, rfl⟩ (fun H locs hM => ?_)
  have eI : (va_up I o (upd (I o) 0 0)) = (t0 I o) := rfl
  rw [eI] at hM
  clear eI
  refine lv_aload_n hx hb dX4_square_5 rfl (lv_at hl 0 rfl) ?_
  refine lv_iload_n hx hb dX4_square_6 rfl (lv_at hl 1 rfl) ?_
  refine lv_iload_n hx hb dX4_square_7 rfl (lv_at hl 2 rfl) ?_
  refine fb_callVi (r := o) hx hb hml hown hts hM ((hA.1).1) (ce4 ((hA.1).2)) rfl (As := [.int (nI t), .int (nI q)]) (rest := []) (c_X4_isSquare_in D y l S V (t0 I o) o nt cf rf hA ns df hF.t0 t ht q hq) (cwV 2 hts gX4_square_X4_isSquare rfl rfl rfl (by decide +kernel) ⟨Nat.le_of_ble_eq_true rfl, Nat.le_of_ble_eq_true rfl⟩) rfl hl.1 rfl (Nat.le_of_ble_eq_true rfl) dX4_square_8 ⟨Nat.le_of_ble_eq_true rfl, Nat.le_of_ble_eq_true rfl⟩ (fun v_1 u H locs hp hM => ?_)
  obtain ⟨hv_, hu_⟩ := hp
  have hv_ := Eq.symm hv_
  have hu_ := Eq.symm hu_
  subst hv_
  subst hu_
  refine lv_if_eq (tgt := 34) hx hb dX4_square_11 (by decide) (fun c_2 => absurd c_2 (by decide)) (fun c_2 => ?_)
  refine lv_iload_n hx hb dX4_square_14 rfl (lv_at hl 3 rfl) ?_
  refine lv_iconst (v := 0) hx hb dX4_square_15 (by decide) ?_
  refine lv_bipush (v := 9) hx hb dX4_square_16 (by decide) ?_
  refine fb_callSi hx hb hml hown hts hM (As := [.int 2, .int 0, .int 9]) (rest := []) (c_X4_isIn D y l S V (t0 I o) 2 0 9) (cwS 3 hts gX4_square_X4_isIn rfl rfl rfl (by decide +kernel) ⟨Nat.le_of_ble_eq_true rfl, Nat.le_of_ble_eq_true rfl⟩) rfl hl.1 rfl (Nat.le_of_ble_eq_true rfl) dX4_square_18 ⟨Nat.le_of_ble_eq_true rfl, Nat.le_of_ble_eq_true rfl⟩ (fun v_3 u H locs hp hM => ?_)
  obtain ⟨hv_, hu_⟩ := hp
  have hv_ := Eq.symm hv_
  have hu_ := Eq.symm hu_
  subst hv_
  subst hu_
  rw [show (isN 2 0 9 : Int32) = 1 from by decide]
  refine lv_if_eq (tgt := 34) hx hb dX4_square_21 (by decide) (fun c_4 => absurd c_4 (by decide)) (fun c_4 => ?_)
  refine lv_aload_n hx hb dX4_square_24 rfl (lv_at hl 0 rfl) ?_
  refine lv_iload_n hx hb dX4_square_25 rfl (lv_at hl 1 rfl) ?_
  refine lv_iload_n hx hb dX4_square_26 rfl (lv_at hl 2 rfl) ?_
  refine lv_iload_n hx hb dX4_square_27 rfl (lv_at hl 3 rfl) ?_
  refine fb_callVi (r := o) hx hb hml hown hts hM ((hA.1).1) (ce4 ((hA.1).2)) rfl (As := [.int (nI t), .int (nI q), .int 2]) (rest := []) (c_X4_squareTold_2 D y l S V (t0 I o) o nt cf rf hA ns df hF.t0 t ht q hq) (cwV 3 hts gX4_square_X4_squareTold rfl rfl rfl (by decide +kernel) ⟨Nat.le_of_ble_eq_true rfl, Nat.le_of_ble_eq_true rfl⟩) rfl hl.1 rfl (Nat.le_of_ble_eq_true rfl) dX4_square_28 ⟨Nat.le_of_ble_eq_true rfl, Nat.le_of_ble_eq_true rfl⟩ (fun v_5 u H locs hp hM => ?_)
  obtain ⟨hv_, hu_⟩ := hp
  have hv_ := Eq.symm hv_
  have hu_ := Eq.symm hu_
  subst hv_
  subst hu_
  refine lv_goto (tgt := 39) hx hb dX4_square_31 (by decide) ?_
  rw [hQ]
  exact fb_iret hx hb hr hlocks hM (⟨by first | rfl | rw [t0_ne I (show o + 10 + t ≠ o by omega)] | rw [t0_ne I (show o + 20 + t ≠ o by omega)], rfl⟩) dX4_square_39

set_option maxHeartbeats 4000000 in
set_option maxRecDepth 100000 in
theorem c_X4_square_3 (D : va_G) (y : Nat → ClassId) (l : Launch) (S : fb_Sh) (V I : fb_V) (o nt : Nat) (cf rf : Nat → Nat) (hA : MdAt S o nt cf rf) (ns : Nat) (df : Nat → Nat) (hF : MF I o ns nt cf rf df) (t : Nat) (ht : t < nt) (q : Nat) (hq : q < cf t * rf t) : CI D y l yX4_square wsX4_square rm_X4_square [.ref (sa S o), .int (nI t), .int (nI q), .int 3] (S, V, (sT V), I) (fun z u => z = mx (I (o + 10 + t)) q 3 ∧ u = (S, V, sT V, t0 I o)) 0 0 := by
  refine CI.of (cc := cX4_square) (maxL := 4) (ret := (some .int)) (by decide) rfl (Nat.le_of_ble_eq_true rfl) ?_
  intro pv ev s mv below meth cv A hx hb hml hr hown hts hlocks hname hM ls hl
  have hown : s.vm.findClass RX4 = some mv.cls := hown
  have hl : lv_has ls 4 [(0, .ref (sa S o)), (1, .int (nI t)), (2, .int (nI q)), (3, .int 3)] := hl
  have hin4 : ∀ x ∈ wsX40, x ∈ wsX4_square := by decide +kernel
  obtain ⟨Q, hQ⟩ : ∃ Q, Q = MQ below (va_Qi (fun z u => z = mx (I (o + 10 + t)) q 3 ∧ u = (S, V, sT V, t0 I o)) (fun u t => fb_P D y A u t) A) (([.ref (sa S o), .int (nI t), .int (nI q), .int 3] : List Value).toArray) s 0 0 A := ⟨_, rfl⟩
  rw [← hQ]
  have hns : ns ≤ 12 := hF.2.2.1
  have hnt : nt ≤ 6 := hF.2.2.2.1
  have hcr := hF.cr ht
  refine lv_aload_n hx hb dX4_square_0 rfl (lv_at hl 0 rfl) ?_
  refine lv_iconst (v := 0) hx hb dX4_square_1 (by decide) ?_
  refine fb_put (r := o) hx hb hown hts hin4 tyX4 tyX4_ok nmX4 hM ((hA.1).1) (ce4 ((hA.1).2)) rfl 0 (by decide) (hts (.fieldLink RX4 40 "FeatherBedsModel" "thrown" "I") (by decide +kernel)) (fun _ h9 => h9) rfl (ty := .int) (by decide +kernel) rfl rfl (Nat.le_of_ble_eq_true rfl) dX4_square_2 (up_I (j := 0) (v := 0) (by rw [ce4 ((hA.1).2)]; simp [va_up, upd])) (w' := (S, V, (sT V), (va_up I o (upd (I o) 0 0)))) ⟨rfl, rfl, rfl⟩ (fun H locs hM => ?_)
  have eI : (va_up I o (upd (I o) 0 0)) = (t0 I o) := rfl
  rw [eI] at hM
  clear eI
  refine lv_aload_n hx hb dX4_square_5 rfl (lv_at hl 0 rfl) ?_
  refine lv_iload_n hx hb dX4_square_6 rfl (lv_at hl 1 rfl) ?_
  refine lv_iload_n hx hb dX4_square_7 rfl (lv_at hl 2 rfl) ?_
  refine fb_callVi (r := o) hx hb hml hown hts hM ((hA.1).1) (ce4 ((hA.1).2)) rfl (As := [.int (nI t), .int (nI q)]) (rest := []) (c_X4_isSquare_in D y l S V (t0 I o) o nt cf rf hA ns df hF.t0 t ht q hq) (cwV 2 hts gX4_square_X4_isSquare rfl rfl rfl (by decide +kernel) ⟨Nat.le_of_ble_eq_true rfl, Nat.le_of_ble_eq_true rfl⟩) rfl hl.1 rfl (Nat.le_of_ble_eq_true rfl) dX4_square_8 ⟨Nat.le_of_ble_eq_true rfl, Nat.le_of_ble_eq_true rfl⟩ (fun v_1 u H locs hp hM => ?_)
  obtain ⟨hv_, hu_⟩ := hp
  have hv_ := Eq.symm hv_
  have hu_ := Eq.symm hu_
  subst hv_
  subst hu_
  refine lv_if_eq (tgt := 34) hx hb dX4_square_11 (by decide) (fun c_2 => absurd c_2 (by decide)) (fun c_2 => ?_)
  refine lv_iload_n hx hb dX4_square_14 rfl (lv_at hl 3 rfl) ?_
  refine lv_iconst (v := 0) hx hb dX4_square_15 (by decide) ?_
  refine lv_bipush (v := 9) hx hb dX4_square_16 (by decide) ?_
  refine fb_callSi hx hb hml hown hts hM (As := [.int 3, .int 0, .int 9]) (rest := []) (c_X4_isIn D y l S V (t0 I o) 3 0 9) (cwS 3 hts gX4_square_X4_isIn rfl rfl rfl (by decide +kernel) ⟨Nat.le_of_ble_eq_true rfl, Nat.le_of_ble_eq_true rfl⟩) rfl hl.1 rfl (Nat.le_of_ble_eq_true rfl) dX4_square_18 ⟨Nat.le_of_ble_eq_true rfl, Nat.le_of_ble_eq_true rfl⟩ (fun v_3 u H locs hp hM => ?_)
  obtain ⟨hv_, hu_⟩ := hp
  have hv_ := Eq.symm hv_
  have hu_ := Eq.symm hu_
  subst hv_
  subst hu_
  rw [show (isN 3 0 9 : Int32) = 1 from by decide]
  refine lv_if_eq (tgt := 34) hx hb dX4_square_21 (by decide) (fun c_4 => absurd c_4 (by decide)) (fun c_4 => ?_)
  refine lv_aload_n hx hb dX4_square_24 rfl (lv_at hl 0 rfl) ?_
  refine lv_iload_n hx hb dX4_square_25 rfl (lv_at hl 1 rfl) ?_
  refine lv_iload_n hx hb dX4_square_26 rfl (lv_at hl 2 rfl) ?_
  refine lv_iload_n hx hb dX4_square_27 rfl (lv_at hl 3 rfl) ?_
  refine fb_callVi (r := o) hx hb hml hown hts hM ((hA.1).1) (ce4 ((hA.1).2)) rfl (As := [.int (nI t), .int (nI q), .int 3]) (rest := []) (c_X4_squareTold_3 D y l S V (t0 I o) o nt cf rf hA ns df hF.t0 t ht q hq) (cwV 3 hts gX4_square_X4_squareTold rfl rfl rfl (by decide +kernel) ⟨Nat.le_of_ble_eq_true rfl, Nat.le_of_ble_eq_true rfl⟩) rfl hl.1 rfl (Nat.le_of_ble_eq_true rfl) dX4_square_28 ⟨Nat.le_of_ble_eq_true rfl, Nat.le_of_ble_eq_true rfl⟩ (fun v_5 u H locs hp hM => ?_)
  obtain ⟨hv_, hu_⟩ := hp
  have hv_ := Eq.symm hv_
  have hu_ := Eq.symm hu_
  subst hv_
  subst hu_
  refine lv_goto (tgt := 39) hx hb dX4_square_31 (by decide) ?_
  rw [hQ]
  exact fb_iret hx hb hr hlocks hM (⟨by first | rfl | rw [t0_ne I (show o + 10 + t ≠ o by omega)] | rw [t0_ne I (show o + 20 + t ≠ o by omega)], rfl⟩) dX4_square_39

set_option maxHeartbeats 4000000 in
set_option maxRecDepth 100000 in
theorem c_X4_square_4 (D : va_G) (y : Nat → ClassId) (l : Launch) (S : fb_Sh) (V I : fb_V) (o nt : Nat) (cf rf : Nat → Nat) (hA : MdAt S o nt cf rf) (ns : Nat) (df : Nat → Nat) (hF : MF I o ns nt cf rf df) (t : Nat) (ht : t < nt) (q : Nat) (hq : q < cf t * rf t) : CI D y l yX4_square wsX4_square rm_X4_square [.ref (sa S o), .int (nI t), .int (nI q), .int 4] (S, V, (sT V), I) (fun z u => z = mx (I (o + 10 + t)) q 4 ∧ u = (S, V, sT V, t0 I o)) 0 0 := by
  refine CI.of (cc := cX4_square) (maxL := 4) (ret := (some .int)) (by decide) rfl (Nat.le_of_ble_eq_true rfl) ?_
  intro pv ev s mv below meth cv A hx hb hml hr hown hts hlocks hname hM ls hl
  have hown : s.vm.findClass RX4 = some mv.cls := hown
  have hl : lv_has ls 4 [(0, .ref (sa S o)), (1, .int (nI t)), (2, .int (nI q)), (3, .int 4)] := hl
  have hin4 : ∀ x ∈ wsX40, x ∈ wsX4_square := by decide +kernel
  obtain ⟨Q, hQ⟩ : ∃ Q, Q = MQ below (va_Qi (fun z u => z = mx (I (o + 10 + t)) q 4 ∧ u = (S, V, sT V, t0 I o)) (fun u t => fb_P D y A u t) A) (([.ref (sa S o), .int (nI t), .int (nI q), .int 4] : List Value).toArray) s 0 0 A := ⟨_, rfl⟩
  rw [← hQ]
  have hns : ns ≤ 12 := hF.2.2.1
  have hnt : nt ≤ 6 := hF.2.2.2.1
  have hcr := hF.cr ht
  refine lv_aload_n hx hb dX4_square_0 rfl (lv_at hl 0 rfl) ?_
  refine lv_iconst (v := 0) hx hb dX4_square_1 (by decide) ?_
  refine fb_put (r := o) hx hb hown hts hin4 tyX4 tyX4_ok nmX4 hM ((hA.1).1) (ce4 ((hA.1).2)) rfl 0 (by decide) (hts (.fieldLink RX4 40 "FeatherBedsModel" "thrown" "I") (by decide +kernel)) (fun _ h9 => h9) rfl (ty := .int) (by decide +kernel) rfl rfl (Nat.le_of_ble_eq_true rfl) dX4_square_2 (up_I (j := 0) (v := 0) (by rw [ce4 ((hA.1).2)]; simp [va_up, upd])) (w' := (S, V, (sT V), (va_up I o (upd (I o) 0 0)))) ⟨rfl, rfl, rfl⟩ (fun H locs hM => ?_)
  have eI : (va_up I o (upd (I o) 0 0)) = (t0 I o) := rfl
  rw [eI] at hM
  clear eI
  refine lv_aload_n hx hb dX4_square_5 rfl (lv_at hl 0 rfl) ?_
  refine lv_iload_n hx hb dX4_square_6 rfl (lv_at hl 1 rfl) ?_
  refine lv_iload_n hx hb dX4_square_7 rfl (lv_at hl 2 rfl) ?_
  refine fb_callVi (r := o) hx hb hml hown hts hM ((hA.1).1) (ce4 ((hA.1).2)) rfl (As := [.int (nI t), .int (nI q)]) (rest := []) (c_X4_isSquare_in D y l S V (t0 I o) o nt cf rf hA ns df hF.t0 t ht q hq) (cwV 2 hts gX4_square_X4_isSquare rfl rfl rfl (by decide +kernel) ⟨Nat.le_of_ble_eq_true rfl, Nat.le_of_ble_eq_true rfl⟩) rfl hl.1 rfl (Nat.le_of_ble_eq_true rfl) dX4_square_8 ⟨Nat.le_of_ble_eq_true rfl, Nat.le_of_ble_eq_true rfl⟩ (fun v_1 u H locs hp hM => ?_)
  obtain ⟨hv_, hu_⟩ := hp
  have hv_ := Eq.symm hv_
  have hu_ := Eq.symm hu_
  subst hv_
  subst hu_
  refine lv_if_eq (tgt := 34) hx hb dX4_square_11 (by decide) (fun c_2 => absurd c_2 (by decide)) (fun c_2 => ?_)
  refine lv_iload_n hx hb dX4_square_14 rfl (lv_at hl 3 rfl) ?_
  refine lv_iconst (v := 0) hx hb dX4_square_15 (by decide) ?_
  refine lv_bipush (v := 9) hx hb dX4_square_16 (by decide) ?_
  refine fb_callSi hx hb hml hown hts hM (As := [.int 4, .int 0, .int 9]) (rest := []) (c_X4_isIn D y l S V (t0 I o) 4 0 9) (cwS 3 hts gX4_square_X4_isIn rfl rfl rfl (by decide +kernel) ⟨Nat.le_of_ble_eq_true rfl, Nat.le_of_ble_eq_true rfl⟩) rfl hl.1 rfl (Nat.le_of_ble_eq_true rfl) dX4_square_18 ⟨Nat.le_of_ble_eq_true rfl, Nat.le_of_ble_eq_true rfl⟩ (fun v_3 u H locs hp hM => ?_)
  obtain ⟨hv_, hu_⟩ := hp
  have hv_ := Eq.symm hv_
  have hu_ := Eq.symm hu_
  subst hv_
  subst hu_
  rw [show (isN 4 0 9 : Int32) = 1 from by decide]
  refine lv_if_eq (tgt := 34) hx hb dX4_square_21 (by decide) (fun c_4 => absurd c_4 (by decide)) (fun c_4 => ?_)
  refine lv_aload_n hx hb dX4_square_24 rfl (lv_at hl 0 rfl) ?_
  refine lv_iload_n hx hb dX4_square_25 rfl (lv_at hl 1 rfl) ?_
  refine lv_iload_n hx hb dX4_square_26 rfl (lv_at hl 2 rfl) ?_
  refine lv_iload_n hx hb dX4_square_27 rfl (lv_at hl 3 rfl) ?_
  refine fb_callVi (r := o) hx hb hml hown hts hM ((hA.1).1) (ce4 ((hA.1).2)) rfl (As := [.int (nI t), .int (nI q), .int 4]) (rest := []) (c_X4_squareTold_4 D y l S V (t0 I o) o nt cf rf hA ns df hF.t0 t ht q hq) (cwV 3 hts gX4_square_X4_squareTold rfl rfl rfl (by decide +kernel) ⟨Nat.le_of_ble_eq_true rfl, Nat.le_of_ble_eq_true rfl⟩) rfl hl.1 rfl (Nat.le_of_ble_eq_true rfl) dX4_square_28 ⟨Nat.le_of_ble_eq_true rfl, Nat.le_of_ble_eq_true rfl⟩ (fun v_5 u H locs hp hM => ?_)
  obtain ⟨hv_, hu_⟩ := hp
  have hv_ := Eq.symm hv_
  have hu_ := Eq.symm hu_
  subst hv_
  subst hu_
  refine lv_goto (tgt := 39) hx hb dX4_square_31 (by decide) ?_
  rw [hQ]
  exact fb_iret hx hb hr hlocks hM (⟨by first | rfl | rw [t0_ne I (show o + 10 + t ≠ o by omega)] | rw [t0_ne I (show o + 20 + t ≠ o by omega)], rfl⟩) dX4_square_39

set_option maxHeartbeats 4000000 in
set_option maxRecDepth 100000 in
theorem c_X4_square_5 (D : va_G) (y : Nat → ClassId) (l : Launch) (S : fb_Sh) (V I : fb_V) (o nt : Nat) (cf rf : Nat → Nat) (hA : MdAt S o nt cf rf) (ns : Nat) (df : Nat → Nat) (hF : MF I o ns nt cf rf df) (t : Nat) (ht : t < nt) (q : Nat) (hq : q < cf t * rf t) : CI D y l yX4_square wsX4_square rm_X4_square [.ref (sa S o), .int (nI t), .int (nI q), .int 5] (S, V, (sT V), I) (fun z u => z = mx (I (o + 10 + t)) q 5 ∧ u = (S, V, sT V, t0 I o)) 0 0 := by
  refine CI.of (cc := cX4_square) (maxL := 4) (ret := (some .int)) (by decide) rfl (Nat.le_of_ble_eq_true rfl) ?_
  intro pv ev s mv below meth cv A hx hb hml hr hown hts hlocks hname hM ls hl
  have hown : s.vm.findClass RX4 = some mv.cls := hown
  have hl : lv_has ls 4 [(0, .ref (sa S o)), (1, .int (nI t)), (2, .int (nI q)), (3, .int 5)] := hl
  have hin4 : ∀ x ∈ wsX40, x ∈ wsX4_square := by decide +kernel
  obtain ⟨Q, hQ⟩ : ∃ Q, Q = MQ below (va_Qi (fun z u => z = mx (I (o + 10 + t)) q 5 ∧ u = (S, V, sT V, t0 I o)) (fun u t => fb_P D y A u t) A) (([.ref (sa S o), .int (nI t), .int (nI q), .int 5] : List Value).toArray) s 0 0 A := ⟨_, rfl⟩
  rw [← hQ]
  have hns : ns ≤ 12 := hF.2.2.1
  have hnt : nt ≤ 6 := hF.2.2.2.1
  have hcr := hF.cr ht
  refine lv_aload_n hx hb dX4_square_0 rfl (lv_at hl 0 rfl) ?_
  refine lv_iconst (v := 0) hx hb dX4_square_1 (by decide) ?_
  refine fb_put (r := o) hx hb hown hts hin4 tyX4 tyX4_ok nmX4 hM ((hA.1).1) (ce4 ((hA.1).2)) rfl 0 (by decide) (hts (.fieldLink RX4 40 "FeatherBedsModel" "thrown" "I") (by decide +kernel)) (fun _ h9 => h9) rfl (ty := .int) (by decide +kernel) rfl rfl (Nat.le_of_ble_eq_true rfl) dX4_square_2 (up_I (j := 0) (v := 0) (by rw [ce4 ((hA.1).2)]; simp [va_up, upd])) (w' := (S, V, (sT V), (va_up I o (upd (I o) 0 0)))) ⟨rfl, rfl, rfl⟩ (fun H locs hM => ?_)
  have eI : (va_up I o (upd (I o) 0 0)) = (t0 I o) := rfl
  rw [eI] at hM
  clear eI
  refine lv_aload_n hx hb dX4_square_5 rfl (lv_at hl 0 rfl) ?_
  refine lv_iload_n hx hb dX4_square_6 rfl (lv_at hl 1 rfl) ?_
  refine lv_iload_n hx hb dX4_square_7 rfl (lv_at hl 2 rfl) ?_
  refine fb_callVi (r := o) hx hb hml hown hts hM ((hA.1).1) (ce4 ((hA.1).2)) rfl (As := [.int (nI t), .int (nI q)]) (rest := []) (c_X4_isSquare_in D y l S V (t0 I o) o nt cf rf hA ns df hF.t0 t ht q hq) (cwV 2 hts gX4_square_X4_isSquare rfl rfl rfl (by decide +kernel) ⟨Nat.le_of_ble_eq_true rfl, Nat.le_of_ble_eq_true rfl⟩) rfl hl.1 rfl (Nat.le_of_ble_eq_true rfl) dX4_square_8 ⟨Nat.le_of_ble_eq_true rfl, Nat.le_of_ble_eq_true rfl⟩ (fun v_1 u H locs hp hM => ?_)
  obtain ⟨hv_, hu_⟩ := hp
  have hv_ := Eq.symm hv_
  have hu_ := Eq.symm hu_
  subst hv_
  subst hu_
  refine lv_if_eq (tgt := 34) hx hb dX4_square_11 (by decide) (fun c_2 => absurd c_2 (by decide)) (fun c_2 => ?_)
  refine lv_iload_n hx hb dX4_square_14 rfl (lv_at hl 3 rfl) ?_
  refine lv_iconst (v := 0) hx hb dX4_square_15 (by decide) ?_
  refine lv_bipush (v := 9) hx hb dX4_square_16 (by decide) ?_
  refine fb_callSi hx hb hml hown hts hM (As := [.int 5, .int 0, .int 9]) (rest := []) (c_X4_isIn D y l S V (t0 I o) 5 0 9) (cwS 3 hts gX4_square_X4_isIn rfl rfl rfl (by decide +kernel) ⟨Nat.le_of_ble_eq_true rfl, Nat.le_of_ble_eq_true rfl⟩) rfl hl.1 rfl (Nat.le_of_ble_eq_true rfl) dX4_square_18 ⟨Nat.le_of_ble_eq_true rfl, Nat.le_of_ble_eq_true rfl⟩ (fun v_3 u H locs hp hM => ?_)
  obtain ⟨hv_, hu_⟩ := hp
  have hv_ := Eq.symm hv_
  have hu_ := Eq.symm hu_
  subst hv_
  subst hu_
  rw [show (isN 5 0 9 : Int32) = 1 from by decide]
  refine lv_if_eq (tgt := 34) hx hb dX4_square_21 (by decide) (fun c_4 => absurd c_4 (by decide)) (fun c_4 => ?_)
  refine lv_aload_n hx hb dX4_square_24 rfl (lv_at hl 0 rfl) ?_
  refine lv_iload_n hx hb dX4_square_25 rfl (lv_at hl 1 rfl) ?_
  refine lv_iload_n hx hb dX4_square_26 rfl (lv_at hl 2 rfl) ?_
  refine lv_iload_n hx hb dX4_square_27 rfl (lv_at hl 3 rfl) ?_
  refine fb_callVi (r := o) hx hb hml hown hts hM ((hA.1).1) (ce4 ((hA.1).2)) rfl (As := [.int (nI t), .int (nI q), .int 5]) (rest := []) (c_X4_squareTold_5 D y l S V (t0 I o) o nt cf rf hA ns df hF.t0 t ht q hq) (cwV 3 hts gX4_square_X4_squareTold rfl rfl rfl (by decide +kernel) ⟨Nat.le_of_ble_eq_true rfl, Nat.le_of_ble_eq_true rfl⟩) rfl hl.1 rfl (Nat.le_of_ble_eq_true rfl) dX4_square_28 ⟨Nat.le_of_ble_eq_true rfl, Nat.le_of_ble_eq_true rfl⟩ (fun v_5 u H locs hp hM => ?_)
  obtain ⟨hv_, hu_⟩ := hp
  have hv_ := Eq.symm hv_
  have hu_ := Eq.symm hu_
  subst hv_
  subst hu_
  refine lv_goto (tgt := 39) hx hb dX4_square_31 (by decide) ?_
  rw [hQ]
  exact fb_iret hx hb hr hlocks hM (⟨by first | rfl | rw [t0_ne I (show o + 10 + t ≠ o by omega)] | rw [t0_ne I (show o + 20 + t ≠ o by omega)], rfl⟩) dX4_square_39

set_option maxHeartbeats 4000000 in
set_option maxRecDepth 100000 in
theorem c_X4_square_6 (D : va_G) (y : Nat → ClassId) (l : Launch) (S : fb_Sh) (V I : fb_V) (o nt : Nat) (cf rf : Nat → Nat) (hA : MdAt S o nt cf rf) (ns : Nat) (df : Nat → Nat) (hF : MF I o ns nt cf rf df) (t : Nat) (ht : t < nt) (q : Nat) (hq : q < cf t * rf t) : CI D y l yX4_square wsX4_square rm_X4_square [.ref (sa S o), .int (nI t), .int (nI q), .int 6] (S, V, (sT V), I) (fun z u => z = s6 (mx (I (o + 10 + t)) q) ∧ u = (S, V, sT V, t0 I o)) 0 0 := by
  refine CI.of (cc := cX4_square) (maxL := 4) (ret := (some .int)) (by decide) rfl (Nat.le_of_ble_eq_true rfl) ?_
  intro pv ev s mv below meth cv A hx hb hml hr hown hts hlocks hname hM ls hl
  have hown : s.vm.findClass RX4 = some mv.cls := hown
  have hl : lv_has ls 4 [(0, .ref (sa S o)), (1, .int (nI t)), (2, .int (nI q)), (3, .int 6)] := hl
  have hin4 : ∀ x ∈ wsX40, x ∈ wsX4_square := by decide +kernel
  obtain ⟨Q, hQ⟩ : ∃ Q, Q = MQ below (va_Qi (fun z u => z = s6 (mx (I (o + 10 + t)) q) ∧ u = (S, V, sT V, t0 I o)) (fun u t => fb_P D y A u t) A) (([.ref (sa S o), .int (nI t), .int (nI q), .int 6] : List Value).toArray) s 0 0 A := ⟨_, rfl⟩
  rw [← hQ]
  have hns : ns ≤ 12 := hF.2.2.1
  have hnt : nt ≤ 6 := hF.2.2.2.1
  have hcr := hF.cr ht
  refine lv_aload_n hx hb dX4_square_0 rfl (lv_at hl 0 rfl) ?_
  refine lv_iconst (v := 0) hx hb dX4_square_1 (by decide) ?_
  refine fb_put (r := o) hx hb hown hts hin4 tyX4 tyX4_ok nmX4 hM ((hA.1).1) (ce4 ((hA.1).2)) rfl 0 (by decide) (hts (.fieldLink RX4 40 "FeatherBedsModel" "thrown" "I") (by decide +kernel)) (fun _ h9 => h9) rfl (ty := .int) (by decide +kernel) rfl rfl (Nat.le_of_ble_eq_true rfl) dX4_square_2 (up_I (j := 0) (v := 0) (by rw [ce4 ((hA.1).2)]; simp [va_up, upd])) (w' := (S, V, (sT V), (va_up I o (upd (I o) 0 0)))) ⟨rfl, rfl, rfl⟩ (fun H locs hM => ?_)
  have eI : (va_up I o (upd (I o) 0 0)) = (t0 I o) := rfl
  rw [eI] at hM
  clear eI
  refine lv_aload_n hx hb dX4_square_5 rfl (lv_at hl 0 rfl) ?_
  refine lv_iload_n hx hb dX4_square_6 rfl (lv_at hl 1 rfl) ?_
  refine lv_iload_n hx hb dX4_square_7 rfl (lv_at hl 2 rfl) ?_
  refine fb_callVi (r := o) hx hb hml hown hts hM ((hA.1).1) (ce4 ((hA.1).2)) rfl (As := [.int (nI t), .int (nI q)]) (rest := []) (c_X4_isSquare_in D y l S V (t0 I o) o nt cf rf hA ns df hF.t0 t ht q hq) (cwV 2 hts gX4_square_X4_isSquare rfl rfl rfl (by decide +kernel) ⟨Nat.le_of_ble_eq_true rfl, Nat.le_of_ble_eq_true rfl⟩) rfl hl.1 rfl (Nat.le_of_ble_eq_true rfl) dX4_square_8 ⟨Nat.le_of_ble_eq_true rfl, Nat.le_of_ble_eq_true rfl⟩ (fun v_1 u H locs hp hM => ?_)
  obtain ⟨hv_, hu_⟩ := hp
  have hv_ := Eq.symm hv_
  have hu_ := Eq.symm hu_
  subst hv_
  subst hu_
  refine lv_if_eq (tgt := 34) hx hb dX4_square_11 (by decide) (fun c_2 => absurd c_2 (by decide)) (fun c_2 => ?_)
  refine lv_iload_n hx hb dX4_square_14 rfl (lv_at hl 3 rfl) ?_
  refine lv_iconst (v := 0) hx hb dX4_square_15 (by decide) ?_
  refine lv_bipush (v := 9) hx hb dX4_square_16 (by decide) ?_
  refine fb_callSi hx hb hml hown hts hM (As := [.int 6, .int 0, .int 9]) (rest := []) (c_X4_isIn D y l S V (t0 I o) 6 0 9) (cwS 3 hts gX4_square_X4_isIn rfl rfl rfl (by decide +kernel) ⟨Nat.le_of_ble_eq_true rfl, Nat.le_of_ble_eq_true rfl⟩) rfl hl.1 rfl (Nat.le_of_ble_eq_true rfl) dX4_square_18 ⟨Nat.le_of_ble_eq_true rfl, Nat.le_of_ble_eq_true rfl⟩ (fun v_3 u H locs hp hM => ?_)
  obtain ⟨hv_, hu_⟩ := hp
  have hv_ := Eq.symm hv_
  have hu_ := Eq.symm hu_
  subst hv_
  subst hu_
  rw [show (isN 6 0 9 : Int32) = 1 from by decide]
  refine lv_if_eq (tgt := 34) hx hb dX4_square_21 (by decide) (fun c_4 => absurd c_4 (by decide)) (fun c_4 => ?_)
  refine lv_aload_n hx hb dX4_square_24 rfl (lv_at hl 0 rfl) ?_
  refine lv_iload_n hx hb dX4_square_25 rfl (lv_at hl 1 rfl) ?_
  refine lv_iload_n hx hb dX4_square_26 rfl (lv_at hl 2 rfl) ?_
  refine lv_iload_n hx hb dX4_square_27 rfl (lv_at hl 3 rfl) ?_
  refine fb_callVi (r := o) hx hb hml hown hts hM ((hA.1).1) (ce4 ((hA.1).2)) rfl (As := [.int (nI t), .int (nI q), .int 6]) (rest := []) (c_X4_squareTold_6 D y l S V (t0 I o) o nt cf rf hA ns df hF.t0 t ht q hq) (cwV 3 hts gX4_square_X4_squareTold rfl rfl rfl (by decide +kernel) ⟨Nat.le_of_ble_eq_true rfl, Nat.le_of_ble_eq_true rfl⟩) rfl hl.1 rfl (Nat.le_of_ble_eq_true rfl) dX4_square_28 ⟨Nat.le_of_ble_eq_true rfl, Nat.le_of_ble_eq_true rfl⟩ (fun v_5 u H locs hp hM => ?_)
  obtain ⟨hv_, hu_⟩ := hp
  have hv_ := Eq.symm hv_
  have hu_ := Eq.symm hu_
  subst hv_
  subst hu_
  refine lv_goto (tgt := 39) hx hb dX4_square_31 (by decide) ?_
  rw [hQ]
  exact fb_iret hx hb hr hlocks hM (⟨by first | rfl | rw [t0_ne I (show o + 10 + t ≠ o by omega)] | rw [t0_ne I (show o + 20 + t ≠ o by omega)], rfl⟩) dX4_square_39

set_option maxHeartbeats 4000000 in
set_option maxRecDepth 100000 in
theorem c_X4_square_7 (D : va_G) (y : Nat → ClassId) (l : Launch) (S : fb_Sh) (V I : fb_V) (o nt : Nat) (cf rf : Nat → Nat) (hA : MdAt S o nt cf rf) (ns : Nat) (df : Nat → Nat) (hF : MF I o ns nt cf rf df) (t : Nat) (ht : t < nt) (q : Nat) (hq : q < cf t * rf t) : CI D y l yX4_square wsX4_square rm_X4_square [.ref (sa S o), .int (nI t), .int (nI q), .int 7] (S, V, (sT V), I) (fun z u => z = wm (mx (I (o + 10 + t)) q) ∧ u = (S, V, sT V, t0 I o)) 0 0 := by
  refine CI.of (cc := cX4_square) (maxL := 4) (ret := (some .int)) (by decide) rfl (Nat.le_of_ble_eq_true rfl) ?_
  intro pv ev s mv below meth cv A hx hb hml hr hown hts hlocks hname hM ls hl
  have hown : s.vm.findClass RX4 = some mv.cls := hown
  have hl : lv_has ls 4 [(0, .ref (sa S o)), (1, .int (nI t)), (2, .int (nI q)), (3, .int 7)] := hl
  have hin4 : ∀ x ∈ wsX40, x ∈ wsX4_square := by decide +kernel
  obtain ⟨Q, hQ⟩ : ∃ Q, Q = MQ below (va_Qi (fun z u => z = wm (mx (I (o + 10 + t)) q) ∧ u = (S, V, sT V, t0 I o)) (fun u t => fb_P D y A u t) A) (([.ref (sa S o), .int (nI t), .int (nI q), .int 7] : List Value).toArray) s 0 0 A := ⟨_, rfl⟩
  rw [← hQ]
  have hns : ns ≤ 12 := hF.2.2.1
  have hnt : nt ≤ 6 := hF.2.2.2.1
  have hcr := hF.cr ht
  refine lv_aload_n hx hb dX4_square_0 rfl (lv_at hl 0 rfl) ?_
  refine lv_iconst (v := 0) hx hb dX4_square_1 (by decide) ?_
  refine fb_put (r := o) hx hb hown hts hin4 tyX4 tyX4_ok nmX4 hM ((hA.1).1) (ce4 ((hA.1).2)) rfl 0 (by decide) (hts (.fieldLink RX4 40 "FeatherBedsModel" "thrown" "I") (by decide +kernel)) (fun _ h9 => h9) rfl (ty := .int) (by decide +kernel) rfl rfl (Nat.le_of_ble_eq_true rfl) dX4_square_2 (up_I (j := 0) (v := 0) (by rw [ce4 ((hA.1).2)]; simp [va_up, upd])) (w' := (S, V, (sT V), (va_up I o (upd (I o) 0 0)))) ⟨rfl, rfl, rfl⟩ (fun H locs hM => ?_)
  have eI : (va_up I o (upd (I o) 0 0)) = (t0 I o) := rfl
  rw [eI] at hM
  clear eI
  refine lv_aload_n hx hb dX4_square_5 rfl (lv_at hl 0 rfl) ?_
  refine lv_iload_n hx hb dX4_square_6 rfl (lv_at hl 1 rfl) ?_
  refine lv_iload_n hx hb dX4_square_7 rfl (lv_at hl 2 rfl) ?_
  refine fb_callVi (r := o) hx hb hml hown hts hM ((hA.1).1) (ce4 ((hA.1).2)) rfl (As := [.int (nI t), .int (nI q)]) (rest := []) (c_X4_isSquare_in D y l S V (t0 I o) o nt cf rf hA ns df hF.t0 t ht q hq) (cwV 2 hts gX4_square_X4_isSquare rfl rfl rfl (by decide +kernel) ⟨Nat.le_of_ble_eq_true rfl, Nat.le_of_ble_eq_true rfl⟩) rfl hl.1 rfl (Nat.le_of_ble_eq_true rfl) dX4_square_8 ⟨Nat.le_of_ble_eq_true rfl, Nat.le_of_ble_eq_true rfl⟩ (fun v_1 u H locs hp hM => ?_)
  obtain ⟨hv_, hu_⟩ := hp
  have hv_ := Eq.symm hv_
  have hu_ := Eq.symm hu_
  subst hv_
  subst hu_
  refine lv_if_eq (tgt := 34) hx hb dX4_square_11 (by decide) (fun c_2 => absurd c_2 (by decide)) (fun c_2 => ?_)
  refine lv_iload_n hx hb dX4_square_14 rfl (lv_at hl 3 rfl) ?_
  refine lv_iconst (v := 0) hx hb dX4_square_15 (by decide) ?_
  refine lv_bipush (v := 9) hx hb dX4_square_16 (by decide) ?_
  refine fb_callSi hx hb hml hown hts hM (As := [.int 7, .int 0, .int 9]) (rest := []) (c_X4_isIn D y l S V (t0 I o) 7 0 9) (cwS 3 hts gX4_square_X4_isIn rfl rfl rfl (by decide +kernel) ⟨Nat.le_of_ble_eq_true rfl, Nat.le_of_ble_eq_true rfl⟩) rfl hl.1 rfl (Nat.le_of_ble_eq_true rfl) dX4_square_18 ⟨Nat.le_of_ble_eq_true rfl, Nat.le_of_ble_eq_true rfl⟩ (fun v_3 u H locs hp hM => ?_)
  obtain ⟨hv_, hu_⟩ := hp
  have hv_ := Eq.symm hv_
  have hu_ := Eq.symm hu_
  subst hv_
  subst hu_
  rw [show (isN 7 0 9 : Int32) = 1 from by decide]
  refine lv_if_eq (tgt := 34) hx hb dX4_square_21 (by decide) (fun c_4 => absurd c_4 (by decide)) (fun c_4 => ?_)
  refine lv_aload_n hx hb dX4_square_24 rfl (lv_at hl 0 rfl) ?_
  refine lv_iload_n hx hb dX4_square_25 rfl (lv_at hl 1 rfl) ?_
  refine lv_iload_n hx hb dX4_square_26 rfl (lv_at hl 2 rfl) ?_
  refine lv_iload_n hx hb dX4_square_27 rfl (lv_at hl 3 rfl) ?_
  refine fb_callVi (r := o) hx hb hml hown hts hM ((hA.1).1) (ce4 ((hA.1).2)) rfl (As := [.int (nI t), .int (nI q), .int 7]) (rest := []) (c_X4_squareTold_7 D y l S V (t0 I o) o nt cf rf hA ns df hF.t0 t ht q hq) (cwV 3 hts gX4_square_X4_squareTold rfl rfl rfl (by decide +kernel) ⟨Nat.le_of_ble_eq_true rfl, Nat.le_of_ble_eq_true rfl⟩) rfl hl.1 rfl (Nat.le_of_ble_eq_true rfl) dX4_square_28 ⟨Nat.le_of_ble_eq_true rfl, Nat.le_of_ble_eq_true rfl⟩ (fun v_5 u H locs hp hM => ?_)
  obtain ⟨hv_, hu_⟩ := hp
  have hv_ := Eq.symm hv_
  have hu_ := Eq.symm hu_
  subst hv_
  subst hu_
  refine lv_goto (tgt := 39) hx hb dX4_square_31 (by decide) ?_
  rw [hQ]
  exact fb_iret hx hb hr hlocks hM (⟨by first | rfl | rw [t0_ne I (show o + 10 + t ≠ o by omega)] | rw [t0_ne I (show o + 20 + t ≠ o by omega)], rfl⟩) dX4_square_39

set_option maxHeartbeats 4000000 in
set_option maxRecDepth 100000 in
theorem c_X4_square_8 (D : va_G) (y : Nat → ClassId) (l : Launch) (S : fb_Sh) (V I : fb_V) (o nt : Nat) (cf rf : Nat → Nat) (hA : MdAt S o nt cf rf) (ns : Nat) (df : Nat → Nat) (hF : MF I o ns nt cf rf df) (t : Nat) (ht : t < nt) (q : Nat) (hq : q < cf t * rf t) : CI D y l yX4_square wsX4_square rm_X4_square [.ref (sa S o), .int (nI t), .int (nI q), .int 8] (S, V, (sT V), I) (fun z u => z = ob (cf t) (cf t * rf t) (I (o + 20 + t)) q 0 ∧ u = (S, V, sT V, t0 I o)) 0 0 := by
  refine CI.of (cc := cX4_square) (maxL := 4) (ret := (some .int)) (by decide) rfl (Nat.le_of_ble_eq_true rfl) ?_
  intro pv ev s mv below meth cv A hx hb hml hr hown hts hlocks hname hM ls hl
  have hown : s.vm.findClass RX4 = some mv.cls := hown
  have hl : lv_has ls 4 [(0, .ref (sa S o)), (1, .int (nI t)), (2, .int (nI q)), (3, .int 8)] := hl
  have hin4 : ∀ x ∈ wsX40, x ∈ wsX4_square := by decide +kernel
  obtain ⟨Q, hQ⟩ : ∃ Q, Q = MQ below (va_Qi (fun z u => z = ob (cf t) (cf t * rf t) (I (o + 20 + t)) q 0 ∧ u = (S, V, sT V, t0 I o)) (fun u t => fb_P D y A u t) A) (([.ref (sa S o), .int (nI t), .int (nI q), .int 8] : List Value).toArray) s 0 0 A := ⟨_, rfl⟩
  rw [← hQ]
  have hns : ns ≤ 12 := hF.2.2.1
  have hnt : nt ≤ 6 := hF.2.2.2.1
  have hcr := hF.cr ht
  refine lv_aload_n hx hb dX4_square_0 rfl (lv_at hl 0 rfl) ?_
  refine lv_iconst (v := 0) hx hb dX4_square_1 (by decide) ?_
  refine fb_put (r := o) hx hb hown hts hin4 tyX4 tyX4_ok nmX4 hM ((hA.1).1) (ce4 ((hA.1).2)) rfl 0 (by decide) (hts (.fieldLink RX4 40 "FeatherBedsModel" "thrown" "I") (by decide +kernel)) (fun _ h9 => h9) rfl (ty := .int) (by decide +kernel) rfl rfl (Nat.le_of_ble_eq_true rfl) dX4_square_2 (up_I (j := 0) (v := 0) (by rw [ce4 ((hA.1).2)]; simp [va_up, upd])) (w' := (S, V, (sT V), (va_up I o (upd (I o) 0 0)))) ⟨rfl, rfl, rfl⟩ (fun H locs hM => ?_)
  have eI : (va_up I o (upd (I o) 0 0)) = (t0 I o) := rfl
  rw [eI] at hM
  clear eI
  refine lv_aload_n hx hb dX4_square_5 rfl (lv_at hl 0 rfl) ?_
  refine lv_iload_n hx hb dX4_square_6 rfl (lv_at hl 1 rfl) ?_
  refine lv_iload_n hx hb dX4_square_7 rfl (lv_at hl 2 rfl) ?_
  refine fb_callVi (r := o) hx hb hml hown hts hM ((hA.1).1) (ce4 ((hA.1).2)) rfl (As := [.int (nI t), .int (nI q)]) (rest := []) (c_X4_isSquare_in D y l S V (t0 I o) o nt cf rf hA ns df hF.t0 t ht q hq) (cwV 2 hts gX4_square_X4_isSquare rfl rfl rfl (by decide +kernel) ⟨Nat.le_of_ble_eq_true rfl, Nat.le_of_ble_eq_true rfl⟩) rfl hl.1 rfl (Nat.le_of_ble_eq_true rfl) dX4_square_8 ⟨Nat.le_of_ble_eq_true rfl, Nat.le_of_ble_eq_true rfl⟩ (fun v_1 u H locs hp hM => ?_)
  obtain ⟨hv_, hu_⟩ := hp
  have hv_ := Eq.symm hv_
  have hu_ := Eq.symm hu_
  subst hv_
  subst hu_
  refine lv_if_eq (tgt := 34) hx hb dX4_square_11 (by decide) (fun c_2 => absurd c_2 (by decide)) (fun c_2 => ?_)
  refine lv_iload_n hx hb dX4_square_14 rfl (lv_at hl 3 rfl) ?_
  refine lv_iconst (v := 0) hx hb dX4_square_15 (by decide) ?_
  refine lv_bipush (v := 9) hx hb dX4_square_16 (by decide) ?_
  refine fb_callSi hx hb hml hown hts hM (As := [.int 8, .int 0, .int 9]) (rest := []) (c_X4_isIn D y l S V (t0 I o) 8 0 9) (cwS 3 hts gX4_square_X4_isIn rfl rfl rfl (by decide +kernel) ⟨Nat.le_of_ble_eq_true rfl, Nat.le_of_ble_eq_true rfl⟩) rfl hl.1 rfl (Nat.le_of_ble_eq_true rfl) dX4_square_18 ⟨Nat.le_of_ble_eq_true rfl, Nat.le_of_ble_eq_true rfl⟩ (fun v_3 u H locs hp hM => ?_)
  obtain ⟨hv_, hu_⟩ := hp
  have hv_ := Eq.symm hv_
  have hu_ := Eq.symm hu_
  subst hv_
  subst hu_
  rw [show (isN 8 0 9 : Int32) = 1 from by decide]
  refine lv_if_eq (tgt := 34) hx hb dX4_square_21 (by decide) (fun c_4 => absurd c_4 (by decide)) (fun c_4 => ?_)
  refine lv_aload_n hx hb dX4_square_24 rfl (lv_at hl 0 rfl) ?_
  refine lv_iload_n hx hb dX4_square_25 rfl (lv_at hl 1 rfl) ?_
  refine lv_iload_n hx hb dX4_square_26 rfl (lv_at hl 2 rfl) ?_
  refine lv_iload_n hx hb dX4_square_27 rfl (lv_at hl 3 rfl) ?_
  refine fb_callVi (r := o) hx hb hml hown hts hM ((hA.1).1) (ce4 ((hA.1).2)) rfl (As := [.int (nI t), .int (nI q), .int 8]) (rest := []) (c_X4_squareTold_8 D y l S V (t0 I o) o nt cf rf hA ns df hF.t0 t ht q hq) (cwV 3 hts gX4_square_X4_squareTold rfl rfl rfl (by decide +kernel) ⟨Nat.le_of_ble_eq_true rfl, Nat.le_of_ble_eq_true rfl⟩) rfl hl.1 rfl (Nat.le_of_ble_eq_true rfl) dX4_square_28 ⟨Nat.le_of_ble_eq_true rfl, Nat.le_of_ble_eq_true rfl⟩ (fun v_5 u H locs hp hM => ?_)
  obtain ⟨hv_, hu_⟩ := hp
  have hv_ := Eq.symm hv_
  have hu_ := Eq.symm hu_
  subst hv_
  subst hu_
  refine lv_goto (tgt := 39) hx hb dX4_square_31 (by decide) ?_
  rw [hQ]
  exact fb_iret hx hb hr hlocks hM (⟨by first | rfl | rw [t0_ne I (show o + 10 + t ≠ o by omega)] | rw [t0_ne I (show o + 20 + t ≠ o by omega)], rfl⟩) dX4_square_39

set_option maxHeartbeats 4000000 in
set_option maxRecDepth 100000 in
theorem c_X4_square_9 (D : va_G) (y : Nat → ClassId) (l : Launch) (S : fb_Sh) (V I : fb_V) (o nt : Nat) (cf rf : Nat → Nat) (hA : MdAt S o nt cf rf) (ns : Nat) (df : Nat → Nat) (hF : MF I o ns nt cf rf df) (t : Nat) (ht : t < nt) (q : Nat) (hq : q < cf t * rf t) : CI D y l yX4_square wsX4_square rm_X4_square [.ref (sa S o), .int (nI t), .int (nI q), .int 9] (S, V, (sT V), I) (fun z u => z = ob (cf t) (cf t * rf t) (I (o + 20 + t)) q 1 ∧ u = (S, V, sT V, t0 I o)) 0 0 := by
  refine CI.of (cc := cX4_square) (maxL := 4) (ret := (some .int)) (by decide) rfl (Nat.le_of_ble_eq_true rfl) ?_
  intro pv ev s mv below meth cv A hx hb hml hr hown hts hlocks hname hM ls hl
  have hown : s.vm.findClass RX4 = some mv.cls := hown
  have hl : lv_has ls 4 [(0, .ref (sa S o)), (1, .int (nI t)), (2, .int (nI q)), (3, .int 9)] := hl
  have hin4 : ∀ x ∈ wsX40, x ∈ wsX4_square := by decide +kernel
  obtain ⟨Q, hQ⟩ : ∃ Q, Q = MQ below (va_Qi (fun z u => z = ob (cf t) (cf t * rf t) (I (o + 20 + t)) q 1 ∧ u = (S, V, sT V, t0 I o)) (fun u t => fb_P D y A u t) A) (([.ref (sa S o), .int (nI t), .int (nI q), .int 9] : List Value).toArray) s 0 0 A := ⟨_, rfl⟩
  rw [← hQ]
  have hns : ns ≤ 12 := hF.2.2.1
  have hnt : nt ≤ 6 := hF.2.2.2.1
  have hcr := hF.cr ht
  refine lv_aload_n hx hb dX4_square_0 rfl (lv_at hl 0 rfl) ?_
  refine lv_iconst (v := 0) hx hb dX4_square_1 (by decide) ?_
  refine fb_put (r := o) hx hb hown hts hin4 tyX4 tyX4_ok nmX4 hM ((hA.1).1) (ce4 ((hA.1).2)) rfl 0 (by decide) (hts (.fieldLink RX4 40 "FeatherBedsModel" "thrown" "I") (by decide +kernel)) (fun _ h9 => h9) rfl (ty := .int) (by decide +kernel) rfl rfl (Nat.le_of_ble_eq_true rfl) dX4_square_2 (up_I (j := 0) (v := 0) (by rw [ce4 ((hA.1).2)]; simp [va_up, upd])) (w' := (S, V, (sT V), (va_up I o (upd (I o) 0 0)))) ⟨rfl, rfl, rfl⟩ (fun H locs hM => ?_)
  have eI : (va_up I o (upd (I o) 0 0)) = (t0 I o) := rfl
  rw [eI] at hM
  clear eI
  refine lv_aload_n hx hb dX4_square_5 rfl (lv_at hl 0 rfl) ?_
  refine lv_iload_n hx hb dX4_square_6 rfl (lv_at hl 1 rfl) ?_
  refine lv_iload_n hx hb dX4_square_7 rfl (lv_at hl 2 rfl) ?_
  refine fb_callVi (r := o) hx hb hml hown hts hM ((hA.1).1) (ce4 ((hA.1).2)) rfl (As := [.int (nI t), .int (nI q)]) (rest := []) (c_X4_isSquare_in D y l S V (t0 I o) o nt cf rf hA ns df hF.t0 t ht q hq) (cwV 2 hts gX4_square_X4_isSquare rfl rfl rfl (by decide +kernel) ⟨Nat.le_of_ble_eq_true rfl, Nat.le_of_ble_eq_true rfl⟩) rfl hl.1 rfl (Nat.le_of_ble_eq_true rfl) dX4_square_8 ⟨Nat.le_of_ble_eq_true rfl, Nat.le_of_ble_eq_true rfl⟩ (fun v_1 u H locs hp hM => ?_)
  obtain ⟨hv_, hu_⟩ := hp
  have hv_ := Eq.symm hv_
  have hu_ := Eq.symm hu_
  subst hv_
  subst hu_
  refine lv_if_eq (tgt := 34) hx hb dX4_square_11 (by decide) (fun c_2 => absurd c_2 (by decide)) (fun c_2 => ?_)
  refine lv_iload_n hx hb dX4_square_14 rfl (lv_at hl 3 rfl) ?_
  refine lv_iconst (v := 0) hx hb dX4_square_15 (by decide) ?_
  refine lv_bipush (v := 9) hx hb dX4_square_16 (by decide) ?_
  refine fb_callSi hx hb hml hown hts hM (As := [.int 9, .int 0, .int 9]) (rest := []) (c_X4_isIn D y l S V (t0 I o) 9 0 9) (cwS 3 hts gX4_square_X4_isIn rfl rfl rfl (by decide +kernel) ⟨Nat.le_of_ble_eq_true rfl, Nat.le_of_ble_eq_true rfl⟩) rfl hl.1 rfl (Nat.le_of_ble_eq_true rfl) dX4_square_18 ⟨Nat.le_of_ble_eq_true rfl, Nat.le_of_ble_eq_true rfl⟩ (fun v_3 u H locs hp hM => ?_)
  obtain ⟨hv_, hu_⟩ := hp
  have hv_ := Eq.symm hv_
  have hu_ := Eq.symm hu_
  subst hv_
  subst hu_
  rw [show (isN 9 0 9 : Int32) = 1 from by decide]
  refine lv_if_eq (tgt := 34) hx hb dX4_square_21 (by decide) (fun c_4 => absurd c_4 (by decide)) (fun c_4 => ?_)
  refine lv_aload_n hx hb dX4_square_24 rfl (lv_at hl 0 rfl) ?_
  refine lv_iload_n hx hb dX4_square_25 rfl (lv_at hl 1 rfl) ?_
  refine lv_iload_n hx hb dX4_square_26 rfl (lv_at hl 2 rfl) ?_
  refine lv_iload_n hx hb dX4_square_27 rfl (lv_at hl 3 rfl) ?_
  refine fb_callVi (r := o) hx hb hml hown hts hM ((hA.1).1) (ce4 ((hA.1).2)) rfl (As := [.int (nI t), .int (nI q), .int 9]) (rest := []) (c_X4_squareTold_9 D y l S V (t0 I o) o nt cf rf hA ns df hF.t0 t ht q hq) (cwV 3 hts gX4_square_X4_squareTold rfl rfl rfl (by decide +kernel) ⟨Nat.le_of_ble_eq_true rfl, Nat.le_of_ble_eq_true rfl⟩) rfl hl.1 rfl (Nat.le_of_ble_eq_true rfl) dX4_square_28 ⟨Nat.le_of_ble_eq_true rfl, Nat.le_of_ble_eq_true rfl⟩ (fun v_5 u H locs hp hM => ?_)
  obtain ⟨hv_, hu_⟩ := hp
  have hv_ := Eq.symm hv_
  have hu_ := Eq.symm hu_
  subst hv_
  subst hu_
  refine lv_goto (tgt := 39) hx hb dX4_square_31 (by decide) ?_
  rw [hQ]
  exact fb_iret hx hb hr hlocks hM (⟨by first | rfl | rw [t0_ne I (show o + 10 + t ≠ o by omega)] | rw [t0_ne I (show o + 20 + t ≠ o by omega)], rfl⟩) dX4_square_39
