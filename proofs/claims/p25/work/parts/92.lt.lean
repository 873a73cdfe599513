abbrev rm_X5_all : Room := { frames := 0, cells := 0, slots := 0, locals := 0 }
set_option maxHeartbeats 4000000 in
set_option maxRecDepth 100000 in
theorem c_X5_all (D : va_G) (y : Nat → ClassId) (l : Launch) (S : fb_Sh) (V I : fb_V) (z : Nat) (h6 : RA S z 6 6) : CI D y l yX5_all wsX5_all rm_X5_all [.ref (sa S z)] (S, V, (sT V), I) (fun x u => x = s6 (I z) ∧ u = (S, V, sT V, I)) 0 0 := by
  refine CI.of (cc := cX5_all) (maxL := 6) (ret := (some .int)) (by decide) rfl (Nat.le_of_ble_eq_true rfl) ?_
  intro pv ev s mv below meth cv A hx hb hml hr hown hts hlocks hname hM ls hl
  have hown : s.vm.findClass RX5 = some mv.cls := hown
  have hl : lv_has ls 6 [(0, .ref (sa S z))] := hl
  obtain ⟨Q, hQ⟩ : ∃ Q, Q = MQ below (va_Qi (fun x u => x = s6 (I z) ∧ u = (S, V, sT V, I)) (fun u t => fb_P D y A u t) A) (([.ref (sa S z)] : List Value).toArray) s 0 0 A := ⟨_, rfl⟩
  rw [← hQ]
  refine lv_iconst (v := 0) hx hb dX5_all_0 (by decide) ?_
  refine lv_istore_n (lv' := [(1, .int 0), (0, .ref (sa S z))]) hx hb dX5_all_1 rfl hl (by decide) rfl (fun ls hl => ?_)
  refine lv_aload_n hx hb dX5_all_2 rfl (lv_at hl 1 rfl) ?_
  refine lv_astore_n (lv' := [(2, .ref (sa S z)), (1, .int 0), (0, .ref (sa S z))]) hx hb dX5_all_3 rfl hl (by decide) rfl (fun ls hl => ?_)
  refine lv_aload_n hx hb dX5_all_4 rfl (lv_at hl 0 rfl) ?_
  refine fb_alen (r := z) hx hb hM ((h6).1) (ce6 ((h6).2.1)) 0 rfl (v := nI 6) (congrArg Int32.ofNat ((h6).2.2)) dX5_all_5 ?_
  refine lv_istore_n (lv' := [(3, .int (nI 6)), (2, .ref (sa S z)), (1, .int 0), (0, .ref (sa S z))]) hx hb dX5_all_6 rfl hl (by decide) rfl (fun ls hl => ?_)
  refine lv_iconst (v := 0) hx hb dX5_all_7 (by decide) ?_
  refine lv_istore (lv' := [(4, .int 0), (3, .int (nI 6)), (2, .ref (sa S z)), (1, .int 0), (0, .ref (sa S z))]) hx hb dX5_all_8 hl (by decide) rfl (fun ls hl => ?_)
  have LP_10 : ∀ (n : Nat) (i : Nat) (hi : i ≤ 6), 6 - i < n → ∀ (H : Heap) (locs : List Loc), fb_M D y A s (S, V, (sT V), I) H locs → ∀ ls, lv_has ls 6 [(4, .int (nI i)), (3, .int (nI 6)), (2, .ref (sa S z)), (1, .int (asu (I z) i))] → W pv l ev rm_X5_all s mv ([.ref (sa S z)] : List Value).toArray below meth cv H locs 0 0 Q (F0 mv 10 ls []) := by
    intro n_10
    induction n_10 with
    | zero => intro i hi hmu; exact absurd hmu (Nat.not_lt_zero _)
    | succ n_10 ih_10 =>
      intro i hi hmu H locs hM ls hl
      refine lv_iload hx hb dX5_all_10 (lv_at hl 0 rfl) ?_
      refine lv_iload_n hx hb dX5_all_12 rfl (lv_at hl 1 rfl) ?_
      refine lv_icmp_ge (tgt := 33) hx hb dX5_all_13 (by decide) (fun c_1 => ?_) (fun c_1 => ?_)
      · skip
        have e_i : i = 6 := by have := (nI_leI (a := 6) (b := i) (by omega) (by omega)).mp c_1; omega
        have e_i := Eq.symm e_i
        subst e_i
        refine lv_iload_n hx hb dX5_all_33 rfl (lv_at hl 3 rfl) ?_
        rw [hQ]
        exact fb_iret hx hb hr hlocks hM (⟨asu_6 _, rfl⟩) dX5_all_34
      · skip
        have hi6 : i < 6 := Nat.lt_of_not_le (fun z => c_1 (nI_le z (by omega)))
        refine lv_aload_n hx hb dX5_all_16 rfl (lv_at hl 2 rfl) ?_
        refine lv_iload hx hb dX5_all_17 (lv_at hl 0 rfl) ?_
        refine fb_iald (r := z) hx hb hM ((h6).1) (ce6 ((h6).2.1)) (k := i) (nI_clamp (by omega)) (by rw [(h6).2.2]; exact vp_in_nI (by omega) (by omega)) dX5_all_19 ?_
        refine lv_istore (lv' := [(5, .int (I z i)), (4, .int (nI i)), (3, .int (nI 6)), (2, .ref (sa S z)), (1, .int (asu (I z) i))]) hx hb dX5_all_20 hl (by decide) rfl (fun ls hl => ?_)
        refine lv_iload_n hx hb dX5_all_22 rfl (lv_at hl 4 rfl) ?_
        refine lv_iload hx hb dX5_all_23 (lv_at hl 0 rfl) ?_
        refine lv_iadd hx hb dX5_all_25 ?_
        refine W.eq (g2 := F0 mv _ ls (.int (asu (I z) (i + 1)) :: [])) (by first | rfl | rw [show ((asu (I z) i) + (I z i) : Int32) = asu (I z) (i + 1) from rfl]) ?_
        refine lv_istore_n (lv' := [(1, .int (asu (I z) (i + 1))), (5, .int (I z i)), (4, .int (nI i)), (3, .int (nI 6)), (2, .ref (sa S z))]) hx hb dX5_all_26 rfl hl (by decide) rfl (fun ls hl => ?_)
        refine lv_iinc (v := nI (i + 1)) (lv' := [(4, .int (nI (i + 1))), (1, .int (asu (I z) (i + 1))), (5, .int (I z i)), (3, .int (nI 6)), (2, .ref (sa S z))]) hx hb dX5_all_27 hl (k := 2) rfl (nI_1 _) (by decide) rfl (fun ls hl => ?_)
        refine lv_goto (tgt := 10) hx hb dX5_all_30 (by decide) ?_
        exact ih_10 (i + 1) (by omega) (by omega) _ _ hM ls (lv_sub hl [0, 3, 4, 1] rfl)
  exact LP_10 _ 0 (by omega) (Nat.lt_succ_self _) _ _ hM ls (lv_sub hl [0, 1, 2, 3] rfl)

abbrev rm_X5_has : Room := { frames := 0, cells := 0, slots := 0, locals := 0 }
set_option maxHeartbeats 4000000 in
set_option maxRecDepth 100000 in
theorem c_X5_has (D : va_G) (y : Nat → ClassId) (l : Launch) (S : fb_Sh) (V I : fb_V) (o c r d : Nat) (ht : LtAt S o (c * r)) (hf : LF I o c r d) (q : Nat) (hq : q < c * r) (e : Nat) (he : e < 2) : CI D y l yX5_has wsX5_has rm_X5_has [.ref (sa S o), .int (nI q), .int (nI e)] (S, V, (sT V), I) (fun z u => z = (if ofx c (c * r) q e = true then 1 else 0) ∧ u = (S, V, sT V, I)) 0 0 := by
  refine CI.of (cc := cX5_has) (maxL := 3) (ret := (some .boolean)) (by decide) rfl (Nat.le_of_ble_eq_true rfl) ?_
  intro pv ev s mv below meth cv A hx hb hml hr hown hts hlocks hname hM ls hl
  have hown : s.vm.findClass RX5 = some mv.cls := hown
  have hl : lv_has ls 3 [(0, .ref (sa S o)), (1, .int (nI q)), (2, .int (nI e))] := hl
  have hin14 : ∀ x ∈ wsX50, x ∈ wsX5_has := by decide +kernel
  obtain ⟨Q, hQ⟩ : ∃ Q, Q = MQ below (va_Qi (fun z u => z = (if ofx c (c * r) q e = true then 1 else 0) ∧ u = (S, V, sT V, I)) (fun u t => fb_P D y A u t) A) (([.ref (sa S o), .int (nI q), .int (nI e)] : List Value).toArray) s 0 0 A := ⟨_, rfl⟩
  rw [← hQ]
  have hn := hf.le
  have hc1 : 1 ≤ c := hf.2.2.2.1
  have hc6 : c ≤ 6 := hf.2.2.2.2.1
  have hr6 : r ≤ 6 := hf.2.2.2.2.2.2.1
  have hr1 : 1 ≤ r := hf.2.2.2.2.2.1
  have hm : q % c < c := Nat.mod_lt _ (by omega)
  have hdm := Nat.div_add_mod q c
  have hqc : q / c < r := Nat.div_lt_of_lt_mul hq
  refine lv_iload_n hx hb dX5_has_0 rfl (lv_at hl 2 rfl) ?_
  refine lv_if_ne (tgt := 27) hx hb dX5_has_1 (by decide) (fun c_1 => ?_) (fun c_1 => ?_)
  · skip
    have he1 : e = 1 := by
      have h9 : e ≠ 0 := fun z => c_1 (by rw [z]; rfl)
      omega
    subst he1
    refine lv_iload_n hx hb dX5_has_27 rfl (lv_at hl 1 rfl) ?_
    refine lv_aload_n hx hb dX5_has_28 rfl (lv_at hl 0 rfl) ?_
    refine fb_get (r := o) hx hb hown hts hin14 hM (ht.1.1) (ce14 (ht.1.2)) rfl 0 (by decide) (hts (.fieldLink RX5 7 "FeatherBedsLaw$Tick" "columns" "I") (by decide +kernel)) (fun _ h9 => h9) (v := .int (nI c)) (congrArg (fun z => some (Value.int z)) (hf.1)) dX5_has_29 ?_
    refine lv_idiv hx hb dX5_has_32 (nI_ne0 (by omega) (by omega)) ?_
    refine W.eq (g2 := F0 mv _ ls (.int (nI (q / c)) :: [])) (by first | rfl | rw [show ((nI q) / (nI c) : Int32) = nI (q / c) from pk_div (by omega) (by omega) (by omega)]) ?_
    refine lv_iconst (v := 1) hx hb dX5_has_33 (by decide) ?_
    refine lv_iadd hx hb dX5_has_34 ?_
    refine W.eq (g2 := F0 mv _ ls (.int (nI (q / c + 1)) :: [])) (by first | rfl | rw [show ((nI (q / c)) + 1 : Int32) = nI (q / c + 1) from nI_1 _]) ?_
    refine lv_aload_n hx hb dX5_has_35 rfl (lv_at hl 0 rfl) ?_
    refine fb_get (r := o) hx hb hown hts hin14 hM (ht.1.1) (ce14 (ht.1.2)) rfl 1 (by decide) (hts (.fieldLink RX5 13 "FeatherBedsLaw$Tick" "rows" "I") (by decide +kernel)) (fun _ h9 => h9) (v := .int (nI r)) (congrArg (fun z => some (Value.int z)) (hf.2.1)) dX5_has_36 ?_
    refine lv_icmp_ge (tgt := 46) hx hb dX5_has_39 (by decide) (fun c_2 => ?_) (fun c_2 => ?_)
    · skip
      have hyy : ¬ q + c < c * r := by
        have h9 := (nI_leI (a := r) (b := q / c + 1) (by omega) (by omega)).mp c_2
        have h8 : c * r ≤ c * (q / c + 1) := Nat.mul_le_mul_left c h9
        rw [Nat.mul_add] at h8
        omega
      refine lv_iconst (v := 0) hx hb dX5_has_46 (by decide) ?_
      rw [hQ]
      exact fb_zret hx hb hr (by first | rfl | decide | assumption) hlocks hM (⟨by first | exact (if_pos (ofx_0 hxx)).symm | exact (if_neg (ofx_0n hxx)).symm | exact (if_pos (ofx_1 hyy)).symm | exact (if_neg (ofx_1n hyy)).symm, rfl⟩) dX5_has_47
    · skip
      have hyy : q + c < c * r := by
        have h9 : q / c + 1 < r := Nat.lt_of_not_le (fun z => c_2 (nI_le z (by omega)))
        have h8 : c * (q / c + 1 + 1) ≤ c * r := Nat.mul_le_mul_left c h9
        rw [Nat.mul_add, Nat.mul_add] at h8
        omega
      refine lv_iconst (v := 1) hx hb dX5_has_42 (by decide) ?_
      refine lv_goto (tgt := 47) hx hb dX5_has_43 (by decide) ?_
      rw [hQ]
      exact fb_zret hx hb hr (by first | rfl | decide | assumption) hlocks hM (⟨by first | exact (if_pos (ofx_0 hxx)).symm | exact (if_neg (ofx_0n hxx)).symm | exact (if_pos (ofx_1 hyy)).symm | exact (if_neg (ofx_1n hyy)).symm, rfl⟩) dX5_has_47
  · skip
    have he0 : e = 0 := (nI_eq (a := e) (b := 0) (by omega) (by omega)).mp c_1
    subst he0
    refine lv_iload_n hx hb dX5_has_4 rfl (lv_at hl 1 rfl) ?_
    refine lv_aload_n hx hb dX5_has_5 rfl (lv_at hl 0 rfl) ?_
    refine fb_get (r := o) hx hb hown hts hin14 hM (ht.1.1) (ce14 (ht.1.2)) rfl 0 (by decide) (hts (.fieldLink RX5 7 "FeatherBedsLaw$Tick" "columns" "I") (by decide +kernel)) (fun _ h9 => h9) (v := .int (nI c)) (congrArg (fun z => some (Value.int z)) (hf.1)) dX5_has_6 ?_
    refine lv_irem hx hb dX5_has_9 (nI_ne0 (by omega) (by omega)) ?_
    refine W.eq (g2 := F0 mv _ ls (.int (nI (q % c)) :: [])) (by first | rfl | rw [show ((nI q) - (nI q) / (nI c) * (nI c) : Int32) = nI (q % c) from pk_rem (by omega) (by omega) (by omega)]) ?_
    refine lv_iconst (v := 1) hx hb dX5_has_10 (by decide) ?_
    refine lv_iadd hx hb dX5_has_11 ?_
    refine W.eq (g2 := F0 mv _ ls (.int (nI (q % c + 1)) :: [])) (by first | rfl | rw [show ((nI (q % c)) + 1 : Int32) = nI (q % c + 1) from nI_1 _]) ?_
    refine lv_aload_n hx hb dX5_has_12 rfl (lv_at hl 0 rfl) ?_
    refine fb_get (r := o) hx hb hown hts hin14 hM (ht.1.1) (ce14 (ht.1.2)) rfl 0 (by decide) (hts (.fieldLink RX5 7 "FeatherBedsLaw$Tick" "columns" "I") (by decide +kernel)) (fun _ h9 => h9) (v := .int (nI c)) (congrArg (fun z => some (Value.int z)) (hf.1)) dX5_has_13 ?_
    refine lv_icmp_ge (tgt := 23) hx hb dX5_has_16 (by decide) (fun c_3 => ?_) (fun c_3 => ?_)
    · skip
      have hxx : ¬ q % c + 1 < c := by have := (nI_leI (a := c) (b := q % c + 1) (by omega) (by omega)).mp c_3; omega
      refine lv_iconst (v := 0) hx hb dX5_has_23 (by decide) ?_
      refine lv_goto (tgt := 47) hx hb dX5_has_24 (by decide) ?_
      rw [hQ]
      exact fb_zret hx hb hr (by first | rfl | decide | assumption) hlocks hM (⟨by first | exact (if_pos (ofx_0 hxx)).symm | exact (if_neg (ofx_0n hxx)).symm | exact (if_pos (ofx_1 hyy)).symm | exact (if_neg (ofx_1n hyy)).symm, rfl⟩) dX5_has_47
    · skip
      have hxx : q % c + 1 < c := Nat.lt_of_not_le (fun z => c_3 (nI_le z (by omega)))
      refine lv_iconst (v := 1) hx hb dX5_has_19 (by decide) ?_
      refine lv_goto (tgt := 47) hx hb dX5_has_20 (by decide) ?_
      rw [hQ]
      exact fb_zret hx hb hr (by first | rfl | decide | assumption) hlocks hM (⟨by first | exact (if_pos (ofx_0 hxx)).symm | exact (if_neg (ofx_0n hxx)).symm | exact (if_pos (ofx_1 hyy)).symm | exact (if_neg (ofx_1n hyy)).symm, rfl⟩) dX5_has_47

abbrev rm_X5_to : Room := { frames := 0, cells := 0, slots := 0, locals := 0 }
set_option maxHeartbeats 4000000 in
set_option maxRecDepth 100000 in
theorem c_X5_to (D : va_G) (y : Nat → ClassId) (l : Launch) (S : fb_Sh) (V I : fb_V) (o c r d : Nat) (ht : LtAt S o (c * r)) (hf : LF I o c r d) (q : Nat) (hq : q < c * r) (e : Nat) (he : e < 2) : CI D y l yX5_to wsX5_to rm_X5_to [.ref (sa S o), .int (nI q), .int (nI e)] (S, V, (sT V), I) (fun z u => z = nI (oft c q e) ∧ u = (S, V, sT V, I)) 0 0 := by
  refine CI.of (cc := cX5_to) (maxL := 3) (ret := (some .int)) (by decide) rfl (Nat.le_of_ble_eq_true rfl) ?_
  intro pv ev s mv below meth cv A hx hb hml hr hown hts hlocks hname hM ls hl
  have hown : s.vm.findClass RX5 = some mv.cls := hown
  have hl : lv_has ls 3 [(0, .ref (sa S o)), (1, .int (nI q)), (2, .int (nI e))] := hl
  have hin14 : ∀ x ∈ wsX50, x ∈ wsX5_to := by decide +kernel
  obtain ⟨Q, hQ⟩ : ∃ Q, Q = MQ below (va_Qi (fun z u => z = nI (oft c q e) ∧ u = (S, V, sT V, I)) (fun u t => fb_P D y A u t) A) (([.ref (sa S o), .int (nI q), .int (nI e)] : List Value).toArray) s 0 0 A := ⟨_, rfl⟩
  rw [← hQ]
  have hn := hf.le
  have hc1 : 1 ≤ c := hf.2.2.2.1
  have hc6 : c ≤ 6 := hf.2.2.2.2.1
  have hr6 : r ≤ 6 := hf.2.2.2.2.2.2.1
  have hr1 : 1 ≤ r := hf.2.2.2.2.2.1
  refine lv_iload_n hx hb dX5_to_0 rfl (lv_at hl 2 rfl) ?_
  refine lv_if_ne (tgt := 10) hx hb dX5_to_1 (by decide) (fun c_1 => ?_) (fun c_1 => ?_)
  · skip
    have he1 : e = 1 := by
      have h9 : e ≠ 0 := fun z => c_1 (by rw [z]; rfl)
      omega
    subst he1
    refine lv_iload_n hx hb dX5_to_10 rfl (lv_at hl 1 rfl) ?_
    refine lv_aload_n hx hb dX5_to_11 rfl (lv_at hl 0 rfl) ?_
    refine fb_get (r := o) hx hb hown hts hin14 hM (ht.1.1) (ce14 (ht.1.2)) rfl 0 (by decide) (hts (.fieldLink RX5 7 "FeatherBedsLaw$Tick" "columns" "I") (by decide +kernel)) (fun _ h9 => h9) (v := .int (nI c)) (congrArg (fun z => some (Value.int z)) (hf.1)) dX5_to_12 ?_
    refine lv_iadd hx hb dX5_to_15 ?_
    refine W.eq (g2 := F0 mv _ ls (.int (nI (q + c)) :: [])) (by first | rfl | rw [show ((nI q) + (nI c) : Int32) = nI (q + c) from nI_add _ _]) ?_
    rw [hQ]
    exact fb_iret hx hb hr hlocks hM (⟨rfl, rfl⟩) dX5_to_16
  · skip
    have he0 : e = 0 := (nI_eq (a := e) (b := 0) (by omega) (by omega)).mp c_1
    subst he0
    refine lv_iload_n hx hb dX5_to_4 rfl (lv_at hl 1 rfl) ?_
    refine lv_iconst (v := 1) hx hb dX5_to_5 (by decide) ?_
    refine lv_iadd hx hb dX5_to_6 ?_
    refine W.eq (g2 := F0 mv _ ls (.int (nI (q + 1)) :: [])) (by first | rfl | rw [show ((nI q) + 1 : Int32) = nI (q + 1) from nI_1 _]) ?_
    refine lv_goto (tgt := 16) hx hb dX5_to_7 (by decide) ?_
    rw [hQ]
    exact fb_iret hx hb hr hlocks hM (⟨rfl, rfl⟩) dX5_to_16

abbrev rm_X5_isOpen : Room := { frames := 1, cells := 0, slots := 0, locals := 22 }
set_option maxHeartbeats 4000000 in
set_option maxRecDepth 100000 in
theorem c_X5_isOpen (D : va_G) (y : Nat → ClassId) (l : Launch) (S : fb_Sh) (V I : fb_V) (o c r d : Nat) (ht : LtAt S o (c * r)) (hf : LF I o c r d) (B : Nat → Int32) (hB : ∀ q e, q < c * r → e < 2 → I (o + 50 + q) e = B (2 * q + e)) (q : Nat) (hq : q < c * r) (e : Nat) (he : e < 2) : CI D y l yX5_isOpen wsX5_isOpen rm_X5_isOpen [.ref (sa S o), .int (nI q), .int (nI e)] (S, V, (sT V), I) (fun z u => z = ob c (c * r) B q e ∧ u = (S, V, sT V, I)) 0 0 := by
  refine CI.of (cc := cX5_isOpen) (maxL := 3) (ret := (some .boolean)) (by decide) rfl (Nat.le_of_ble_eq_true rfl) ?_
  intro pv ev s mv below meth cv A hx hb hml hr hown hts hlocks hname hM ls hl
  have hown : s.vm.findClass RX5 = some mv.cls := hown
  have hl : lv_has ls 3 [(0, .ref (sa S o)), (1, .int (nI q)), (2, .int (nI e))] := hl
  have hin14 : ∀ x ∈ wsX50, x ∈ wsX5_isOpen := by decide +kernel
  obtain ⟨Q, hQ⟩ : ∃ Q, Q = MQ below (va_Qi (fun z u => z = ob c (c * r) B q e ∧ u = (S, V, sT V, I)) (fun u t => fb_P D y A u t) A) (([.ref (sa S o), .int (nI q), .int (nI e)] : List Value).toArray) s 0 0 A := ⟨_, rfl⟩
  rw [← hQ]
  have hn := hf.le
  have hc1 : 1 ≤ c := hf.2.2.2.1
  have hc6 : c ≤ 6 := hf.2.2.2.2.1
  have hr6 : r ≤ 6 := hf.2.2.2.2.2.2.1
  have hr1 : 1 ≤ r := hf.2.2.2.2.2.1
  refine lv_aload_n hx hb dX5_isOpen_0 rfl (lv_at hl 0 rfl) ?_
  refine lv_iload_n hx hb dX5_isOpen_1 rfl (lv_at hl 1 rfl) ?_
  refine lv_iload_n hx hb dX5_isOpen_2 rfl (lv_at hl 2 rfl) ?_
  refine fb_callVi (r := o) hx hb hml hown hts hM (ht.1.1) (ce14 (ht.1.2)) rfl (As := [.int (nI q), .int (nI e)]) (rest := []) (c_X5_has D y l S V I o c r d ht hf q hq e he) (cwV 2 hts gX5_isOpen_X5_has rfl rfl rfl (by decide +kernel) ⟨Nat.le_of_ble_eq_true rfl, Nat.le_of_ble_eq_true rfl⟩) rfl hl.1 rfl (Nat.le_of_ble_eq_true rfl) dX5_isOpen_3 ⟨Nat.le_of_ble_eq_true rfl, Nat.le_of_ble_eq_true rfl⟩ (fun v_1 u_ H locs hp hM => ?_)
  obtain ⟨hv_, hu_⟩ := hp
  have hv_ := Eq.symm hv_
  have hu_ := Eq.symm hu_
  subst hv_
  subst hu_
  refine lv_if_eq (tgt := 24) hx hb dX5_isOpen_6 (by decide) (fun c_2 => ?_) (fun c_2 => ?_)
  · skip
    have hxx : ¬ ofx c (c * r) q e = true := fun h => by rw [if_pos h] at c_2; exact absurd c_2 (by decide)
    refine lv_iconst (v := 0) hx hb dX5_isOpen_24 (by decide) ?_
    rw [hQ]
    exact fb_zret hx hb hr (by first | rfl | decide | assumption) hlocks hM (⟨by unfold ob opn; first | (simp [hxx]; done) | (simp [hxx, hbb]; done), rfl⟩) dX5_isOpen_25
  · skip
    have hxx : ofx c (c * r) q e = true := by
      by_cases h : ofx c (c * r) q e = true
      · exact h
      · exact absurd (if_neg h) c_2
    refine lv_aload_n hx hb dX5_isOpen_9 rfl (lv_at hl 0 rfl) ?_
    refine fb_get (r := o) hx hb hown hts hin14 hM (ht.1.1) (ce14 (ht.1.2)) rfl 4 (by decide) (hts (.fieldLink RX5 26 "FeatherBedsLaw$Tick" "sewn" "[[Z") (by decide +kernel)) (fun _ h9 => h9) (v := .ref (sa S (o + 49))) (congrArg (fun z => some (va_rf z)) (ht.2.2.1)) dX5_isOpen_10 ?_
    refine lv_iload_n hx hb dX5_isOpen_13 rfl (lv_at hl 1 rfl) ?_
    refine fb_aaldA (r := (o + 49)) hx hb hM (ht.2.2.2.2.1.1) (ce11 (ht.2.2.2.2.1.2.1)) 5 rfl (k := q) (nI_clamp (by omega)) (b := sa S (o + 50 + q)) ((ht.2.2.2.2.2 q (by omega)).2.1) (by rw [ht.2.2.2.2.1.2.2]; exact vp_in_nI (by omega) (by omega)) dX5_isOpen_14 ?_
    refine lv_iload_n hx hb dX5_isOpen_15 rfl (lv_at hl 2 rfl) ?_
    refine fb_zald (r := (o + 50 + q)) hx hb hM ((ht.2.2.2.2.2 q (by omega)).2.2.1) (ce7 ((ht.2.2.2.2.2 q (by omega)).2.2.2.1)) (k := e) (nI_clamp (by omega)) (by rw [(ht.2.2.2.2.2 q (by omega)).2.2.2.2]; exact vp_in_nI (by omega) (by omega)) dX5_isOpen_16 ?_
    refine lv_if_ne (tgt := 24) hx hb dX5_isOpen_17 (by decide) (fun c_3 => ?_) (fun c_3 => ?_)
    · skip
      have hbb : ¬ B (2 * q + e) = 0 := by rw [← hB q e hq he]; exact c_3
      refine lv_iconst (v := 0) hx hb dX5_isOpen_24 (by decide) ?_
      rw [hQ]
      exact fb_zret hx hb hr (by first | rfl | decide | assumption) hlocks hM (⟨by unfold ob opn; first | (simp [hxx]; done) | (simp [hxx, hbb]; done), rfl⟩) dX5_isOpen_25
    · skip
      have hbb : B (2 * q + e) = 0 := by rw [← hB q e hq he]; exact c_3
      refine lv_iconst (v := 1) hx hb dX5_isOpen_20 (by decide) ?_
      refine lv_goto (tgt := 25) hx hb dX5_isOpen_21 (by decide) ?_
      rw [hQ]
      exact fb_zret hx hb hr (by first | rfl | decide | assumption) hlocks hM (⟨by unfold ob opn; first | (simp [hxx]; done) | (simp [hxx, hbb]; done), rfl⟩) dX5_isOpen_25

abbrev rm_X5_open : Room := { frames := 2, cells := 0, slots := 0, locals := 44 }
set_option maxHeartbeats 4000000 in
set_option maxRecDepth 100000 in
theorem c_X5_open (D : va_G) (y : Nat → ClassId) (l : Launch) (S : fb_Sh) (V I : fb_V) (o c r d : Nat) (ht : LtAt S o (c * r)) (hf : LF I o c r d) (B : Nat → Int32) (hB : ∀ q e, q < c * r → e < 2 → I (o + 50 + q) e = B (2 * q + e)) : CI D y l yX5_open wsX5_open rm_X5_open [.ref (sa S o)] (S, V, (sT V), I) (fun z u => z = opc c (c * r) B (2 * (c * r)) ∧ u = (S, V, sT V, I)) 0 0 := by
  refine CI.of (cc := cX5_open) (maxL := 4) (ret := (some .int)) (by decide) rfl (Nat.le_of_ble_eq_true rfl) ?_
  intro pv ev s mv below meth cv A hx hb hml hr hown hts hlocks hname hM ls hl
  have hown : s.vm.findClass RX5 = some mv.cls := hown
  have hl : lv_has ls 4 [(0, .ref (sa S o))] := hl
  have hin14 : ∀ x ∈ wsX50, x ∈ wsX5_open := by decide +kernel
  obtain ⟨Q, hQ⟩ : ∃ Q, Q = MQ below (va_Qi (fun z u => z = opc c (c * r) B (2 * (c * r)) ∧ u = (S, V, sT V, I)) (fun u t => fb_P D y A u t) A) (([.ref (sa S o)] : List Value).toArray) s 0 0 A := ⟨_, rfl⟩
  rw [← hQ]
  have hn := hf.le
  have hc1 : 1 ≤ c := hf.2.2.2.1
  have hc6 : c ≤ 6 := hf.2.2.2.2.1
  have hr6 : r ≤ 6 := hf.2.2.2.2.2.2.1
  have hr1 : 1 ≤ r := hf.2.2.2.2.2.1
  refine lv_iconst (v := 0) hx hb dX5_open_0 (by decide) ?_
  refine lv_istore_n (lv' := [(1, .int 0), (0, .ref (sa S o))]) hx hb dX5_open_1 rfl hl (by decide) rfl (fun ls hl => ?_)
  refine lv_iconst (v := 0) hx hb dX5_open_2 (by decide) ?_
  refine lv_istore_n (lv' := [(2, .int 0), (1, .int 0), (0, .ref (sa S o))]) hx hb dX5_open_3 rfl hl (by decide) rfl (fun ls hl => ?_)
  have LP_4 : ∀ (n : Nat) (i : Nat) (hi : i ≤ c * r), c * r - i < n → ∀ (H : Heap) (locs : List Loc), fb_M D y A s (S, V, (sT V), I) H locs → ∀ ls, lv_has ls 4 [(2, .int (nI i)), (1, .int (opc c (c * r) B (2 * i))), (0, .ref (sa S o))] → W pv l ev rm_X5_open s mv ([.ref (sa S o)] : List Value).toArray below meth cv H locs 0 0 Q (F0 mv 4 ls []) := by
    intro n_4
    induction n_4 with
    | zero => intro i hi hmu; exact absurd hmu (Nat.not_lt_zero _)
    | succ n_4 ih_4 =>
      intro i hi hmu H locs hM ls hl
      refine lv_iload_n hx hb dX5_open_4 rfl (lv_at hl 0 rfl) ?_
      refine lv_aload_n hx hb dX5_open_5 rfl (lv_at hl 2 rfl) ?_
      refine fb_get (r := o) hx hb hown hts hin14 hM (ht.1.1) (ce14 (ht.1.2)) rfl 3 (by decide) (hts (.fieldLink RX5 21 "FeatherBedsLaw$Tick" "squares" "[[I") (by decide +kernel)) (fun _ h9 => h9) (v := .ref (sa S (o + 9))) (congrArg (fun z => some (va_rf z)) (ht.2.1)) dX5_open_6 ?_
      refine fb_alen (r := (o + 9)) hx hb hM (ht.2.2.2.1.1) (ce10 (ht.2.2.2.1.2.1)) 4 rfl (v := nI (c * r)) (congrArg Int32.ofNat (ht.2.2.2.1.2.2)) dX5_open_9 ?_
      refine lv_icmp_ge (tgt := 49) hx hb dX5_open_10 (by decide) (fun c_1 => ?_) (fun c_1 => ?_)
      · skip
        have e_i : i = c * r := by have := (nI_leI (a := c * r) (b := i) (by omega) (by omega)).mp c_1; omega
        have e_i := Eq.symm e_i
        subst e_i
        refine lv_iload_n hx hb dX5_open_49 rfl (lv_at hl 1 rfl) ?_
        rw [hQ]
        exact fb_iret hx hb hr hlocks hM (⟨rfl, rfl⟩) dX5_open_50
      · skip
        have hq : i < c * r := Nat.lt_of_not_le (fun z => c_1 (nI_le z (by omega)))
        refine lv_iconst (v := 0) hx hb dX5_open_13 (by decide) ?_
        refine lv_istore_n (lv' := [(3, .int 0), (2, .int (nI i)), (1, .int (opc c (c * r) B (2 * i))), (0, .ref (sa S o))]) hx hb dX5_open_14 rfl hl (by decide) rfl (fun ls hl => ?_)
        have LP_15 : ∀ (n : Nat) (j : Nat) (hj : j ≤ 2), 2 - j < n → ∀ (H : Heap) (locs : List Loc), fb_M D y A s (S, V, (sT V), I) H locs → ∀ ls, lv_has ls 4 [(3, .int (nI j)), (2, .int (nI i)), (1, .int (opc c (c * r) B (2 * i + j))), (0, .ref (sa S o))] → W pv l ev rm_X5_open s mv ([.ref (sa S o)] : List Value).toArray below meth cv H locs 0 0 Q (F0 mv 15 ls []) := by
          intro n_15
          induction n_15 with
          | zero => intro j hj hmu; exact absurd hmu (Nat.not_lt_zero _)
          | succ n_15 ih_15 =>
            intro j hj hmu H locs hM ls hl
            refine lv_iload_n hx hb dX5_open_15 rfl (lv_at hl 0 rfl) ?_
            refine lv_iconst (v := 2) hx hb dX5_open_16 (by decide) ?_
            refine lv_icmp_ge (tgt := 43) hx hb dX5_open_17 (by decide) (fun c_2 => ?_) (fun c_2 => ?_)
            · skip
              have e_j : j = 2 := by have := (nI_leI (a := 2) (b := j) (by omega) (by omega)).mp c_2; omega
              have e_j := Eq.symm e_j
              subst e_j
              refine lv_iinc (v := nI (i + 1)) (lv' := [(2, .int (nI (i + 1))), (3, .int (nI 2)), (1, .int (opc c (c * r) B (2 * i + 2))), (0, .ref (sa S o))]) hx hb dX5_open_43 hl (k := 1) rfl (nI_1 _) (by decide) rfl (fun ls hl => ?_)
              refine lv_goto (tgt := 4) hx hb dX5_open_46 (by decide) ?_
              exact ih_4 (i + 1) (by omega) (by omega) _ _ hM ls (lv_sub hl [0, 2, 3] rfl)
            · skip
              have hjk : j < 2 := Nat.lt_of_not_le (fun z => c_2 (nI_le z (by omega)))
              refine lv_iload_n hx hb dX5_open_20 rfl (lv_at hl 2 rfl) ?_
              refine lv_aload_n hx hb dX5_open_21 rfl (lv_at hl 3 rfl) ?_
              refine lv_iload_n hx hb dX5_open_22 rfl (lv_at hl 1 rfl) ?_
              refine lv_iload_n hx hb dX5_open_23 rfl (lv_at hl 0 rfl) ?_
              refine fb_callVi (r := o) hx hb hml hown hts hM (ht.1.1) (ce14 (ht.1.2)) rfl (As := [.int (nI i), .int (nI j)]) (rest := [.int (opc c (c * r) B (2 * i + j))]) (c_X5_isOpen D y l S V I o c r d ht hf B hB i hq j hjk) (cwV 2 hts gX5_open_X5_isOpen rfl rfl rfl (by decide +kernel) ⟨Nat.le_of_ble_eq_true rfl, Nat.le_of_ble_eq_true rfl⟩) rfl hl.1 rfl (Nat.le_of_ble_eq_true rfl) dX5_open_24 ⟨Nat.le_of_ble_eq_true rfl, Nat.le_of_ble_eq_true rfl⟩ (fun v_3 u_ H locs hp hM => ?_)
              obtain ⟨hv_, hu_⟩ := hp
              have hv_ := Eq.symm hv_
              have hu_ := Eq.symm hu_
              subst hv_
              subst hu_
              refine lv_if_eq (tgt := 34) hx hb dX5_open_27 (by decide) (fun c_4 => ?_) (fun c_4 => ?_)
              · skip
                have hob := c_4
                refine lv_iconst (v := 0) hx hb dX5_open_34 (by decide) ?_
                refine lv_iadd hx hb dX5_open_35 ?_
                refine W.eq (g2 := F0 mv _ ls (.int (opc c (c * r) B (2 * i + (j + 1))) :: [])) (by first | rfl | rw [show ((opc c (c * r) B (2 * i + j)) + 0 : Int32) = opc c (c * r) B (2 * i + (j + 1)) from by rw [opc_s _ _ _ _ hjk]; unfold ob; first | rw [if_neg (by rw [ob_0 hob]; decide)] | rw [if_pos (ob_1 hob)]]) ?_
                refine lv_istore_n (lv' := [(1, .int (opc c (c * r) B (2 * i + (j + 1)))), (3, .int (nI j)), (2, .int (nI i)), (0, .ref (sa S o))]) hx hb dX5_open_36 rfl hl (by decide) rfl (fun ls hl => ?_)
                refine lv_iinc (v := nI (j + 1)) (lv' := [(3, .int (nI (j + 1))), (1, .int (opc c (c * r) B (2 * i + (j + 1)))), (2, .int (nI i)), (0, .ref (sa S o))]) hx hb dX5_open_37 hl (k := 1) rfl (nI_1 _) (by decide) rfl (fun ls hl => ?_)
                refine lv_goto (tgt := 15) hx hb dX5_open_40 (by decide) ?_
                exact ih_15 (j + 1) (by omega) (by omega) _ _ hM ls (lv_sub hl [0, 2, 1, 3] rfl)
              · skip
                have hob := c_4
                refine lv_iconst (v := 1) hx hb dX5_open_30 (by decide) ?_
                refine lv_goto (tgt := 35) hx hb dX5_open_31 (by decide) ?_
                refine lv_iadd hx hb dX5_open_35 ?_
                refine W.eq (g2 := F0 mv _ ls (.int (opc c (c * r) B (2 * i + (j + 1))) :: [])) (by first | rfl | rw [show ((opc c (c * r) B (2 * i + j)) + 1 : Int32) = opc c (c * r) B (2 * i + (j + 1)) from by rw [opc_s _ _ _ _ hjk]; unfold ob; first | rw [if_neg (by rw [ob_0 hob]; decide)] | rw [if_pos (ob_1 hob)]]) ?_
                refine lv_istore_n (lv' := [(1, .int (opc c (c * r) B (2 * i + (j + 1)))), (3, .int (nI j)), (2, .int (nI i)), (0, .ref (sa S o))]) hx hb dX5_open_36 rfl hl (by decide) rfl (fun ls hl => ?_)
                refine lv_iinc (v := nI (j + 1)) (lv' := [(3, .int (nI (j + 1))), (1, .int (opc c (c * r) B (2 * i + (j + 1)))), (2, .int (nI i)), (0, .ref (sa S o))]) hx hb dX5_open_37 hl (k := 1) rfl (nI_1 _) (by decide) rfl (fun ls hl => ?_)
                refine lv_goto (tgt := 15) hx hb dX5_open_40 (by decide) ?_
                exact ih_15 (j + 1) (by omega) (by omega) _ _ hM ls (lv_sub hl [0, 2, 1, 3] rfl)
        exact LP_15 _ 0 (by omega) (Nat.lt_succ_self _) _ _ hM ls (lv_sub hl [0, 1, 2, 3] rfl)
  exact LP_4 _ 0 (by omega) (Nat.lt_succ_self _) _ _ hM ls (lv_sub hl [0, 1, 2] rfl)
