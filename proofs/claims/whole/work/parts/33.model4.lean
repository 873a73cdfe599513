abbrev rm_X4_chamberTold : Room := { frames := 1, cells := 0, slots := 0, locals := 23 }
set_option maxHeartbeats 4000000 in
set_option maxRecDepth 100000 in
theorem c_X4_chamberTold_0 (D : va_G) (y : Nat → ClassId) (l : Launch) (S : fb_Sh) (V I : fb_V) (o nt : Nat) (cf rf : Nat → Nat) (hA : MdAt S o nt cf rf) (ns : Nat) (df : Nat → Nat) (hF : MF I o ns nt cf rf df) (q : Nat) (hq : q < 5) : CI D y l yX4_chamberTold wsX4_chamberTold rm_X4_chamberTold [.ref (sa S o), .int (nI q), .int 0] (S, V, (sT V), I) (fun z u => z = chTm (I (o + 3)) q 0 ∧ u = (S, V, sT V, I)) 0 0 := by
  refine CI.of (cc := cX4_chamberTold) (maxL := 6) (ret := (some .int)) (by decide) rfl (Nat.le_of_ble_eq_true rfl) ?_
  intro pv ev s mv below meth cv A hx hb hml hr hown hts hlocks hname hM ls hl
  have hown : s.vm.findClass RX4 = some mv.cls := hown
  have hl : lv_has ls 6 [(0, .ref (sa S o)), (1, .int (nI q)), (2, .int 0)] := hl
  have hin4 : ∀ x ∈ wsX40, x ∈ wsX4_chamberTold := by decide +kernel
  obtain ⟨Q, hQ⟩ : ∃ Q, Q = MQ below (va_Qi (fun z u => z = chTm (I (o + 3)) q 0 ∧ u = (S, V, sT V, I)) (fun u t => fb_P D y A u t) A) (([.ref (sa S o), .int (nI q), .int 0] : List Value).toArray) s 0 0 A := ⟨_, rfl⟩
  rw [← hQ]
  have hns : ns ≤ 12 := hF.2.2.1
  have hnt : nt ≤ 6 := hF.2.2.2.1
  refine lv_iload_n hx hb dX4_chamberTold_0 rfl (lv_at hl 2 rfl) ?_
  refine lv_bipush (v := 6) hx hb dX4_chamberTold_1 (by decide) ?_
  refine lv_icmp_ge (tgt := 18) hx hb dX4_chamberTold_3 (by decide) (fun c_1 => absurd c_1 (by decide)) (fun c_1 => ?_)
  refine lv_aload_n hx hb dX4_chamberTold_6 rfl (lv_at hl 0 rfl) ?_
  refine fb_get (r := o) hx hb hown hts hin4 hM ((hA.1).1) (ce4 ((hA.1).2)) rfl 5 (by decide) (hts (.fieldLink RX4 20 "FeatherBedsModel" "chambers" "[I") (by decide +kernel)) (fun _ h9 => h9) (v := .ref (sa S (o + 3))) (congrArg (fun z => some (va_rf z)) ((hA.2.1).2.2.1)) dX4_chamberTold_7 ?_
  refine lv_bipush (v := 6) hx hb dX4_chamberTold_10 (by decide) ?_
  refine lv_iload_n hx hb dX4_chamberTold_12 rfl (lv_at hl 1 rfl) ?_
  refine lv_imul hx hb dX4_chamberTold_13 ?_
  refine W.eq (g2 := F0 mv _ ls (.int (nI (6 * q)) :: .ref (sa S (o + 3)) :: [])) (by first | rfl | rw [show (6 * (nI q) : Int32) = nI (6 * q) from pk_mul 6 q]) ?_
  refine lv_iload_n hx hb dX4_chamberTold_14 rfl (lv_at hl 2 rfl) ?_
  refine lv_iadd hx hb dX4_chamberTold_15 ?_
  refine W.eq (g2 := F0 mv _ ls (.int (nI (6 * q + 0)) :: .ref (sa S (o + 3)) :: [])) (by first | rfl | rw [show ((nI (6 * q)) + 0 : Int32) = nI (6 * q + 0) from nI_add _ 0]) ?_
  refine fb_iald (r := (o + 3)) hx hb hM ((hA.2.2.2.2.1).1) (ce6 ((hA.2.2.2.2.1).2.1)) (k := 6 * q + 0) (nI_clamp (by omega)) (by rw [(hA.2.2.2.2.1).2.2]; exact vp_in_nI (by omega) (by omega)) dX4_chamberTold_16 ?_
  rw [hQ]
  exact fb_iret hx hb hr hlocks hM (⟨(mx_k _ _ (by decide)).symm, rfl⟩) dX4_chamberTold_17

set_option maxHeartbeats 4000000 in
set_option maxRecDepth 100000 in
theorem c_X4_chamberTold_1 (D : va_G) (y : Nat → ClassId) (l : Launch) (S : fb_Sh) (V I : fb_V) (o nt : Nat) (cf rf : Nat → Nat) (hA : MdAt S o nt cf rf) (ns : Nat) (df : Nat → Nat) (hF : MF I o ns nt cf rf df) (q : Nat) (hq : q < 5) : CI D y l yX4_chamberTold wsX4_chamberTold rm_X4_chamberTold [.ref (sa S o), .int (nI q), .int 1] (S, V, (sT V), I) (fun z u => z = chTm (I (o + 3)) q 1 ∧ u = (S, V, sT V, I)) 0 0 := by
  refine CI.of (cc := cX4_chamberTold) (maxL := 6) (ret := (some .int)) (by decide) rfl (Nat.le_of_ble_eq_true rfl) ?_
  intro pv ev s mv below meth cv A hx hb hml hr hown hts hlocks hname hM ls hl
  have hown : s.vm.findClass RX4 = some mv.cls := hown
  have hl : lv_has ls 6 [(0, .ref (sa S o)), (1, .int (nI q)), (2, .int 1)] := hl
  have hin4 : ∀ x ∈ wsX40, x ∈ wsX4_chamberTold := by decide +kernel
  obtain ⟨Q, hQ⟩ : ∃ Q, Q = MQ below (va_Qi (fun z u => z = chTm (I (o + 3)) q 1 ∧ u = (S, V, sT V, I)) (fun u t => fb_P D y A u t) A) (([.ref (sa S o), .int (nI q), .int 1] : List Value).toArray) s 0 0 A := ⟨_, rfl⟩
  rw [← hQ]
  have hns : ns ≤ 12 := hF.2.2.1
  have hnt : nt ≤ 6 := hF.2.2.2.1
  refine lv_iload_n hx hb dX4_chamberTold_0 rfl (lv_at hl 2 rfl) ?_
  refine lv_bipush (v := 6) hx hb dX4_chamberTold_1 (by decide) ?_
  refine lv_icmp_ge (tgt := 18) hx hb dX4_chamberTold_3 (by decide) (fun c_1 => absurd c_1 (by decide)) (fun c_1 => ?_)
  refine lv_aload_n hx hb dX4_chamberTold_6 rfl (lv_at hl 0 rfl) ?_
  refine fb_get (r := o) hx hb hown hts hin4 hM ((hA.1).1) (ce4 ((hA.1).2)) rfl 5 (by decide) (hts (.fieldLink RX4 20 "FeatherBedsModel" "chambers" "[I") (by decide +kernel)) (fun _ h9 => h9) (v := .ref (sa S (o + 3))) (congrArg (fun z => some (va_rf z)) ((hA.2.1).2.2.1)) dX4_chamberTold_7 ?_
  refine lv_bipush (v := 6) hx hb dX4_chamberTold_10 (by decide) ?_
  refine lv_iload_n hx hb dX4_chamberTold_12 rfl (lv_at hl 1 rfl) ?_
  refine lv_imul hx hb dX4_chamberTold_13 ?_
  refine W.eq (g2 := F0 mv _ ls (.int (nI (6 * q)) :: .ref (sa S (o + 3)) :: [])) (by first | rfl | rw [show (6 * (nI q) : Int32) = nI (6 * q) from pk_mul 6 q]) ?_
  refine lv_iload_n hx hb dX4_chamberTold_14 rfl (lv_at hl 2 rfl) ?_
  refine lv_iadd hx hb dX4_chamberTold_15 ?_
  refine W.eq (g2 := F0 mv _ ls (.int (nI (6 * q + 1)) :: .ref (sa S (o + 3)) :: [])) (by first | rfl | rw [show ((nI (6 * q)) + 1 : Int32) = nI (6 * q + 1) from nI_add _ 1]) ?_
  refine fb_iald (r := (o + 3)) hx hb hM ((hA.2.2.2.2.1).1) (ce6 ((hA.2.2.2.2.1).2.1)) (k := 6 * q + 1) (nI_clamp (by omega)) (by rw [(hA.2.2.2.2.1).2.2]; exact vp_in_nI (by omega) (by omega)) dX4_chamberTold_16 ?_
  rw [hQ]
  exact fb_iret hx hb hr hlocks hM (⟨(mx_k _ _ (by decide)).symm, rfl⟩) dX4_chamberTold_17

set_option maxHeartbeats 4000000 in
set_option maxRecDepth 100000 in
theorem c_X4_chamberTold_2 (D : va_G) (y : Nat → ClassId) (l : Launch) (S : fb_Sh) (V I : fb_V) (o nt : Nat) (cf rf : Nat → Nat) (hA : MdAt S o nt cf rf) (ns : Nat) (df : Nat → Nat) (hF : MF I o ns nt cf rf df) (q : Nat) (hq : q < 5) : CI D y l yX4_chamberTold wsX4_chamberTold rm_X4_chamberTold [.ref (sa S o), .int (nI q), .int 2] (S, V, (sT V), I) (fun z u => z = chTm (I (o + 3)) q 2 ∧ u = (S, V, sT V, I)) 0 0 := by
  refine CI.of (cc := cX4_chamberTold) (maxL := 6) (ret := (some .int)) (by decide) rfl (Nat.le_of_ble_eq_true rfl) ?_
  intro pv ev s mv below meth cv A hx hb hml hr hown hts hlocks hname hM ls hl
  have hown : s.vm.findClass RX4 = some mv.cls := hown
  have hl : lv_has ls 6 [(0, .ref (sa S o)), (1, .int (nI q)), (2, .int 2)] := hl
  have hin4 : ∀ x ∈ wsX40, x ∈ wsX4_chamberTold := by decide +kernel
  obtain ⟨Q, hQ⟩ : ∃ Q, Q = MQ below (va_Qi (fun z u => z = chTm (I (o + 3)) q 2 ∧ u = (S, V, sT V, I)) (fun u t => fb_P D y A u t) A) (([.ref (sa S o), .int (nI q), .int 2] : List Value).toArray) s 0 0 A := ⟨_, rfl⟩
  rw [← hQ]
  have hns : ns ≤ 12 := hF.2.2.1
  have hnt : nt ≤ 6 := hF.2.2.2.1
  refine lv_iload_n hx hb dX4_chamberTold_0 rfl (lv_at hl 2 rfl) ?_
  refine lv_bipush (v := 6) hx hb dX4_chamberTold_1 (by decide) ?_
  refine lv_icmp_ge (tgt := 18) hx hb dX4_chamberTold_3 (by decide) (fun c_1 => absurd c_1 (by decide)) (fun c_1 => ?_)
  refine lv_aload_n hx hb dX4_chamberTold_6 rfl (lv_at hl 0 rfl) ?_
  refine fb_get (r := o) hx hb hown hts hin4 hM ((hA.1).1) (ce4 ((hA.1).2)) rfl 5 (by decide) (hts (.fieldLink RX4 20 "FeatherBedsModel" "chambers" "[I") (by decide +kernel)) (fun _ h9 => h9) (v := .ref (sa S (o + 3))) (congrArg (fun z => some (va_rf z)) ((hA.2.1).2.2.1)) dX4_chamberTold_7 ?_
  refine lv_bipush (v := 6) hx hb dX4_chamberTold_10 (by decide) ?_
  refine lv_iload_n hx hb dX4_chamberTold_12 rfl (lv_at hl 1 rfl) ?_
  refine lv_imul hx hb dX4_chamberTold_13 ?_
  refine W.eq (g2 := F0 mv _ ls (.int (nI (6 * q)) :: .ref (sa S (o + 3)) :: [])) (by first | rfl | rw [show (6 * (nI q) : Int32) = nI (6 * q) from pk_mul 6 q]) ?_
  refine lv_iload_n hx hb dX4_chamberTold_14 rfl (lv_at hl 2 rfl) ?_
  refine lv_iadd hx hb dX4_chamberTold_15 ?_
  refine W.eq (g2 := F0 mv _ ls (.int (nI (6 * q + 2)) :: .ref (sa S (o + 3)) :: [])) (by first | rfl | rw [show ((nI (6 * q)) + 2 : Int32) = nI (6 * q + 2) from nI_add _ 2]) ?_
  refine fb_iald (r := (o + 3)) hx hb hM ((hA.2.2.2.2.1).1) (ce6 ((hA.2.2.2.2.1).2.1)) (k := 6 * q + 2) (nI_clamp (by omega)) (by rw [(hA.2.2.2.2.1).2.2]; exact vp_in_nI (by omega) (by omega)) dX4_chamberTold_16 ?_
  rw [hQ]
  exact fb_iret hx hb hr hlocks hM (⟨(mx_k _ _ (by decide)).symm, rfl⟩) dX4_chamberTold_17

set_option maxHeartbeats 4000000 in
set_option maxRecDepth 100000 in
theorem c_X4_chamberTold_3 (D : va_G) (y : Nat → ClassId) (l : Launch) (S : fb_Sh) (V I : fb_V) (o nt : Nat) (cf rf : Nat → Nat) (hA : MdAt S o nt cf rf) (ns : Nat) (df : Nat → Nat) (hF : MF I o ns nt cf rf df) (q : Nat) (hq : q < 5) : CI D y l yX4_chamberTold wsX4_chamberTold rm_X4_chamberTold [.ref (sa S o), .int (nI q), .int 3] (S, V, (sT V), I) (fun z u => z = chTm (I (o + 3)) q 3 ∧ u = (S, V, sT V, I)) 0 0 := by
  refine CI.of (cc := cX4_chamberTold) (maxL := 6) (ret := (some .int)) (by decide) rfl (Nat.le_of_ble_eq_true rfl) ?_
  intro pv ev s mv below meth cv A hx hb hml hr hown hts hlocks hname hM ls hl
  have hown : s.vm.findClass RX4 = some mv.cls := hown
  have hl : lv_has ls 6 [(0, .ref (sa S o)), (1, .int (nI q)), (2, .int 3)] := hl
  have hin4 : ∀ x ∈ wsX40, x ∈ wsX4_chamberTold := by decide +kernel
  obtain ⟨Q, hQ⟩ : ∃ Q, Q = MQ below (va_Qi (fun z u => z = chTm (I (o + 3)) q 3 ∧ u = (S, V, sT V, I)) (fun u t => fb_P D y A u t) A) (([.ref (sa S o), .int (nI q), .int 3] : List Value).toArray) s 0 0 A := ⟨_, rfl⟩
  rw [← hQ]
  have hns : ns ≤ 12 := hF.2.2.1
  have hnt : nt ≤ 6 := hF.2.2.2.1
  refine lv_iload_n hx hb dX4_chamberTold_0 rfl (lv_at hl 2 rfl) ?_
  refine lv_bipush (v := 6) hx hb dX4_chamberTold_1 (by decide) ?_
  refine lv_icmp_ge (tgt := 18) hx hb dX4_chamberTold_3 (by decide) (fun c_1 => absurd c_1 (by decide)) (fun c_1 => ?_)
  refine lv_aload_n hx hb dX4_chamberTold_6 rfl (lv_at hl 0 rfl) ?_
  refine fb_get (r := o) hx hb hown hts hin4 hM ((hA.1).1) (ce4 ((hA.1).2)) rfl 5 (by decide) (hts (.fieldLink RX4 20 "FeatherBedsModel" "chambers" "[I") (by decide +kernel)) (fun _ h9 => h9) (v := .ref (sa S (o + 3))) (congrArg (fun z => some (va_rf z)) ((hA.2.1).2.2.1)) dX4_chamberTold_7 ?_
  refine lv_bipush (v := 6) hx hb dX4_chamberTold_10 (by decide) ?_
  refine lv_iload_n hx hb dX4_chamberTold_12 rfl (lv_at hl 1 rfl) ?_
  refine lv_imul hx hb dX4_chamberTold_13 ?_
  refine W.eq (g2 := F0 mv _ ls (.int (nI (6 * q)) :: .ref (sa S (o + 3)) :: [])) (by first | rfl | rw [show (6 * (nI q) : Int32) = nI (6 * q) from pk_mul 6 q]) ?_
  refine lv_iload_n hx hb dX4_chamberTold_14 rfl (lv_at hl 2 rfl) ?_
  refine lv_iadd hx hb dX4_chamberTold_15 ?_
  refine W.eq (g2 := F0 mv _ ls (.int (nI (6 * q + 3)) :: .ref (sa S (o + 3)) :: [])) (by first | rfl | rw [show ((nI (6 * q)) + 3 : Int32) = nI (6 * q + 3) from nI_add _ 3]) ?_
  refine fb_iald (r := (o + 3)) hx hb hM ((hA.2.2.2.2.1).1) (ce6 ((hA.2.2.2.2.1).2.1)) (k := 6 * q + 3) (nI_clamp (by omega)) (by rw [(hA.2.2.2.2.1).2.2]; exact vp_in_nI (by omega) (by omega)) dX4_chamberTold_16 ?_
  rw [hQ]
  exact fb_iret hx hb hr hlocks hM (⟨(mx_k _ _ (by decide)).symm, rfl⟩) dX4_chamberTold_17

set_option maxHeartbeats 4000000 in
set_option maxRecDepth 100000 in
theorem c_X4_chamberTold_4 (D : va_G) (y : Nat → ClassId) (l : Launch) (S : fb_Sh) (V I : fb_V) (o nt : Nat) (cf rf : Nat → Nat) (hA : MdAt S o nt cf rf) (ns : Nat) (df : Nat → Nat) (hF : MF I o ns nt cf rf df) (q : Nat) (hq : q < 5) : CI D y l yX4_chamberTold wsX4_chamberTold rm_X4_chamberTold [.ref (sa S o), .int (nI q), .int 4] (S, V, (sT V), I) (fun z u => z = chTm (I (o + 3)) q 4 ∧ u = (S, V, sT V, I)) 0 0 := by
  refine CI.of (cc := cX4_chamberTold) (maxL := 6) (ret := (some .int)) (by decide) rfl (Nat.le_of_ble_eq_true rfl) ?_
  intro pv ev s mv below meth cv A hx hb hml hr hown hts hlocks hname hM ls hl
  have hown : s.vm.findClass RX4 = some mv.cls := hown
  have hl : lv_has ls 6 [(0, .ref (sa S o)), (1, .int (nI q)), (2, .int 4)] := hl
  have hin4 : ∀ x ∈ wsX40, x ∈ wsX4_chamberTold := by decide +kernel
  obtain ⟨Q, hQ⟩ : ∃ Q, Q = MQ below (va_Qi (fun z u => z = chTm (I (o + 3)) q 4 ∧ u = (S, V, sT V, I)) (fun u t => fb_P D y A u t) A) (([.ref (sa S o), .int (nI q), .int 4] : List Value).toArray) s 0 0 A := ⟨_, rfl⟩
  rw [← hQ]
  have hns : ns ≤ 12 := hF.2.2.1
  have hnt : nt ≤ 6 := hF.2.2.2.1
  refine lv_iload_n hx hb dX4_chamberTold_0 rfl (lv_at hl 2 rfl) ?_
  refine lv_bipush (v := 6) hx hb dX4_chamberTold_1 (by decide) ?_
  refine lv_icmp_ge (tgt := 18) hx hb dX4_chamberTold_3 (by decide) (fun c_1 => absurd c_1 (by decide)) (fun c_1 => ?_)
  refine lv_aload_n hx hb dX4_chamberTold_6 rfl (lv_at hl 0 rfl) ?_
  refine fb_get (r := o) hx hb hown hts hin4 hM ((hA.1).1) (ce4 ((hA.1).2)) rfl 5 (by decide) (hts (.fieldLink RX4 20 "FeatherBedsModel" "chambers" "[I") (by decide +kernel)) (fun _ h9 => h9) (v := .ref (sa S (o + 3))) (congrArg (fun z => some (va_rf z)) ((hA.2.1).2.2.1)) dX4_chamberTold_7 ?_
  refine lv_bipush (v := 6) hx hb dX4_chamberTold_10 (by decide) ?_
  refine lv_iload_n hx hb dX4_chamberTold_12 rfl (lv_at hl 1 rfl) ?_
  refine lv_imul hx hb dX4_chamberTold_13 ?_
  refine W.eq (g2 := F0 mv _ ls (.int (nI (6 * q)) :: .ref (sa S (o + 3)) :: [])) (by first | rfl | rw [show (6 * (nI q) : Int32) = nI (6 * q) from pk_mul 6 q]) ?_
  refine lv_iload_n hx hb dX4_chamberTold_14 rfl (lv_at hl 2 rfl) ?_
  refine lv_iadd hx hb dX4_chamberTold_15 ?_
  refine W.eq (g2 := F0 mv _ ls (.int (nI (6 * q + 4)) :: .ref (sa S (o + 3)) :: [])) (by first | rfl | rw [show ((nI (6 * q)) + 4 : Int32) = nI (6 * q + 4) from nI_add _ 4]) ?_
  refine fb_iald (r := (o + 3)) hx hb hM ((hA.2.2.2.2.1).1) (ce6 ((hA.2.2.2.2.1).2.1)) (k := 6 * q + 4) (nI_clamp (by omega)) (by rw [(hA.2.2.2.2.1).2.2]; exact vp_in_nI (by omega) (by omega)) dX4_chamberTold_16 ?_
  rw [hQ]
  exact fb_iret hx hb hr hlocks hM (⟨(mx_k _ _ (by decide)).symm, rfl⟩) dX4_chamberTold_17

set_option maxHeartbeats 4000000 in
set_option maxRecDepth 100000 in
theorem c_X4_chamberTold_5 (D : va_G) (y : Nat → ClassId) (l : Launch) (S : fb_Sh) (V I : fb_V) (o nt : Nat) (cf rf : Nat → Nat) (hA : MdAt S o nt cf rf) (ns : Nat) (df : Nat → Nat) (hF : MF I o ns nt cf rf df) (q : Nat) (hq : q < 5) : CI D y l yX4_chamberTold wsX4_chamberTold rm_X4_chamberTold [.ref (sa S o), .int (nI q), .int 5] (S, V, (sT V), I) (fun z u => z = chTm (I (o + 3)) q 5 ∧ u = (S, V, sT V, I)) 0 0 := by
  refine CI.of (cc := cX4_chamberTold) (maxL := 6) (ret := (some .int)) (by decide) rfl (Nat.le_of_ble_eq_true rfl) ?_
  intro pv ev s mv below meth cv A hx hb hml hr hown hts hlocks hname hM ls hl
  have hown : s.vm.findClass RX4 = some mv.cls := hown
  have hl : lv_has ls 6 [(0, .ref (sa S o)), (1, .int (nI q)), (2, .int 5)] := hl
  have hin4 : ∀ x ∈ wsX40, x ∈ wsX4_chamberTold := by decide +kernel
  obtain ⟨Q, hQ⟩ : ∃ Q, Q = MQ below (va_Qi (fun z u => z = chTm (I (o + 3)) q 5 ∧ u = (S, V, sT V, I)) (fun u t => fb_P D y A u t) A) (([.ref (sa S o), .int (nI q), .int 5] : List Value).toArray) s 0 0 A := ⟨_, rfl⟩
  rw [← hQ]
  have hns : ns ≤ 12 := hF.2.2.1
  have hnt : nt ≤ 6 := hF.2.2.2.1
  refine lv_iload_n hx hb dX4_chamberTold_0 rfl (lv_at hl 2 rfl) ?_
  refine lv_bipush (v := 6) hx hb dX4_chamberTold_1 (by decide) ?_
  refine lv_icmp_ge (tgt := 18) hx hb dX4_chamberTold_3 (by decide) (fun c_1 => absurd c_1 (by decide)) (fun c_1 => ?_)
  refine lv_aload_n hx hb dX4_chamberTold_6 rfl (lv_at hl 0 rfl) ?_
  refine fb_get (r := o) hx hb hown hts hin4 hM ((hA.1).1) (ce4 ((hA.1).2)) rfl 5 (by decide) (hts (.fieldLink RX4 20 "FeatherBedsModel" "chambers" "[I") (by decide +kernel)) (fun _ h9 => h9) (v := .ref (sa S (o + 3))) (congrArg (fun z => some (va_rf z)) ((hA.2.1).2.2.1)) dX4_chamberTold_7 ?_
  refine lv_bipush (v := 6) hx hb dX4_chamberTold_10 (by decide) ?_
  refine lv_iload_n hx hb dX4_chamberTold_12 rfl (lv_at hl 1 rfl) ?_
  refine lv_imul hx hb dX4_chamberTold_13 ?_
  refine W.eq (g2 := F0 mv _ ls (.int (nI (6 * q)) :: .ref (sa S (o + 3)) :: [])) (by first | rfl | rw [show (6 * (nI q) : Int32) = nI (6 * q) from pk_mul 6 q]) ?_
  refine lv_iload_n hx hb dX4_chamberTold_14 rfl (lv_at hl 2 rfl) ?_
  refine lv_iadd hx hb dX4_chamberTold_15 ?_
  refine W.eq (g2 := F0 mv _ ls (.int (nI (6 * q + 5)) :: .ref (sa S (o + 3)) :: [])) (by first | rfl | rw [show ((nI (6 * q)) + 5 : Int32) = nI (6 * q + 5) from nI_add _ 5]) ?_
  refine fb_iald (r := (o + 3)) hx hb hM ((hA.2.2.2.2.1).1) (ce6 ((hA.2.2.2.2.1).2.1)) (k := 6 * q + 5) (nI_clamp (by omega)) (by rw [(hA.2.2.2.2.1).2.2]; exact vp_in_nI (by omega) (by omega)) dX4_chamberTold_16 ?_
  rw [hQ]
  exact fb_iret hx hb hr hlocks hM (⟨(mx_k _ _ (by decide)).symm, rfl⟩) dX4_chamberTold_17

set_option maxHeartbeats 4000000 in
set_option maxRecDepth 100000 in
theorem c_X4_chamberTold_6 (D : va_G) (y : Nat → ClassId) (l : Launch) (S : fb_Sh) (V I : fb_V) (o nt : Nat) (cf rf : Nat → Nat) (hA : MdAt S o nt cf rf) (ns : Nat) (df : Nat → Nat) (hF : MF I o ns nt cf rf df) (q : Nat) (hq : q < 5) : CI D y l yX4_chamberTold wsX4_chamberTold rm_X4_chamberTold [.ref (sa S o), .int (nI q), .int 6] (S, V, (sT V), I) (fun z u => z = chTm (I (o + 3)) q 6 ∧ u = (S, V, sT V, I)) 0 0 := by
  refine CI.of (cc := cX4_chamberTold) (maxL := 6) (ret := (some .int)) (by decide) rfl (Nat.le_of_ble_eq_true rfl) ?_
  intro pv ev s mv below meth cv A hx hb hml hr hown hts hlocks hname hM ls hl
  have hown : s.vm.findClass RX4 = some mv.cls := hown
  have hl : lv_has ls 6 [(0, .ref (sa S o)), (1, .int (nI q)), (2, .int 6)] := hl
  have hin4 : ∀ x ∈ wsX40, x ∈ wsX4_chamberTold := by decide +kernel
  obtain ⟨Q, hQ⟩ : ∃ Q, Q = MQ below (va_Qi (fun z u => z = chTm (I (o + 3)) q 6 ∧ u = (S, V, sT V, I)) (fun u t => fb_P D y A u t) A) (([.ref (sa S o), .int (nI q), .int 6] : List Value).toArray) s 0 0 A := ⟨_, rfl⟩
  rw [← hQ]
  have hns : ns ≤ 12 := hF.2.2.1
  have hnt : nt ≤ 6 := hF.2.2.2.1
  refine lv_iload_n hx hb dX4_chamberTold_0 rfl (lv_at hl 2 rfl) ?_
  refine lv_bipush (v := 6) hx hb dX4_chamberTold_1 (by decide) ?_
  refine lv_icmp_ge (tgt := 18) hx hb dX4_chamberTold_3 (by decide) (fun c_1 => ?_) (fun c_1 => absurd (by decide) c_1)
  refine lv_aload_n hx hb dX4_chamberTold_18 rfl (lv_at hl 0 rfl) ?_
  refine fb_get (r := o) hx hb hown hts hin4 hM ((hA.1).1) (ce4 ((hA.1).2)) rfl 5 (by decide) (hts (.fieldLink RX4 20 "FeatherBedsModel" "chambers" "[I") (by decide +kernel)) (fun _ h9 => h9) (v := .ref (sa S (o + 3))) (congrArg (fun z => some (va_rf z)) ((hA.2.1).2.2.1)) dX4_chamberTold_19 ?_
  refine lv_iload_n hx hb dX4_chamberTold_22 rfl (lv_at hl 1 rfl) ?_
  refine fb_callSi hx hb hml hown hts hM (As := [.ref (sa S (o + 3)), .int (nI q)]) (rest := []) (c_X4_all D y l S V I (o + 3) 30 (hA.2.2.2.2.1).1 (hA.2.2.2.2.1).2.1 (hA.2.2.2.2.1).2.2 (by omega) q (by omega)) (cwS 2 hts gX4_chamberTold_X4_all rfl rfl rfl (by decide +kernel) ⟨Nat.le_of_ble_eq_true rfl, Nat.le_of_ble_eq_true rfl⟩) rfl hl.1 rfl (Nat.le_of_ble_eq_true rfl) dX4_chamberTold_23 ⟨Nat.le_of_ble_eq_true rfl, Nat.le_of_ble_eq_true rfl⟩ (fun v_2 u H locs hp hM => ?_)
  obtain ⟨hv, hu⟩ := hp
  have hv := Eq.symm hv
  have hu := Eq.symm hu
  subst hv
  subst hu
  refine lv_istore_n (lv' := [(3, .int (s6 (mx (I (o + 3)) q))), (0, .ref (sa S o)), (1, .int (nI q)), (2, .int 6)]) hx hb dX4_chamberTold_26 rfl hl (by decide) rfl (fun ls hl => ?_)
  refine lv_iconst (v := 0) hx hb dX4_chamberTold_27 (by decide) ?_
  refine lv_istore (lv' := [(4, .int 0), (3, .int (s6 (mx (I (o + 3)) q))), (0, .ref (sa S o)), (1, .int (nI q)), (2, .int 6)]) hx hb dX4_chamberTold_28 hl (by decide) rfl (fun ls hl => ?_)
  refine lv_iconst (v := 1) hx hb dX4_chamberTold_30 (by decide) ?_
  refine lv_istore (lv' := [(5, .int 1), (4, .int 0), (3, .int (s6 (mx (I (o + 3)) q))), (0, .ref (sa S o)), (1, .int (nI q)), (2, .int 6)]) hx hb dX4_chamberTold_31 hl (by decide) rfl (fun ls hl => ?_)
  have LP_33 : ∀ (n : Nat) (i : Nat) (hi : i ≤ 6) (hi1 : 1 ≤ i), 6 - i < n → ∀ (H : Heap) (locs : List Loc), fb_M D y A s (S, V, (sT V), I) H locs → ∀ ls, lv_has ls 6 [(5, .int (nI i)), (4, .int (nI (mfm (I (o + 3)) q i))), (3, .int (s6 (mx (I (o + 3)) q))), (0, .ref (sa S o)), (1, .int (nI q)), (2, .int 6)] → W pv l ev rm_X4_chamberTold s mv ([.ref (sa S o), .int (nI q), .int 6] : List Value).toArray below meth cv H locs 0 0 Q (F0 mv 33 ls []) := by
    intro n_33
    induction n_33 with
    | zero => intro i hi hi1 hmu; exact absurd hmu (Nat.not_lt_zero _)
    | succ n_33 ih_33 =>
      intro i hi hi1 hmu H locs hM ls hl
      have hml_ := mfm_lt (I (o + 3)) q i
      refine lv_iload hx hb dX4_chamberTold_33 (lv_at hl 0 rfl) ?_
      refine lv_bipush (v := 6) hx hb dX4_chamberTold_35 (by decide) ?_
      refine lv_icmp_ge (tgt := 77) hx hb dX4_chamberTold_37 (by decide) (fun c_3 => ?_) (fun c_3 => ?_)
      · skip
        have e_i : i = 6 := by have := (nI_leI (a := 6) (b := i) (by omega) (by omega)).mp c_3; omega
        subst e_i
        refine lv_iload_n hx hb dX4_chamberTold_77 rfl (lv_at hl 5 rfl) ?_
        refine lv_bipush (v := 6) hx hb dX4_chamberTold_78 (by decide) ?_
        refine lv_icmp_ne (tgt := 85) hx hb dX4_chamberTold_80 (by decide) (fun c_4 => absurd (by decide) c_4) (fun c_4 => ?_)
        refine lv_iload_n hx hb dX4_chamberTold_83 rfl (lv_at hl 2 rfl) ?_
        rw [hQ]
        exact fb_iret hx hb hr hlocks hM (⟨rfl, rfl⟩) dX4_chamberTold_84
      · skip
        have hik : i < 6 := Nat.lt_of_not_le (fun h => c_3 (nI_le h (by omega)))
        refine lv_aload_n hx hb dX4_chamberTold_40 rfl (lv_at hl 3 rfl) ?_
        refine fb_get (r := o) hx hb hown hts hin4 hM ((hA.1).1) (ce4 ((hA.1).2)) rfl 5 (by decide) (hts (.fieldLink RX4 20 "FeatherBedsModel" "chambers" "[I") (by decide +kernel)) (fun _ h9 => h9) (v := .ref (sa S (o + 3))) (congrArg (fun z => some (va_rf z)) ((hA.2.1).2.2.1)) dX4_chamberTold_41 ?_
        refine lv_bipush (v := 6) hx hb dX4_chamberTold_44 (by decide) ?_
        refine lv_iload_n hx hb dX4_chamberTold_46 rfl (lv_at hl 4 rfl) ?_
        refine lv_imul hx hb dX4_chamberTold_47 ?_
        refine W.eq (g2 := F0 mv _ ls (.int (nI (6 * q)) :: .ref (sa S (o + 3)) :: [])) (by first | rfl | rw [show (6 * (nI q) : Int32) = nI (6 * q) from pk_mul 6 q]) ?_
        refine lv_iload hx hb dX4_chamberTold_48 (lv_at hl 0 rfl) ?_
        refine lv_iadd hx hb dX4_chamberTold_50 ?_
        refine W.eq (g2 := F0 mv _ ls (.int (nI (6 * q + i)) :: .ref (sa S (o + 3)) :: [])) (by first | rfl | rw [show ((nI (6 * q)) + (nI i) : Int32) = nI (6 * q + i) from nI_add _ _]) ?_
        refine fb_iald (r := (o + 3)) hx hb hM ((hA.2.2.2.2.1).1) (ce6 ((hA.2.2.2.2.1).2.1)) (k := 6 * q + i) (nI_clamp (by omega)) (by rw [(hA.2.2.2.2.1).2.2]; exact vp_in_nI (by omega) (by omega)) dX4_chamberTold_51 ?_
        refine lv_aload_n hx hb dX4_chamberTold_52 rfl (lv_at hl 3 rfl) ?_
        refine fb_get (r := o) hx hb hown hts hin4 hM ((hA.1).1) (ce4 ((hA.1).2)) rfl 5 (by decide) (hts (.fieldLink RX4 20 "FeatherBedsModel" "chambers" "[I") (by decide +kernel)) (fun _ h9 => h9) (v := .ref (sa S (o + 3))) (congrArg (fun z => some (va_rf z)) ((hA.2.1).2.2.1)) dX4_chamberTold_53 ?_
        refine lv_bipush (v := 6) hx hb dX4_chamberTold_56 (by decide) ?_
        refine lv_iload_n hx hb dX4_chamberTold_58 rfl (lv_at hl 4 rfl) ?_
        refine lv_imul hx hb dX4_chamberTold_59 ?_
        refine W.eq (g2 := F0 mv _ ls (.int (nI (6 * q)) :: .ref (sa S (o + 3)) :: .int (I (o + 3) (6 * q + i)) :: [])) (by first | rfl | rw [show (6 * (nI q) : Int32) = nI (6 * q) from pk_mul 6 q]) ?_
        refine lv_iload hx hb dX4_chamberTold_60 (lv_at hl 1 rfl) ?_
        refine lv_iadd hx hb dX4_chamberTold_62 ?_
        refine W.eq (g2 := F0 mv _ ls (.int (nI (6 * q + mfm (I (o + 3)) q i)) :: .ref (sa S (o + 3)) :: .int (I (o + 3) (6 * q + i)) :: [])) (by first | rfl | rw [show ((nI (6 * q)) + (nI (mfm (I (o + 3)) q i)) : Int32) = nI (6 * q + mfm (I (o + 3)) q i) from nI_add _ _]) ?_
        refine fb_iald (r := (o + 3)) hx hb hM ((hA.2.2.2.2.1).1) (ce6 ((hA.2.2.2.2.1).2.1)) (k := 6 * q + mfm (I (o + 3)) q i) (nI_clamp (by omega)) (by rw [(hA.2.2.2.2.1).2.2]; exact vp_in_nI (by omega) (by omega)) dX4_chamberTold_63 ?_
        refine lv_icmp_le (tgt := 71) hx hb dX4_chamberTold_64 (by decide) (fun c_5 => ?_) (fun c_5 => ?_)
        · skip
          have c_br := c_5
          refine lv_iinc (v := nI (i + 1)) (lv' := [(5, .int (nI (i + 1))), (4, .int (nI (mfm (I (o + 3)) q i))), (3, .int (s6 (mx (I (o + 3)) q))), (0, .ref (sa S o)), (1, .int (nI q)), (2, .int 6)]) hx hb dX4_chamberTold_71 hl (k := 0) rfl (nI_1 _) (by decide) rfl (fun ls hl => ?_)
          refine lv_goto (tgt := 33) hx hb dX4_chamberTold_74 (by decide) ?_
          have eF : nI (mfm (I (o + 3)) q i) = nI (mfm (I (o + 3)) q (i + 1)) := by show _ = nI (if (I (o + 3)) (6 * q + i) ≤ (I (o + 3)) (6 * q + mfm (I (o + 3)) q i) then mfm (I (o + 3)) q i else i); first | rw [if_pos c_br] | rw [if_neg c_br]
          rw [eF] at hl
          exact ih_33 (i + 1) (by omega) (by omega) (by omega) _ _ hM ls (lv_sub hl [0, 1, 2, 3, 4, 5] rfl)
        · skip
          have c_br := c_5
          refine lv_iload hx hb dX4_chamberTold_67 (lv_at hl 0 rfl) ?_
          refine lv_istore (lv' := [(4, .int (nI i)), (5, .int (nI i)), (3, .int (s6 (mx (I (o + 3)) q))), (0, .ref (sa S o)), (1, .int (nI q)), (2, .int 6)]) hx hb dX4_chamberTold_69 hl (by decide) rfl (fun ls hl => ?_)
          refine lv_iinc (v := nI (i + 1)) (lv' := [(5, .int (nI (i + 1))), (4, .int (nI i)), (3, .int (s6 (mx (I (o + 3)) q))), (0, .ref (sa S o)), (1, .int (nI q)), (2, .int 6)]) hx hb dX4_chamberTold_71 hl (k := 1) rfl (nI_1 _) (by decide) rfl (fun ls hl => ?_)
          refine lv_goto (tgt := 33) hx hb dX4_chamberTold_74 (by decide) ?_
          have eF : nI i = nI (mfm (I (o + 3)) q (i + 1)) := by show _ = nI (if (I (o + 3)) (6 * q + i) ≤ (I (o + 3)) (6 * q + mfm (I (o + 3)) q i) then mfm (I (o + 3)) q i else i); first | rw [if_pos c_br] | rw [if_neg c_br]
          rw [eF] at hl
          exact ih_33 (i + 1) (by omega) (by omega) (by omega) _ _ hM ls (lv_sub hl [0, 1, 2, 3, 4, 5] rfl)
  have hl : lv_has ls 6 [(5, .int 1), (4, .int (nI (mfm (I (o + 3)) q 1))), (3, .int (s6 (mx (I (o + 3)) q))), (0, .ref (sa S o)), (1, .int (nI q)), (2, .int 6)] := by rw [mfm_1]; exact lv_sub hl [0, 1, 2, 3, 4, 5] rfl
  exact LP_33 _ 1 (by omega) (by omega) (Nat.lt_succ_self _) _ _ hM ls (lv_sub hl [0, 1, 2, 3, 4, 5] rfl)

set_option maxHeartbeats 4000000 in
set_option maxRecDepth 100000 in
theorem c_X4_chamberTold_7 (D : va_G) (y : Nat → ClassId) (l : Launch) (S : fb_Sh) (V I : fb_V) (o nt : Nat) (cf rf : Nat → Nat) (hA : MdAt S o nt cf rf) (ns : Nat) (df : Nat → Nat) (hF : MF I o ns nt cf rf df) (q : Nat) (hq : q < 5) : CI D y l yX4_chamberTold wsX4_chamberTold rm_X4_chamberTold [.ref (sa S o), .int (nI q), .int 7] (S, V, (sT V), I) (fun z u => z = chTm (I (o + 3)) q 7 ∧ u = (S, V, sT V, I)) 0 0 := by
  refine CI.of (cc := cX4_chamberTold) (maxL := 6) (ret := (some .int)) (by decide) rfl (Nat.le_of_ble_eq_true rfl) ?_
  intro pv ev s mv below meth cv A hx hb hml hr hown hts hlocks hname hM ls hl
  have hown : s.vm.findClass RX4 = some mv.cls := hown
  have hl : lv_has ls 6 [(0, .ref (sa S o)), (1, .int (nI q)), (2, .int 7)] := hl
  have hin4 : ∀ x ∈ wsX40, x ∈ wsX4_chamberTold := by decide +kernel
  obtain ⟨Q, hQ⟩ : ∃ Q, Q = MQ below (va_Qi (fun z u => z = chTm (I (o + 3)) q 7 ∧ u = (S, V, sT V, I)) (fun u t => fb_P D y A u t) A) (([.ref (sa S o), .int (nI q), .int 7] : List Value).toArray) s 0 0 A := ⟨_, rfl⟩
  rw [← hQ]
  have hns : ns ≤ 12 := hF.2.2.1
  have hnt : nt ≤ 6 := hF.2.2.2.1
  refine lv_iload_n hx hb dX4_chamberTold_0 rfl (lv_at hl 2 rfl) ?_
  refine lv_bipush (v := 6) hx hb dX4_chamberTold_1 (by decide) ?_
  refine lv_icmp_ge (tgt := 18) hx hb dX4_chamberTold_3 (by decide) (fun c_1 => ?_) (fun c_1 => absurd (by decide) c_1)
  refine lv_aload_n hx hb dX4_chamberTold_18 rfl (lv_at hl 0 rfl) ?_
  refine fb_get (r := o) hx hb hown hts hin4 hM ((hA.1).1) (ce4 ((hA.1).2)) rfl 5 (by decide) (hts (.fieldLink RX4 20 "FeatherBedsModel" "chambers" "[I") (by decide +kernel)) (fun _ h9 => h9) (v := .ref (sa S (o + 3))) (congrArg (fun z => some (va_rf z)) ((hA.2.1).2.2.1)) dX4_chamberTold_19 ?_
  refine lv_iload_n hx hb dX4_chamberTold_22 rfl (lv_at hl 1 rfl) ?_
  refine fb_callSi hx hb hml hown hts hM (As := [.ref (sa S (o + 3)), .int (nI q)]) (rest := []) (c_X4_all D y l S V I (o + 3) 30 (hA.2.2.2.2.1).1 (hA.2.2.2.2.1).2.1 (hA.2.2.2.2.1).2.2 (by omega) q (by omega)) (cwS 2 hts gX4_chamberTold_X4_all rfl rfl rfl (by decide +kernel) ⟨Nat.le_of_ble_eq_true rfl, Nat.le_of_ble_eq_true rfl⟩) rfl hl.1 rfl (Nat.le_of_ble_eq_true rfl) dX4_chamberTold_23 ⟨Nat.le_of_ble_eq_true rfl, Nat.le_of_ble_eq_true rfl⟩ (fun v_2 u H locs hp hM => ?_)
  obtain ⟨hv, hu⟩ := hp
  have hv := Eq.symm hv
  have hu := Eq.symm hu
  subst hv
  subst hu
  refine lv_istore_n (lv' := [(3, .int (s6 (mx (I (o + 3)) q))), (0, .ref (sa S o)), (1, .int (nI q)), (2, .int 7)]) hx hb dX4_chamberTold_26 rfl hl (by decide) rfl (fun ls hl => ?_)
  refine lv_iconst (v := 0) hx hb dX4_chamberTold_27 (by decide) ?_
  refine lv_istore (lv' := [(4, .int 0), (3, .int (s6 (mx (I (o + 3)) q))), (0, .ref (sa S o)), (1, .int (nI q)), (2, .int 7)]) hx hb dX4_chamberTold_28 hl (by decide) rfl (fun ls hl => ?_)
  refine lv_iconst (v := 1) hx hb dX4_chamberTold_30 (by decide) ?_
  refine lv_istore (lv' := [(5, .int 1), (4, .int 0), (3, .int (s6 (mx (I (o + 3)) q))), (0, .ref (sa S o)), (1, .int (nI q)), (2, .int 7)]) hx hb dX4_chamberTold_31 hl (by decide) rfl (fun ls hl => ?_)
  have LP_33 : ∀ (n : Nat) (i : Nat) (hi : i ≤ 6) (hi1 : 1 ≤ i), 6 - i < n → ∀ (H : Heap) (locs : List Loc), fb_M D y A s (S, V, (sT V), I) H locs → ∀ ls, lv_has ls 6 [(5, .int (nI i)), (4, .int (nI (mfm (I (o + 3)) q i))), (3, .int (s6 (mx (I (o + 3)) q))), (0, .ref (sa S o)), (1, .int (nI q)), (2, .int 7)] → W pv l ev rm_X4_chamberTold s mv ([.ref (sa S o), .int (nI q), .int 7] : List Value).toArray below meth cv H locs 0 0 Q (F0 mv 33 ls []) := by
    intro n_33
    induction n_33 with
    | zero => intro i hi hi1 hmu; exact absurd hmu (Nat.not_lt_zero _)
    | succ n_33 ih_33 =>
      intro i hi hi1 hmu H locs hM ls hl
      have hml_ := mfm_lt (I (o + 3)) q i
      refine lv_iload hx hb dX4_chamberTold_33 (lv_at hl 0 rfl) ?_
      refine lv_bipush (v := 6) hx hb dX4_chamberTold_35 (by decide) ?_
      refine lv_icmp_ge (tgt := 77) hx hb dX4_chamberTold_37 (by decide) (fun c_3 => ?_) (fun c_3 => ?_)
      · skip
        have e_i : i = 6 := by have := (nI_leI (a := 6) (b := i) (by omega) (by omega)).mp c_3; omega
        subst e_i
        refine lv_iload_n hx hb dX4_chamberTold_77 rfl (lv_at hl 5 rfl) ?_
        refine lv_bipush (v := 6) hx hb dX4_chamberTold_78 (by decide) ?_
        refine lv_icmp_ne (tgt := 85) hx hb dX4_chamberTold_80 (by decide) (fun c_4 => ?_) (fun c_4 => absurd c_4 (by decide))
        refine lv_iload_n hx hb dX4_chamberTold_85 rfl (lv_at hl 2 rfl) ?_
        refine lv_if_ne (tgt := 101) hx hb dX4_chamberTold_86 (by decide) (fun c_5 => ?_) (fun c_5 => ?_)
        · skip
          have c_z := c_5
          have hm6 := mfm_lt (I (o + 3)) q 6
          refine lv_iload_n hx hb dX4_chamberTold_101 rfl (lv_at hl 5 rfl) ?_
          refine lv_bipush (v := 7) hx hb dX4_chamberTold_102 (by decide) ?_
          refine lv_icmp_ne (tgt := 112) hx hb dX4_chamberTold_104 (by decide) (fun c_6 => absurd (by decide) c_6) (fun c_6 => ?_)
          refine lv_iload hx hb dX4_chamberTold_107 (lv_at hl 1 rfl) ?_
          refine lv_goto (tgt := 129) hx hb dX4_chamberTold_109 (by decide) ?_
          rw [hQ]
          exact fb_iret hx hb hr hlocks hM (⟨by unfold chTm; rw [if_neg (by decide), if_neg (by decide), if_neg c_z]; rfl, rfl⟩) dX4_chamberTold_129
        · skip
          have c_z0 := c_5
          refine lv_iload_n hx hb dX4_chamberTold_89 rfl (lv_at hl 5 rfl) ?_
          refine lv_bipush (v := 7) hx hb dX4_chamberTold_90 (by decide) ?_
          refine lv_icmp_ne (tgt := 99) hx hb dX4_chamberTold_92 (by decide) (fun c_7 => absurd (by decide) c_7) (fun c_7 => ?_)
          refine lv_iconst (v := (-1)) hx hb dX4_chamberTold_95 (by decide) ?_
          refine lv_goto (tgt := 100) hx hb dX4_chamberTold_96 (by decide) ?_
          rw [hQ]
          exact fb_iret hx hb hr hlocks hM (⟨by unfold chTm; rw [if_neg (by decide), if_neg (by decide), if_pos c_z0]; rfl, rfl⟩) dX4_chamberTold_100
      · skip
        have hik : i < 6 := Nat.lt_of_not_le (fun h => c_3 (nI_le h (by omega)))
        refine lv_aload_n hx hb dX4_chamberTold_40 rfl (lv_at hl 3 rfl) ?_
        refine fb_get (r := o) hx hb hown hts hin4 hM ((hA.1).1) (ce4 ((hA.1).2)) rfl 5 (by decide) (hts (.fieldLink RX4 20 "FeatherBedsModel" "chambers" "[I") (by decide +kernel)) (fun _ h9 => h9) (v := .ref (sa S (o + 3))) (congrArg (fun z => some (va_rf z)) ((hA.2.1).2.2.1)) dX4_chamberTold_41 ?_
        refine lv_bipush (v := 6) hx hb dX4_chamberTold_44 (by decide) ?_
        refine lv_iload_n hx hb dX4_chamberTold_46 rfl (lv_at hl 4 rfl) ?_
        refine lv_imul hx hb dX4_chamberTold_47 ?_
        refine W.eq (g2 := F0 mv _ ls (.int (nI (6 * q)) :: .ref (sa S (o + 3)) :: [])) (by first | rfl | rw [show (6 * (nI q) : Int32) = nI (6 * q) from pk_mul 6 q]) ?_
        refine lv_iload hx hb dX4_chamberTold_48 (lv_at hl 0 rfl) ?_
        refine lv_iadd hx hb dX4_chamberTold_50 ?_
        refine W.eq (g2 := F0 mv _ ls (.int (nI (6 * q + i)) :: .ref (sa S (o + 3)) :: [])) (by first | rfl | rw [show ((nI (6 * q)) + (nI i) : Int32) = nI (6 * q + i) from nI_add _ _]) ?_
        refine fb_iald (r := (o + 3)) hx hb hM ((hA.2.2.2.2.1).1) (ce6 ((hA.2.2.2.2.1).2.1)) (k := 6 * q + i) (nI_clamp (by omega)) (by rw [(hA.2.2.2.2.1).2.2]; exact vp_in_nI (by omega) (by omega)) dX4_chamberTold_51 ?_
        refine lv_aload_n hx hb dX4_chamberTold_52 rfl (lv_at hl 3 rfl) ?_
        refine fb_get (r := o) hx hb hown hts hin4 hM ((hA.1).1) (ce4 ((hA.1).2)) rfl 5 (by decide) (hts (.fieldLink RX4 20 "FeatherBedsModel" "chambers" "[I") (by decide +kernel)) (fun _ h9 => h9) (v := .ref (sa S (o + 3))) (congrArg (fun z => some (va_rf z)) ((hA.2.1).2.2.1)) dX4_chamberTold_53 ?_
        refine lv_bipush (v := 6) hx hb dX4_chamberTold_56 (by decide) ?_
        refine lv_iload_n hx hb dX4_chamberTold_58 rfl (lv_at hl 4 rfl) ?_
        refine lv_imul hx hb dX4_chamberTold_59 ?_
        refine W.eq (g2 := F0 mv _ ls (.int (nI (6 * q)) :: .ref (sa S (o + 3)) :: .int (I (o + 3) (6 * q + i)) :: [])) (by first | rfl | rw [show (6 * (nI q) : Int32) = nI (6 * q) from pk_mul 6 q]) ?_
        refine lv_iload hx hb dX4_chamberTold_60 (lv_at hl 1 rfl) ?_
        refine lv_iadd hx hb dX4_chamberTold_62 ?_
        refine W.eq (g2 := F0 mv _ ls (.int (nI (6 * q + mfm (I (o + 3)) q i)) :: .ref (sa S (o + 3)) :: .int (I (o + 3) (6 * q + i)) :: [])) (by first | rfl | rw [show ((nI (6 * q)) + (nI (mfm (I (o + 3)) q i)) : Int32) = nI (6 * q + mfm (I (o + 3)) q i) from nI_add _ _]) ?_
        refine fb_iald (r := (o + 3)) hx hb hM ((hA.2.2.2.2.1).1) (ce6 ((hA.2.2.2.2.1).2.1)) (k := 6 * q + mfm (I (o + 3)) q i) (nI_clamp (by omega)) (by rw [(hA.2.2.2.2.1).2.2]; exact vp_in_nI (by omega) (by omega)) dX4_chamberTold_63 ?_
        refine lv_icmp_le (tgt := 71) hx hb dX4_chamberTold_64 (by decide) (fun c_8 => ?_) (fun c_8 => ?_)
        · skip
          have c_br := c_8
          refine lv_iinc (v := nI (i + 1)) (lv' := [(5, .int (nI (i + 1))), (4, .int (nI (mfm (I (o + 3)) q i))), (3, .int (s6 (mx (I (o + 3)) q))), (0, .ref (sa S o)), (1, .int (nI q)), (2, .int 7)]) hx hb dX4_chamberTold_71 hl (k := 0) rfl (nI_1 _) (by decide) rfl (fun ls hl => ?_)
          refine lv_goto (tgt := 33) hx hb dX4_chamberTold_74 (by decide) ?_
          have eF : nI (mfm (I (o + 3)) q i) = nI (mfm (I (o + 3)) q (i + 1)) := by show _ = nI (if (I (o + 3)) (6 * q + i) ≤ (I (o + 3)) (6 * q + mfm (I (o + 3)) q i) then mfm (I (o + 3)) q i else i); first | rw [if_pos c_br] | rw [if_neg c_br]
          rw [eF] at hl
          exact ih_33 (i + 1) (by omega) (by omega) (by omega) _ _ hM ls (lv_sub hl [0, 1, 2, 3, 4, 5] rfl)
        · skip
          have c_br := c_8
          refine lv_iload hx hb dX4_chamberTold_67 (lv_at hl 0 rfl) ?_
          refine lv_istore (lv' := [(4, .int (nI i)), (5, .int (nI i)), (3, .int (s6 (mx (I (o + 3)) q))), (0, .ref (sa S o)), (1, .int (nI q)), (2, .int 7)]) hx hb dX4_chamberTold_69 hl (by decide) rfl (fun ls hl => ?_)
          refine lv_iinc (v := nI (i + 1)) (lv' := [(5, .int (nI (i + 1))), (4, .int (nI i)), (3, .int (s6 (mx (I (o + 3)) q))), (0, .ref (sa S o)), (1, .int (nI q)), (2, .int 7)]) hx hb dX4_chamberTold_71 hl (k := 1) rfl (nI_1 _) (by decide) rfl (fun ls hl => ?_)
          refine lv_goto (tgt := 33) hx hb dX4_chamberTold_74 (by decide) ?_
          have eF : nI i = nI (mfm (I (o + 3)) q (i + 1)) := by show _ = nI (if (I (o + 3)) (6 * q + i) ≤ (I (o + 3)) (6 * q + mfm (I (o + 3)) q i) then mfm (I (o + 3)) q i else i); first | rw [if_pos c_br] | rw [if_neg c_br]
          rw [eF] at hl
          exact ih_33 (i + 1) (by omega) (by omega) (by omega) _ _ hM ls (lv_sub hl [0, 1, 2, 3, 4, 5] rfl)
  have hl : lv_has ls 6 [(5, .int 1), (4, .int (nI (mfm (I (o + 3)) q 1))), (3, .int (s6 (mx (I (o + 3)) q))), (0, .ref (sa S o)), (1, .int (nI q)), (2, .int 7)] := by rw [mfm_1]; exact lv_sub hl [0, 1, 2, 3, 4, 5] rfl
  exact LP_33 _ 1 (by omega) (by omega) (Nat.lt_succ_self _) _ _ hM ls (lv_sub hl [0, 1, 2, 3, 4, 5] rfl)

set_option maxHeartbeats 4000000 in
set_option maxRecDepth 100000 in
theorem c_X4_chamberTold_8 (D : va_G) (y : Nat → ClassId) (l : Launch) (S : fb_Sh) (V I : fb_V) (o nt : Nat) (cf rf : Nat → Nat) (hA : MdAt S o nt cf rf) (ns : Nat) (df : Nat → Nat) (hF : MF I o ns nt cf rf df) (q : Nat) (hq : q < 5) : CI D y l yX4_chamberTold wsX4_chamberTold rm_X4_chamberTold [.ref (sa S o), .int (nI q), .int 8] (S, V, (sT V), I) (fun z u => z = chTm (I (o + 3)) q 8 ∧ u = (S, V, sT V, I)) 0 0 := by
  refine CI.of (cc := cX4_chamberTold) (maxL := 6) (ret := (some .int)) (by decide) rfl (Nat.le_of_ble_eq_true rfl) ?_
  intro pv ev s mv below meth cv A hx hb hml hr hown hts hlocks hname hM ls hl
  have hown : s.vm.findClass RX4 = some mv.cls := hown
  have hl : lv_has ls 6 [(0, .ref (sa S o)), (1, .int (nI q)), (2, .int 8)] := hl
  have hin4 : ∀ x ∈ wsX40, x ∈ wsX4_chamberTold := by decide +kernel
  obtain ⟨Q, hQ⟩ : ∃ Q, Q = MQ below (va_Qi (fun z u => z = chTm (I (o + 3)) q 8 ∧ u = (S, V, sT V, I)) (fun u t => fb_P D y A u t) A) (([.ref (sa S o), .int (nI q), .int 8] : List Value).toArray) s 0 0 A := ⟨_, rfl⟩
  rw [← hQ]
  have hns : ns ≤ 12 := hF.2.2.1
  have hnt : nt ≤ 6 := hF.2.2.2.1
  refine lv_iload_n hx hb dX4_chamberTold_0 rfl (lv_at hl 2 rfl) ?_
  refine lv_bipush (v := 6) hx hb dX4_chamberTold_1 (by decide) ?_
  refine lv_icmp_ge (tgt := 18) hx hb dX4_chamberTold_3 (by decide) (fun c_1 => ?_) (fun c_1 => absurd (by decide) c_1)
  refine lv_aload_n hx hb dX4_chamberTold_18 rfl (lv_at hl 0 rfl) ?_
  refine fb_get (r := o) hx hb hown hts hin4 hM ((hA.1).1) (ce4 ((hA.1).2)) rfl 5 (by decide) (hts (.fieldLink RX4 20 "FeatherBedsModel" "chambers" "[I") (by decide +kernel)) (fun _ h9 => h9) (v := .ref (sa S (o + 3))) (congrArg (fun z => some (va_rf z)) ((hA.2.1).2.2.1)) dX4_chamberTold_19 ?_
  refine lv_iload_n hx hb dX4_chamberTold_22 rfl (lv_at hl 1 rfl) ?_
  refine fb_callSi hx hb hml hown hts hM (As := [.ref (sa S (o + 3)), .int (nI q)]) (rest := []) (c_X4_all D y l S V I (o + 3) 30 (hA.2.2.2.2.1).1 (hA.2.2.2.2.1).2.1 (hA.2.2.2.2.1).2.2 (by omega) q (by omega)) (cwS 2 hts gX4_chamberTold_X4_all rfl rfl rfl (by decide +kernel) ⟨Nat.le_of_ble_eq_true rfl, Nat.le_of_ble_eq_true rfl⟩) rfl hl.1 rfl (Nat.le_of_ble_eq_true rfl) dX4_chamberTold_23 ⟨Nat.le_of_ble_eq_true rfl, Nat.le_of_ble_eq_true rfl⟩ (fun v_2 u H locs hp hM => ?_)
  obtain ⟨hv, hu⟩ := hp
  have hv := Eq.symm hv
  have hu := Eq.symm hu
  subst hv
  subst hu
  refine lv_istore_n (lv' := [(3, .int (s6 (mx (I (o + 3)) q))), (0, .ref (sa S o)), (1, .int (nI q)), (2, .int 8)]) hx hb dX4_chamberTold_26 rfl hl (by decide) rfl (fun ls hl => ?_)
  refine lv_iconst (v := 0) hx hb dX4_chamberTold_27 (by decide) ?_
  refine lv_istore (lv' := [(4, .int 0), (3, .int (s6 (mx (I (o + 3)) q))), (0, .ref (sa S o)), (1, .int (nI q)), (2, .int 8)]) hx hb dX4_chamberTold_28 hl (by decide) rfl (fun ls hl => ?_)
  refine lv_iconst (v := 1) hx hb dX4_chamberTold_30 (by decide) ?_
  refine lv_istore (lv' := [(5, .int 1), (4, .int 0), (3, .int (s6 (mx (I (o + 3)) q))), (0, .ref (sa S o)), (1, .int (nI q)), (2, .int 8)]) hx hb dX4_chamberTold_31 hl (by decide) rfl (fun ls hl => ?_)
  have LP_33 : ∀ (n : Nat) (i : Nat) (hi : i ≤ 6) (hi1 : 1 ≤ i), 6 - i < n → ∀ (H : Heap) (locs : List Loc), fb_M D y A s (S, V, (sT V), I) H locs → ∀ ls, lv_has ls 6 [(5, .int (nI i)), (4, .int (nI (mfm (I (o + 3)) q i))), (3, .int (s6 (mx (I (o + 3)) q))), (0, .ref (sa S o)), (1, .int (nI q)), (2, .int 8)] → W pv l ev rm_X4_chamberTold s mv ([.ref (sa S o), .int (nI q), .int 8] : List Value).toArray below meth cv H locs 0 0 Q (F0 mv 33 ls []) := by
    intro n_33
    induction n_33 with
    | zero => intro i hi hi1 hmu; exact absurd hmu (Nat.not_lt_zero _)
    | succ n_33 ih_33 =>
      intro i hi hi1 hmu H locs hM ls hl
      have hml_ := mfm_lt (I (o + 3)) q i
      refine lv_iload hx hb dX4_chamberTold_33 (lv_at hl 0 rfl) ?_
      refine lv_bipush (v := 6) hx hb dX4_chamberTold_35 (by decide) ?_
      refine lv_icmp_ge (tgt := 77) hx hb dX4_chamberTold_37 (by decide) (fun c_3 => ?_) (fun c_3 => ?_)
      · skip
        have e_i : i = 6 := by have := (nI_leI (a := 6) (b := i) (by omega) (by omega)).mp c_3; omega
        subst e_i
        refine lv_iload_n hx hb dX4_chamberTold_77 rfl (lv_at hl 5 rfl) ?_
        refine lv_bipush (v := 6) hx hb dX4_chamberTold_78 (by decide) ?_
        refine lv_icmp_ne (tgt := 85) hx hb dX4_chamberTold_80 (by decide) (fun c_4 => ?_) (fun c_4 => absurd c_4 (by decide))
        refine lv_iload_n hx hb dX4_chamberTold_85 rfl (lv_at hl 2 rfl) ?_
        refine lv_if_ne (tgt := 101) hx hb dX4_chamberTold_86 (by decide) (fun c_5 => ?_) (fun c_5 => ?_)
        · skip
          have c_z := c_5
          have hm6 := mfm_lt (I (o + 3)) q 6
          refine lv_iload_n hx hb dX4_chamberTold_101 rfl (lv_at hl 5 rfl) ?_
          refine lv_bipush (v := 7) hx hb dX4_chamberTold_102 (by decide) ?_
          refine lv_icmp_ne (tgt := 112) hx hb dX4_chamberTold_104 (by decide) (fun c_6 => ?_) (fun c_6 => absurd c_6 (by decide))
          refine lv_bipush (v := 100) hx hb dX4_chamberTold_112 (by decide) ?_
          refine lv_aload_n hx hb dX4_chamberTold_114 rfl (lv_at hl 3 rfl) ?_
          refine fb_get (r := o) hx hb hown hts hin4 hM ((hA.1).1) (ce4 ((hA.1).2)) rfl 5 (by decide) (hts (.fieldLink RX4 20 "FeatherBedsModel" "chambers" "[I") (by decide +kernel)) (fun _ h9 => h9) (v := .ref (sa S (o + 3))) (congrArg (fun z => some (va_rf z)) ((hA.2.1).2.2.1)) dX4_chamberTold_115 ?_
          refine lv_bipush (v := 6) hx hb dX4_chamberTold_118 (by decide) ?_
          refine lv_iload_n hx hb dX4_chamberTold_120 rfl (lv_at hl 4 rfl) ?_
          refine lv_imul hx hb dX4_chamberTold_121 ?_
          refine W.eq (g2 := F0 mv _ ls (.int (nI (6 * q)) :: .ref (sa S (o + 3)) :: .int 100 :: [])) (by first | rfl | rw [show (6 * (nI q) : Int32) = nI (6 * q) from pk_mul 6 q]) ?_
          refine lv_iload hx hb dX4_chamberTold_122 (lv_at hl 1 rfl) ?_
          refine lv_iadd hx hb dX4_chamberTold_124 ?_
          refine W.eq (g2 := F0 mv _ ls (.int (nI (6 * q + mfm (I (o + 3)) q 6)) :: .ref (sa S (o + 3)) :: .int 100 :: [])) (by first | rfl | rw [show ((nI (6 * q)) + (nI (mfm (I (o + 3)) q 6)) : Int32) = nI (6 * q + mfm (I (o + 3)) q 6) from nI_add _ _]) ?_
          refine fb_iald (r := (o + 3)) hx hb hM ((hA.2.2.2.2.1).1) (ce6 ((hA.2.2.2.2.1).2.1)) (k := 6 * q + mfm (I (o + 3)) q 6) (nI_clamp (by omega)) (by rw [(hA.2.2.2.2.1).2.2]; exact vp_in_nI (by omega) (by omega)) dX4_chamberTold_125 ?_
          refine lv_imul hx hb dX4_chamberTold_126 ?_
          refine lv_iload_n hx hb dX4_chamberTold_127 rfl (lv_at hl 2 rfl) ?_
          refine lv_idiv hx hb dX4_chamberTold_128 c_z ?_
          rw [hQ]
          exact fb_iret hx hb hr hlocks hM (⟨by unfold chTm; rw [if_neg (by decide), if_neg (by decide), if_neg c_z]; rfl, rfl⟩) dX4_chamberTold_129
        · skip
          have c_z0 := c_5
          refine lv_iload_n hx hb dX4_chamberTold_89 rfl (lv_at hl 5 rfl) ?_
          refine lv_bipush (v := 7) hx hb dX4_chamberTold_90 (by decide) ?_
          refine lv_icmp_ne (tgt := 99) hx hb dX4_chamberTold_92 (by decide) (fun c_7 => ?_) (fun c_7 => absurd c_7 (by decide))
          refine lv_iconst (v := 0) hx hb dX4_chamberTold_99 (by decide) ?_
          rw [hQ]
          exact fb_iret hx hb hr hlocks hM (⟨by unfold chTm; rw [if_neg (by decide), if_neg (by decide), if_pos c_z0]; rfl, rfl⟩) dX4_chamberTold_100
      · skip
        have hik : i < 6 := Nat.lt_of_not_le (fun h => c_3 (nI_le h (by omega)))
        refine lv_aload_n hx hb dX4_chamberTold_40 rfl (lv_at hl 3 rfl) ?_
        refine fb_get (r := o) hx hb hown hts hin4 hM ((hA.1).1) (ce4 ((hA.1).2)) rfl 5 (by decide) (hts (.fieldLink RX4 20 "FeatherBedsModel" "chambers" "[I") (by decide +kernel)) (fun _ h9 => h9) (v := .ref (sa S (o + 3))) (congrArg (fun z => some (va_rf z)) ((hA.2.1).2.2.1)) dX4_chamberTold_41 ?_
        refine lv_bipush (v := 6) hx hb dX4_chamberTold_44 (by decide) ?_
        refine lv_iload_n hx hb dX4_chamberTold_46 rfl (lv_at hl 4 rfl) ?_
        refine lv_imul hx hb dX4_chamberTold_47 ?_
        refine W.eq (g2 := F0 mv _ ls (.int (nI (6 * q)) :: .ref (sa S (o + 3)) :: [])) (by first | rfl | rw [show (6 * (nI q) : Int32) = nI (6 * q) from pk_mul 6 q]) ?_
        refine lv_iload hx hb dX4_chamberTold_48 (lv_at hl 0 rfl) ?_
        refine lv_iadd hx hb dX4_chamberTold_50 ?_
        refine W.eq (g2 := F0 mv _ ls (.int (nI (6 * q + i)) :: .ref (sa S (o + 3)) :: [])) (by first | rfl | rw [show ((nI (6 * q)) + (nI i) : Int32) = nI (6 * q + i) from nI_add _ _]) ?_
        refine fb_iald (r := (o + 3)) hx hb hM ((hA.2.2.2.2.1).1) (ce6 ((hA.2.2.2.2.1).2.1)) (k := 6 * q + i) (nI_clamp (by omega)) (by rw [(hA.2.2.2.2.1).2.2]; exact vp_in_nI (by omega) (by omega)) dX4_chamberTold_51 ?_
        refine lv_aload_n hx hb dX4_chamberTold_52 rfl (lv_at hl 3 rfl) ?_
        refine fb_get (r := o) hx hb hown hts hin4 hM ((hA.1).1) (ce4 ((hA.1).2)) rfl 5 (by decide) (hts (.fieldLink RX4 20 "FeatherBedsModel" "chambers" "[I") (by decide +kernel)) (fun _ h9 => h9) (v := .ref (sa S (o + 3))) (congrArg (fun z => some (va_rf z)) ((hA.2.1).2.2.1)) dX4_chamberTold_53 ?_
        refine lv_bipush (v := 6) hx hb dX4_chamberTold_56 (by decide) ?_
        refine lv_iload_n hx hb dX4_chamberTold_58 rfl (lv_at hl 4 rfl) ?_
        refine lv_imul hx hb dX4_chamberTold_59 ?_
        refine W.eq (g2 := F0 mv _ ls (.int (nI (6 * q)) :: .ref (sa S (o + 3)) :: .int (I (o + 3) (6 * q + i)) :: [])) (by first | rfl | rw [show (6 * (nI q) : Int32) = nI (6 * q) from pk_mul 6 q]) ?_
        refine lv_iload hx hb dX4_chamberTold_60 (lv_at hl 1 rfl) ?_
        refine lv_iadd hx hb dX4_chamberTold_62 ?_
        refine W.eq (g2 := F0 mv _ ls (.int (nI (6 * q + mfm (I (o + 3)) q i)) :: .ref (sa S (o + 3)) :: .int (I (o + 3) (6 * q + i)) :: [])) (by first | rfl | rw [show ((nI (6 * q)) + (nI (mfm (I (o + 3)) q i)) : Int32) = nI (6 * q + mfm (I (o + 3)) q i) from nI_add _ _]) ?_
        refine fb_iald (r := (o + 3)) hx hb hM ((hA.2.2.2.2.1).1) (ce6 ((hA.2.2.2.2.1).2.1)) (k := 6 * q + mfm (I (o + 3)) q i) (nI_clamp (by omega)) (by rw [(hA.2.2.2.2.1).2.2]; exact vp_in_nI (by omega) (by omega)) dX4_chamberTold_63 ?_
        refine lv_icmp_le (tgt := 71) hx hb dX4_chamberTold_64 (by decide) (fun c_8 => ?_) (fun c_8 => ?_)
        · skip
          have c_br := c_8
          refine lv_iinc (v := nI (i + 1)) (lv' := [(5, .int (nI (i + 1))), (4, .int (nI (mfm (I (o + 3)) q i))), (3, .int (s6 (mx (I (o + 3)) q))), (0, .ref (sa S o)), (1, .int (nI q)), (2, .int 8)]) hx hb dX4_chamberTold_71 hl (k := 0) rfl (nI_1 _) (by decide) rfl (fun ls hl => ?_)
          refine lv_goto (tgt := 33) hx hb dX4_chamberTold_74 (by decide) ?_
          have eF : nI (mfm (I (o + 3)) q i) = nI (mfm (I (o + 3)) q (i + 1)) := by show _ = nI (if (I (o + 3)) (6 * q + i) ≤ (I (o + 3)) (6 * q + mfm (I (o + 3)) q i) then mfm (I (o + 3)) q i else i); first | rw [if_pos c_br] | rw [if_neg c_br]
          rw [eF] at hl
          exact ih_33 (i + 1) (by omega) (by omega) (by omega) _ _ hM ls (lv_sub hl [0, 1, 2, 3, 4, 5] rfl)
        · skip
          have c_br := c_8
          refine lv_iload hx hb dX4_chamberTold_67 (lv_at hl 0 rfl) ?_
          refine lv_istore (lv' := [(4, .int (nI i)), (5, .int (nI i)), (3, .int (s6 (mx (I (o + 3)) q))), (0, .ref (sa S o)), (1, .int (nI q)), (2, .int 8)]) hx hb dX4_chamberTold_69 hl (by decide) rfl (fun ls hl => ?_)
          refine lv_iinc (v := nI (i + 1)) (lv' := [(5, .int (nI (i + 1))), (4, .int (nI i)), (3, .int (s6 (mx (I (o + 3)) q))), (0, .ref (sa S o)), (1, .int (nI q)), (2, .int 8)]) hx hb dX4_chamberTold_71 hl (k := 1) rfl (nI_1 _) (by decide) rfl (fun ls hl => ?_)
          refine lv_goto (tgt := 33) hx hb dX4_chamberTold_74 (by decide) ?_
          have eF : nI i = nI (mfm (I (o + 3)) q (i + 1)) := by show _ = nI (if (I (o + 3)) (6 * q + i) ≤ (I (o + 3)) (6 * q + mfm (I (o + 3)) q i) then mfm (I (o + 3)) q i else i); first | rw [if_pos c_br] | rw [if_neg c_br]
          rw [eF] at hl
          exact ih_33 (i + 1) (by omega) (by omega) (by omega) _ _ hM ls (lv_sub hl [0, 1, 2, 3, 4, 5] rfl)
  have hl : lv_has ls 6 [(5, .int 1), (4, .int (nI (mfm (I (o + 3)) q 1))), (3, .int (s6 (mx (I (o + 3)) q))), (0, .ref (sa S o)), (1, .int (nI q)), (2, .int 8)] := by rw [mfm_1]; exact lv_sub hl [0, 1, 2, 3, 4, 5] rfl
  exact LP_33 _ 1 (by omega) (by omega) (Nat.lt_succ_self _) _ _ hM ls (lv_sub hl [0, 1, 2, 3, 4, 5] rfl)

abbrev rm_X4_counted : Room := { frames := 1, cells := 0, slots := 0, locals := 26 }
set_option maxHeartbeats 4000000 in
set_option maxRecDepth 100000 in
theorem c_X4_counted_0 (D : va_G) (y : Nat → ClassId) (l : Launch) (S : fb_Sh) (V I : fb_V) (o nt : Nat) (cf rf : Nat → Nat) (hA : MdAt S o nt cf rf) (ns : Nat) (df : Nat → Nat) (hF : MF I o ns nt cf rf df) : CI D y l yX4_counted wsX4_counted rm_X4_counted [.ref (sa S o), .int 0] (S, V, (sT V), I) (fun z u => z = cnm I o ns nt cf rf 0 ∧ u = (S, V, sT V, I)) 0 0 := by
  refine CI.of (cc := cX4_counted) (maxL := 7) (ret := (some .int)) (by decide) rfl (Nat.le_of_ble_eq_true rfl) ?_
  intro pv ev s mv below meth cv A hx hb hml hr hown hts hlocks hname hM ls hl
  have hown : s.vm.findClass RX4 = some mv.cls := hown
  have hl : lv_has ls 7 [(0, .ref (sa S o)), (1, .int 0)] := hl
  have hin4 : ∀ x ∈ wsX40, x ∈ wsX4_counted := by decide +kernel
  obtain ⟨Q, hQ⟩ : ∃ Q, Q = MQ below (va_Qi (fun z u => z = cnm I o ns nt cf rf 0 ∧ u = (S, V, sT V, I)) (fun u t => fb_P D y A u t) A) (([.ref (sa S o), .int 0] : List Value).toArray) s 0 0 A := ⟨_, rfl⟩
  rw [← hQ]
  have hns : ns ≤ 12 := hF.2.2.1
  have hnt : nt ≤ 6 := hF.2.2.2.1
  refine lv_iconst (v := 0) hx hb dX4_counted_0 (by decide) ?_
  refine lv_istore_n (lv' := [(2, .int 0), (0, .ref (sa S o)), (1, .int 0)]) hx hb dX4_counted_1 rfl hl (by decide) rfl (fun ls hl => ?_)
  refine lv_iload_n hx hb dX4_counted_2 rfl (lv_at hl 2 rfl) ?_
  refine lv_tableIn (off := 45) (tgt := 48) hx hb dX4_counted_3 (by decide) (by decide) rfl (by decide) ?_
  refine lv_aload_n hx hb dX4_counted_48 rfl (lv_at hl 1 rfl) ?_
  refine fb_get (r := o) hx hb hown hts hin4 hM ((hA.1).1) (ce4 ((hA.1).2)) rfl 10 (by decide) (hts (.fieldLink RX4 147 "FeatherBedsModel" "nights" "I") (by decide +kernel)) (fun _ h9 => h9) (v := .int (I o 10)) rfl dX4_counted_49 ?_
  rw [hQ]
  exact fb_iret hx hb hr hlocks hM (⟨rfl, rfl⟩) dX4_counted_52

set_option maxHeartbeats 4000000 in
set_option maxRecDepth 100000 in
theorem c_X4_counted_1 (D : va_G) (y : Nat → ClassId) (l : Launch) (S : fb_Sh) (V I : fb_V) (o nt : Nat) (cf rf : Nat → Nat) (hA : MdAt S o nt cf rf) (ns : Nat) (df : Nat → Nat) (hF : MF I o ns nt cf rf df) : CI D y l yX4_counted wsX4_counted rm_X4_counted [.ref (sa S o), .int 1] (S, V, (sT V), I) (fun z u => z = cnm I o ns nt cf rf 1 ∧ u = (S, V, sT V, I)) 0 0 := by
  refine CI.of (cc := cX4_counted) (maxL := 7) (ret := (some .int)) (by decide) rfl (Nat.le_of_ble_eq_true rfl) ?_
  intro pv ev s mv below meth cv A hx hb hml hr hown hts hlocks hname hM ls hl
  have hown : s.vm.findClass RX4 = some mv.cls := hown
  have hl : lv_has ls 7 [(0, .ref (sa S o)), (1, .int 1)] := hl
  have hin4 : ∀ x ∈ wsX40, x ∈ wsX4_counted := by decide +kernel
  obtain ⟨Q, hQ⟩ : ∃ Q, Q = MQ below (va_Qi (fun z u => z = cnm I o ns nt cf rf 1 ∧ u = (S, V, sT V, I)) (fun u t => fb_P D y A u t) A) (([.ref (sa S o), .int 1] : List Value).toArray) s 0 0 A := ⟨_, rfl⟩
  rw [← hQ]
  have hns : ns ≤ 12 := hF.2.2.1
  have hnt : nt ≤ 6 := hF.2.2.2.1
  refine lv_iconst (v := 0) hx hb dX4_counted_0 (by decide) ?_
  refine lv_istore_n (lv' := [(2, .int 0), (0, .ref (sa S o)), (1, .int 1)]) hx hb dX4_counted_1 rfl hl (by decide) rfl (fun ls hl => ?_)
  refine lv_iload_n hx hb dX4_counted_2 rfl (lv_at hl 2 rfl) ?_
  refine lv_tableIn (off := 50) (tgt := 53) hx hb dX4_counted_3 (by decide) (by decide) rfl (by decide) ?_
  refine lv_aload_n hx hb dX4_counted_53 rfl (lv_at hl 1 rfl) ?_
  refine fb_get (r := o) hx hb hown hts hin4 hM ((hA.1).1) (ce4 ((hA.1).2)) rfl 1 (by decide) (hts (.fieldLink RX4 43 "FeatherBedsModel" "sacks" "I") (by decide +kernel)) (fun _ h9 => h9) (v := .int (nI ns)) (congrArg (fun z => some (Value.int z)) (hF.1)) dX4_counted_54 ?_
  rw [hQ]
  exact fb_iret hx hb hr hlocks hM (⟨rfl, rfl⟩) dX4_counted_57

set_option maxHeartbeats 4000000 in
set_option maxRecDepth 100000 in
theorem c_X4_counted_2 (D : va_G) (y : Nat → ClassId) (l : Launch) (S : fb_Sh) (V I : fb_V) (o nt : Nat) (cf rf : Nat → Nat) (hA : MdAt S o nt cf rf) (ns : Nat) (df : Nat → Nat) (hF : MF I o ns nt cf rf df) : CI D y l yX4_counted wsX4_counted rm_X4_counted [.ref (sa S o), .int 2] (S, V, (sT V), I) (fun z u => z = cnm I o ns nt cf rf 2 ∧ u = (S, V, sT V, I)) 0 0 := by
  refine CI.of (cc := cX4_counted) (maxL := 7) (ret := (some .int)) (by decide) rfl (Nat.le_of_ble_eq_true rfl) ?_
  intro pv ev s mv below meth cv A hx hb hml hr hown hts hlocks hname hM ls hl
  have hown : s.vm.findClass RX4 = some mv.cls := hown
  have hl : lv_has ls 7 [(0, .ref (sa S o)), (1, .int 2)] := hl
  have hin4 : ∀ x ∈ wsX40, x ∈ wsX4_counted := by decide +kernel
  obtain ⟨Q, hQ⟩ : ∃ Q, Q = MQ below (va_Qi (fun z u => z = cnm I o ns nt cf rf 2 ∧ u = (S, V, sT V, I)) (fun u t => fb_P D y A u t) A) (([.ref (sa S o), .int 2] : List Value).toArray) s 0 0 A := ⟨_, rfl⟩
  rw [← hQ]
  have hns : ns ≤ 12 := hF.2.2.1
  have hnt : nt ≤ 6 := hF.2.2.2.1
  refine lv_iconst (v := 0) hx hb dX4_counted_0 (by decide) ?_
  refine lv_istore_n (lv' := [(2, .int 0), (0, .ref (sa S o)), (1, .int 2)]) hx hb dX4_counted_1 rfl hl (by decide) rfl (fun ls hl => ?_)
  refine lv_iload_n hx hb dX4_counted_2 rfl (lv_at hl 2 rfl) ?_
  refine lv_tableIn (off := 55) (tgt := 58) hx hb dX4_counted_3 (by decide) (by decide) rfl (by decide) ?_
  refine lv_aload_n hx hb dX4_counted_58 rfl (lv_at hl 1 rfl) ?_
  refine fb_get (r := o) hx hb hown hts hin4 hM ((hA.1).1) (ce4 ((hA.1).2)) rfl 6 (by decide) (hts (.fieldLink RX4 50 "FeatherBedsModel" "ticks" "I") (by decide +kernel)) (fun _ h9 => h9) (v := .int (nI nt)) (congrArg (fun z => some (Value.int z)) (hF.2.1)) dX4_counted_59 ?_
  rw [hQ]
  exact fb_iret hx hb hr hlocks hM (⟨rfl, rfl⟩) dX4_counted_62

set_option maxHeartbeats 4000000 in
set_option maxRecDepth 100000 in
theorem c_X4_counted_3 (D : va_G) (y : Nat → ClassId) (l : Launch) (S : fb_Sh) (V I : fb_V) (o nt : Nat) (cf rf : Nat → Nat) (hA : MdAt S o nt cf rf) (ns : Nat) (df : Nat → Nat) (hF : MF I o ns nt cf rf df) : CI D y l yX4_counted wsX4_counted rm_X4_counted [.ref (sa S o), .int 3] (S, V, (sT V), I) (fun z u => z = cnm I o ns nt cf rf 3 ∧ u = (S, V, sT V, I)) 0 0 := by
  refine CI.of (cc := cX4_counted) (maxL := 7) (ret := (some .int)) (by decide) rfl (Nat.le_of_ble_eq_true rfl) ?_
  intro pv ev s mv below meth cv A hx hb hml hr hown hts hlocks hname hM ls hl
  have hown : s.vm.findClass RX4 = some mv.cls := hown
  have hl : lv_has ls 7 [(0, .ref (sa S o)), (1, .int 3)] := hl
  have hin4 : ∀ x ∈ wsX40, x ∈ wsX4_counted := by decide +kernel
  obtain ⟨Q, hQ⟩ : ∃ Q, Q = MQ below (va_Qi (fun z u => z = cnm I o ns nt cf rf 3 ∧ u = (S, V, sT V, I)) (fun u t => fb_P D y A u t) A) (([.ref (sa S o), .int 3] : List Value).toArray) s 0 0 A := ⟨_, rfl⟩
  rw [← hQ]
  have hns : ns ≤ 12 := hF.2.2.1
  have hnt : nt ≤ 6 := hF.2.2.2.1
  refine lv_iconst (v := 0) hx hb dX4_counted_0 (by decide) ?_
  refine lv_istore_n (lv' := [(2, .int 0), (0, .ref (sa S o)), (1, .int 3)]) hx hb dX4_counted_1 rfl hl (by decide) rfl (fun ls hl => ?_)
  refine lv_iload_n hx hb dX4_counted_2 rfl (lv_at hl 2 rfl) ?_
  refine lv_tableIn (off := 60) (tgt := 63) hx hb dX4_counted_3 (by decide) (by decide) rfl (by decide) ?_
  refine lv_aload_n hx hb dX4_counted_63 rfl (lv_at hl 1 rfl) ?_
  refine fb_get (r := o) hx hb hown hts hin4 hM ((hA.1).1) (ce4 ((hA.1).2)) rfl 2 (by decide) (hts (.fieldLink RX4 9 "FeatherBedsModel" "sackHeaps" "[I") (by decide +kernel)) (fun _ h9 => h9) (v := .ref (sa S (o + 1))) (congrArg (fun z => some (va_rf z)) ((hA.2.1).1)) dX4_counted_64 ?_
  refine lv_astore_n (lv' := [(3, .ref (sa S (o + 1))), (2, .int 0), (0, .ref (sa S o)), (1, .int 3)]) hx hb dX4_counted_67 rfl hl (by decide) rfl (fun ls hl => ?_)
  refine lv_aload_n hx hb dX4_counted_68 rfl (lv_at hl 0 rfl) ?_
  refine fb_alen (r := (o + 1)) hx hb hM ((hA.2.2.1).1) (ce6 ((hA.2.2.1).2.1)) 0 rfl (v := nI 72) (congrArg Int32.ofNat ((hA.2.2.1).2.2)) dX4_counted_69 ?_
  refine lv_istore (lv' := [(4, .int (nI 72)), (3, .ref (sa S (o + 1))), (2, .int 0), (0, .ref (sa S o)), (1, .int 3)]) hx hb dX4_counted_70 hl (by decide) rfl (fun ls hl => ?_)
  refine lv_iconst (v := 0) hx hb dX4_counted_72 (by decide) ?_
  refine lv_istore (lv' := [(5, .int 0), (4, .int (nI 72)), (3, .ref (sa S (o + 1))), (2, .int 0), (0, .ref (sa S o)), (1, .int 3)]) hx hb dX4_counted_73 hl (by decide) rfl (fun ls hl => ?_)
  have LP_75 : ∀ (n : Nat) (i : Nat) (hi : i ≤ 72), 72 - i < n → ∀ (H : Heap) (locs : List Loc), fb_M D y A s (S, V, (sT V), I) H locs → ∀ ls, lv_has ls 7 [(5, .int (nI i)), (4, .int (nI 72)), (3, .ref (sa S (o + 1))), (2, .int (asf (I (o + 1)) i)), (0, .ref (sa S o)), (1, .int 3)] → W pv l ev rm_X4_counted s mv ([.ref (sa S o), .int 3] : List Value).toArray below meth cv H locs 0 0 Q (F0 mv 75 ls []) := by
    intro n_75
    induction n_75 with
    | zero => intro i hi hmu; exact absurd hmu (Nat.not_lt_zero _)
    | succ n_75 ih_75 =>
      intro i hi hmu H locs hM ls hl
      refine lv_iload hx hb dX4_counted_75 (lv_at hl 0 rfl) ?_
      refine lv_iload hx hb dX4_counted_77 (lv_at hl 1 rfl) ?_
      refine lv_icmp_ge (tgt := 99) hx hb dX4_counted_79 (by decide) (fun c_1 => ?_) (fun c_1 => ?_)
      · skip
        have e_i : i = 72 := by have := (nI_leI (a := 72) (b := i) (by omega) (by omega)).mp c_1; omega
        subst e_i
        refine lv_iload_n hx hb dX4_counted_99 rfl (lv_at hl 3 rfl) ?_
        rw [hQ]
        exact fb_iret hx hb hr hlocks hM (⟨rfl, rfl⟩) dX4_counted_100
      · skip
        have hik : i < 72 := Nat.lt_of_not_le (fun h => c_1 (nI_le h (by omega)))
        refine lv_aload_n hx hb dX4_counted_82 rfl (lv_at hl 2 rfl) ?_
        refine lv_iload hx hb dX4_counted_83 (lv_at hl 0 rfl) ?_
        refine fb_iald (r := (o + 1)) hx hb hM ((hA.2.2.1).1) (ce6 ((hA.2.2.1).2.1)) (k := i) (nI_clamp (by omega)) (by rw [(hA.2.2.1).2.2]; exact vp_in_nI (by omega) (by omega)) dX4_counted_85 ?_
        refine lv_istore (lv' := [(6, .int (I (o + 1) i)), (5, .int (nI i)), (4, .int (nI 72)), (3, .ref (sa S (o + 1))), (2, .int (asf (I (o + 1)) i)), (0, .ref (sa S o)), (1, .int 3)]) hx hb dX4_counted_86 hl (by decide) rfl (fun ls hl => ?_)
        refine lv_iload_n hx hb dX4_counted_88 rfl (lv_at hl 4 rfl) ?_
        refine lv_iload hx hb dX4_counted_89 (lv_at hl 0 rfl) ?_
        refine lv_iadd hx hb dX4_counted_91 ?_
        refine lv_istore_n (lv' := [(2, .int ((asf (I (o + 1)) i) + (I (o + 1) i))), (6, .int (I (o + 1) i)), (5, .int (nI i)), (4, .int (nI 72)), (3, .ref (sa S (o + 1))), (0, .ref (sa S o)), (1, .int 3)]) hx hb dX4_counted_92 rfl hl (by decide) rfl (fun ls hl => ?_)
        refine lv_iinc (v := nI (i + 1)) (lv' := [(5, .int (nI (i + 1))), (2, .int ((asf (I (o + 1)) i) + (I (o + 1) i))), (6, .int (I (o + 1) i)), (4, .int (nI 72)), (3, .ref (sa S (o + 1))), (0, .ref (sa S o)), (1, .int 3)]) hx hb dX4_counted_93 hl (k := 2) rfl (nI_1 _) (by decide) rfl (fun ls hl => ?_)
        refine lv_goto (tgt := 75) hx hb dX4_counted_96 (by decide) ?_
        exact ih_75 (i + 1) (by omega) (by omega) _ _ hM ls (lv_sub hl [0, 3, 4, 1, 5, 6] rfl)
  exact LP_75 _ 0 (by omega) (Nat.lt_succ_self _) _ _ hM ls (lv_sub hl [0, 1, 2, 3, 4, 5] rfl)

set_option maxHeartbeats 4000000 in
set_option maxRecDepth 100000 in
theorem c_X4_counted_4 (D : va_G) (y : Nat → ClassId) (l : Launch) (S : fb_Sh) (V I : fb_V) (o nt : Nat) (cf rf : Nat → Nat) (hA : MdAt S o nt cf rf) (ns : Nat) (df : Nat → Nat) (hF : MF I o ns nt cf rf df) : CI D y l yX4_counted wsX4_counted rm_X4_counted [.ref (sa S o), .int 4] (S, V, (sT V), I) (fun z u => z = cnm I o ns nt cf rf 4 ∧ u = (S, V, sT V, I)) 0 0 := by
  refine CI.of (cc := cX4_counted) (maxL := 7) (ret := (some .int)) (by decide) rfl (Nat.le_of_ble_eq_true rfl) ?_
  intro pv ev s mv below meth cv A hx hb hml hr hown hts hlocks hname hM ls hl
  have hown : s.vm.findClass RX4 = some mv.cls := hown
  have hl : lv_has ls 7 [(0, .ref (sa S o)), (1, .int 4)] := hl
  have hin4 : ∀ x ∈ wsX40, x ∈ wsX4_counted := by decide +kernel
  obtain ⟨Q, hQ⟩ : ∃ Q, Q = MQ below (va_Qi (fun z u => z = cnm I o ns nt cf rf 4 ∧ u = (S, V, sT V, I)) (fun u t => fb_P D y A u t) A) (([.ref (sa S o), .int 4] : List Value).toArray) s 0 0 A := ⟨_, rfl⟩
  rw [← hQ]
  have hns : ns ≤ 12 := hF.2.2.1
  have hnt : nt ≤ 6 := hF.2.2.2.1
  refine lv_iconst (v := 0) hx hb dX4_counted_0 (by decide) ?_
  refine lv_istore_n (lv' := [(2, .int 0), (0, .ref (sa S o)), (1, .int 4)]) hx hb dX4_counted_1 rfl hl (by decide) rfl (fun ls hl => ?_)
  refine lv_iload_n hx hb dX4_counted_2 rfl (lv_at hl 2 rfl) ?_
  refine lv_tableIn (off := 98) (tgt := 101) hx hb dX4_counted_3 (by decide) (by decide) rfl (by decide) ?_
  refine lv_aload_n hx hb dX4_counted_101 rfl (lv_at hl 1 rfl) ?_
  refine fb_get (r := o) hx hb hown hts hin4 hM ((hA.1).1) (ce4 ((hA.1).2)) rfl 5 (by decide) (hts (.fieldLink RX4 20 "FeatherBedsModel" "chambers" "[I") (by decide +kernel)) (fun _ h9 => h9) (v := .ref (sa S (o + 3))) (congrArg (fun z => some (va_rf z)) ((hA.2.1).2.2.1)) dX4_counted_102 ?_
  refine lv_astore_n (lv' := [(3, .ref (sa S (o + 3))), (2, .int 0), (0, .ref (sa S o)), (1, .int 4)]) hx hb dX4_counted_105 rfl hl (by decide) rfl (fun ls hl => ?_)
  refine lv_aload_n hx hb dX4_counted_106 rfl (lv_at hl 0 rfl) ?_
  refine fb_alen (r := (o + 3)) hx hb hM ((hA.2.2.2.2.1).1) (ce6 ((hA.2.2.2.2.1).2.1)) 0 rfl (v := nI 30) (congrArg Int32.ofNat ((hA.2.2.2.2.1).2.2)) dX4_counted_107 ?_
  refine lv_istore (lv' := [(4, .int (nI 30)), (3, .ref (sa S (o + 3))), (2, .int 0), (0, .ref (sa S o)), (1, .int 4)]) hx hb dX4_counted_108 hl (by decide) rfl (fun ls hl => ?_)
  refine lv_iconst (v := 0) hx hb dX4_counted_110 (by decide) ?_
  refine lv_istore (lv' := [(5, .int 0), (4, .int (nI 30)), (3, .ref (sa S (o + 3))), (2, .int 0), (0, .ref (sa S o)), (1, .int 4)]) hx hb dX4_counted_111 hl (by decide) rfl (fun ls hl => ?_)
  have LP_113 : ∀ (n : Nat) (i : Nat) (hi : i ≤ 30), 30 - i < n → ∀ (H : Heap) (locs : List Loc), fb_M D y A s (S, V, (sT V), I) H locs → ∀ ls, lv_has ls 7 [(5, .int (nI i)), (4, .int (nI 30)), (3, .ref (sa S (o + 3))), (2, .int (asf (I (o + 3)) i)), (0, .ref (sa S o)), (1, .int 4)] → W pv l ev rm_X4_counted s mv ([.ref (sa S o), .int 4] : List Value).toArray below meth cv H locs 0 0 Q (F0 mv 113 ls []) := by
    intro n_113
    induction n_113 with
    | zero => intro i hi hmu; exact absurd hmu (Nat.not_lt_zero _)
    | succ n_113 ih_113 =>
      intro i hi hmu H locs hM ls hl
      refine lv_iload hx hb dX4_counted_113 (lv_at hl 0 rfl) ?_
      refine lv_iload hx hb dX4_counted_115 (lv_at hl 1 rfl) ?_
      refine lv_icmp_ge (tgt := 137) hx hb dX4_counted_117 (by decide) (fun c_1 => ?_) (fun c_1 => ?_)
      · skip
        have e_i : i = 30 := by have := (nI_leI (a := 30) (b := i) (by omega) (by omega)).mp c_1; omega
        subst e_i
        refine lv_iload_n hx hb dX4_counted_137 rfl (lv_at hl 3 rfl) ?_
        rw [hQ]
        exact fb_iret hx hb hr hlocks hM (⟨rfl, rfl⟩) dX4_counted_138
      · skip
        have hik : i < 30 := Nat.lt_of_not_le (fun h => c_1 (nI_le h (by omega)))
        refine lv_aload_n hx hb dX4_counted_120 rfl (lv_at hl 2 rfl) ?_
        refine lv_iload hx hb dX4_counted_121 (lv_at hl 0 rfl) ?_
        refine fb_iald (r := (o + 3)) hx hb hM ((hA.2.2.2.2.1).1) (ce6 ((hA.2.2.2.2.1).2.1)) (k := i) (nI_clamp (by omega)) (by rw [(hA.2.2.2.2.1).2.2]; exact vp_in_nI (by omega) (by omega)) dX4_counted_123 ?_
        refine lv_istore (lv' := [(6, .int (I (o + 3) i)), (5, .int (nI i)), (4, .int (nI 30)), (3, .ref (sa S (o + 3))), (2, .int (asf (I (o + 3)) i)), (0, .ref (sa S o)), (1, .int 4)]) hx hb dX4_counted_124 hl (by decide) rfl (fun ls hl => ?_)
        refine lv_iload_n hx hb dX4_counted_126 rfl (lv_at hl 4 rfl) ?_
        refine lv_iload hx hb dX4_counted_127 (lv_at hl 0 rfl) ?_
        refine lv_iadd hx hb dX4_counted_129 ?_
        refine lv_istore_n (lv' := [(2, .int ((asf (I (o + 3)) i) + (I (o + 3) i))), (6, .int (I (o + 3) i)), (5, .int (nI i)), (4, .int (nI 30)), (3, .ref (sa S (o + 3))), (0, .ref (sa S o)), (1, .int 4)]) hx hb dX4_counted_130 rfl hl (by decide) rfl (fun ls hl => ?_)
        refine lv_iinc (v := nI (i + 1)) (lv' := [(5, .int (nI (i + 1))), (2, .int ((asf (I (o + 3)) i) + (I (o + 3) i))), (6, .int (I (o + 3) i)), (4, .int (nI 30)), (3, .ref (sa S (o + 3))), (0, .ref (sa S o)), (1, .int 4)]) hx hb dX4_counted_131 hl (k := 2) rfl (nI_1 _) (by decide) rfl (fun ls hl => ?_)
        refine lv_goto (tgt := 113) hx hb dX4_counted_134 (by decide) ?_
        exact ih_113 (i + 1) (by omega) (by omega) _ _ hM ls (lv_sub hl [0, 3, 4, 1, 5, 6] rfl)
  exact LP_113 _ 0 (by omega) (Nat.lt_succ_self _) _ _ hM ls (lv_sub hl [0, 1, 2, 3, 4, 5] rfl)

set_option maxHeartbeats 4000000 in
set_option maxRecDepth 100000 in
theorem c_X4_counted_5 (D : va_G) (y : Nat → ClassId) (l : Launch) (S : fb_Sh) (V I : fb_V) (o nt : Nat) (cf rf : Nat → Nat) (hA : MdAt S o nt cf rf) (ns : Nat) (df : Nat → Nat) (hF : MF I o ns nt cf rf df) : CI D y l yX4_counted wsX4_counted rm_X4_counted [.ref (sa S o), .int 5] (S, V, (sT V), I) (fun z u => z = cnm I o ns nt cf rf 5 ∧ u = (S, V, sT V, I)) 0 0 := by
  refine CI.of (cc := cX4_counted) (maxL := 7) (ret := (some .int)) (by decide) rfl (Nat.le_of_ble_eq_true rfl) ?_
  intro pv ev s mv below meth cv A hx hb hml hr hown hts hlocks hname hM ls hl
  have hown : s.vm.findClass RX4 = some mv.cls := hown
  have hl : lv_has ls 7 [(0, .ref (sa S o)), (1, .int 5)] := hl
  have hin4 : ∀ x ∈ wsX40, x ∈ wsX4_counted := by decide +kernel
  obtain ⟨Q, hQ⟩ : ∃ Q, Q = MQ below (va_Qi (fun z u => z = cnm I o ns nt cf rf 5 ∧ u = (S, V, sT V, I)) (fun u t => fb_P D y A u t) A) (([.ref (sa S o), .int 5] : List Value).toArray) s 0 0 A := ⟨_, rfl⟩
  rw [← hQ]
  have hns : ns ≤ 12 := hF.2.2.1
  have hnt : nt ≤ 6 := hF.2.2.2.1
  refine lv_iconst (v := 0) hx hb dX4_counted_0 (by decide) ?_
  refine lv_istore_n (lv' := [(2, .int 0), (0, .ref (sa S o)), (1, .int 5)]) hx hb dX4_counted_1 rfl hl (by decide) rfl (fun ls hl => ?_)
  refine lv_iload_n hx hb dX4_counted_2 rfl (lv_at hl 2 rfl) ?_
  refine lv_tableIn (off := 136) (tgt := 139) hx hb dX4_counted_3 (by decide) (by decide) rfl (by decide) ?_
  refine lv_iconst (v := 0) hx hb dX4_counted_139 (by decide) ?_
  refine lv_istore_n (lv' := [(3, .int 0), (2, .int 0), (0, .ref (sa S o)), (1, .int 5)]) hx hb dX4_counted_140 rfl hl (by decide) rfl (fun ls hl => ?_)
  have LP_141 : ∀ (n : Nat) (i : Nat) (hi : i ≤ nt), nt - i < n → ∀ (H : Heap) (locs : List Loc), fb_M D y A s (S, V, (sT V), I) H locs → ∀ ls, lv_has ls 7 [(3, .int (nI i)), (2, .int (ftk I o cf rf i)), (0, .ref (sa S o)), (1, .int 5)] → W pv l ev rm_X4_counted s mv ([.ref (sa S o), .int 5] : List Value).toArray below meth cv H locs 0 0 Q (F0 mv 141 ls []) := by
    intro n_141
    induction n_141 with
    | zero => intro i hi hmu; exact absurd hmu (Nat.not_lt_zero _)
    | succ n_141 ih_141 =>
      intro i hi hmu H locs hM ls hl
      refine lv_iload_n hx hb dX4_counted_141 rfl (lv_at hl 0 rfl) ?_
      refine lv_aload_n hx hb dX4_counted_142 rfl (lv_at hl 2 rfl) ?_
      refine fb_get (r := o) hx hb hown hts hin4 hM ((hA.1).1) (ce4 ((hA.1).2)) rfl 6 (by decide) (hts (.fieldLink RX4 50 "FeatherBedsModel" "ticks" "I") (by decide +kernel)) (fun _ h9 => h9) (v := .int (nI nt)) (congrArg (fun z => some (Value.int z)) (hF.2.1)) dX4_counted_143 ?_
      refine lv_icmp_ge (tgt := 163) hx hb dX4_counted_146 (by decide) (fun c_1 => ?_) (fun c_1 => ?_)
      · skip
        have e_i : i = nt := by have := (nI_leI (a := nt) (b := i) (by omega) (by omega)).mp c_1; omega
        subst e_i
        refine lv_iload_n hx hb dX4_counted_163 rfl (lv_at hl 1 rfl) ?_
        rw [hQ]
        exact fb_iret hx hb hr hlocks hM (⟨rfl, rfl⟩) dX4_counted_164
      · skip
        have hik : i < nt := Nat.lt_of_not_le (fun h => c_1 (nI_le h (by omega)))
        refine lv_iload_n hx hb dX4_counted_149 rfl (lv_at hl 1 rfl) ?_
        refine lv_aload_n hx hb dX4_counted_150 rfl (lv_at hl 2 rfl) ?_
        refine lv_iload_n hx hb dX4_counted_151 rfl (lv_at hl 0 rfl) ?_
        refine fb_callVi (r := o) hx hb hml hown hts hM ((hA.1).1) (ce4 ((hA.1).2)) rfl (As := [.int (nI i)]) (rest := [.int (ftk I o cf rf i)]) (c_X4_feathers D y l S V I o nt cf rf hA ns df hF i hik) (cwV 1 hts gX4_counted_X4_feathers rfl rfl rfl (by decide +kernel) ⟨Nat.le_of_ble_eq_true rfl, Nat.le_of_ble_eq_true rfl⟩) rfl hl.1 rfl (Nat.le_of_ble_eq_true rfl) dX4_counted_152 ⟨Nat.le_of_ble_eq_true rfl, Nat.le_of_ble_eq_true rfl⟩ (fun v_2 u H locs hp hM => ?_)
        obtain ⟨hv, hu⟩ := hp
        have hv := Eq.symm hv
        have hu := Eq.symm hu
        subst hv
        subst hu
        refine lv_iadd hx hb dX4_counted_155 ?_
        refine lv_istore_n (lv' := [(2, .int ((ftk I o cf rf i) + (asf (I (o + 10 + i)) (6 * (cf i * rf i))))), (3, .int (nI i)), (0, .ref (sa S o)), (1, .int 5)]) hx hb dX4_counted_156 rfl hl (by decide) rfl (fun ls hl => ?_)
        refine lv_iinc (v := nI (i + 1)) (lv' := [(3, .int (nI (i + 1))), (2, .int ((ftk I o cf rf i) + (asf (I (o + 10 + i)) (6 * (cf i * rf i))))), (0, .ref (sa S o)), (1, .int 5)]) hx hb dX4_counted_157 hl (k := 1) rfl (nI_1 _) (by decide) rfl (fun ls hl => ?_)
        refine lv_goto (tgt := 141) hx hb dX4_counted_160 (by decide) ?_
        exact ih_141 (i + 1) (by omega) (by omega) _ _ hM ls (lv_sub hl [0, 1, 2, 3] rfl)
  exact LP_141 _ 0 (by omega) (Nat.lt_succ_self _) _ _ hM ls (lv_sub hl [0, 1, 2, 3] rfl)

set_option maxHeartbeats 4000000 in
set_option maxRecDepth 100000 in
theorem c_X4_counted_6 (D : va_G) (y : Nat → ClassId) (l : Launch) (S : fb_Sh) (V I : fb_V) (o nt : Nat) (cf rf : Nat → Nat) (hA : MdAt S o nt cf rf) (ns : Nat) (df : Nat → Nat) (hF : MF I o ns nt cf rf df) : CI D y l yX4_counted wsX4_counted rm_X4_counted [.ref (sa S o), .int 6] (S, V, (sT V), I) (fun z u => z = cnm I o ns nt cf rf 6 ∧ u = (S, V, sT V, I)) 0 0 := by
  refine CI.of (cc := cX4_counted) (maxL := 7) (ret := (some .int)) (by decide) rfl (Nat.le_of_ble_eq_true rfl) ?_
  intro pv ev s mv below meth cv A hx hb hml hr hown hts hlocks hname hM ls hl
  have hown : s.vm.findClass RX4 = some mv.cls := hown
  have hl : lv_has ls 7 [(0, .ref (sa S o)), (1, .int 6)] := hl
  have hin4 : ∀ x ∈ wsX40, x ∈ wsX4_counted := by decide +kernel
  obtain ⟨Q, hQ⟩ : ∃ Q, Q = MQ below (va_Qi (fun z u => z = cnm I o ns nt cf rf 6 ∧ u = (S, V, sT V, I)) (fun u t => fb_P D y A u t) A) (([.ref (sa S o), .int 6] : List Value).toArray) s 0 0 A := ⟨_, rfl⟩
  rw [← hQ]
  have hns : ns ≤ 12 := hF.2.2.1
  have hnt : nt ≤ 6 := hF.2.2.2.1
  refine lv_iconst (v := 0) hx hb dX4_counted_0 (by decide) ?_
  refine lv_istore_n (lv' := [(2, .int 0), (0, .ref (sa S o)), (1, .int 6)]) hx hb dX4_counted_1 rfl hl (by decide) rfl (fun ls hl => ?_)
  refine lv_iload_n hx hb dX4_counted_2 rfl (lv_at hl 2 rfl) ?_
  refine lv_tableIn (off := 162) (tgt := 165) hx hb dX4_counted_3 (by decide) (by decide) rfl (by decide) ?_
  refine lv_aload_n hx hb dX4_counted_165 rfl (lv_at hl 1 rfl) ?_
  refine fb_get (r := o) hx hb hown hts hin4 hM ((hA.1).1) (ce4 ((hA.1).2)) rfl 11 (by decide) (hts (.fieldLink RX4 93 "FeatherBedsModel" "yard" "I") (by decide +kernel)) (fun _ h9 => h9) (v := .int (I o 11)) rfl dX4_counted_166 ?_
  rw [hQ]
  exact fb_iret hx hb hr hlocks hM (⟨rfl, rfl⟩) dX4_counted_169

set_option maxHeartbeats 4000000 in
set_option maxRecDepth 100000 in
theorem c_X4_counted_7 (D : va_G) (y : Nat → ClassId) (l : Launch) (S : fb_Sh) (V I : fb_V) (o nt : Nat) (cf rf : Nat → Nat) (hA : MdAt S o nt cf rf) (ns : Nat) (df : Nat → Nat) (hF : MF I o ns nt cf rf df) : CI D y l yX4_counted wsX4_counted rm_X4_counted [.ref (sa S o), .int 7] (S, V, (sT V), I) (fun z u => z = cnm I o ns nt cf rf 7 ∧ u = (S, V, sT V, I)) 0 0 := by
  refine CI.of (cc := cX4_counted) (maxL := 7) (ret := (some .int)) (by decide) rfl (Nat.le_of_ble_eq_true rfl) ?_
  intro pv ev s mv below meth cv A hx hb hml hr hown hts hlocks hname hM ls hl
  have hown : s.vm.findClass RX4 = some mv.cls := hown
  have hl : lv_has ls 7 [(0, .ref (sa S o)), (1, .int 7)] := hl
  have hin4 : ∀ x ∈ wsX40, x ∈ wsX4_counted := by decide +kernel
  obtain ⟨Q, hQ⟩ : ∃ Q, Q = MQ below (va_Qi (fun z u => z = cnm I o ns nt cf rf 7 ∧ u = (S, V, sT V, I)) (fun u t => fb_P D y A u t) A) (([.ref (sa S o), .int 7] : List Value).toArray) s 0 0 A := ⟨_, rfl⟩
  rw [← hQ]
  have hns : ns ≤ 12 := hF.2.2.1
  have hnt : nt ≤ 6 := hF.2.2.2.1
  refine lv_iconst (v := 0) hx hb dX4_counted_0 (by decide) ?_
  refine lv_istore_n (lv' := [(2, .int 0), (0, .ref (sa S o)), (1, .int 7)]) hx hb dX4_counted_1 rfl hl (by decide) rfl (fun ls hl => ?_)
  refine lv_iload_n hx hb dX4_counted_2 rfl (lv_at hl 2 rfl) ?_
  refine lv_tableIn (off := 167) (tgt := 170) hx hb dX4_counted_3 (by decide) (by decide) rfl (by decide) ?_
  refine lv_aload_n hx hb dX4_counted_170 rfl (lv_at hl 1 rfl) ?_
  refine fb_get (r := o) hx hb hown hts hin4 hM ((hA.1).1) (ce4 ((hA.1).2)) rfl 12 (by decide) (hts (.fieldLink RX4 150 "FeatherBedsModel" "pricked" "I") (by decide +kernel)) (fun _ h9 => h9) (v := .int (I o 12)) rfl dX4_counted_171 ?_
  rw [hQ]
  exact fb_iret hx hb hr hlocks hM (⟨rfl, rfl⟩) dX4_counted_174

set_option maxHeartbeats 4000000 in
set_option maxRecDepth 100000 in
theorem c_X4_counted_8 (D : va_G) (y : Nat → ClassId) (l : Launch) (S : fb_Sh) (V I : fb_V) (o nt : Nat) (cf rf : Nat → Nat) (hA : MdAt S o nt cf rf) (ns : Nat) (df : Nat → Nat) (hF : MF I o ns nt cf rf df) : CI D y l yX4_counted wsX4_counted rm_X4_counted [.ref (sa S o), .int 8] (S, V, (sT V), I) (fun z u => z = cnm I o ns nt cf rf 8 ∧ u = (S, V, sT V, I)) 0 0 := by
  refine CI.of (cc := cX4_counted) (maxL := 7) (ret := (some .int)) (by decide) rfl (Nat.le_of_ble_eq_true rfl) ?_
  intro pv ev s mv below meth cv A hx hb hml hr hown hts hlocks hname hM ls hl
  have hown : s.vm.findClass RX4 = some mv.cls := hown
  have hl : lv_has ls 7 [(0, .ref (sa S o)), (1, .int 8)] := hl
  have hin4 : ∀ x ∈ wsX40, x ∈ wsX4_counted := by decide +kernel
  obtain ⟨Q, hQ⟩ : ∃ Q, Q = MQ below (va_Qi (fun z u => z = cnm I o ns nt cf rf 8 ∧ u = (S, V, sT V, I)) (fun u t => fb_P D y A u t) A) (([.ref (sa S o), .int 8] : List Value).toArray) s 0 0 A := ⟨_, rfl⟩
  rw [← hQ]
  have hns : ns ≤ 12 := hF.2.2.1
  have hnt : nt ≤ 6 := hF.2.2.2.1
  refine lv_iconst (v := 0) hx hb dX4_counted_0 (by decide) ?_
  refine lv_istore_n (lv' := [(2, .int 0), (0, .ref (sa S o)), (1, .int 8)]) hx hb dX4_counted_1 rfl hl (by decide) rfl (fun ls hl => ?_)
  refine lv_iload_n hx hb dX4_counted_2 rfl (lv_at hl 2 rfl) ?_
  refine lv_tableOut (tgt := 175) hx hb dX4_counted_3 (by decide) (by decide) ?_
  refine lv_aload_n hx hb dX4_counted_175 rfl (lv_at hl 1 rfl) ?_
  refine fb_get (r := o) hx hb hown hts hin4 hM ((hA.1).1) (ce4 ((hA.1).2)) rfl 4 (by decide) (hts (.fieldLink RX4 16 "FeatherBedsModel" "wind" "I") (by decide +kernel)) (fun _ h9 => h9) (v := .int (I o 4)) rfl dX4_counted_176 ?_
  rw [hQ]
  exact fb_iret hx hb hr hlocks hM (⟨rfl, rfl⟩) dX4_counted_179

abbrev rm_X4_take : Room := { frames := 2, cells := 0, slots := 0, locals := 52 }
set_option maxHeartbeats 4000000 in
set_option maxRecDepth 100000 in
theorem c_X4_take (D : va_G) (y : Nat → ClassId) (l : Launch) (S : fb_Sh) (V I : fb_V) (o nt : Nat) (cf rf : Nat → Nat) (hA : MdAt S o nt cf rf) (ns : Nat) (df : Nat → Nat) (hF : MF I o ns nt cf rf df) (t : Nat) (ht : t < nt) (q : Nat) (hq : q < cf t * rf t) (a La : Nat) (h1 : a ∈ sR S) (h2 : sk S a = 6) (h3 : sn S a = La) (hLa : La < 2 ^ 31) (p : Nat) (hp : 6 * p + 6 ≤ La) (hd : a ≠ o + 10 + t ∨ p ≠ q) (mm : Int32) : CI D y l yX4_take wsX4_take rm_X4_take [.ref (sa S o), .ref (sa S a), .int (nI p), .int (nI t), .int (nI q), .int mm] (S, V, (sT V), I) (fun z u => z = (tkg (I a) p (I (o + 10 + t)) q mm) ∧ u = (S, V, sT V, mvI I a p (o + 10 + t) q (tkg (I a) p (I (o + 10 + t)) q mm) 6)) 0 0 := by
  refine CI.of (cc := cX4_take) (maxL := 7) (ret := (some .int)) (by decide) rfl (Nat.le_of_ble_eq_true rfl) ?_
  intro pv ev s mv below meth cv A hx hb hml hr hown hts hlocks hname hM ls hl
  have hown : s.vm.findClass RX4 = some mv.cls := hown
  have hl : lv_has ls 7 [(0, .ref (sa S o)), (1, .ref (sa S a)), (2, .int (nI p)), (3, .int (nI t)), (4, .int (nI q)), (5, .int mm)] := hl
  have hin4 : ∀ x ∈ wsX40, x ∈ wsX4_take := by decide +kernel
  obtain ⟨Q, hQ⟩ : ∃ Q, Q = MQ below (va_Qi (fun z u => z = (tkg (I a) p (I (o + 10 + t)) q mm) ∧ u = (S, V, sT V, mvI I a p (o + 10 + t) q (tkg (I a) p (I (o + 10 + t)) q mm) 6)) (fun u t => fb_P D y A u t) A) (([.ref (sa S o), .ref (sa S a), .int (nI p), .int (nI t), .int (nI q), .int mm] : List Value).toArray) s 0 0 A := ⟨_, rfl⟩
  rw [← hQ]
  have hns : ns ≤ 12 := hF.2.2.1
  have hnt : nt ≤ 6 := hF.2.2.2.1
  have hcr := hF.cr ht
  have htF := hF.2.2.2.2.1 t ht
  refine lv_iload hx hb dX4_take_0 (lv_at hl 5 rfl) ?_
  refine lv_aload_n hx hb dX4_take_2 rfl (lv_at hl 1 rfl) ?_
  refine lv_iload_n hx hb dX4_take_3 rfl (lv_at hl 2 rfl) ?_
  refine fb_callSi hx hb hml hown hts hM (As := [.ref (sa S a), .int (nI p)]) (rest := [.int mm]) (c_X4_all D y l S V I a La h1 h2 h3 (by omega) p (by omega)) (cwS 2 hts gX4_take_X4_all rfl rfl rfl (by decide +kernel) ⟨Nat.le_of_ble_eq_true rfl, Nat.le_of_ble_eq_true rfl⟩) rfl hl.1 rfl (Nat.le_of_ble_eq_true rfl) dX4_take_4 ⟨Nat.le_of_ble_eq_true rfl, Nat.le_of_ble_eq_true rfl⟩ (fun v_1 u H locs hp hM => ?_)
  obtain ⟨hv, hu⟩ := hp
  have hv := Eq.symm hv
  have hu := Eq.symm hu
  subst hv
  subst hu
  refine lv_sipush (v := 300) hx hb dX4_take_7 (by decide) ?_
  refine lv_aload_n hx hb dX4_take_10 rfl (lv_at hl 0 rfl) ?_
  refine fb_get (r := o) hx hb hown hts hin4 hM ((hA.1).1) (ce4 ((hA.1).2)) rfl 8 (by decide) (hts (.fieldLink RX4 27 "FeatherBedsModel" "squares" "[[I") (by decide +kernel)) (fun _ h9 => h9) (v := .ref (sa S (o + 5))) (congrArg (fun z => some (va_rf z)) ((hA.2.1).2.2.2.2.1)) dX4_take_11 ?_
  refine lv_iload_n hx hb dX4_take_14 rfl (lv_at hl 3 rfl) ?_
  refine fb_aaldA (r := (o + 5)) hx hb hM ((hA.2.2.2.2.2.2.1).1) (ce10 ((hA.2.2.2.2.2.2.1).2.1)) 4 rfl (k := t) (nI_clamp (by omega)) (b := sa S (o + 10 + t)) (((hA.2.2.2.2.2.2.2.2.2) t (by omega)).1.1) (by rw [(hA.2.2.2.2.2.2.1).2.2]; exact vp_in_nI (by omega) (by omega)) dX4_take_15 ?_
  refine lv_iload hx hb dX4_take_16 (lv_at hl 4 rfl) ?_
  refine fb_callSi hx hb hml hown hts hM (As := [.ref (sa S (o + 10 + t)), .int (nI q)]) (rest := [.int 300, .int (s6 (mx (I a) p)), .int mm]) (c_X4_all D y l S V I (o + 10 + t) (6 * (cf t * rf t)) (hA.2.2.2.2.2.2.2.2.2 t ht).1.2.1 (hA.2.2.2.2.2.2.2.2.2 t ht).1.2.2.1 (hA.2.2.2.2.2.2.2.2.2 t ht).1.2.2.2 (by omega) q (by omega)) (cwS 2 hts gX4_take_X4_all rfl rfl rfl (by decide +kernel) ⟨Nat.le_of_ble_eq_true rfl, Nat.le_of_ble_eq_true rfl⟩) rfl hl.1 rfl (Nat.le_of_ble_eq_true rfl) dX4_take_18 ⟨Nat.le_of_ble_eq_true rfl, Nat.le_of_ble_eq_true rfl⟩ (fun v_2 u H locs hp hM => ?_)
  obtain ⟨hv, hu⟩ := hp
  have hv := Eq.symm hv
  have hu := Eq.symm hu
  subst hv
  subst hu
  refine lv_isub hx hb dX4_take_21 ?_
  refine va_mmin hx hb (hml.trans hl.1.symm) hown (hts (.methodLink RX4 83 Lib.Math.min.name) (by decide +kernel)) (hts (.static Lib.Math.min.name) (by decide +kernel)) (hts (.initialized "java/lang/Math") (by decide +kernel)) (hts (.code Lib.Math.min.name Lib.Math.min.code 2 (some .int)) (by decide +kernel)) (Nat.le_of_ble_eq_true rfl) (Nat.le_of_ble_eq_true rfl) (Nat.le_of_ble_eq_true rfl) (Nat.le_of_ble_eq_true rfl) dX4_take_22 ?_
  refine va_mmin hx hb (hml.trans hl.1.symm) hown (hts (.methodLink RX4 83 Lib.Math.min.name) (by decide +kernel)) (hts (.static Lib.Math.min.name) (by decide +kernel)) (hts (.initialized "java/lang/Math") (by decide +kernel)) (hts (.code Lib.Math.min.name Lib.Math.min.code 2 (some .int)) (by decide +kernel)) (Nat.le_of_ble_eq_true rfl) (Nat.le_of_ble_eq_true rfl) (Nat.le_of_ble_eq_true rfl) (Nat.le_of_ble_eq_true rfl) dX4_take_25 ?_
  refine W.eq (g2 := F0 mv _ ls (.int ((tkg (I a) p (I (o + 10 + t)) q mm)) :: [])) (by first | rfl | rw [show (if if 300 - (s6 (mx (I (o + 10 + t)) q)) < s6 (mx (I a) p) then 300 - (s6 (mx (I (o + 10 + t)) q)) else s6 (mx (I a) p) < mm then if 300 - (s6 (mx (I (o + 10 + t)) q)) < s6 (mx (I a) p) then 300 - (s6 (mx (I (o + 10 + t)) q)) else s6 (mx (I a) p) else mm : Int32) = (tkg (I a) p (I (o + 10 + t)) q mm) from rfl]) ?_
  refine lv_istore (lv' := [(6, .int ((tkg (I a) p (I (o + 10 + t)) q mm))), (0, .ref (sa S o)), (1, .ref (sa S a)), (2, .int (nI p)), (3, .int (nI t)), (4, .int (nI q)), (5, .int mm)]) hx hb dX4_take_28 hl (by decide) rfl (fun ls hl => ?_)
  refine lv_aload_n hx hb dX4_take_30 rfl (lv_at hl 2 rfl) ?_
  refine lv_iload_n hx hb dX4_take_31 rfl (lv_at hl 3 rfl) ?_
  refine lv_aload_n hx hb dX4_take_32 rfl (lv_at hl 1 rfl) ?_
  refine fb_get (r := o) hx hb hown hts hin4 hM ((hA.1).1) (ce4 ((hA.1).2)) rfl 8 (by decide) (hts (.fieldLink RX4 27 "FeatherBedsModel" "squares" "[[I") (by decide +kernel)) (fun _ h9 => h9) (v := .ref (sa S (o + 5))) (congrArg (fun z => some (va_rf z)) ((hA.2.1).2.2.2.2.1)) dX4_take_33 ?_
  refine lv_iload_n hx hb dX4_take_36 rfl (lv_at hl 4 rfl) ?_
  refine fb_aaldA (r := (o + 5)) hx hb hM ((hA.2.2.2.2.2.2.1).1) (ce10 ((hA.2.2.2.2.2.2.1).2.1)) 4 rfl (k := t) (nI_clamp (by omega)) (b := sa S (o + 10 + t)) (((hA.2.2.2.2.2.2.2.2.2) t (by omega)).1.1) (by rw [(hA.2.2.2.2.2.2.1).2.2]; exact vp_in_nI (by omega) (by omega)) dX4_take_37 ?_
  refine lv_iload hx hb dX4_take_38 (lv_at hl 5 rfl) ?_
  refine lv_iload hx hb dX4_take_40 (lv_at hl 0 rfl) ?_
  refine lv_bipush (v := 6) hx hb dX4_take_42 (by decide) ?_
  refine fb_callSi hx hb hml hown hts hM (As := [.ref (sa S a), .int (nI p), .ref (sa S (o + 10 + t)), .int (nI q), .int ((tkg (I a) p (I (o + 10 + t)) q mm)), .int 6]) (rest := []) (c_X4_move D y l S V I a (o + 10 + t) La (6 * (cf t * rf t)) h1 h2 h3 (hA.2.2.2.2.2.2.2.2.2 t ht).1.2.1 (hA.2.2.2.2.2.2.2.2.2 t ht).1.2.2.1 (hA.2.2.2.2.2.2.2.2.2 t ht).1.2.2.2 hLa (by omega) p q hp (by omega) hd (tkg (I a) p (I (o + 10 + t)) q mm) 6 (by decide)) (cwS 6 hts gX4_take_X4_move rfl rfl rfl (by decide +kernel) ⟨Nat.le_of_ble_eq_true rfl, Nat.le_of_ble_eq_true rfl⟩) rfl hl.1 rfl (Nat.le_of_ble_eq_true rfl) dX4_take_44 ⟨Nat.le_of_ble_eq_true rfl, Nat.le_of_ble_eq_true rfl⟩ (fun v_3 u H locs hp hM => ?_)
  obtain ⟨hv, hu⟩ := hp
  have hv := Eq.symm hv
  have hu := Eq.symm hu
  subst hv
  subst hu
  refine lv_pop hx hb dX4_take_47 rfl ?_
  refine lv_iload hx hb dX4_take_48 (lv_at hl 0 rfl) ?_
  rw [hQ]
  exact fb_iret hx hb hr hlocks hM (⟨rfl, rfl⟩) dX4_take_50
