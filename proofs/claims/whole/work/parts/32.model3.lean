abbrev rm_X4_squareTold : Room := { frames := 4, cells := 0, slots := 0, locals := 90 }
set_option maxHeartbeats 4000000 in
set_option maxRecDepth 100000 in
theorem c_X4_squareTold_0 (D : va_G) (y : Nat → ClassId) (l : Launch) (S : fb_Sh) (V I : fb_V) (o nt : Nat) (cf rf : Nat → Nat) (hA : MdAt S o nt cf rf) (ns : Nat) (df : Nat → Nat) (hF : MF I o ns nt cf rf df) (t : Nat) (ht : t < nt) (q : Nat) (hq : q < cf t * rf t) : CI D y l yX4_squareTold wsX4_squareTold rm_X4_squareTold [.ref (sa S o), .int (nI t), .int (nI q), .int 0] (S, V, (sT V), I) (fun z u => z = mx (I (o + 10 + t)) q 0 ∧ u = (S, V, sT V, I)) 0 0 := by
  refine CI.of (cc := cX4_squareTold) (maxL := 4) (ret := (some .int)) (by decide) rfl (Nat.le_of_ble_eq_true rfl) ?_
  intro pv ev s mv below meth cv A hx hb hml hr hown hts hlocks hname hM ls hl
  have hown : s.vm.findClass RX4 = some mv.cls := hown
  have hl : lv_has ls 4 [(0, .ref (sa S o)), (1, .int (nI t)), (2, .int (nI q)), (3, .int 0)] := hl
  have hin4 : ∀ x ∈ wsX40, x ∈ wsX4_squareTold := by decide +kernel
  obtain ⟨Q, hQ⟩ : ∃ Q, Q = MQ below (va_Qi (fun z u => z = mx (I (o + 10 + t)) q 0 ∧ u = (S, V, sT V, I)) (fun u t => fb_P D y A u t) A) (([.ref (sa S o), .int (nI t), .int (nI q), .int 0] : List Value).toArray) s 0 0 A := ⟨_, rfl⟩
  rw [← hQ]
  have hns : ns ≤ 12 := hF.2.2.1
  have hnt : nt ≤ 6 := hF.2.2.2.1
  have hcr := hF.cr ht
  have htF := hF.2.2.2.2.1 t ht
  refine lv_iload_n hx hb dX4_squareTold_0 rfl (lv_at hl 3 rfl) ?_
  refine lv_tableOut (tgt := 69) hx hb dX4_squareTold_1 (by decide) (by decide) ?_
  refine lv_aload_n hx hb dX4_squareTold_69 rfl (lv_at hl 0 rfl) ?_
  refine fb_get (r := o) hx hb hown hts hin4 hM ((hA.1).1) (ce4 ((hA.1).2)) rfl 8 (by decide) (hts (.fieldLink RX4 27 "FeatherBedsModel" "squares" "[[I") (by decide +kernel)) (fun _ h9 => h9) (v := .ref (sa S (o + 5))) (congrArg (fun z => some (va_rf z)) ((hA.2.1).2.2.2.2.1)) dX4_squareTold_70 ?_
  refine lv_iload_n hx hb dX4_squareTold_73 rfl (lv_at hl 1 rfl) ?_
  refine fb_aaldA (r := (o + 5)) hx hb hM ((hA.2.2.2.2.2.2.1).1) (ce10 ((hA.2.2.2.2.2.2.1).2.1)) 4 rfl (k := t) (nI_clamp (by omega)) (b := sa S (o + 10 + t)) (((hA.2.2.2.2.2.2.2.2.2) t (by omega)).1.1) (by rw [(hA.2.2.2.2.2.2.1).2.2]; exact vp_in_nI (by omega) (by omega)) dX4_squareTold_74 ?_
  refine lv_bipush (v := 6) hx hb dX4_squareTold_75 (by decide) ?_
  refine lv_iload_n hx hb dX4_squareTold_77 rfl (lv_at hl 2 rfl) ?_
  refine lv_imul hx hb dX4_squareTold_78 ?_
  refine W.eq (g2 := F0 mv _ ls (.int (nI (6 * q)) :: .ref (sa S (o + 10 + t)) :: [])) (by first | rfl | rw [show (6 * (nI q) : Int32) = nI (6 * q) from pk_mul 6 q]) ?_
  refine lv_iload_n hx hb dX4_squareTold_79 rfl (lv_at hl 3 rfl) ?_
  refine lv_iadd hx hb dX4_squareTold_80 ?_
  refine W.eq (g2 := F0 mv _ ls (.int (nI (6 * q + 0)) :: .ref (sa S (o + 10 + t)) :: [])) (by first | rfl | rw [show ((nI (6 * q)) + 0 : Int32) = nI (6 * q + 0) from nI_add _ 0]) ?_
  refine fb_iald (r := (o + 10 + t)) hx hb hM (((hA.2.2.2.2.2.2.2.2.2) t (by omega)).1.2.1) (ce6 (((hA.2.2.2.2.2.2.2.2.2) t (by omega)).1.2.2.1)) (k := 6 * q + 0) (nI_clamp (by omega)) (by rw [((hA.2.2.2.2.2.2.2.2.2) t (by omega)).1.2.2.2]; exact vp_in_nI (by omega) (by omega)) dX4_squareTold_81 ?_
  rw [hQ]
  exact fb_iret hx hb hr hlocks hM (⟨rfl, rfl⟩) dX4_squareTold_82

set_option maxHeartbeats 4000000 in
set_option maxRecDepth 100000 in
theorem c_X4_squareTold_1 (D : va_G) (y : Nat → ClassId) (l : Launch) (S : fb_Sh) (V I : fb_V) (o nt : Nat) (cf rf : Nat → Nat) (hA : MdAt S o nt cf rf) (ns : Nat) (df : Nat → Nat) (hF : MF I o ns nt cf rf df) (t : Nat) (ht : t < nt) (q : Nat) (hq : q < cf t * rf t) : CI D y l yX4_squareTold wsX4_squareTold rm_X4_squareTold [.ref (sa S o), .int (nI t), .int (nI q), .int 1] (S, V, (sT V), I) (fun z u => z = mx (I (o + 10 + t)) q 1 ∧ u = (S, V, sT V, I)) 0 0 := by
  refine CI.of (cc := cX4_squareTold) (maxL := 4) (ret := (some .int)) (by decide) rfl (Nat.le_of_ble_eq_true rfl) ?_
  intro pv ev s mv below meth cv A hx hb hml hr hown hts hlocks hname hM ls hl
  have hown : s.vm.findClass RX4 = some mv.cls := hown
  have hl : lv_has ls 4 [(0, .ref (sa S o)), (1, .int (nI t)), (2, .int (nI q)), (3, .int 1)] := hl
  have hin4 : ∀ x ∈ wsX40, x ∈ wsX4_squareTold := by decide +kernel
  obtain ⟨Q, hQ⟩ : ∃ Q, Q = MQ below (va_Qi (fun z u => z = mx (I (o + 10 + t)) q 1 ∧ u = (S, V, sT V, I)) (fun u t => fb_P D y A u t) A) (([.ref (sa S o), .int (nI t), .int (nI q), .int 1] : List Value).toArray) s 0 0 A := ⟨_, rfl⟩
  rw [← hQ]
  have hns : ns ≤ 12 := hF.2.2.1
  have hnt : nt ≤ 6 := hF.2.2.2.1
  have hcr := hF.cr ht
  have htF := hF.2.2.2.2.1 t ht
  refine lv_iload_n hx hb dX4_squareTold_0 rfl (lv_at hl 3 rfl) ?_
  refine lv_tableOut (tgt := 69) hx hb dX4_squareTold_1 (by decide) (by decide) ?_
  refine lv_aload_n hx hb dX4_squareTold_69 rfl (lv_at hl 0 rfl) ?_
  refine fb_get (r := o) hx hb hown hts hin4 hM ((hA.1).1) (ce4 ((hA.1).2)) rfl 8 (by decide) (hts (.fieldLink RX4 27 "FeatherBedsModel" "squares" "[[I") (by decide +kernel)) (fun _ h9 => h9) (v := .ref (sa S (o + 5))) (congrArg (fun z => some (va_rf z)) ((hA.2.1).2.2.2.2.1)) dX4_squareTold_70 ?_
  refine lv_iload_n hx hb dX4_squareTold_73 rfl (lv_at hl 1 rfl) ?_
  refine fb_aaldA (r := (o + 5)) hx hb hM ((hA.2.2.2.2.2.2.1).1) (ce10 ((hA.2.2.2.2.2.2.1).2.1)) 4 rfl (k := t) (nI_clamp (by omega)) (b := sa S (o + 10 + t)) (((hA.2.2.2.2.2.2.2.2.2) t (by omega)).1.1) (by rw [(hA.2.2.2.2.2.2.1).2.2]; exact vp_in_nI (by omega) (by omega)) dX4_squareTold_74 ?_
  refine lv_bipush (v := 6) hx hb dX4_squareTold_75 (by decide) ?_
  refine lv_iload_n hx hb dX4_squareTold_77 rfl (lv_at hl 2 rfl) ?_
  refine lv_imul hx hb dX4_squareTold_78 ?_
  refine W.eq (g2 := F0 mv _ ls (.int (nI (6 * q)) :: .ref (sa S (o + 10 + t)) :: [])) (by first | rfl | rw [show (6 * (nI q) : Int32) = nI (6 * q) from pk_mul 6 q]) ?_
  refine lv_iload_n hx hb dX4_squareTold_79 rfl (lv_at hl 3 rfl) ?_
  refine lv_iadd hx hb dX4_squareTold_80 ?_
  refine W.eq (g2 := F0 mv _ ls (.int (nI (6 * q + 1)) :: .ref (sa S (o + 10 + t)) :: [])) (by first | rfl | rw [show ((nI (6 * q)) + 1 : Int32) = nI (6 * q + 1) from nI_add _ 1]) ?_
  refine fb_iald (r := (o + 10 + t)) hx hb hM (((hA.2.2.2.2.2.2.2.2.2) t (by omega)).1.2.1) (ce6 (((hA.2.2.2.2.2.2.2.2.2) t (by omega)).1.2.2.1)) (k := 6 * q + 1) (nI_clamp (by omega)) (by rw [((hA.2.2.2.2.2.2.2.2.2) t (by omega)).1.2.2.2]; exact vp_in_nI (by omega) (by omega)) dX4_squareTold_81 ?_
  rw [hQ]
  exact fb_iret hx hb hr hlocks hM (⟨rfl, rfl⟩) dX4_squareTold_82

set_option maxHeartbeats 4000000 in
set_option maxRecDepth 100000 in
theorem c_X4_squareTold_2 (D : va_G) (y : Nat → ClassId) (l : Launch) (S : fb_Sh) (V I : fb_V) (o nt : Nat) (cf rf : Nat → Nat) (hA : MdAt S o nt cf rf) (ns : Nat) (df : Nat → Nat) (hF : MF I o ns nt cf rf df) (t : Nat) (ht : t < nt) (q : Nat) (hq : q < cf t * rf t) : CI D y l yX4_squareTold wsX4_squareTold rm_X4_squareTold [.ref (sa S o), .int (nI t), .int (nI q), .int 2] (S, V, (sT V), I) (fun z u => z = mx (I (o + 10 + t)) q 2 ∧ u = (S, V, sT V, I)) 0 0 := by
  refine CI.of (cc := cX4_squareTold) (maxL := 4) (ret := (some .int)) (by decide) rfl (Nat.le_of_ble_eq_true rfl) ?_
  intro pv ev s mv below meth cv A hx hb hml hr hown hts hlocks hname hM ls hl
  have hown : s.vm.findClass RX4 = some mv.cls := hown
  have hl : lv_has ls 4 [(0, .ref (sa S o)), (1, .int (nI t)), (2, .int (nI q)), (3, .int 2)] := hl
  have hin4 : ∀ x ∈ wsX40, x ∈ wsX4_squareTold := by decide +kernel
  obtain ⟨Q, hQ⟩ : ∃ Q, Q = MQ below (va_Qi (fun z u => z = mx (I (o + 10 + t)) q 2 ∧ u = (S, V, sT V, I)) (fun u t => fb_P D y A u t) A) (([.ref (sa S o), .int (nI t), .int (nI q), .int 2] : List Value).toArray) s 0 0 A := ⟨_, rfl⟩
  rw [← hQ]
  have hns : ns ≤ 12 := hF.2.2.1
  have hnt : nt ≤ 6 := hF.2.2.2.1
  have hcr := hF.cr ht
  have htF := hF.2.2.2.2.1 t ht
  refine lv_iload_n hx hb dX4_squareTold_0 rfl (lv_at hl 3 rfl) ?_
  refine lv_tableOut (tgt := 69) hx hb dX4_squareTold_1 (by decide) (by decide) ?_
  refine lv_aload_n hx hb dX4_squareTold_69 rfl (lv_at hl 0 rfl) ?_
  refine fb_get (r := o) hx hb hown hts hin4 hM ((hA.1).1) (ce4 ((hA.1).2)) rfl 8 (by decide) (hts (.fieldLink RX4 27 "FeatherBedsModel" "squares" "[[I") (by decide +kernel)) (fun _ h9 => h9) (v := .ref (sa S (o + 5))) (congrArg (fun z => some (va_rf z)) ((hA.2.1).2.2.2.2.1)) dX4_squareTold_70 ?_
  refine lv_iload_n hx hb dX4_squareTold_73 rfl (lv_at hl 1 rfl) ?_
  refine fb_aaldA (r := (o + 5)) hx hb hM ((hA.2.2.2.2.2.2.1).1) (ce10 ((hA.2.2.2.2.2.2.1).2.1)) 4 rfl (k := t) (nI_clamp (by omega)) (b := sa S (o + 10 + t)) (((hA.2.2.2.2.2.2.2.2.2) t (by omega)).1.1) (by rw [(hA.2.2.2.2.2.2.1).2.2]; exact vp_in_nI (by omega) (by omega)) dX4_squareTold_74 ?_
  refine lv_bipush (v := 6) hx hb dX4_squareTold_75 (by decide) ?_
  refine lv_iload_n hx hb dX4_squareTold_77 rfl (lv_at hl 2 rfl) ?_
  refine lv_imul hx hb dX4_squareTold_78 ?_
  refine W.eq (g2 := F0 mv _ ls (.int (nI (6 * q)) :: .ref (sa S (o + 10 + t)) :: [])) (by first | rfl | rw [show (6 * (nI q) : Int32) = nI (6 * q) from pk_mul 6 q]) ?_
  refine lv_iload_n hx hb dX4_squareTold_79 rfl (lv_at hl 3 rfl) ?_
  refine lv_iadd hx hb dX4_squareTold_80 ?_
  refine W.eq (g2 := F0 mv _ ls (.int (nI (6 * q + 2)) :: .ref (sa S (o + 10 + t)) :: [])) (by first | rfl | rw [show ((nI (6 * q)) + 2 : Int32) = nI (6 * q + 2) from nI_add _ 2]) ?_
  refine fb_iald (r := (o + 10 + t)) hx hb hM (((hA.2.2.2.2.2.2.2.2.2) t (by omega)).1.2.1) (ce6 (((hA.2.2.2.2.2.2.2.2.2) t (by omega)).1.2.2.1)) (k := 6 * q + 2) (nI_clamp (by omega)) (by rw [((hA.2.2.2.2.2.2.2.2.2) t (by omega)).1.2.2.2]; exact vp_in_nI (by omega) (by omega)) dX4_squareTold_81 ?_
  rw [hQ]
  exact fb_iret hx hb hr hlocks hM (⟨rfl, rfl⟩) dX4_squareTold_82

set_option maxHeartbeats 4000000 in
set_option maxRecDepth 100000 in
theorem c_X4_squareTold_3 (D : va_G) (y : Nat → ClassId) (l : Launch) (S : fb_Sh) (V I : fb_V) (o nt : Nat) (cf rf : Nat → Nat) (hA : MdAt S o nt cf rf) (ns : Nat) (df : Nat → Nat) (hF : MF I o ns nt cf rf df) (t : Nat) (ht : t < nt) (q : Nat) (hq : q < cf t * rf t) : CI D y l yX4_squareTold wsX4_squareTold rm_X4_squareTold [.ref (sa S o), .int (nI t), .int (nI q), .int 3] (S, V, (sT V), I) (fun z u => z = mx (I (o + 10 + t)) q 3 ∧ u = (S, V, sT V, I)) 0 0 := by
  refine CI.of (cc := cX4_squareTold) (maxL := 4) (ret := (some .int)) (by decide) rfl (Nat.le_of_ble_eq_true rfl) ?_
  intro pv ev s mv below meth cv A hx hb hml hr hown hts hlocks hname hM ls hl
  have hown : s.vm.findClass RX4 = some mv.cls := hown
  have hl : lv_has ls 4 [(0, .ref (sa S o)), (1, .int (nI t)), (2, .int (nI q)), (3, .int 3)] := hl
  have hin4 : ∀ x ∈ wsX40, x ∈ wsX4_squareTold := by decide +kernel
  obtain ⟨Q, hQ⟩ : ∃ Q, Q = MQ below (va_Qi (fun z u => z = mx (I (o + 10 + t)) q 3 ∧ u = (S, V, sT V, I)) (fun u t => fb_P D y A u t) A) (([.ref (sa S o), .int (nI t), .int (nI q), .int 3] : List Value).toArray) s 0 0 A := ⟨_, rfl⟩
  rw [← hQ]
  have hns : ns ≤ 12 := hF.2.2.1
  have hnt : nt ≤ 6 := hF.2.2.2.1
  have hcr := hF.cr ht
  have htF := hF.2.2.2.2.1 t ht
  refine lv_iload_n hx hb dX4_squareTold_0 rfl (lv_at hl 3 rfl) ?_
  refine lv_tableOut (tgt := 69) hx hb dX4_squareTold_1 (by decide) (by decide) ?_
  refine lv_aload_n hx hb dX4_squareTold_69 rfl (lv_at hl 0 rfl) ?_
  refine fb_get (r := o) hx hb hown hts hin4 hM ((hA.1).1) (ce4 ((hA.1).2)) rfl 8 (by decide) (hts (.fieldLink RX4 27 "FeatherBedsModel" "squares" "[[I") (by decide +kernel)) (fun _ h9 => h9) (v := .ref (sa S (o + 5))) (congrArg (fun z => some (va_rf z)) ((hA.2.1).2.2.2.2.1)) dX4_squareTold_70 ?_
  refine lv_iload_n hx hb dX4_squareTold_73 rfl (lv_at hl 1 rfl) ?_
  refine fb_aaldA (r := (o + 5)) hx hb hM ((hA.2.2.2.2.2.2.1).1) (ce10 ((hA.2.2.2.2.2.2.1).2.1)) 4 rfl (k := t) (nI_clamp (by omega)) (b := sa S (o + 10 + t)) (((hA.2.2.2.2.2.2.2.2.2) t (by omega)).1.1) (by rw [(hA.2.2.2.2.2.2.1).2.2]; exact vp_in_nI (by omega) (by omega)) dX4_squareTold_74 ?_
  refine lv_bipush (v := 6) hx hb dX4_squareTold_75 (by decide) ?_
  refine lv_iload_n hx hb dX4_squareTold_77 rfl (lv_at hl 2 rfl) ?_
  refine lv_imul hx hb dX4_squareTold_78 ?_
  refine W.eq (g2 := F0 mv _ ls (.int (nI (6 * q)) :: .ref (sa S (o + 10 + t)) :: [])) (by first | rfl | rw [show (6 * (nI q) : Int32) = nI (6 * q) from pk_mul 6 q]) ?_
  refine lv_iload_n hx hb dX4_squareTold_79 rfl (lv_at hl 3 rfl) ?_
  refine lv_iadd hx hb dX4_squareTold_80 ?_
  refine W.eq (g2 := F0 mv _ ls (.int (nI (6 * q + 3)) :: .ref (sa S (o + 10 + t)) :: [])) (by first | rfl | rw [show ((nI (6 * q)) + 3 : Int32) = nI (6 * q + 3) from nI_add _ 3]) ?_
  refine fb_iald (r := (o + 10 + t)) hx hb hM (((hA.2.2.2.2.2.2.2.2.2) t (by omega)).1.2.1) (ce6 (((hA.2.2.2.2.2.2.2.2.2) t (by omega)).1.2.2.1)) (k := 6 * q + 3) (nI_clamp (by omega)) (by rw [((hA.2.2.2.2.2.2.2.2.2) t (by omega)).1.2.2.2]; exact vp_in_nI (by omega) (by omega)) dX4_squareTold_81 ?_
  rw [hQ]
  exact fb_iret hx hb hr hlocks hM (⟨rfl, rfl⟩) dX4_squareTold_82

set_option maxHeartbeats 4000000 in
set_option maxRecDepth 100000 in
theorem c_X4_squareTold_4 (D : va_G) (y : Nat → ClassId) (l : Launch) (S : fb_Sh) (V I : fb_V) (o nt : Nat) (cf rf : Nat → Nat) (hA : MdAt S o nt cf rf) (ns : Nat) (df : Nat → Nat) (hF : MF I o ns nt cf rf df) (t : Nat) (ht : t < nt) (q : Nat) (hq : q < cf t * rf t) : CI D y l yX4_squareTold wsX4_squareTold rm_X4_squareTold [.ref (sa S o), .int (nI t), .int (nI q), .int 4] (S, V, (sT V), I) (fun z u => z = mx (I (o + 10 + t)) q 4 ∧ u = (S, V, sT V, I)) 0 0 := by
  refine CI.of (cc := cX4_squareTold) (maxL := 4) (ret := (some .int)) (by decide) rfl (Nat.le_of_ble_eq_true rfl) ?_
  intro pv ev s mv below meth cv A hx hb hml hr hown hts hlocks hname hM ls hl
  have hown : s.vm.findClass RX4 = some mv.cls := hown
  have hl : lv_has ls 4 [(0, .ref (sa S o)), (1, .int (nI t)), (2, .int (nI q)), (3, .int 4)] := hl
  have hin4 : ∀ x ∈ wsX40, x ∈ wsX4_squareTold := by decide +kernel
  obtain ⟨Q, hQ⟩ : ∃ Q, Q = MQ below (va_Qi (fun z u => z = mx (I (o + 10 + t)) q 4 ∧ u = (S, V, sT V, I)) (fun u t => fb_P D y A u t) A) (([.ref (sa S o), .int (nI t), .int (nI q), .int 4] : List Value).toArray) s 0 0 A := ⟨_, rfl⟩
  rw [← hQ]
  have hns : ns ≤ 12 := hF.2.2.1
  have hnt : nt ≤ 6 := hF.2.2.2.1
  have hcr := hF.cr ht
  have htF := hF.2.2.2.2.1 t ht
  refine lv_iload_n hx hb dX4_squareTold_0 rfl (lv_at hl 3 rfl) ?_
  refine lv_tableOut (tgt := 69) hx hb dX4_squareTold_1 (by decide) (by decide) ?_
  refine lv_aload_n hx hb dX4_squareTold_69 rfl (lv_at hl 0 rfl) ?_
  refine fb_get (r := o) hx hb hown hts hin4 hM ((hA.1).1) (ce4 ((hA.1).2)) rfl 8 (by decide) (hts (.fieldLink RX4 27 "FeatherBedsModel" "squares" "[[I") (by decide +kernel)) (fun _ h9 => h9) (v := .ref (sa S (o + 5))) (congrArg (fun z => some (va_rf z)) ((hA.2.1).2.2.2.2.1)) dX4_squareTold_70 ?_
  refine lv_iload_n hx hb dX4_squareTold_73 rfl (lv_at hl 1 rfl) ?_
  refine fb_aaldA (r := (o + 5)) hx hb hM ((hA.2.2.2.2.2.2.1).1) (ce10 ((hA.2.2.2.2.2.2.1).2.1)) 4 rfl (k := t) (nI_clamp (by omega)) (b := sa S (o + 10 + t)) (((hA.2.2.2.2.2.2.2.2.2) t (by omega)).1.1) (by rw [(hA.2.2.2.2.2.2.1).2.2]; exact vp_in_nI (by omega) (by omega)) dX4_squareTold_74 ?_
  refine lv_bipush (v := 6) hx hb dX4_squareTold_75 (by decide) ?_
  refine lv_iload_n hx hb dX4_squareTold_77 rfl (lv_at hl 2 rfl) ?_
  refine lv_imul hx hb dX4_squareTold_78 ?_
  refine W.eq (g2 := F0 mv _ ls (.int (nI (6 * q)) :: .ref (sa S (o + 10 + t)) :: [])) (by first | rfl | rw [show (6 * (nI q) : Int32) = nI (6 * q) from pk_mul 6 q]) ?_
  refine lv_iload_n hx hb dX4_squareTold_79 rfl (lv_at hl 3 rfl) ?_
  refine lv_iadd hx hb dX4_squareTold_80 ?_
  refine W.eq (g2 := F0 mv _ ls (.int (nI (6 * q + 4)) :: .ref (sa S (o + 10 + t)) :: [])) (by first | rfl | rw [show ((nI (6 * q)) + 4 : Int32) = nI (6 * q + 4) from nI_add _ 4]) ?_
  refine fb_iald (r := (o + 10 + t)) hx hb hM (((hA.2.2.2.2.2.2.2.2.2) t (by omega)).1.2.1) (ce6 (((hA.2.2.2.2.2.2.2.2.2) t (by omega)).1.2.2.1)) (k := 6 * q + 4) (nI_clamp (by omega)) (by rw [((hA.2.2.2.2.2.2.2.2.2) t (by omega)).1.2.2.2]; exact vp_in_nI (by omega) (by omega)) dX4_squareTold_81 ?_
  rw [hQ]
  exact fb_iret hx hb hr hlocks hM (⟨rfl, rfl⟩) dX4_squareTold_82

set_option maxHeartbeats 4000000 in
set_option maxRecDepth 100000 in
theorem c_X4_squareTold_5 (D : va_G) (y : Nat → ClassId) (l : Launch) (S : fb_Sh) (V I : fb_V) (o nt : Nat) (cf rf : Nat → Nat) (hA : MdAt S o nt cf rf) (ns : Nat) (df : Nat → Nat) (hF : MF I o ns nt cf rf df) (t : Nat) (ht : t < nt) (q : Nat) (hq : q < cf t * rf t) : CI D y l yX4_squareTold wsX4_squareTold rm_X4_squareTold [.ref (sa S o), .int (nI t), .int (nI q), .int 5] (S, V, (sT V), I) (fun z u => z = mx (I (o + 10 + t)) q 5 ∧ u = (S, V, sT V, I)) 0 0 := by
  refine CI.of (cc := cX4_squareTold) (maxL := 4) (ret := (some .int)) (by decide) rfl (Nat.le_of_ble_eq_true rfl) ?_
  intro pv ev s mv below meth cv A hx hb hml hr hown hts hlocks hname hM ls hl
  have hown : s.vm.findClass RX4 = some mv.cls := hown
  have hl : lv_has ls 4 [(0, .ref (sa S o)), (1, .int (nI t)), (2, .int (nI q)), (3, .int 5)] := hl
  have hin4 : ∀ x ∈ wsX40, x ∈ wsX4_squareTold := by decide +kernel
  obtain ⟨Q, hQ⟩ : ∃ Q, Q = MQ below (va_Qi (fun z u => z = mx (I (o + 10 + t)) q 5 ∧ u = (S, V, sT V, I)) (fun u t => fb_P D y A u t) A) (([.ref (sa S o), .int (nI t), .int (nI q), .int 5] : List Value).toArray) s 0 0 A := ⟨_, rfl⟩
  rw [← hQ]
  have hns : ns ≤ 12 := hF.2.2.1
  have hnt : nt ≤ 6 := hF.2.2.2.1
  have hcr := hF.cr ht
  have htF := hF.2.2.2.2.1 t ht
  refine lv_iload_n hx hb dX4_squareTold_0 rfl (lv_at hl 3 rfl) ?_
  refine lv_tableOut (tgt := 69) hx hb dX4_squareTold_1 (by decide) (by decide) ?_
  refine lv_aload_n hx hb dX4_squareTold_69 rfl (lv_at hl 0 rfl) ?_
  refine fb_get (r := o) hx hb hown hts hin4 hM ((hA.1).1) (ce4 ((hA.1).2)) rfl 8 (by decide) (hts (.fieldLink RX4 27 "FeatherBedsModel" "squares" "[[I") (by decide +kernel)) (fun _ h9 => h9) (v := .ref (sa S (o + 5))) (congrArg (fun z => some (va_rf z)) ((hA.2.1).2.2.2.2.1)) dX4_squareTold_70 ?_
  refine lv_iload_n hx hb dX4_squareTold_73 rfl (lv_at hl 1 rfl) ?_
  refine fb_aaldA (r := (o + 5)) hx hb hM ((hA.2.2.2.2.2.2.1).1) (ce10 ((hA.2.2.2.2.2.2.1).2.1)) 4 rfl (k := t) (nI_clamp (by omega)) (b := sa S (o + 10 + t)) (((hA.2.2.2.2.2.2.2.2.2) t (by omega)).1.1) (by rw [(hA.2.2.2.2.2.2.1).2.2]; exact vp_in_nI (by omega) (by omega)) dX4_squareTold_74 ?_
  refine lv_bipush (v := 6) hx hb dX4_squareTold_75 (by decide) ?_
  refine lv_iload_n hx hb dX4_squareTold_77 rfl (lv_at hl 2 rfl) ?_
  refine lv_imul hx hb dX4_squareTold_78 ?_
  refine W.eq (g2 := F0 mv _ ls (.int (nI (6 * q)) :: .ref (sa S (o + 10 + t)) :: [])) (by first | rfl | rw [show (6 * (nI q) : Int32) = nI (6 * q) from pk_mul 6 q]) ?_
  refine lv_iload_n hx hb dX4_squareTold_79 rfl (lv_at hl 3 rfl) ?_
  refine lv_iadd hx hb dX4_squareTold_80 ?_
  refine W.eq (g2 := F0 mv _ ls (.int (nI (6 * q + 5)) :: .ref (sa S (o + 10 + t)) :: [])) (by first | rfl | rw [show ((nI (6 * q)) + 5 : Int32) = nI (6 * q + 5) from nI_add _ 5]) ?_
  refine fb_iald (r := (o + 10 + t)) hx hb hM (((hA.2.2.2.2.2.2.2.2.2) t (by omega)).1.2.1) (ce6 (((hA.2.2.2.2.2.2.2.2.2) t (by omega)).1.2.2.1)) (k := 6 * q + 5) (nI_clamp (by omega)) (by rw [((hA.2.2.2.2.2.2.2.2.2) t (by omega)).1.2.2.2]; exact vp_in_nI (by omega) (by omega)) dX4_squareTold_81 ?_
  rw [hQ]
  exact fb_iret hx hb hr hlocks hM (⟨rfl, rfl⟩) dX4_squareTold_82

set_option maxHeartbeats 4000000 in
set_option maxRecDepth 100000 in
theorem c_X4_squareTold_6 (D : va_G) (y : Nat → ClassId) (l : Launch) (S : fb_Sh) (V I : fb_V) (o nt : Nat) (cf rf : Nat → Nat) (hA : MdAt S o nt cf rf) (ns : Nat) (df : Nat → Nat) (hF : MF I o ns nt cf rf df) (t : Nat) (ht : t < nt) (q : Nat) (hq : q < cf t * rf t) : CI D y l yX4_squareTold wsX4_squareTold rm_X4_squareTold [.ref (sa S o), .int (nI t), .int (nI q), .int 6] (S, V, (sT V), I) (fun z u => z = s6 (mx (I (o + 10 + t)) q) ∧ u = (S, V, sT V, I)) 0 0 := by
  refine CI.of (cc := cX4_squareTold) (maxL := 4) (ret := (some .int)) (by decide) rfl (Nat.le_of_ble_eq_true rfl) ?_
  intro pv ev s mv below meth cv A hx hb hml hr hown hts hlocks hname hM ls hl
  have hown : s.vm.findClass RX4 = some mv.cls := hown
  have hl : lv_has ls 4 [(0, .ref (sa S o)), (1, .int (nI t)), (2, .int (nI q)), (3, .int 6)] := hl
  have hin4 : ∀ x ∈ wsX40, x ∈ wsX4_squareTold := by decide +kernel
  obtain ⟨Q, hQ⟩ : ∃ Q, Q = MQ below (va_Qi (fun z u => z = s6 (mx (I (o + 10 + t)) q) ∧ u = (S, V, sT V, I)) (fun u t => fb_P D y A u t) A) (([.ref (sa S o), .int (nI t), .int (nI q), .int 6] : List Value).toArray) s 0 0 A := ⟨_, rfl⟩
  rw [← hQ]
  have hns : ns ≤ 12 := hF.2.2.1
  have hnt : nt ≤ 6 := hF.2.2.2.1
  have hcr := hF.cr ht
  have htF := hF.2.2.2.2.1 t ht
  refine lv_iload_n hx hb dX4_squareTold_0 rfl (lv_at hl 3 rfl) ?_
  refine lv_tableIn (off := 31) (tgt := 32) hx hb dX4_squareTold_1 (by decide) (by decide) rfl (by decide) ?_
  refine lv_aload_n hx hb dX4_squareTold_32 rfl (lv_at hl 0 rfl) ?_
  refine fb_get (r := o) hx hb hown hts hin4 hM ((hA.1).1) (ce4 ((hA.1).2)) rfl 8 (by decide) (hts (.fieldLink RX4 27 "FeatherBedsModel" "squares" "[[I") (by decide +kernel)) (fun _ h9 => h9) (v := .ref (sa S (o + 5))) (congrArg (fun z => some (va_rf z)) ((hA.2.1).2.2.2.2.1)) dX4_squareTold_33 ?_
  refine lv_iload_n hx hb dX4_squareTold_36 rfl (lv_at hl 1 rfl) ?_
  refine fb_aaldA (r := (o + 5)) hx hb hM ((hA.2.2.2.2.2.2.1).1) (ce10 ((hA.2.2.2.2.2.2.1).2.1)) 4 rfl (k := t) (nI_clamp (by omega)) (b := sa S (o + 10 + t)) (((hA.2.2.2.2.2.2.2.2.2) t (by omega)).1.1) (by rw [(hA.2.2.2.2.2.2.1).2.2]; exact vp_in_nI (by omega) (by omega)) dX4_squareTold_37 ?_
  refine lv_iload_n hx hb dX4_squareTold_38 rfl (lv_at hl 2 rfl) ?_
  refine fb_callSi hx hb hml hown hts hM (As := [.ref (sa S (o + 10 + t)), .int (nI q)]) (rest := []) (c_X4_all D y l S V I (o + 10 + t) (6 * (cf t * rf t)) (hA.2.2.2.2.2.2.2.2.2 t ht).1.2.1 (hA.2.2.2.2.2.2.2.2.2 t ht).1.2.2.1 (hA.2.2.2.2.2.2.2.2.2 t ht).1.2.2.2 (by omega) q (by omega)) (cwS 2 hts gX4_squareTold_X4_all rfl rfl rfl (by decide +kernel) ⟨Nat.le_of_ble_eq_true rfl, Nat.le_of_ble_eq_true rfl⟩) rfl hl.1 rfl (Nat.le_of_ble_eq_true rfl) dX4_squareTold_39 ⟨Nat.le_of_ble_eq_true rfl, Nat.le_of_ble_eq_true rfl⟩ (fun v_1 u H locs hp hM => ?_)
  obtain ⟨hv, hu⟩ := hp
  have hv := Eq.symm hv
  have hu := Eq.symm hu
  subst hv
  subst hu
  rw [hQ]
  exact fb_iret hx hb hr hlocks hM (⟨rfl, rfl⟩) dX4_squareTold_42

set_option maxHeartbeats 4000000 in
set_option maxRecDepth 100000 in
theorem c_X4_squareTold_7 (D : va_G) (y : Nat → ClassId) (l : Launch) (S : fb_Sh) (V I : fb_V) (o nt : Nat) (cf rf : Nat → Nat) (hA : MdAt S o nt cf rf) (ns : Nat) (df : Nat → Nat) (hF : MF I o ns nt cf rf df) (t : Nat) (ht : t < nt) (q : Nat) (hq : q < cf t * rf t) : CI D y l yX4_squareTold wsX4_squareTold rm_X4_squareTold [.ref (sa S o), .int (nI t), .int (nI q), .int 7] (S, V, (sT V), I) (fun z u => z = wm (mx (I (o + 10 + t)) q) ∧ u = (S, V, sT V, I)) 0 0 := by
  refine CI.of (cc := cX4_squareTold) (maxL := 4) (ret := (some .int)) (by decide) rfl (Nat.le_of_ble_eq_true rfl) ?_
  intro pv ev s mv below meth cv A hx hb hml hr hown hts hlocks hname hM ls hl
  have hown : s.vm.findClass RX4 = some mv.cls := hown
  have hl : lv_has ls 4 [(0, .ref (sa S o)), (1, .int (nI t)), (2, .int (nI q)), (3, .int 7)] := hl
  have hin4 : ∀ x ∈ wsX40, x ∈ wsX4_squareTold := by decide +kernel
  obtain ⟨Q, hQ⟩ : ∃ Q, Q = MQ below (va_Qi (fun z u => z = wm (mx (I (o + 10 + t)) q) ∧ u = (S, V, sT V, I)) (fun u t => fb_P D y A u t) A) (([.ref (sa S o), .int (nI t), .int (nI q), .int 7] : List Value).toArray) s 0 0 A := ⟨_, rfl⟩
  rw [← hQ]
  have hns : ns ≤ 12 := hF.2.2.1
  have hnt : nt ≤ 6 := hF.2.2.2.1
  have hcr := hF.cr ht
  have htF := hF.2.2.2.2.1 t ht
  refine lv_iload_n hx hb dX4_squareTold_0 rfl (lv_at hl 3 rfl) ?_
  refine lv_tableIn (off := 42) (tgt := 43) hx hb dX4_squareTold_1 (by decide) (by decide) rfl (by decide) ?_
  refine lv_aload_n hx hb dX4_squareTold_43 rfl (lv_at hl 0 rfl) ?_
  refine lv_iload_n hx hb dX4_squareTold_44 rfl (lv_at hl 1 rfl) ?_
  refine lv_iload_n hx hb dX4_squareTold_45 rfl (lv_at hl 2 rfl) ?_
  refine fb_callVi (r := o) hx hb hml hown hts hM ((hA.1).1) (ce4 ((hA.1).2)) rfl (As := [.int (nI t), .int (nI q)]) (rest := []) (c_X4_warmth D y l S V I o nt cf rf hA ns df hF t ht q (hq)) (cwV 2 hts gX4_squareTold_X4_warmth rfl rfl rfl (by decide +kernel) ⟨Nat.le_of_ble_eq_true rfl, Nat.le_of_ble_eq_true rfl⟩) rfl hl.1 rfl (Nat.le_of_ble_eq_true rfl) dX4_squareTold_46 ⟨Nat.le_of_ble_eq_true rfl, Nat.le_of_ble_eq_true rfl⟩ (fun v_1 u H locs hp hM => ?_)
  obtain ⟨hv, hu⟩ := hp
  have hv := Eq.symm hv
  have hu := Eq.symm hu
  subst hv
  subst hu
  rw [hQ]
  exact fb_iret hx hb hr hlocks hM (⟨rfl, rfl⟩) dX4_squareTold_49

set_option maxHeartbeats 4000000 in
set_option maxRecDepth 100000 in
theorem c_X4_squareTold_8 (D : va_G) (y : Nat → ClassId) (l : Launch) (S : fb_Sh) (V I : fb_V) (o nt : Nat) (cf rf : Nat → Nat) (hA : MdAt S o nt cf rf) (ns : Nat) (df : Nat → Nat) (hF : MF I o ns nt cf rf df) (t : Nat) (ht : t < nt) (q : Nat) (hq : q < cf t * rf t) : CI D y l yX4_squareTold wsX4_squareTold rm_X4_squareTold [.ref (sa S o), .int (nI t), .int (nI q), .int 8] (S, V, (sT V), I) (fun z u => z = ob (cf t) (cf t * rf t) (I (o + 20 + t)) q 0 ∧ u = (S, V, sT V, I)) 0 0 := by
  refine CI.of (cc := cX4_squareTold) (maxL := 4) (ret := (some .int)) (by decide) rfl (Nat.le_of_ble_eq_true rfl) ?_
  intro pv ev s mv below meth cv A hx hb hml hr hown hts hlocks hname hM ls hl
  have hown : s.vm.findClass RX4 = some mv.cls := hown
  have hl : lv_has ls 4 [(0, .ref (sa S o)), (1, .int (nI t)), (2, .int (nI q)), (3, .int 8)] := hl
  have hin4 : ∀ x ∈ wsX40, x ∈ wsX4_squareTold := by decide +kernel
  obtain ⟨Q, hQ⟩ : ∃ Q, Q = MQ below (va_Qi (fun z u => z = ob (cf t) (cf t * rf t) (I (o + 20 + t)) q 0 ∧ u = (S, V, sT V, I)) (fun u t => fb_P D y A u t) A) (([.ref (sa S o), .int (nI t), .int (nI q), .int 8] : List Value).toArray) s 0 0 A := ⟨_, rfl⟩
  rw [← hQ]
  have hns : ns ≤ 12 := hF.2.2.1
  have hnt : nt ≤ 6 := hF.2.2.2.1
  have hcr := hF.cr ht
  have htF := hF.2.2.2.2.1 t ht
  refine lv_iload_n hx hb dX4_squareTold_0 rfl (lv_at hl 3 rfl) ?_
  refine lv_tableIn (off := 49) (tgt := 50) hx hb dX4_squareTold_1 (by decide) (by decide) rfl (by decide) ?_
  refine lv_aload_n hx hb dX4_squareTold_50 rfl (lv_at hl 0 rfl) ?_
  refine lv_iload_n hx hb dX4_squareTold_51 rfl (lv_at hl 1 rfl) ?_
  refine lv_iload_n hx hb dX4_squareTold_52 rfl (lv_at hl 2 rfl) ?_
  refine lv_iload_n hx hb dX4_squareTold_53 rfl (lv_at hl 3 rfl) ?_
  refine lv_bipush (v := 8) hx hb dX4_squareTold_54 (by decide) ?_
  refine lv_isub hx hb dX4_squareTold_56 ?_
  refine W.eq (g2 := F0 mv _ ls (.int (0) :: .int (nI q) :: .int (nI t) :: .ref (sa S o) :: [])) (by first | rfl | rw [show (8 - 8 : Int32) = 0 from by decide]) ?_
  refine fb_callVi (r := o) hx hb hml hown hts hM ((hA.1).1) (ce4 ((hA.1).2)) rfl (As := [.int (nI t), .int (nI q), .int 0]) (rest := []) (c_X4_isOpen D y l S V I o nt cf rf hA ns df hF t ht q hq 0 (by decide)) (cwV 3 hts gX4_squareTold_X4_isOpen rfl rfl rfl (by decide +kernel) ⟨Nat.le_of_ble_eq_true rfl, Nat.le_of_ble_eq_true rfl⟩) rfl hl.1 rfl (Nat.le_of_ble_eq_true rfl) dX4_squareTold_57 ⟨Nat.le_of_ble_eq_true rfl, Nat.le_of_ble_eq_true rfl⟩ (fun v_1 u H locs hp hM => ?_)
  obtain ⟨hv, hu⟩ := hp
  have hv := Eq.symm hv
  have hu := Eq.symm hu
  subst hv
  subst hu
  refine lv_if_eq (tgt := 67) hx hb dX4_squareTold_60 (by decide) (fun c_2 => ?_) (fun c_2 => ?_)
  · skip
    have hob := c_2
    refine lv_iconst (v := 0) hx hb dX4_squareTold_67 (by decide) ?_
    rw [hQ]
    exact fb_iret hx hb hr hlocks hM (⟨by unfold ob; first | exact (if_neg (by rw [ob_0 hob]; decide)).symm | exact (if_pos (ob_1 hob)).symm, rfl⟩) dX4_squareTold_68
  · skip
    have hob := c_2
    refine lv_iconst (v := 1) hx hb dX4_squareTold_63 (by decide) ?_
    refine lv_goto (tgt := 68) hx hb dX4_squareTold_64 (by decide) ?_
    rw [hQ]
    exact fb_iret hx hb hr hlocks hM (⟨by unfold ob; first | exact (if_neg (by rw [ob_0 hob]; decide)).symm | exact (if_pos (ob_1 hob)).symm, rfl⟩) dX4_squareTold_68

set_option maxHeartbeats 4000000 in
set_option maxRecDepth 100000 in
theorem c_X4_squareTold_9 (D : va_G) (y : Nat → ClassId) (l : Launch) (S : fb_Sh) (V I : fb_V) (o nt : Nat) (cf rf : Nat → Nat) (hA : MdAt S o nt cf rf) (ns : Nat) (df : Nat → Nat) (hF : MF I o ns nt cf rf df) (t : Nat) (ht : t < nt) (q : Nat) (hq : q < cf t * rf t) : CI D y l yX4_squareTold wsX4_squareTold rm_X4_squareTold [.ref (sa S o), .int (nI t), .int (nI q), .int 9] (S, V, (sT V), I) (fun z u => z = ob (cf t) (cf t * rf t) (I (o + 20 + t)) q 1 ∧ u = (S, V, sT V, I)) 0 0 := by
  refine CI.of (cc := cX4_squareTold) (maxL := 4) (ret := (some .int)) (by decide) rfl (Nat.le_of_ble_eq_true rfl) ?_
  intro pv ev s mv below meth cv A hx hb hml hr hown hts hlocks hname hM ls hl
  have hown : s.vm.findClass RX4 = some mv.cls := hown
  have hl : lv_has ls 4 [(0, .ref (sa S o)), (1, .int (nI t)), (2, .int (nI q)), (3, .int 9)] := hl
  have hin4 : ∀ x ∈ wsX40, x ∈ wsX4_squareTold := by decide +kernel
  obtain ⟨Q, hQ⟩ : ∃ Q, Q = MQ below (va_Qi (fun z u => z = ob (cf t) (cf t * rf t) (I (o + 20 + t)) q 1 ∧ u = (S, V, sT V, I)) (fun u t => fb_P D y A u t) A) (([.ref (sa S o), .int (nI t), .int (nI q), .int 9] : List Value).toArray) s 0 0 A := ⟨_, rfl⟩
  rw [← hQ]
  have hns : ns ≤ 12 := hF.2.2.1
  have hnt : nt ≤ 6 := hF.2.2.2.1
  have hcr := hF.cr ht
  have htF := hF.2.2.2.2.1 t ht
  refine lv_iload_n hx hb dX4_squareTold_0 rfl (lv_at hl 3 rfl) ?_
  refine lv_tableIn (off := 49) (tgt := 50) hx hb dX4_squareTold_1 (by decide) (by decide) rfl (by decide) ?_
  refine lv_aload_n hx hb dX4_squareTold_50 rfl (lv_at hl 0 rfl) ?_
  refine lv_iload_n hx hb dX4_squareTold_51 rfl (lv_at hl 1 rfl) ?_
  refine lv_iload_n hx hb dX4_squareTold_52 rfl (lv_at hl 2 rfl) ?_
  refine lv_iload_n hx hb dX4_squareTold_53 rfl (lv_at hl 3 rfl) ?_
  refine lv_bipush (v := 8) hx hb dX4_squareTold_54 (by decide) ?_
  refine lv_isub hx hb dX4_squareTold_56 ?_
  refine W.eq (g2 := F0 mv _ ls (.int (1) :: .int (nI q) :: .int (nI t) :: .ref (sa S o) :: [])) (by first | rfl | rw [show (9 - 8 : Int32) = 1 from by decide]) ?_
  refine fb_callVi (r := o) hx hb hml hown hts hM ((hA.1).1) (ce4 ((hA.1).2)) rfl (As := [.int (nI t), .int (nI q), .int 1]) (rest := []) (c_X4_isOpen D y l S V I o nt cf rf hA ns df hF t ht q hq 1 (by decide)) (cwV 3 hts gX4_squareTold_X4_isOpen rfl rfl rfl (by decide +kernel) ⟨Nat.le_of_ble_eq_true rfl, Nat.le_of_ble_eq_true rfl⟩) rfl hl.1 rfl (Nat.le_of_ble_eq_true rfl) dX4_squareTold_57 ⟨Nat.le_of_ble_eq_true rfl, Nat.le_of_ble_eq_true rfl⟩ (fun v_1 u H locs hp hM => ?_)
  obtain ⟨hv, hu⟩ := hp
  have hv := Eq.symm hv
  have hu := Eq.symm hu
  subst hv
  subst hu
  refine lv_if_eq (tgt := 67) hx hb dX4_squareTold_60 (by decide) (fun c_2 => ?_) (fun c_2 => ?_)
  · skip
    have hob := c_2
    refine lv_iconst (v := 0) hx hb dX4_squareTold_67 (by decide) ?_
    rw [hQ]
    exact fb_iret hx hb hr hlocks hM (⟨by unfold ob; first | exact (if_neg (by rw [ob_0 hob]; decide)).symm | exact (if_pos (ob_1 hob)).symm, rfl⟩) dX4_squareTold_68
  · skip
    have hob := c_2
    refine lv_iconst (v := 1) hx hb dX4_squareTold_63 (by decide) ?_
    refine lv_goto (tgt := 68) hx hb dX4_squareTold_64 (by decide) ?_
    rw [hQ]
    exact fb_iret hx hb hr hlocks hM (⟨by unfold ob; first | exact (if_neg (by rw [ob_0 hob]; decide)).symm | exact (if_pos (ob_1 hob)).symm, rfl⟩) dX4_squareTold_68

abbrev rm_X4_nightOf : Room := { frames := 4, cells := 0, slots := 0, locals := 90 }
set_option maxHeartbeats 4000000 in
set_option maxRecDepth 100000 in
theorem c_X4_nightOf (D : va_G) (y : Nat → ClassId) (l : Launch) (S : fb_Sh) (V I : fb_V) (o nt : Nat) (cf rf : Nat → Nat) (hA : MdAt S o nt cf rf) (ns : Nat) (df : Nat → Nat) (hF : MF I o ns nt cf rf df) (t : Nat) (ht : t < nt) : CI D y l yX4_nightOf wsX4_nightOf rm_X4_nightOf [.ref (sa S o), .int (nI t)] (S, V, (sT V), I) (fun z u => z = fpl (nI (df t)) (I (o + 10 + t)) (6 * (cf t * rf t)) ∧ u = (S, V, sT V, (va_up I (o + 10 + t) (fsh (cf t) (cf t * rf t) (I (o + 20 + t)) (fpk (nI (df t)) (I (o + 10 + t)) (6 * (cf t * rf t))) (2 * (cf t * rf t)))))) 0 0 := by
  refine CI.of (cc := cX4_nightOf) (maxL := 8) (ret := (some .int)) (by decide) rfl (Nat.le_of_ble_eq_true rfl) ?_
  intro pv ev s mv below meth cv A hx hb hml hr hown hts hlocks hname hM ls hl
  have hown : s.vm.findClass RX4 = some mv.cls := hown
  have hl : lv_has ls 8 [(0, .ref (sa S o)), (1, .int (nI t))] := hl
  have hin4 : ∀ x ∈ wsX40, x ∈ wsX4_nightOf := by decide +kernel
  obtain ⟨Q, hQ⟩ : ∃ Q, Q = MQ below (va_Qi (fun z u => z = fpl (nI (df t)) (I (o + 10 + t)) (6 * (cf t * rf t)) ∧ u = (S, V, sT V, (va_up I (o + 10 + t) (fsh (cf t) (cf t * rf t) (I (o + 20 + t)) (fpk (nI (df t)) (I (o + 10 + t)) (6 * (cf t * rf t))) (2 * (cf t * rf t)))))) (fun u t => fb_P D y A u t) A) (([.ref (sa S o), .int (nI t)] : List Value).toArray) s 0 0 A := ⟨_, rfl⟩
  rw [← hQ]
  have hns : ns ≤ 12 := hF.2.2.1
  have hnt : nt ≤ 6 := hF.2.2.2.1
  have hcr := hF.cr ht
  have htF := hF.2.2.2.2.1 t ht
  have hc1 : 1 ≤ cf t := htF.2.2.2.1
  refine lv_iconst (v := 0) hx hb dX4_nightOf_0 (by decide) ?_
  refine lv_istore_n (lv' := [(2, .int 0), (0, .ref (sa S o)), (1, .int (nI t))]) hx hb dX4_nightOf_1 rfl hl (by decide) rfl (fun ls hl => ?_)
  refine lv_aload_n hx hb dX4_nightOf_2 rfl (lv_at hl 1 rfl) ?_
  refine fb_get (r := o) hx hb hown hts hin4 hM ((hA.1).1) (ce4 ((hA.1).2)) rfl 8 (by decide) (hts (.fieldLink RX4 27 "FeatherBedsModel" "squares" "[[I") (by decide +kernel)) (fun _ h9 => h9) (v := .ref (sa S (o + 5))) (congrArg (fun z => some (va_rf z)) ((hA.2.1).2.2.2.2.1)) dX4_nightOf_3 ?_
  refine lv_iload_n hx hb dX4_nightOf_6 rfl (lv_at hl 2 rfl) ?_
  refine fb_aaldA (r := (o + 5)) hx hb hM ((hA.2.2.2.2.2.2.1).1) (ce10 ((hA.2.2.2.2.2.2.1).2.1)) 4 rfl (k := t) (nI_clamp (by omega)) (b := sa S (o + 10 + t)) (((hA.2.2.2.2.2.2.2.2.2) t (by omega)).1.1) (by rw [(hA.2.2.2.2.2.2.1).2.2]; exact vp_in_nI (by omega) (by omega)) dX4_nightOf_7 ?_
  refine lv_astore_n (lv' := [(3, .ref (sa S (o + 10 + t))), (2, .int 0), (0, .ref (sa S o)), (1, .int (nI t))]) hx hb dX4_nightOf_8 rfl hl (by decide) rfl (fun ls hl => ?_)
  refine lv_iconst (v := 0) hx hb dX4_nightOf_9 (by decide) ?_
  refine lv_istore (lv' := [(4, .int 0), (3, .ref (sa S (o + 10 + t))), (2, .int 0), (0, .ref (sa S o)), (1, .int (nI t))]) hx hb dX4_nightOf_10 hl (by decide) rfl (fun ls hl => ?_)
  have LP_12 : ∀ (n : Nat) (i : Nat) (hi : i ≤ (6 * (cf t * rf t))), (6 * (cf t * rf t)) - i < n → ∀ (H : Heap) (locs : List Loc), fb_M D y A s (S, V, (sT V), (va_up I (o + 10 + t) (fpk (nI (df t)) (I (o + 10 + t)) i))) H locs → ∀ ls, lv_has ls 8 [(4, .int (nI i)), (3, .ref (sa S (o + 10 + t))), (2, .int (fpl (nI (df t)) (I (o + 10 + t)) i)), (0, .ref (sa S o)), (1, .int (nI t))] → W pv l ev rm_X4_nightOf s mv ([.ref (sa S o), .int (nI t)] : List Value).toArray below meth cv H locs 0 0 Q (F0 mv 12 ls []) := by
    intro n_12
    induction n_12 with
    | zero => intro i hi hmu; exact absurd hmu (Nat.not_lt_zero _)
    | succ n_12 ih_12 =>
      intro i hi hmu H locs hM ls hl
      refine lv_iload hx hb dX4_nightOf_12 (lv_at hl 0 rfl) ?_
      refine lv_aload_n hx hb dX4_nightOf_14 rfl (lv_at hl 1 rfl) ?_
      refine fb_alen (r := (o + 10 + t)) hx hb hM (((hA.2.2.2.2.2.2.2.2.2) t (by omega)).1.2.1) (ce6 (((hA.2.2.2.2.2.2.2.2.2) t (by omega)).1.2.2.1)) 0 rfl (v := nI (6 * (cf t * rf t))) (congrArg Int32.ofNat (((hA.2.2.2.2.2.2.2.2.2) t (by omega)).1.2.2.2)) dX4_nightOf_15 ?_
      refine lv_icmp_ge (tgt := 75) hx hb dX4_nightOf_16 (by decide) (fun c_1 => ?_) (fun c_1 => ?_)
      · skip
        have e_i : i = (6 * (cf t * rf t)) := by have := (nI_leI (a := (6 * (cf t * rf t))) (b := i) (by omega) (by omega)).mp c_1; omega
        subst e_i
        refine lv_iconst (v := 0) hx hb dX4_nightOf_75 (by decide) ?_
        refine lv_istore (lv' := [(4, .int 0), (3, .ref (sa S (o + 10 + t))), (2, .int (fpl (nI (df t)) (I (o + 10 + t)) (6 * (cf t * rf t)))), (0, .ref (sa S o)), (1, .int (nI t))]) hx hb dX4_nightOf_76 hl (by decide) rfl (fun ls hl => ?_)
        have LP_78 : ∀ (n : Nat) (i : Nat) (hi : i ≤ (2 * (cf t * rf t))), (2 * (cf t * rf t)) - i < n → ∀ (H : Heap) (locs : List Loc), fb_M D y A s (S, V, (sT V), (va_up I (o + 10 + t) (fsh (cf t) (cf t * rf t) (I (o + 20 + t)) (fpk (nI (df t)) (I (o + 10 + t)) (6 * (cf t * rf t))) i))) H locs → ∀ ls, lv_has ls 8 [(4, .int (nI i)), (3, .ref (sa S (o + 10 + t))), (2, .int (fpl (nI (df t)) (I (o + 10 + t)) (6 * (cf t * rf t)))), (0, .ref (sa S o)), (1, .int (nI t))] → W pv l ev rm_X4_nightOf s mv ([.ref (sa S o), .int (nI t)] : List Value).toArray below meth cv H locs 0 0 Q (F0 mv 78 ls []) := by
          intro n_78
          induction n_78 with
          | zero => intro i hi hmu; exact absurd hmu (Nat.not_lt_zero _)
          | succ n_78 ih_78 =>
            intro i hi hmu H locs hM ls hl
            refine lv_iload hx hb dX4_nightOf_78 (lv_at hl 0 rfl) ?_
            refine lv_iconst (v := 2) hx hb dX4_nightOf_80 (by decide) ?_
            refine lv_aload_n hx hb dX4_nightOf_81 rfl (lv_at hl 3 rfl) ?_
            refine lv_iload_n hx hb dX4_nightOf_82 rfl (lv_at hl 4 rfl) ?_
            refine fb_callVi (r := o) hx hb hml hown hts hM ((hA.1).1) (ce4 ((hA.1).2)) rfl (As := [.int (nI t)]) (rest := [.int 2, .int (nI i)]) (c_X4_squaresOf D y l S V (va_up I (o + 10 + t) (fsh (cf t) (cf t * rf t) (I (o + 20 + t)) (fpk (nI (df t)) (I (o + 10 + t)) (6 * (cf t * rf t))) i)) o nt cf rf hA ns df (hF.up _ (by omega) (by omega) (by omega)) t ht) (cwV 1 hts gX4_nightOf_X4_squaresOf rfl rfl rfl (by decide +kernel) ⟨Nat.le_of_ble_eq_true rfl, Nat.le_of_ble_eq_true rfl⟩) rfl hl.1 rfl (Nat.le_of_ble_eq_true rfl) dX4_nightOf_83 ⟨Nat.le_of_ble_eq_true rfl, Nat.le_of_ble_eq_true rfl⟩ (fun v_2 u H locs hp hM => ?_)
            obtain ⟨hv, hu⟩ := hp
            have hv := Eq.symm hv
            have hu := Eq.symm hu
            subst hv
            subst hu
            refine lv_imul hx hb dX4_nightOf_86 ?_
            refine W.eq (g2 := F0 mv _ ls (.int (nI (2 * (cf t * rf t))) :: .int (nI i) :: [])) (by first | rfl | rw [show (2 * (nI (cf t * rf t)) : Int32) = nI (2 * (cf t * rf t)) from pk_mul 2 _]) ?_
            refine lv_icmp_ge (tgt := 190) hx hb dX4_nightOf_87 (by decide) (fun c_3 => ?_) (fun c_3 => ?_)
            · skip
              have e_i : i = (2 * (cf t * rf t)) := by have := (nI_leI (a := (2 * (cf t * rf t))) (b := i) (by omega) (by omega)).mp c_3; omega
              subst e_i
              refine lv_iload_n hx hb dX4_nightOf_190 rfl (lv_at hl 2 rfl) ?_
              rw [hQ]
              exact fb_iret hx hb hr hlocks hM (⟨rfl, rfl⟩) dX4_nightOf_191
            · skip
              have hik : i < (2 * (cf t * rf t)) := Nat.lt_of_not_le (fun h => c_3 (nI_le h (by omega)))
              refine lv_aload_n hx hb dX4_nightOf_90 rfl (lv_at hl 3 rfl) ?_
              refine lv_iload_n hx hb dX4_nightOf_91 rfl (lv_at hl 4 rfl) ?_
              refine lv_iload hx hb dX4_nightOf_92 (lv_at hl 0 rfl) ?_
              refine lv_iconst (v := 2) hx hb dX4_nightOf_94 (by decide) ?_
              refine lv_idiv hx hb dX4_nightOf_95 (by decide) ?_
              refine W.eq (g2 := F0 mv _ ls (.int (nI (i / 2)) :: .int (nI t) :: .ref (sa S o) :: [])) (by first | rfl | rw [show ((nI i) / 2 : Int32) = nI (i / 2) from pk_div (d := 2) (by omega) (by omega) (by omega)]) ?_
              refine lv_iload hx hb dX4_nightOf_96 (lv_at hl 0 rfl) ?_
              refine lv_iconst (v := 2) hx hb dX4_nightOf_98 (by decide) ?_
              refine lv_irem hx hb dX4_nightOf_99 (by decide) ?_
              refine W.eq (g2 := F0 mv _ ls (.int (nI (i % 2)) :: .int (nI (i / 2)) :: .int (nI t) :: .ref (sa S o) :: [])) (by first | rfl | rw [show ((nI i) - (nI i) / 2 * 2 : Int32) = nI (i % 2) from pk_rem (d := 2) (by omega) (by omega) (by omega)]) ?_
              refine fb_callVi (r := o) hx hb hml hown hts hM ((hA.1).1) (ce4 ((hA.1).2)) rfl (As := [.int (nI t), .int (nI (i / 2)), .int (nI (i % 2))]) (rest := []) (c_X4_isOpen D y l S V (va_up I (o + 10 + t) (fsh (cf t) (cf t * rf t) (I (o + 20 + t)) (fpk (nI (df t)) (I (o + 10 + t)) (6 * (cf t * rf t))) i)) o nt cf rf hA ns df (hF.up _ (by omega) (by omega) (by omega)) t ht (i / 2) (by omega) (i % 2) (by omega)) (cwV 3 hts gX4_nightOf_X4_isOpen rfl rfl rfl (by decide +kernel) ⟨Nat.le_of_ble_eq_true rfl, Nat.le_of_ble_eq_true rfl⟩) rfl hl.1 rfl (Nat.le_of_ble_eq_true rfl) dX4_nightOf_100 ⟨Nat.le_of_ble_eq_true rfl, Nat.le_of_ble_eq_true rfl⟩ (fun v_4 u H locs hp hM => ?_)
              obtain ⟨hv, hu⟩ := hp
              have hv := Eq.symm hv
              have hu := Eq.symm hu
              subst hv
              subst hu
              rw [show (va_up I (o + 10 + t) (fsh (cf t) (cf t * rf t) (I (o + 20 + t)) (fpk (nI (df t)) (I (o + 10 + t)) (6 * (cf t * rf t))) i)) (o + 20 + t) = I (o + 20 + t) from va_up_ne _ _ (by omega)]
              refine lv_if_ne (tgt := 109) hx hb dX4_nightOf_103 (by decide) (fun c_5 => ?_) (fun c_5 => ?_)
              · skip
                have hop := ob_1 c_5
                have hofx := (opn_x hop).1
                have hol := oft_lt (n := cf t * rf t) rfl hc1 (show i / 2 < cf t * rf t by omega) hofx
                refine lv_iload hx hb dX4_nightOf_109 (lv_at hl 0 rfl) ?_
                refine lv_iconst (v := 2) hx hb dX4_nightOf_111 (by decide) ?_
                refine lv_idiv hx hb dX4_nightOf_112 (by decide) ?_
                refine W.eq (g2 := F0 mv _ ls (.int (nI (i / 2)) :: [])) (by first | rfl | rw [show ((nI i) / 2 : Int32) = nI (i / 2) from pk_div (d := 2) (by omega) (by omega) (by omega)]) ?_
                refine lv_istore (lv' := [(5, .int (nI (i / 2))), (4, .int (nI i)), (3, .ref (sa S (o + 10 + t))), (2, .int (fpl (nI (df t)) (I (o + 10 + t)) (6 * (cf t * rf t)))), (0, .ref (sa S o)), (1, .int (nI t))]) hx hb dX4_nightOf_113 hl (by decide) rfl (fun ls hl => ?_)
                refine lv_aload_n hx hb dX4_nightOf_115 rfl (lv_at hl 4 rfl) ?_
                refine lv_iload_n hx hb dX4_nightOf_116 rfl (lv_at hl 5 rfl) ?_
                refine lv_iload hx hb dX4_nightOf_117 (lv_at hl 0 rfl) ?_
                refine lv_iload hx hb dX4_nightOf_119 (lv_at hl 1 rfl) ?_
                refine lv_iconst (v := 2) hx hb dX4_nightOf_121 (by decide) ?_
                refine lv_irem hx hb dX4_nightOf_122 (by decide) ?_
                refine W.eq (g2 := F0 mv _ ls (.int (nI (i % 2)) :: .int (nI (i / 2)) :: .int (nI t) :: .ref (sa S o) :: [])) (by first | rfl | rw [show ((nI i) - (nI i) / 2 * 2 : Int32) = nI (i % 2) from pk_rem (d := 2) (by omega) (by omega) (by omega)]) ?_
                refine fb_callVi (r := o) hx hb hml hown hts hM ((hA.1).1) (ce4 ((hA.1).2)) rfl (As := [.int (nI t), .int (nI (i / 2)), .int (nI (i % 2))]) (rest := []) (c_X4_other D y l S V (va_up I (o + 10 + t) (fsh (cf t) (cf t * rf t) (I (o + 20 + t)) (fpk (nI (df t)) (I (o + 10 + t)) (6 * (cf t * rf t))) i)) o nt cf rf hA ns df (hF.up _ (by omega) (by omega) (by omega)) t ht (i / 2) (by omega) (i % 2) (by omega)) (cwV 3 hts gX4_nightOf_X4_other rfl rfl rfl (by decide +kernel) ⟨Nat.le_of_ble_eq_true rfl, Nat.le_of_ble_eq_true rfl⟩) rfl hl.1 rfl (Nat.le_of_ble_eq_true rfl) dX4_nightOf_123 ⟨Nat.le_of_ble_eq_true rfl, Nat.le_of_ble_eq_true rfl⟩ (fun v_6 u H locs hp hM => ?_)
                obtain ⟨hv, hu⟩ := hp
                have hv := Eq.symm hv
                have hu := Eq.symm hu
                subst hv
                subst hu
                rw [othM_t hofx]
                refine lv_istore (lv' := [(6, .int (nI (oft (cf t) (i / 2) (i % 2)))), (5, .int (nI (i / 2))), (4, .int (nI i)), (3, .ref (sa S (o + 10 + t))), (2, .int (fpl (nI (df t)) (I (o + 10 + t)) (6 * (cf t * rf t)))), (0, .ref (sa S o)), (1, .int (nI t))]) hx hb dX4_nightOf_126 hl (by decide) rfl (fun ls hl => ?_)
                refine lv_aload_n hx hb dX4_nightOf_128 rfl (lv_at hl 3 rfl) ?_
                refine lv_iload hx hb dX4_nightOf_129 (lv_at hl 1 rfl) ?_
                refine fb_callSi hx hb hml hown hts hM (As := [.ref (sa S (o + 10 + t)), .int (nI (i / 2))]) (rest := []) (c_X4_all D y l S V (va_up I (o + 10 + t) (fsh (cf t) (cf t * rf t) (I (o + 20 + t)) (fpk (nI (df t)) (I (o + 10 + t)) (6 * (cf t * rf t))) i)) (o + 10 + t) (6 * (cf t * rf t)) (hA.2.2.2.2.2.2.2.2.2 t ht).1.2.1 (hA.2.2.2.2.2.2.2.2.2 t ht).1.2.2.1 (hA.2.2.2.2.2.2.2.2.2 t ht).1.2.2.2 (by omega) (i / 2) (by omega)) (cwS 2 hts gX4_nightOf_X4_all rfl rfl rfl (by decide +kernel) ⟨Nat.le_of_ble_eq_true rfl, Nat.le_of_ble_eq_true rfl⟩) rfl hl.1 rfl (Nat.le_of_ble_eq_true rfl) dX4_nightOf_131 ⟨Nat.le_of_ble_eq_true rfl, Nat.le_of_ble_eq_true rfl⟩ (fun v_7 u H locs hp hM => ?_)
                obtain ⟨hv, hu⟩ := hp
                have hv := Eq.symm hv
                have hu := Eq.symm hu
                subst hv
                subst hu
                rw [va_up_self]
                refine lv_aload_n hx hb dX4_nightOf_134 rfl (lv_at hl 3 rfl) ?_
                refine lv_iload hx hb dX4_nightOf_135 (lv_at hl 0 rfl) ?_
                refine fb_callSi hx hb hml hown hts hM (As := [.ref (sa S (o + 10 + t)), .int (nI (oft (cf t) (i / 2) (i % 2)))]) (rest := [.int (s6 (mx (fsh (cf t) (cf t * rf t) (I (o + 20 + t)) (fpk (nI (df t)) (I (o + 10 + t)) (6 * (cf t * rf t))) i) (i / 2)))]) (c_X4_all D y l S V (va_up I (o + 10 + t) (fsh (cf t) (cf t * rf t) (I (o + 20 + t)) (fpk (nI (df t)) (I (o + 10 + t)) (6 * (cf t * rf t))) i)) (o + 10 + t) (6 * (cf t * rf t)) (hA.2.2.2.2.2.2.2.2.2 t ht).1.2.1 (hA.2.2.2.2.2.2.2.2.2 t ht).1.2.2.1 (hA.2.2.2.2.2.2.2.2.2 t ht).1.2.2.2 (by omega) (oft (cf t) (i / 2) (i % 2)) (by omega)) (cwS 2 hts gX4_nightOf_X4_all rfl rfl rfl (by decide +kernel) ⟨Nat.le_of_ble_eq_true rfl, Nat.le_of_ble_eq_true rfl⟩) rfl hl.1 rfl (Nat.le_of_ble_eq_true rfl) dX4_nightOf_137 ⟨Nat.le_of_ble_eq_true rfl, Nat.le_of_ble_eq_true rfl⟩ (fun v_8 u H locs hp hM => ?_)
                obtain ⟨hv, hu⟩ := hp
                have hv := Eq.symm hv
                have hu := Eq.symm hu
                subst hv
                subst hu
                rw [va_up_self]
                refine lv_isub hx hb dX4_nightOf_140 ?_
                refine W.eq (g2 := F0 mv _ ls (.int (hdf (mx (fsh (cf t) (cf t * rf t) (I (o + 20 + t)) (fpk (nI (df t)) (I (o + 10 + t)) (6 * (cf t * rf t))) i) (i / 2)) (mx (fsh (cf t) (cf t * rf t) (I (o + 20 + t)) (fpk (nI (df t)) (I (o + 10 + t)) (6 * (cf t * rf t))) i) (oft (cf t) (i / 2) (i % 2)))) :: [])) (by first | rfl | rw [show ((s6 (mx (fsh (cf t) (cf t * rf t) (I (o + 20 + t)) (fpk (nI (df t)) (I (o + 10 + t)) (6 * (cf t * rf t))) i) (i / 2))) - (s6 (mx (fsh (cf t) (cf t * rf t) (I (o + 20 + t)) (fpk (nI (df t)) (I (o + 10 + t)) (6 * (cf t * rf t))) i) (oft (cf t) (i / 2) (i % 2)))) : Int32) = hdf (mx (fsh (cf t) (cf t * rf t) (I (o + 20 + t)) (fpk (nI (df t)) (I (o + 10 + t)) (6 * (cf t * rf t))) i) (i / 2)) (mx (fsh (cf t) (cf t * rf t) (I (o + 20 + t)) (fpk (nI (df t)) (I (o + 10 + t)) (6 * (cf t * rf t))) i) (oft (cf t) (i / 2) (i % 2))) from rfl]) ?_
                refine lv_istore (lv' := [(7, .int (hdf (mx (fsh (cf t) (cf t * rf t) (I (o + 20 + t)) (fpk (nI (df t)) (I (o + 10 + t)) (6 * (cf t * rf t))) i) (i / 2)) (mx (fsh (cf t) (cf t * rf t) (I (o + 20 + t)) (fpk (nI (df t)) (I (o + 10 + t)) (6 * (cf t * rf t))) i) (oft (cf t) (i / 2) (i % 2))))), (6, .int (nI (oft (cf t) (i / 2) (i % 2)))), (5, .int (nI (i / 2))), (4, .int (nI i)), (3, .ref (sa S (o + 10 + t))), (2, .int (fpl (nI (df t)) (I (o + 10 + t)) (6 * (cf t * rf t)))), (0, .ref (sa S o)), (1, .int (nI t))]) hx hb dX4_nightOf_141 hl (by decide) rfl (fun ls hl => ?_)
                refine lv_iload hx hb dX4_nightOf_143 (lv_at hl 0 rfl) ?_
                refine lv_if_le (tgt := 167) hx hb dX4_nightOf_145 (by decide) (fun c_9 => ?_) (fun c_9 => ?_)
                · skip
                  have c_sg := c_9
                  refine lv_aload_n hx hb dX4_nightOf_167 rfl (lv_at hl 4 rfl) ?_
                  refine lv_iload hx hb dX4_nightOf_168 (lv_at hl 1 rfl) ?_
                  refine lv_aload_n hx hb dX4_nightOf_170 rfl (lv_at hl 4 rfl) ?_
                  refine lv_iload hx hb dX4_nightOf_171 (lv_at hl 2 rfl) ?_
                  refine lv_iload hx hb dX4_nightOf_173 (lv_at hl 0 rfl) ?_
                  refine lv_ineg hx hb dX4_nightOf_175 ?_
                  refine lv_bipush (v := 8) hx hb dX4_nightOf_176 (by decide) ?_
                  refine lv_idiv hx hb dX4_nightOf_178 (by decide) ?_
                  refine lv_iconst (v := 2) hx hb dX4_nightOf_179 (by decide) ?_
                  refine fb_callSi hx hb hml hown hts hM (As := [.ref (sa S (o + 10 + t)), .int (nI (oft (cf t) (i / 2) (i % 2))), .ref (sa S (o + 10 + t)), .int (nI (i / 2)), .int ((-(hdf (mx (fsh (cf t) (cf t * rf t) (I (o + 20 + t)) (fpk (nI (df t)) (I (o + 10 + t)) (6 * (cf t * rf t))) i) (i / 2)) (mx (fsh (cf t) (cf t * rf t) (I (o + 20 + t)) (fpk (nI (df t)) (I (o + 10 + t)) (6 * (cf t * rf t))) i) (oft (cf t) (i / 2) (i % 2))))) / 8), .int 2]) (rest := []) (c_X4_move D y l S V (va_up I (o + 10 + t) (fsh (cf t) (cf t * rf t) (I (o + 20 + t)) (fpk (nI (df t)) (I (o + 10 + t)) (6 * (cf t * rf t))) i)) (o + 10 + t) (o + 10 + t) (6 * (cf t * rf t)) (6 * (cf t * rf t)) (hA.2.2.2.2.2.2.2.2.2 t ht).1.2.1 (hA.2.2.2.2.2.2.2.2.2 t ht).1.2.2.1 (hA.2.2.2.2.2.2.2.2.2 t ht).1.2.2.2 (hA.2.2.2.2.2.2.2.2.2 t ht).1.2.1 (hA.2.2.2.2.2.2.2.2.2 t ht).1.2.2.1 (hA.2.2.2.2.2.2.2.2.2 t ht).1.2.2.2 (by omega) (by omega) (oft (cf t) (i / 2) (i % 2)) (i / 2) (by omega) (by omega) (Or.inr (by omega)) ((-(hdf (mx (fsh (cf t) (cf t * rf t) (I (o + 20 + t)) (fpk (nI (df t)) (I (o + 10 + t)) (6 * (cf t * rf t))) i) (i / 2)) (mx (fsh (cf t) (cf t * rf t) (I (o + 20 + t)) (fpk (nI (df t)) (I (o + 10 + t)) (6 * (cf t * rf t))) i) (oft (cf t) (i / 2) (i % 2))))) / 8) 2 (by omega)) (cwS 6 hts gX4_nightOf_X4_move rfl rfl rfl (by decide +kernel) ⟨Nat.le_of_ble_eq_true rfl, Nat.le_of_ble_eq_true rfl⟩) rfl hl.1 rfl (Nat.le_of_ble_eq_true rfl) dX4_nightOf_180 ⟨Nat.le_of_ble_eq_true rfl, Nat.le_of_ble_eq_true rfl⟩ (fun v_10 u H locs hp hM => ?_)
                  obtain ⟨hv, hu⟩ := hp
                  have hv := Eq.symm hv
                  have hu := Eq.symm hu
                  subst hv
                  subst hu
                  rw [mvI_self, up_up, va_up_self] at hM
                  rw [va_up_self]
                  have eI : (va_up I (o + 10 + t) (bk (bk (fsh (cf t) (cf t * rf t) (I (o + 20 + t)) (fpk (nI (df t)) (I (o + 10 + t)) (6 * (cf t * rf t))) i) (oft (cf t) (i / 2) (i % 2)) (mva (mx (fsh (cf t) (cf t * rf t) (I (o + 20 + t)) (fpk (nI (df t)) (I (o + 10 + t)) (6 * (cf t * rf t))) i) (oft (cf t) (i / 2) (i % 2))) ((-(hdf (mx (fsh (cf t) (cf t * rf t) (I (o + 20 + t)) (fpk (nI (df t)) (I (o + 10 + t)) (6 * (cf t * rf t))) i) (i / 2)) (mx (fsh (cf t) (cf t * rf t) (I (o + 20 + t)) (fpk (nI (df t)) (I (o + 10 + t)) (6 * (cf t * rf t))) i) (oft (cf t) (i / 2) (i % 2))))) / 8) 2)) (i / 2) (mvb (mx (fsh (cf t) (cf t * rf t) (I (o + 20 + t)) (fpk (nI (df t)) (I (o + 10 + t)) (6 * (cf t * rf t))) i) (oft (cf t) (i / 2) (i % 2))) (mx (fsh (cf t) (cf t * rf t) (I (o + 20 + t)) (fpk (nI (df t)) (I (o + 10 + t)) (6 * (cf t * rf t))) i) (i / 2)) ((-(hdf (mx (fsh (cf t) (cf t * rf t) (I (o + 20 + t)) (fpk (nI (df t)) (I (o + 10 + t)) (6 * (cf t * rf t))) i) (i / 2)) (mx (fsh (cf t) (cf t * rf t) (I (o + 20 + t)) (fpk (nI (df t)) (I (o + 10 + t)) (6 * (cf t * rf t))) i) (oft (cf t) (i / 2) (i % 2))))) / 8) 2))) = (va_up I (o + 10 + t) (fsh (cf t) (cf t * rf t) (I (o + 20 + t)) (fpk (nI (df t)) (I (o + 10 + t)) (6 * (cf t * rf t))) (i + 1))) := by rw [fsh_o _ _ _ _ hop]; unfold hff hss; rw [if_pos c_sg, if_pos c_sg, bk_sw _ _ _ (show (oft (cf t) (i / 2) (i % 2)) ≠ i / 2 by omega)]
                  rw [eI] at hM
                  clear eI
                  refine lv_pop hx hb dX4_nightOf_183 rfl ?_
                  refine lv_iinc (v := nI (i + 1)) (lv' := [(4, .int (nI (i + 1))), (7, .int (hdf (mx (fsh (cf t) (cf t * rf t) (I (o + 20 + t)) (fpk (nI (df t)) (I (o + 10 + t)) (6 * (cf t * rf t))) i) (i / 2)) (mx (fsh (cf t) (cf t * rf t) (I (o + 20 + t)) (fpk (nI (df t)) (I (o + 10 + t)) (6 * (cf t * rf t))) i) (oft (cf t) (i / 2) (i % 2))))), (6, .int (nI (oft (cf t) (i / 2) (i % 2)))), (5, .int (nI (i / 2))), (3, .ref (sa S (o + 10 + t))), (2, .int (fpl (nI (df t)) (I (o + 10 + t)) (6 * (cf t * rf t)))), (0, .ref (sa S o)), (1, .int (nI t))]) hx hb dX4_nightOf_184 hl (k := 3) rfl (nI_1 _) (by decide) rfl (fun ls hl => ?_)
                  refine lv_goto (tgt := 78) hx hb dX4_nightOf_187 (by decide) ?_
                  exact ih_78 (i + 1) (by omega) (by omega) _ _ hM ls (lv_sub hl [0, 4, 5, 6, 7] rfl)
                · skip
                  have c_sg := c_9
                  refine lv_aload_n hx hb dX4_nightOf_148 rfl (lv_at hl 4 rfl) ?_
                  refine lv_iload hx hb dX4_nightOf_149 (lv_at hl 2 rfl) ?_
                  refine lv_aload_n hx hb dX4_nightOf_151 rfl (lv_at hl 4 rfl) ?_
                  refine lv_iload hx hb dX4_nightOf_152 (lv_at hl 1 rfl) ?_
                  refine lv_iload hx hb dX4_nightOf_154 (lv_at hl 0 rfl) ?_
                  refine lv_bipush (v := 8) hx hb dX4_nightOf_156 (by decide) ?_
                  refine lv_idiv hx hb dX4_nightOf_158 (by decide) ?_
                  refine lv_iconst (v := 2) hx hb dX4_nightOf_159 (by decide) ?_
                  refine fb_callSi hx hb hml hown hts hM (As := [.ref (sa S (o + 10 + t)), .int (nI (i / 2)), .ref (sa S (o + 10 + t)), .int (nI (oft (cf t) (i / 2) (i % 2))), .int ((hdf (mx (fsh (cf t) (cf t * rf t) (I (o + 20 + t)) (fpk (nI (df t)) (I (o + 10 + t)) (6 * (cf t * rf t))) i) (i / 2)) (mx (fsh (cf t) (cf t * rf t) (I (o + 20 + t)) (fpk (nI (df t)) (I (o + 10 + t)) (6 * (cf t * rf t))) i) (oft (cf t) (i / 2) (i % 2)))) / 8), .int 2]) (rest := []) (c_X4_move D y l S V (va_up I (o + 10 + t) (fsh (cf t) (cf t * rf t) (I (o + 20 + t)) (fpk (nI (df t)) (I (o + 10 + t)) (6 * (cf t * rf t))) i)) (o + 10 + t) (o + 10 + t) (6 * (cf t * rf t)) (6 * (cf t * rf t)) (hA.2.2.2.2.2.2.2.2.2 t ht).1.2.1 (hA.2.2.2.2.2.2.2.2.2 t ht).1.2.2.1 (hA.2.2.2.2.2.2.2.2.2 t ht).1.2.2.2 (hA.2.2.2.2.2.2.2.2.2 t ht).1.2.1 (hA.2.2.2.2.2.2.2.2.2 t ht).1.2.2.1 (hA.2.2.2.2.2.2.2.2.2 t ht).1.2.2.2 (by omega) (by omega) (i / 2) (oft (cf t) (i / 2) (i % 2)) (by omega) (by omega) (Or.inr (by omega)) ((hdf (mx (fsh (cf t) (cf t * rf t) (I (o + 20 + t)) (fpk (nI (df t)) (I (o + 10 + t)) (6 * (cf t * rf t))) i) (i / 2)) (mx (fsh (cf t) (cf t * rf t) (I (o + 20 + t)) (fpk (nI (df t)) (I (o + 10 + t)) (6 * (cf t * rf t))) i) (oft (cf t) (i / 2) (i % 2)))) / 8) 2 (by omega)) (cwS 6 hts gX4_nightOf_X4_move rfl rfl rfl (by decide +kernel) ⟨Nat.le_of_ble_eq_true rfl, Nat.le_of_ble_eq_true rfl⟩) rfl hl.1 rfl (Nat.le_of_ble_eq_true rfl) dX4_nightOf_160 ⟨Nat.le_of_ble_eq_true rfl, Nat.le_of_ble_eq_true rfl⟩ (fun v_11 u H locs hp hM => ?_)
                  obtain ⟨hv, hu⟩ := hp
                  have hv := Eq.symm hv
                  have hu := Eq.symm hu
                  subst hv
                  subst hu
                  rw [mvI_self, up_up, va_up_self] at hM
                  rw [va_up_self]
                  have eI : (va_up I (o + 10 + t) (bk (bk (fsh (cf t) (cf t * rf t) (I (o + 20 + t)) (fpk (nI (df t)) (I (o + 10 + t)) (6 * (cf t * rf t))) i) (i / 2) (mva (mx (fsh (cf t) (cf t * rf t) (I (o + 20 + t)) (fpk (nI (df t)) (I (o + 10 + t)) (6 * (cf t * rf t))) i) (i / 2)) ((hdf (mx (fsh (cf t) (cf t * rf t) (I (o + 20 + t)) (fpk (nI (df t)) (I (o + 10 + t)) (6 * (cf t * rf t))) i) (i / 2)) (mx (fsh (cf t) (cf t * rf t) (I (o + 20 + t)) (fpk (nI (df t)) (I (o + 10 + t)) (6 * (cf t * rf t))) i) (oft (cf t) (i / 2) (i % 2)))) / 8) 2)) (oft (cf t) (i / 2) (i % 2)) (mvb (mx (fsh (cf t) (cf t * rf t) (I (o + 20 + t)) (fpk (nI (df t)) (I (o + 10 + t)) (6 * (cf t * rf t))) i) (i / 2)) (mx (fsh (cf t) (cf t * rf t) (I (o + 20 + t)) (fpk (nI (df t)) (I (o + 10 + t)) (6 * (cf t * rf t))) i) (oft (cf t) (i / 2) (i % 2))) ((hdf (mx (fsh (cf t) (cf t * rf t) (I (o + 20 + t)) (fpk (nI (df t)) (I (o + 10 + t)) (6 * (cf t * rf t))) i) (i / 2)) (mx (fsh (cf t) (cf t * rf t) (I (o + 20 + t)) (fpk (nI (df t)) (I (o + 10 + t)) (6 * (cf t * rf t))) i) (oft (cf t) (i / 2) (i % 2)))) / 8) 2))) = (va_up I (o + 10 + t) (fsh (cf t) (cf t * rf t) (I (o + 20 + t)) (fpk (nI (df t)) (I (o + 10 + t)) (6 * (cf t * rf t))) (i + 1))) := by rw [fsh_o _ _ _ _ hop]; unfold hff hss; rw [if_neg c_sg, if_neg c_sg]
                  rw [eI] at hM
                  clear eI
                  refine lv_pop hx hb dX4_nightOf_163 rfl ?_
                  refine lv_goto (tgt := 184) hx hb dX4_nightOf_164 (by decide) ?_
                  refine lv_iinc (v := nI (i + 1)) (lv' := [(4, .int (nI (i + 1))), (7, .int (hdf (mx (fsh (cf t) (cf t * rf t) (I (o + 20 + t)) (fpk (nI (df t)) (I (o + 10 + t)) (6 * (cf t * rf t))) i) (i / 2)) (mx (fsh (cf t) (cf t * rf t) (I (o + 20 + t)) (fpk (nI (df t)) (I (o + 10 + t)) (6 * (cf t * rf t))) i) (oft (cf t) (i / 2) (i % 2))))), (6, .int (nI (oft (cf t) (i / 2) (i % 2)))), (5, .int (nI (i / 2))), (3, .ref (sa S (o + 10 + t))), (2, .int (fpl (nI (df t)) (I (o + 10 + t)) (6 * (cf t * rf t)))), (0, .ref (sa S o)), (1, .int (nI t))]) hx hb dX4_nightOf_184 hl (k := 3) rfl (nI_1 _) (by decide) rfl (fun ls hl => ?_)
                  refine lv_goto (tgt := 78) hx hb dX4_nightOf_187 (by decide) ?_
                  exact ih_78 (i + 1) (by omega) (by omega) _ _ hM ls (lv_sub hl [0, 4, 5, 6, 7] rfl)
              · skip
                have hop := ob_0 c_5
                refine lv_goto (tgt := 184) hx hb dX4_nightOf_106 (by decide) ?_
                refine lv_iinc (v := nI (i + 1)) (lv' := [(4, .int (nI (i + 1))), (3, .ref (sa S (o + 10 + t))), (2, .int (fpl (nI (df t)) (I (o + 10 + t)) (6 * (cf t * rf t)))), (0, .ref (sa S o)), (1, .int (nI t))]) hx hb dX4_nightOf_184 hl (k := 0) rfl (nI_1 _) (by decide) rfl (fun ls hl => ?_)
                refine lv_goto (tgt := 78) hx hb dX4_nightOf_187 (by decide) ?_
                rw [show (va_up I (o + 10 + t) (fsh (cf t) (cf t * rf t) (I (o + 20 + t)) (fpk (nI (df t)) (I (o + 10 + t)) (6 * (cf t * rf t))) i)) = (va_up I (o + 10 + t) (fsh (cf t) (cf t * rf t) (I (o + 20 + t)) (fpk (nI (df t)) (I (o + 10 + t)) (6 * (cf t * rf t))) (i + 1))) by rw [fsh_n _ _ _ _ hop]] at hM
                exact ih_78 (i + 1) (by omega) (by omega) _ _ hM ls (lv_sub hl [0, 1, 2, 3, 4] rfl)
        have hM : fb_M D y A s (S, V, sT V, (va_up I (o + 10 + t) (fsh (cf t) (cf t * rf t) (I (o + 20 + t)) (fpk (nI (df t)) (I (o + 10 + t)) (6 * (cf t * rf t))) 0))) H locs := hM
        exact LP_78 _ 0 (by omega) (Nat.lt_succ_self _) _ _ hM ls (lv_sub hl [0, 1, 2, 3, 4] rfl)
      · skip
        have hik : i < (6 * (cf t * rf t)) := Nat.lt_of_not_le (fun h => c_1 (nI_le h (by omega)))
        refine lv_iconst (v := 2) hx hb dX4_nightOf_19 (by decide) ?_
        refine lv_iload hx hb dX4_nightOf_20 (lv_at hl 0 rfl) ?_
        refine lv_bipush (v := 6) hx hb dX4_nightOf_22 (by decide) ?_
        refine lv_irem hx hb dX4_nightOf_24 (by decide) ?_
        refine W.eq (g2 := F0 mv _ ls (.int (nI (i % 6)) :: .int 2 :: [])) (by first | rfl | rw [show ((nI i) - (nI i) / 6 * 6 : Int32) = nI (i % 6) from pk_rem (d := 6) (by omega) (by omega) (by omega)]) ?_
        refine lv_imul hx hb dX4_nightOf_25 ?_
        refine lv_aload_n hx hb dX4_nightOf_26 rfl (lv_at hl 3 rfl) ?_
        refine lv_iload_n hx hb dX4_nightOf_27 rfl (lv_at hl 4 rfl) ?_
        refine lv_iconst (v := 2) hx hb dX4_nightOf_28 (by decide) ?_
        refine fb_callVi (r := o) hx hb hml hown hts hM ((hA.1).1) (ce4 ((hA.1).2)) rfl (As := [.int (nI t), .int 2]) (rest := [.int (2 * (nI (i % 6)))]) (c_X4_ti D y l S V (va_up I (o + 10 + t) (fpk (nI (df t)) (I (o + 10 + t)) i)) o nt cf rf hA ns df (hF.up _ (by omega) (by omega) (by omega)) t ht 2 (by decide)) (cwV 2 hts gX4_nightOf_X4_ti rfl rfl rfl (by decide +kernel) ⟨Nat.le_of_ble_eq_true rfl, Nat.le_of_ble_eq_true rfl⟩) rfl hl.1 rfl (Nat.le_of_ble_eq_true rfl) dX4_nightOf_29 ⟨Nat.le_of_ble_eq_true rfl, Nat.le_of_ble_eq_true rfl⟩ (fun v_12 u H locs hp hM => ?_)
        obtain ⟨hv, hu⟩ := hp
        have hv := Eq.symm hv
        have hu := Eq.symm hu
        subst hv
        subst hu
        rw [show (va_up I (o + 10 + t) (fpk (nI (df t)) (I (o + 10 + t)) i)) (o + 4) (3 * t + 2) = nI (df t) from (congrFun (va_up_ne _ _ (by omega)) _).trans (htF.2.2.1)]
        refine lv_isub hx hb dX4_nightOf_32 ?_
        refine lv_istore (lv' := [(5, .int ((2 * (nI (i % 6))) - (nI (df t)))), (4, .int (nI i)), (3, .ref (sa S (o + 10 + t))), (2, .int (fpl (nI (df t)) (I (o + 10 + t)) i)), (0, .ref (sa S o)), (1, .int (nI t))]) hx hb dX4_nightOf_33 hl (by decide) rfl (fun ls hl => ?_)
        refine lv_iload hx hb dX4_nightOf_35 (lv_at hl 0 rfl) ?_
        refine lv_if_gt (tgt := 43) hx hb dX4_nightOf_37 (by decide) (fun c_13 => ?_) (fun c_13 => ?_)
        · skip
          have hnz : pq (nI (df t)) (I (o + 10 + t)) i = I (o + 10 + t) i * (2 * nI (i % 6) - nI (df t)) / 30 := if_neg (Int32.not_le.mpr c_13)
          refine lv_aload_n hx hb dX4_nightOf_43 rfl (lv_at hl 2 rfl) ?_
          refine lv_iload hx hb dX4_nightOf_44 (lv_at hl 1 rfl) ?_
          refine fb_iald (r := (o + 10 + t)) hx hb hM (((hA.2.2.2.2.2.2.2.2.2) t (by omega)).1.2.1) (ce6 (((hA.2.2.2.2.2.2.2.2.2) t (by omega)).1.2.2.1)) (k := i) (nI_clamp (by omega)) (by rw [((hA.2.2.2.2.2.2.2.2.2) t (by omega)).1.2.2.2]; exact vp_in_nI (by omega) (by omega)) dX4_nightOf_46 ?_
          rw [show ((va_up I (o + 10 + t) (fpk (nI (df t)) (I (o + 10 + t)) i)) (o + 10 + t) i : Int32) = I (o + 10 + t) i from by rw [va_up_self, fpk_i]]
          refine lv_iload hx hb dX4_nightOf_47 (lv_at hl 0 rfl) ?_
          refine lv_imul hx hb dX4_nightOf_49 ?_
          refine lv_bipush (v := 30) hx hb dX4_nightOf_50 (by decide) ?_
          refine lv_idiv hx hb dX4_nightOf_52 (by decide) ?_
          refine W.eq (g2 := F0 mv _ ls (.int (pq (nI (df t)) (I (o + 10 + t)) i) :: [])) (by first | rfl | rw [show (((I (o + 10 + t) i) * ((2 * (nI (i % 6))) - (nI (df t)))) / 30 : Int32) = pq (nI (df t)) (I (o + 10 + t)) i from hnz.symm]) ?_
          refine lv_istore (lv' := [(6, .int (pq (nI (df t)) (I (o + 10 + t)) i)), (5, .int ((2 * (nI (i % 6))) - (nI (df t)))), (4, .int (nI i)), (3, .ref (sa S (o + 10 + t))), (2, .int (fpl (nI (df t)) (I (o + 10 + t)) i)), (0, .ref (sa S o)), (1, .int (nI t))]) hx hb dX4_nightOf_53 hl (by decide) rfl (fun ls hl => ?_)
          refine lv_aload_n hx hb dX4_nightOf_55 rfl (lv_at hl 3 rfl) ?_
          refine lv_iload hx hb dX4_nightOf_56 (lv_at hl 2 rfl) ?_
          refine lv_dup2_11 hx hb dX4_nightOf_58 rfl rfl ?_
          refine fb_iald (r := (o + 10 + t)) hx hb hM (((hA.2.2.2.2.2.2.2.2.2) t (by omega)).1.2.1) (ce6 (((hA.2.2.2.2.2.2.2.2.2) t (by omega)).1.2.2.1)) (k := i) (nI_clamp (by omega)) (by rw [((hA.2.2.2.2.2.2.2.2.2) t (by omega)).1.2.2.2]; exact vp_in_nI (by omega) (by omega)) dX4_nightOf_59 ?_
          rw [show ((va_up I (o + 10 + t) (fpk (nI (df t)) (I (o + 10 + t)) i)) (o + 10 + t) i : Int32) = I (o + 10 + t) i from by rw [va_up_self, fpk_i]]
          refine lv_iload hx hb dX4_nightOf_60 (lv_at hl 0 rfl) ?_
          refine lv_isub hx hb dX4_nightOf_62 ?_
          refine fb_iast (r := (o + 10 + t)) hx hb hM (((hA.2.2.2.2.2.2.2.2.2) t (by omega)).1.2.1) (ce6 (((hA.2.2.2.2.2.2.2.2.2) t (by omega)).1.2.2.1)) (k := i) (nI_clamp (by omega)) (by rw [((hA.2.2.2.2.2.2.2.2.2) t (by omega)).1.2.2.2]; exact vp_in_nI (by omega) (by omega)) dX4_nightOf_63 (up_I (j := i) (by rw [ce6 (((hA.2.2.2.2.2.2.2.2.2) t (by omega)).1.2.2.1)]; simp [va_up])) (w' := (S, V, (sT V), (va_up (va_up I (o + 10 + t) (fpk (nI (df t)) (I (o + 10 + t)) i)) (o + 10 + t) (upd ((va_up I (o + 10 + t) (fpk (nI (df t)) (I (o + 10 + t)) i)) (o + 10 + t)) i ((I (o + 10 + t) i) - (pq (nI (df t)) (I (o + 10 + t)) i)))))) ⟨rfl, rfl, rfl⟩ (fun H locs hM => ?_)
          have eI : (va_up (va_up I (o + 10 + t) (fpk (nI (df t)) (I (o + 10 + t)) i)) (o + 10 + t) (upd ((va_up I (o + 10 + t) (fpk (nI (df t)) (I (o + 10 + t)) i)) (o + 10 + t)) i ((I (o + 10 + t) i) - (pq (nI (df t)) (I (o + 10 + t)) i)))) = (va_up I (o + 10 + t) (fpk (nI (df t)) (I (o + 10 + t)) (i + 1))) := by rw [up_up, va_up_self, fpk_s]
          rw [eI] at hM
          clear eI
          refine lv_iload_n hx hb dX4_nightOf_64 rfl (lv_at hl 4 rfl) ?_
          refine lv_iload hx hb dX4_nightOf_65 (lv_at hl 0 rfl) ?_
          refine lv_iadd hx hb dX4_nightOf_67 ?_
          refine W.eq (g2 := F0 mv _ ls (.int (fpl (nI (df t)) (I (o + 10 + t)) (i + 1)) :: [])) (by first | rfl | rw [show ((fpl (nI (df t)) (I (o + 10 + t)) i) + (pq (nI (df t)) (I (o + 10 + t)) i) : Int32) = fpl (nI (df t)) (I (o + 10 + t)) (i + 1) from rfl]) ?_
          refine lv_istore_n (lv' := [(2, .int (fpl (nI (df t)) (I (o + 10 + t)) (i + 1))), (6, .int (pq (nI (df t)) (I (o + 10 + t)) i)), (5, .int ((2 * (nI (i % 6))) - (nI (df t)))), (4, .int (nI i)), (3, .ref (sa S (o + 10 + t))), (0, .ref (sa S o)), (1, .int (nI t))]) hx hb dX4_nightOf_68 rfl hl (by decide) rfl (fun ls hl => ?_)
          refine lv_iinc (v := nI (i + 1)) (lv' := [(4, .int (nI (i + 1))), (2, .int (fpl (nI (df t)) (I (o + 10 + t)) (i + 1))), (6, .int (pq (nI (df t)) (I (o + 10 + t)) i)), (5, .int ((2 * (nI (i % 6))) - (nI (df t)))), (3, .ref (sa S (o + 10 + t))), (0, .ref (sa S o)), (1, .int (nI t))]) hx hb dX4_nightOf_69 hl (k := 3) rfl (nI_1 _) (by decide) rfl (fun ls hl => ?_)
          refine lv_goto (tgt := 12) hx hb dX4_nightOf_72 (by decide) ?_
          exact ih_12 (i + 1) (by omega) (by omega) _ _ hM ls (lv_sub hl [0, 4, 1, 5, 6] rfl)
        · skip
          have hz : pq (nI (df t)) (I (o + 10 + t)) i = 0 := if_pos (Int32.not_lt.mp c_13)
          refine lv_goto (tgt := 69) hx hb dX4_nightOf_40 (by decide) ?_
          refine lv_iinc (v := nI (i + 1)) (lv' := [(4, .int (nI (i + 1))), (5, .int ((2 * (nI (i % 6))) - (nI (df t)))), (3, .ref (sa S (o + 10 + t))), (2, .int (fpl (nI (df t)) (I (o + 10 + t)) i)), (0, .ref (sa S o)), (1, .int (nI t))]) hx hb dX4_nightOf_69 hl (k := 1) rfl (nI_1 _) (by decide) rfl (fun ls hl => ?_)
          refine lv_goto (tgt := 12) hx hb dX4_nightOf_72 (by decide) ?_
          have eF : fpl (nI (df t)) (I (o + 10 + t)) i = fpl (nI (df t)) (I (o + 10 + t)) (i + 1) := by show _ = fpl (nI (df t)) (I (o + 10 + t)) i + pq (nI (df t)) (I (o + 10 + t)) i; rw [hz, Int32.add_zero]
          rw [eF] at hl
          rw [fpk_z (nI (df t)) (I (o + 10 + t)) i hz] at hM
          exact ih_12 (i + 1) (by omega) (by omega) _ _ hM ls (lv_sub hl [0, 2, 3, 4, 5] rfl)
  rw [show I = (va_up I (o + 10 + t) (fpk (nI (df t)) (I (o + 10 + t)) 0)) from (up_id _ _ _ (fpk_0 _ _)).symm] at hM
  exact LP_12 _ 0 (by omega) (Nat.lt_succ_self _) _ _ hM ls (lv_sub hl [0, 1, 2, 3, 4] rfl)

abbrev rm_X4_tickTold : Room := { frames := 5, cells := 0, slots := 0, locals := 116 }
set_option maxHeartbeats 4000000 in
set_option maxRecDepth 100000 in
theorem c_X4_tickTold_0 (D : va_G) (y : Nat → ClassId) (l : Launch) (S : fb_Sh) (V I : fb_V) (o nt : Nat) (cf rf : Nat → Nat) (hA : MdAt S o nt cf rf) (ns : Nat) (df : Nat → Nat) (hF : MF I o ns nt cf rf df) (t : Nat) (ht : t < nt) : CI D y l yX4_tickTold wsX4_tickTold rm_X4_tickTold [.ref (sa S o), .int (nI t), .int 0] (S, V, (sT V), I) (fun z u => z = nI (cf t) ∧ u = (S, V, sT V, I)) 0 0 := by
  refine CI.of (cc := cX4_tickTold) (maxL := 5) (ret := (some .int)) (by decide) rfl (Nat.le_of_ble_eq_true rfl) ?_
  intro pv ev s mv below meth cv A hx hb hml hr hown hts hlocks hname hM ls hl
  have hown : s.vm.findClass RX4 = some mv.cls := hown
  have hl : lv_has ls 5 [(0, .ref (sa S o)), (1, .int (nI t)), (2, .int 0)] := hl
  have hin4 : ∀ x ∈ wsX40, x ∈ wsX4_tickTold := by decide +kernel
  obtain ⟨Q, hQ⟩ : ∃ Q, Q = MQ below (va_Qi (fun z u => z = nI (cf t) ∧ u = (S, V, sT V, I)) (fun u t => fb_P D y A u t) A) (([.ref (sa S o), .int (nI t), .int 0] : List Value).toArray) s 0 0 A := ⟨_, rfl⟩
  rw [← hQ]
  have hns : ns ≤ 12 := hF.2.2.1
  have hnt : nt ≤ 6 := hF.2.2.2.1
  have hcr := hF.cr ht
  have htF := hF.2.2.2.2.1 t ht
  have hcl := cld_lt (mx (I (o + 10 + t))) (cf t * rf t)
  refine lv_iconst (v := 0) hx hb dX4_tickTold_0 (by decide) ?_
  refine lv_istore_n (lv' := [(3, .int 0), (0, .ref (sa S o)), (1, .int (nI t)), (2, .int 0)]) hx hb dX4_tickTold_1 rfl hl (by decide) rfl (fun ls hl => ?_)
  refine lv_iload_n hx hb dX4_tickTold_2 rfl (lv_at hl 3 rfl) ?_
  refine lv_tableOut (tgt := 106) hx hb dX4_tickTold_3 (by decide) (by decide) ?_
  refine lv_aload_n hx hb dX4_tickTold_106 rfl (lv_at hl 1 rfl) ?_
  refine lv_iload_n hx hb dX4_tickTold_107 rfl (lv_at hl 2 rfl) ?_
  refine lv_iload_n hx hb dX4_tickTold_108 rfl (lv_at hl 3 rfl) ?_
  refine fb_callVi (r := o) hx hb hml hown hts hM ((hA.1).1) (ce4 ((hA.1).2)) rfl (As := [.int (nI t), .int 0]) (rest := []) (c_X4_ti D y l S V I o nt cf rf hA ns df hF t ht 0 (by decide)) (cwV 2 hts gX4_tickTold_X4_ti rfl rfl rfl (by decide +kernel) ⟨Nat.le_of_ble_eq_true rfl, Nat.le_of_ble_eq_true rfl⟩) rfl hl.1 rfl (Nat.le_of_ble_eq_true rfl) dX4_tickTold_109 ⟨Nat.le_of_ble_eq_true rfl, Nat.le_of_ble_eq_true rfl⟩ (fun v_1 u H locs hp hM => ?_)
  obtain ⟨hv, hu⟩ := hp
  have hv := Eq.symm hv
  have hu := Eq.symm hu
  subst hv
  subst hu
  rw [show (I (o + 4) (3 * t + 0) : Int32) = nI (cf t) from htF.1]
  rw [hQ]
  exact fb_iret hx hb hr hlocks hM (⟨rfl, rfl⟩) dX4_tickTold_112

set_option maxHeartbeats 4000000 in
set_option maxRecDepth 100000 in
theorem c_X4_tickTold_1 (D : va_G) (y : Nat → ClassId) (l : Launch) (S : fb_Sh) (V I : fb_V) (o nt : Nat) (cf rf : Nat → Nat) (hA : MdAt S o nt cf rf) (ns : Nat) (df : Nat → Nat) (hF : MF I o ns nt cf rf df) (t : Nat) (ht : t < nt) : CI D y l yX4_tickTold wsX4_tickTold rm_X4_tickTold [.ref (sa S o), .int (nI t), .int 1] (S, V, (sT V), I) (fun z u => z = nI (rf t) ∧ u = (S, V, sT V, I)) 0 0 := by
  refine CI.of (cc := cX4_tickTold) (maxL := 5) (ret := (some .int)) (by decide) rfl (Nat.le_of_ble_eq_true rfl) ?_
  intro pv ev s mv below meth cv A hx hb hml hr hown hts hlocks hname hM ls hl
  have hown : s.vm.findClass RX4 = some mv.cls := hown
  have hl : lv_has ls 5 [(0, .ref (sa S o)), (1, .int (nI t)), (2, .int 1)] := hl
  have hin4 : ∀ x ∈ wsX40, x ∈ wsX4_tickTold := by decide +kernel
  obtain ⟨Q, hQ⟩ : ∃ Q, Q = MQ below (va_Qi (fun z u => z = nI (rf t) ∧ u = (S, V, sT V, I)) (fun u t => fb_P D y A u t) A) (([.ref (sa S o), .int (nI t), .int 1] : List Value).toArray) s 0 0 A := ⟨_, rfl⟩
  rw [← hQ]
  have hns : ns ≤ 12 := hF.2.2.1
  have hnt : nt ≤ 6 := hF.2.2.2.1
  have hcr := hF.cr ht
  have htF := hF.2.2.2.2.1 t ht
  have hcl := cld_lt (mx (I (o + 10 + t))) (cf t * rf t)
  refine lv_iconst (v := 0) hx hb dX4_tickTold_0 (by decide) ?_
  refine lv_istore_n (lv' := [(3, .int 0), (0, .ref (sa S o)), (1, .int (nI t)), (2, .int 1)]) hx hb dX4_tickTold_1 rfl hl (by decide) rfl (fun ls hl => ?_)
  refine lv_iload_n hx hb dX4_tickTold_2 rfl (lv_at hl 3 rfl) ?_
  refine lv_tableOut (tgt := 106) hx hb dX4_tickTold_3 (by decide) (by decide) ?_
  refine lv_aload_n hx hb dX4_tickTold_106 rfl (lv_at hl 1 rfl) ?_
  refine lv_iload_n hx hb dX4_tickTold_107 rfl (lv_at hl 2 rfl) ?_
  refine lv_iload_n hx hb dX4_tickTold_108 rfl (lv_at hl 3 rfl) ?_
  refine fb_callVi (r := o) hx hb hml hown hts hM ((hA.1).1) (ce4 ((hA.1).2)) rfl (As := [.int (nI t), .int 1]) (rest := []) (c_X4_ti D y l S V I o nt cf rf hA ns df hF t ht 1 (by decide)) (cwV 2 hts gX4_tickTold_X4_ti rfl rfl rfl (by decide +kernel) ⟨Nat.le_of_ble_eq_true rfl, Nat.le_of_ble_eq_true rfl⟩) rfl hl.1 rfl (Nat.le_of_ble_eq_true rfl) dX4_tickTold_109 ⟨Nat.le_of_ble_eq_true rfl, Nat.le_of_ble_eq_true rfl⟩ (fun v_1 u H locs hp hM => ?_)
  obtain ⟨hv, hu⟩ := hp
  have hv := Eq.symm hv
  have hu := Eq.symm hu
  subst hv
  subst hu
  rw [show (I (o + 4) (3 * t + 1) : Int32) = nI (rf t) from htF.2.1]
  rw [hQ]
  exact fb_iret hx hb hr hlocks hM (⟨rfl, rfl⟩) dX4_tickTold_112

set_option maxHeartbeats 4000000 in
set_option maxRecDepth 100000 in
theorem c_X4_tickTold_2 (D : va_G) (y : Nat → ClassId) (l : Launch) (S : fb_Sh) (V I : fb_V) (o nt : Nat) (cf rf : Nat → Nat) (hA : MdAt S o nt cf rf) (ns : Nat) (df : Nat → Nat) (hF : MF I o ns nt cf rf df) (t : Nat) (ht : t < nt) : CI D y l yX4_tickTold wsX4_tickTold rm_X4_tickTold [.ref (sa S o), .int (nI t), .int 2] (S, V, (sT V), I) (fun z u => z = nI (df t) ∧ u = (S, V, sT V, I)) 0 0 := by
  refine CI.of (cc := cX4_tickTold) (maxL := 5) (ret := (some .int)) (by decide) rfl (Nat.le_of_ble_eq_true rfl) ?_
  intro pv ev s mv below meth cv A hx hb hml hr hown hts hlocks hname hM ls hl
  have hown : s.vm.findClass RX4 = some mv.cls := hown
  have hl : lv_has ls 5 [(0, .ref (sa S o)), (1, .int (nI t)), (2, .int 2)] := hl
  have hin4 : ∀ x ∈ wsX40, x ∈ wsX4_tickTold := by decide +kernel
  obtain ⟨Q, hQ⟩ : ∃ Q, Q = MQ below (va_Qi (fun z u => z = nI (df t) ∧ u = (S, V, sT V, I)) (fun u t => fb_P D y A u t) A) (([.ref (sa S o), .int (nI t), .int 2] : List Value).toArray) s 0 0 A := ⟨_, rfl⟩
  rw [← hQ]
  have hns : ns ≤ 12 := hF.2.2.1
  have hnt : nt ≤ 6 := hF.2.2.2.1
  have hcr := hF.cr ht
  have htF := hF.2.2.2.2.1 t ht
  have hcl := cld_lt (mx (I (o + 10 + t))) (cf t * rf t)
  refine lv_iconst (v := 0) hx hb dX4_tickTold_0 (by decide) ?_
  refine lv_istore_n (lv' := [(3, .int 0), (0, .ref (sa S o)), (1, .int (nI t)), (2, .int 2)]) hx hb dX4_tickTold_1 rfl hl (by decide) rfl (fun ls hl => ?_)
  refine lv_iload_n hx hb dX4_tickTold_2 rfl (lv_at hl 3 rfl) ?_
  refine lv_tableOut (tgt := 106) hx hb dX4_tickTold_3 (by decide) (by decide) ?_
  refine lv_aload_n hx hb dX4_tickTold_106 rfl (lv_at hl 1 rfl) ?_
  refine lv_iload_n hx hb dX4_tickTold_107 rfl (lv_at hl 2 rfl) ?_
  refine lv_iload_n hx hb dX4_tickTold_108 rfl (lv_at hl 3 rfl) ?_
  refine fb_callVi (r := o) hx hb hml hown hts hM ((hA.1).1) (ce4 ((hA.1).2)) rfl (As := [.int (nI t), .int 2]) (rest := []) (c_X4_ti D y l S V I o nt cf rf hA ns df hF t ht 2 (by decide)) (cwV 2 hts gX4_tickTold_X4_ti rfl rfl rfl (by decide +kernel) ⟨Nat.le_of_ble_eq_true rfl, Nat.le_of_ble_eq_true rfl⟩) rfl hl.1 rfl (Nat.le_of_ble_eq_true rfl) dX4_tickTold_109 ⟨Nat.le_of_ble_eq_true rfl, Nat.le_of_ble_eq_true rfl⟩ (fun v_1 u H locs hp hM => ?_)
  obtain ⟨hv, hu⟩ := hp
  have hv := Eq.symm hv
  have hu := Eq.symm hu
  subst hv
  subst hu
  rw [show (I (o + 4) (3 * t + 2) : Int32) = nI (df t) from htF.2.2.1]
  rw [hQ]
  exact fb_iret hx hb hr hlocks hM (⟨rfl, rfl⟩) dX4_tickTold_112

set_option maxHeartbeats 4000000 in
set_option maxRecDepth 100000 in
theorem c_X4_tickTold_3 (D : va_G) (y : Nat → ClassId) (l : Launch) (S : fb_Sh) (V I : fb_V) (o nt : Nat) (cf rf : Nat → Nat) (hA : MdAt S o nt cf rf) (ns : Nat) (df : Nat → Nat) (hF : MF I o ns nt cf rf df) (t : Nat) (ht : t < nt) : CI D y l yX4_tickTold wsX4_tickTold rm_X4_tickTold [.ref (sa S o), .int (nI t), .int 3] (S, V, (sT V), I) (fun z u => z = asf (I (o + 10 + t)) (6 * (cf t * rf t)) ∧ u = (S, V, sT V, I)) 0 0 := by
  refine CI.of (cc := cX4_tickTold) (maxL := 5) (ret := (some .int)) (by decide) rfl (Nat.le_of_ble_eq_true rfl) ?_
  intro pv ev s mv below meth cv A hx hb hml hr hown hts hlocks hname hM ls hl
  have hown : s.vm.findClass RX4 = some mv.cls := hown
  have hl : lv_has ls 5 [(0, .ref (sa S o)), (1, .int (nI t)), (2, .int 3)] := hl
  have hin4 : ∀ x ∈ wsX40, x ∈ wsX4_tickTold := by decide +kernel
  obtain ⟨Q, hQ⟩ : ∃ Q, Q = MQ below (va_Qi (fun z u => z = asf (I (o + 10 + t)) (6 * (cf t * rf t)) ∧ u = (S, V, sT V, I)) (fun u t => fb_P D y A u t) A) (([.ref (sa S o), .int (nI t), .int 3] : List Value).toArray) s 0 0 A := ⟨_, rfl⟩
  rw [← hQ]
  have hns : ns ≤ 12 := hF.2.2.1
  have hnt : nt ≤ 6 := hF.2.2.2.1
  have hcr := hF.cr ht
  have htF := hF.2.2.2.2.1 t ht
  have hcl := cld_lt (mx (I (o + 10 + t))) (cf t * rf t)
  refine lv_iconst (v := 0) hx hb dX4_tickTold_0 (by decide) ?_
  refine lv_istore_n (lv' := [(3, .int 0), (0, .ref (sa S o)), (1, .int (nI t)), (2, .int 3)]) hx hb dX4_tickTold_1 rfl hl (by decide) rfl (fun ls hl => ?_)
  refine lv_iload_n hx hb dX4_tickTold_2 rfl (lv_at hl 3 rfl) ?_
  refine lv_tableIn (off := 37) (tgt := 40) hx hb dX4_tickTold_3 (by decide) (by decide) rfl (by decide) ?_
  refine lv_aload_n hx hb dX4_tickTold_40 rfl (lv_at hl 1 rfl) ?_
  refine lv_iload_n hx hb dX4_tickTold_41 rfl (lv_at hl 2 rfl) ?_
  refine fb_callVi (r := o) hx hb hml hown hts hM ((hA.1).1) (ce4 ((hA.1).2)) rfl (As := [.int (nI t)]) (rest := []) (c_X4_feathers D y l S V I o nt cf rf hA ns df hF t ht) (cwV 1 hts gX4_tickTold_X4_feathers rfl rfl rfl (by decide +kernel) ⟨Nat.le_of_ble_eq_true rfl, Nat.le_of_ble_eq_true rfl⟩) rfl hl.1 rfl (Nat.le_of_ble_eq_true rfl) dX4_tickTold_42 ⟨Nat.le_of_ble_eq_true rfl, Nat.le_of_ble_eq_true rfl⟩ (fun v_1 u H locs hp hM => ?_)
  obtain ⟨hv, hu⟩ := hp
  have hv := Eq.symm hv
  have hu := Eq.symm hu
  subst hv
  subst hu
  rw [hQ]
  exact fb_iret hx hb hr hlocks hM (⟨rfl, rfl⟩) dX4_tickTold_45

set_option maxHeartbeats 4000000 in
set_option maxRecDepth 100000 in
theorem c_X4_tickTold_4 (D : va_G) (y : Nat → ClassId) (l : Launch) (S : fb_Sh) (V I : fb_V) (o nt : Nat) (cf rf : Nat → Nat) (hA : MdAt S o nt cf rf) (ns : Nat) (df : Nat → Nat) (hF : MF I o ns nt cf rf df) (t : Nat) (ht : t < nt) : CI D y l yX4_tickTold wsX4_tickTold rm_X4_tickTold [.ref (sa S o), .int (nI t), .int 4] (S, V, (sT V), I) (fun z u => z = wsm (mx (I (o + 10 + t))) (cf t * rf t) ∧ u = (S, V, sT V, I)) 0 0 := by
  refine CI.of (cc := cX4_tickTold) (maxL := 5) (ret := (some .int)) (by decide) rfl (Nat.le_of_ble_eq_true rfl) ?_
  intro pv ev s mv below meth cv A hx hb hml hr hown hts hlocks hname hM ls hl
  have hown : s.vm.findClass RX4 = some mv.cls := hown
  have hl : lv_has ls 5 [(0, .ref (sa S o)), (1, .int (nI t)), (2, .int 4)] := hl
  have hin4 : ∀ x ∈ wsX40, x ∈ wsX4_tickTold := by decide +kernel
  obtain ⟨Q, hQ⟩ : ∃ Q, Q = MQ below (va_Qi (fun z u => z = wsm (mx (I (o + 10 + t))) (cf t * rf t) ∧ u = (S, V, sT V, I)) (fun u t => fb_P D y A u t) A) (([.ref (sa S o), .int (nI t), .int 4] : List Value).toArray) s 0 0 A := ⟨_, rfl⟩
  rw [← hQ]
  have hns : ns ≤ 12 := hF.2.2.1
  have hnt : nt ≤ 6 := hF.2.2.2.1
  have hcr := hF.cr ht
  have htF := hF.2.2.2.2.1 t ht
  have hcl := cld_lt (mx (I (o + 10 + t))) (cf t * rf t)
  refine lv_iconst (v := 0) hx hb dX4_tickTold_0 (by decide) ?_
  refine lv_istore_n (lv' := [(3, .int 0), (0, .ref (sa S o)), (1, .int (nI t)), (2, .int 4)]) hx hb dX4_tickTold_1 rfl hl (by decide) rfl (fun ls hl => ?_)
  refine lv_iload_n hx hb dX4_tickTold_2 rfl (lv_at hl 3 rfl) ?_
  refine lv_tableIn (off := 43) (tgt := 46) hx hb dX4_tickTold_3 (by decide) (by decide) rfl (by decide) ?_
  refine lv_iconst (v := 0) hx hb dX4_tickTold_46 (by decide) ?_
  refine lv_istore (lv' := [(4, .int 0), (3, .int 0), (0, .ref (sa S o)), (1, .int (nI t)), (2, .int 4)]) hx hb dX4_tickTold_47 hl (by decide) rfl (fun ls hl => ?_)
  have LP_49 : ∀ (n : Nat) (i : Nat) (hi : i ≤ cf t * rf t), cf t * rf t - i < n → ∀ (H : Heap) (locs : List Loc), fb_M D y A s (S, V, (sT V), I) H locs → ∀ ls, lv_has ls 5 [(4, .int (nI i)), (3, .int (wsm (mx (I (o + 10 + t))) i)), (0, .ref (sa S o)), (1, .int (nI t)), (2, .int 4)] → W pv l ev rm_X4_tickTold s mv ([.ref (sa S o), .int (nI t), .int 4] : List Value).toArray below meth cv H locs 0 0 Q (F0 mv 49 ls []) := by
    intro n_49
    induction n_49 with
    | zero => intro i hi hmu; exact absurd hmu (Nat.not_lt_zero _)
    | succ n_49 ih_49 =>
      intro i hi hmu H locs hM ls hl
      refine lv_iload hx hb dX4_tickTold_49 (lv_at hl 0 rfl) ?_
      refine lv_aload_n hx hb dX4_tickTold_51 rfl (lv_at hl 2 rfl) ?_
      refine lv_iload_n hx hb dX4_tickTold_52 rfl (lv_at hl 3 rfl) ?_
      refine fb_callVi (r := o) hx hb hml hown hts hM ((hA.1).1) (ce4 ((hA.1).2)) rfl (As := [.int (nI t)]) (rest := [.int (nI i)]) (c_X4_squaresOf D y l S V I o nt cf rf hA ns df hF t ht) (cwV 1 hts gX4_tickTold_X4_squaresOf rfl rfl rfl (by decide +kernel) ⟨Nat.le_of_ble_eq_true rfl, Nat.le_of_ble_eq_true rfl⟩) rfl hl.1 rfl (Nat.le_of_ble_eq_true rfl) dX4_tickTold_53 ⟨Nat.le_of_ble_eq_true rfl, Nat.le_of_ble_eq_true rfl⟩ (fun v_1 u H locs hp hM => ?_)
      obtain ⟨hv, hu⟩ := hp
      have hv := Eq.symm hv
      have hu := Eq.symm hu
      subst hv
      subst hu
      refine lv_icmp_ge (tgt := 75) hx hb dX4_tickTold_56 (by decide) (fun c_2 => ?_) (fun c_2 => ?_)
      · skip
        have e_i : i = (cf t * rf t) := by have := (nI_leI (a := (cf t * rf t)) (b := i) (by omega) (by omega)).mp c_2; omega
        subst e_i
        refine lv_iload_n hx hb dX4_tickTold_75 rfl (lv_at hl 1 rfl) ?_
        rw [hQ]
        exact fb_iret hx hb hr hlocks hM (⟨rfl, rfl⟩) dX4_tickTold_76
      · skip
        have hik : i < (cf t * rf t) := Nat.lt_of_not_le (fun h => c_2 (nI_le h (by omega)))
        refine lv_iload_n hx hb dX4_tickTold_59 rfl (lv_at hl 1 rfl) ?_
        refine lv_aload_n hx hb dX4_tickTold_60 rfl (lv_at hl 2 rfl) ?_
        refine lv_iload_n hx hb dX4_tickTold_61 rfl (lv_at hl 3 rfl) ?_
        refine lv_iload hx hb dX4_tickTold_62 (lv_at hl 0 rfl) ?_
        refine fb_callVi (r := o) hx hb hml hown hts hM ((hA.1).1) (ce4 ((hA.1).2)) rfl (As := [.int (nI t), .int (nI i)]) (rest := [.int (wsm (mx (I (o + 10 + t))) i)]) (c_X4_warmth D y l S V I o nt cf rf hA ns df hF t ht i (hik)) (cwV 2 hts gX4_tickTold_X4_warmth rfl rfl rfl (by decide +kernel) ⟨Nat.le_of_ble_eq_true rfl, Nat.le_of_ble_eq_true rfl⟩) rfl hl.1 rfl (Nat.le_of_ble_eq_true rfl) dX4_tickTold_64 ⟨Nat.le_of_ble_eq_true rfl, Nat.le_of_ble_eq_true rfl⟩ (fun v_3 u H locs hp hM => ?_)
        obtain ⟨hv, hu⟩ := hp
        have hv := Eq.symm hv
        have hu := Eq.symm hu
        subst hv
        subst hu
        refine lv_iadd hx hb dX4_tickTold_67 ?_
        refine lv_istore_n (lv' := [(3, .int ((wsm (mx (I (o + 10 + t))) i) + (wm (mx (I (o + 10 + t)) i)))), (4, .int (nI i)), (0, .ref (sa S o)), (1, .int (nI t)), (2, .int 4)]) hx hb dX4_tickTold_68 rfl hl (by decide) rfl (fun ls hl => ?_)
        refine lv_iinc (v := nI (i + 1)) (lv' := [(4, .int (nI (i + 1))), (3, .int ((wsm (mx (I (o + 10 + t))) i) + (wm (mx (I (o + 10 + t)) i)))), (0, .ref (sa S o)), (1, .int (nI t)), (2, .int 4)]) hx hb dX4_tickTold_69 hl (k := 1) rfl (nI_1 _) (by decide) rfl (fun ls hl => ?_)
        refine lv_goto (tgt := 49) hx hb dX4_tickTold_72 (by decide) ?_
        exact ih_49 (i + 1) (by omega) (by omega) _ _ hM ls (lv_sub hl [0, 1, 2, 3, 4] rfl)
  exact LP_49 _ 0 (by omega) (Nat.lt_succ_self _) _ _ hM ls (lv_sub hl [0, 1, 2, 3, 4] rfl)

set_option maxHeartbeats 4000000 in
set_option maxRecDepth 100000 in
theorem c_X4_tickTold_5 (D : va_G) (y : Nat → ClassId) (l : Launch) (S : fb_Sh) (V I : fb_V) (o nt : Nat) (cf rf : Nat → Nat) (hA : MdAt S o nt cf rf) (ns : Nat) (df : Nat → Nat) (hF : MF I o ns nt cf rf df) (t : Nat) (ht : t < nt) : CI D y l yX4_tickTold wsX4_tickTold rm_X4_tickTold [.ref (sa S o), .int (nI t), .int 5] (S, V, (sT V), I) (fun z u => z = wm (mx (I (o + 10 + t)) (cld (mx (I (o + 10 + t))) (cf t * rf t))) ∧ u = (S, V, sT V, I)) 0 0 := by
  refine CI.of (cc := cX4_tickTold) (maxL := 5) (ret := (some .int)) (by decide) rfl (Nat.le_of_ble_eq_true rfl) ?_
  intro pv ev s mv below meth cv A hx hb hml hr hown hts hlocks hname hM ls hl
  have hown : s.vm.findClass RX4 = some mv.cls := hown
  have hl : lv_has ls 5 [(0, .ref (sa S o)), (1, .int (nI t)), (2, .int 5)] := hl
  have hin4 : ∀ x ∈ wsX40, x ∈ wsX4_tickTold := by decide +kernel
  obtain ⟨Q, hQ⟩ : ∃ Q, Q = MQ below (va_Qi (fun z u => z = wm (mx (I (o + 10 + t)) (cld (mx (I (o + 10 + t))) (cf t * rf t))) ∧ u = (S, V, sT V, I)) (fun u t => fb_P D y A u t) A) (([.ref (sa S o), .int (nI t), .int 5] : List Value).toArray) s 0 0 A := ⟨_, rfl⟩
  rw [← hQ]
  have hns : ns ≤ 12 := hF.2.2.1
  have hnt : nt ≤ 6 := hF.2.2.2.1
  have hcr := hF.cr ht
  have htF := hF.2.2.2.2.1 t ht
  have hcl := cld_lt (mx (I (o + 10 + t))) (cf t * rf t)
  refine lv_iconst (v := 0) hx hb dX4_tickTold_0 (by decide) ?_
  refine lv_istore_n (lv' := [(3, .int 0), (0, .ref (sa S o)), (1, .int (nI t)), (2, .int 5)]) hx hb dX4_tickTold_1 rfl hl (by decide) rfl (fun ls hl => ?_)
  refine lv_iload_n hx hb dX4_tickTold_2 rfl (lv_at hl 3 rfl) ?_
  refine lv_tableIn (off := 74) (tgt := 77) hx hb dX4_tickTold_3 (by decide) (by decide) rfl (by decide) ?_
  refine lv_aload_n hx hb dX4_tickTold_77 rfl (lv_at hl 1 rfl) ?_
  refine lv_iload_n hx hb dX4_tickTold_78 rfl (lv_at hl 2 rfl) ?_
  refine lv_aload_n hx hb dX4_tickTold_79 rfl (lv_at hl 1 rfl) ?_
  refine lv_iload_n hx hb dX4_tickTold_80 rfl (lv_at hl 2 rfl) ?_
  refine fb_callVi (r := o) hx hb hml hown hts hM ((hA.1).1) (ce4 ((hA.1).2)) rfl (As := [.int (nI t)]) (rest := [.int (nI t), .ref (sa S o)]) (c_X4_coldest D y l S V I o nt cf rf hA ns df hF t ht) (cwV 1 hts gX4_tickTold_X4_coldest rfl rfl rfl (by decide +kernel) ⟨Nat.le_of_ble_eq_true rfl, Nat.le_of_ble_eq_true rfl⟩) rfl hl.1 rfl (Nat.le_of_ble_eq_true rfl) dX4_tickTold_81 ⟨Nat.le_of_ble_eq_true rfl, Nat.le_of_ble_eq_true rfl⟩ (fun v_1 u H locs hp hM => ?_)
  obtain ⟨hv, hu⟩ := hp
  have hv := Eq.symm hv
  have hu := Eq.symm hu
  subst hv
  subst hu
  refine fb_callVi (r := o) hx hb hml hown hts hM ((hA.1).1) (ce4 ((hA.1).2)) rfl (As := [.int (nI t), .int (nI (cld (mx (I (o + 10 + t))) (cf t * rf t)))]) (rest := []) (c_X4_warmth D y l S V I o nt cf rf hA ns df hF t ht (cld (mx (I (o + 10 + t))) (cf t * rf t)) (by omega)) (cwV 2 hts gX4_tickTold_X4_warmth rfl rfl rfl (by decide +kernel) ⟨Nat.le_of_ble_eq_true rfl, Nat.le_of_ble_eq_true rfl⟩) rfl hl.1 rfl (Nat.le_of_ble_eq_true rfl) dX4_tickTold_84 ⟨Nat.le_of_ble_eq_true rfl, Nat.le_of_ble_eq_true rfl⟩ (fun v_2 u H locs hp hM => ?_)
  obtain ⟨hv, hu⟩ := hp
  have hv := Eq.symm hv
  have hu := Eq.symm hu
  subst hv
  subst hu
  rw [hQ]
  exact fb_iret hx hb hr hlocks hM (⟨rfl, rfl⟩) dX4_tickTold_87

set_option maxHeartbeats 4000000 in
set_option maxRecDepth 100000 in
theorem c_X4_tickTold_6 (D : va_G) (y : Nat → ClassId) (l : Launch) (S : fb_Sh) (V I : fb_V) (o nt : Nat) (cf rf : Nat → Nat) (hA : MdAt S o nt cf rf) (ns : Nat) (df : Nat → Nat) (hF : MF I o ns nt cf rf df) (t : Nat) (ht : t < nt) : CI D y l yX4_tickTold wsX4_tickTold rm_X4_tickTold [.ref (sa S o), .int (nI t), .int 6] (S, V, (sT V), I) (fun z u => z = nI (cld (mx (I (o + 10 + t))) (cf t * rf t)) ∧ u = (S, V, sT V, I)) 0 0 := by
  refine CI.of (cc := cX4_tickTold) (maxL := 5) (ret := (some .int)) (by decide) rfl (Nat.le_of_ble_eq_true rfl) ?_
  intro pv ev s mv below meth cv A hx hb hml hr hown hts hlocks hname hM ls hl
  have hown : s.vm.findClass RX4 = some mv.cls := hown
  have hl : lv_has ls 5 [(0, .ref (sa S o)), (1, .int (nI t)), (2, .int 6)] := hl
  have hin4 : ∀ x ∈ wsX40, x ∈ wsX4_tickTold := by decide +kernel
  obtain ⟨Q, hQ⟩ : ∃ Q, Q = MQ below (va_Qi (fun z u => z = nI (cld (mx (I (o + 10 + t))) (cf t * rf t)) ∧ u = (S, V, sT V, I)) (fun u t => fb_P D y A u t) A) (([.ref (sa S o), .int (nI t), .int 6] : List Value).toArray) s 0 0 A := ⟨_, rfl⟩
  rw [← hQ]
  have hns : ns ≤ 12 := hF.2.2.1
  have hnt : nt ≤ 6 := hF.2.2.2.1
  have hcr := hF.cr ht
  have htF := hF.2.2.2.2.1 t ht
  have hcl := cld_lt (mx (I (o + 10 + t))) (cf t * rf t)
  refine lv_iconst (v := 0) hx hb dX4_tickTold_0 (by decide) ?_
  refine lv_istore_n (lv' := [(3, .int 0), (0, .ref (sa S o)), (1, .int (nI t)), (2, .int 6)]) hx hb dX4_tickTold_1 rfl hl (by decide) rfl (fun ls hl => ?_)
  refine lv_iload_n hx hb dX4_tickTold_2 rfl (lv_at hl 3 rfl) ?_
  refine lv_tableIn (off := 85) (tgt := 88) hx hb dX4_tickTold_3 (by decide) (by decide) rfl (by decide) ?_
  refine lv_aload_n hx hb dX4_tickTold_88 rfl (lv_at hl 1 rfl) ?_
  refine lv_iload_n hx hb dX4_tickTold_89 rfl (lv_at hl 2 rfl) ?_
  refine fb_callVi (r := o) hx hb hml hown hts hM ((hA.1).1) (ce4 ((hA.1).2)) rfl (As := [.int (nI t)]) (rest := []) (c_X4_coldest D y l S V I o nt cf rf hA ns df hF t ht) (cwV 1 hts gX4_tickTold_X4_coldest rfl rfl rfl (by decide +kernel) ⟨Nat.le_of_ble_eq_true rfl, Nat.le_of_ble_eq_true rfl⟩) rfl hl.1 rfl (Nat.le_of_ble_eq_true rfl) dX4_tickTold_90 ⟨Nat.le_of_ble_eq_true rfl, Nat.le_of_ble_eq_true rfl⟩ (fun v_1 u H locs hp hM => ?_)
  obtain ⟨hv, hu⟩ := hp
  have hv := Eq.symm hv
  have hu := Eq.symm hu
  subst hv
  subst hu
  rw [hQ]
  exact fb_iret hx hb hr hlocks hM (⟨rfl, rfl⟩) dX4_tickTold_93

set_option maxHeartbeats 4000000 in
set_option maxRecDepth 100000 in
theorem c_X4_tickTold_7 (D : va_G) (y : Nat → ClassId) (l : Launch) (S : fb_Sh) (V I : fb_V) (o nt : Nat) (cf rf : Nat → Nat) (hA : MdAt S o nt cf rf) (ns : Nat) (df : Nat → Nat) (hF : MF I o ns nt cf rf df) (t : Nat) (ht : t < nt) : CI D y l yX4_tickTold wsX4_tickTold rm_X4_tickTold [.ref (sa S o), .int (nI t), .int 7] (S, V, (sT V), I) (fun z u => z = opc (cf t) (cf t * rf t) (I (o + 20 + t)) (2 * (cf t * rf t)) ∧ u = (S, V, sT V, I)) 0 0 := by
  refine CI.of (cc := cX4_tickTold) (maxL := 5) (ret := (some .int)) (by decide) rfl (Nat.le_of_ble_eq_true rfl) ?_
  intro pv ev s mv below meth cv A hx hb hml hr hown hts hlocks hname hM ls hl
  have hown : s.vm.findClass RX4 = some mv.cls := hown
  have hl : lv_has ls 5 [(0, .ref (sa S o)), (1, .int (nI t)), (2, .int 7)] := hl
  have hin4 : ∀ x ∈ wsX40, x ∈ wsX4_tickTold := by decide +kernel
  obtain ⟨Q, hQ⟩ : ∃ Q, Q = MQ below (va_Qi (fun z u => z = opc (cf t) (cf t * rf t) (I (o + 20 + t)) (2 * (cf t * rf t)) ∧ u = (S, V, sT V, I)) (fun u t => fb_P D y A u t) A) (([.ref (sa S o), .int (nI t), .int 7] : List Value).toArray) s 0 0 A := ⟨_, rfl⟩
  rw [← hQ]
  have hns : ns ≤ 12 := hF.2.2.1
  have hnt : nt ≤ 6 := hF.2.2.2.1
  have hcr := hF.cr ht
  have htF := hF.2.2.2.2.1 t ht
  have hcl := cld_lt (mx (I (o + 10 + t))) (cf t * rf t)
  refine lv_iconst (v := 0) hx hb dX4_tickTold_0 (by decide) ?_
  refine lv_istore_n (lv' := [(3, .int 0), (0, .ref (sa S o)), (1, .int (nI t)), (2, .int 7)]) hx hb dX4_tickTold_1 rfl hl (by decide) rfl (fun ls hl => ?_)
  refine lv_iload_n hx hb dX4_tickTold_2 rfl (lv_at hl 3 rfl) ?_
  refine lv_tableIn (off := 91) (tgt := 94) hx hb dX4_tickTold_3 (by decide) (by decide) rfl (by decide) ?_
  refine lv_aload_n hx hb dX4_tickTold_94 rfl (lv_at hl 1 rfl) ?_
  refine lv_iload_n hx hb dX4_tickTold_95 rfl (lv_at hl 2 rfl) ?_
  refine fb_callVi (r := o) hx hb hml hown hts hM ((hA.1).1) (ce4 ((hA.1).2)) rfl (As := [.int (nI t)]) (rest := []) (c_X4_open D y l S V I o nt cf rf hA ns df hF t ht) (cwV 1 hts gX4_tickTold_X4_open rfl rfl rfl (by decide +kernel) ⟨Nat.le_of_ble_eq_true rfl, Nat.le_of_ble_eq_true rfl⟩) rfl hl.1 rfl (Nat.le_of_ble_eq_true rfl) dX4_tickTold_96 ⟨Nat.le_of_ble_eq_true rfl, Nat.le_of_ble_eq_true rfl⟩ (fun v_1 u H locs hp hM => ?_)
  obtain ⟨hv, hu⟩ := hp
  have hv := Eq.symm hv
  have hu := Eq.symm hu
  subst hv
  subst hu
  rw [hQ]
  exact fb_iret hx hb hr hlocks hM (⟨rfl, rfl⟩) dX4_tickTold_99
