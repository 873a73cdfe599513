abbrev rm_X4_move : Room := { frames := 1, cells := 0, slots := 0, locals := 24 }
set_option maxHeartbeats 4000000 in
set_option maxRecDepth 100000 in
theorem c_X4_move (D : va_G) (y : Nat → ClassId) (l : Launch) (S : fb_Sh) (V I : fb_V) (a b La Lb : Nat) (h1 : a ∈ sR S) (h2 : sk S a = 6) (h3 : sn S a = La) (g1 : b ∈ sR S) (g2 : sk S b = 6) (g3 : sn S b = Lb) (hLa : La < 2 ^ 31) (hLb : Lb < 2 ^ 31) (p q : Nat) (hp : 6 * p + 6 ≤ La) (hq : 6 * q + 6 ≤ Lb) (hd : a ≠ b ∨ p ≠ q) (mm : Int32) (z : Nat) (hz : z ≤ 6) : CI D y l yX4_move wsX4_move rm_X4_move [.ref (sa S a), .int (nI p), .ref (sa S b), .int (nI q), .int mm, .int (nI z)] (S, V, (sT V), I) (fun r u => r = mm - mvm (mx (I a) p) mm z ∧ u = (S, V, sT V, (mvI I a p b q mm z))) 0 0 := by
  refine CI.of (cc := cX4_move) (maxL := 9) (ret := (some .int)) (by decide) rfl (Nat.le_of_ble_eq_true rfl) ?_
  intro pv ev s mv below meth cv A hx hb hml hr hown hts hlocks hname hM ls hl
  have hown : s.vm.findClass RX4 = some mv.cls := hown
  have hl : lv_has ls 9 [(0, .ref (sa S a)), (1, .int (nI p)), (2, .ref (sa S b)), (3, .int (nI q)), (4, .int mm), (5, .int (nI z))] := hl
  obtain ⟨Q, hQ⟩ : ∃ Q, Q = MQ below (va_Qi (fun r u => r = mm - mvm (mx (I a) p) mm z ∧ u = (S, V, sT V, (mvI I a p b q mm z))) (fun u t => fb_P D y A u t) A) (([.ref (sa S a), .int (nI p), .ref (sa S b), .int (nI q), .int mm, .int (nI z)] : List Value).toArray) s 0 0 A := ⟨_, rfl⟩
  rw [← hQ]
  refine lv_iload hx hb dX4_move_0 (lv_at hl 4 rfl) ?_
  refine lv_istore (lv' := [(6, .int mm), (0, .ref (sa S a)), (1, .int (nI p)), (2, .ref (sa S b)), (3, .int (nI q)), (4, .int mm), (5, .int (nI z))]) hx hb dX4_move_2 hl (by decide) rfl (fun ls hl => ?_)
  refine lv_iconst (v := 0) hx hb dX4_move_4 (by decide) ?_
  refine lv_istore (lv' := [(7, .int 0), (6, .int mm), (0, .ref (sa S a)), (1, .int (nI p)), (2, .ref (sa S b)), (3, .int (nI q)), (4, .int mm), (5, .int (nI z))]) hx hb dX4_move_5 hl (by decide) rfl (fun ls hl => ?_)
  have LP_7 : ∀ (n : Nat) (i : Nat) (hi : i ≤ z), z - i < n → ∀ (H : Heap) (locs : List Loc), fb_M D y A s (S, V, (sT V), (mvI I a p b q mm i)) H locs → ∀ ls, lv_has ls 9 [(7, .int (nI i)), (6, .int (mm - mvm (mx (I a) p) mm i)), (0, .ref (sa S a)), (1, .int (nI p)), (2, .ref (sa S b)), (3, .int (nI q)), (4, .int mm), (5, .int (nI z))] → W pv l ev rm_X4_move s mv ([.ref (sa S a), .int (nI p), .ref (sa S b), .int (nI q), .int mm, .int (nI z)] : List Value).toArray below meth cv H locs 0 0 Q (F0 mv 7 ls []) := by
    intro n_7
    induction n_7 with
    | zero => intro i hi hmu; exact absurd hmu (Nat.not_lt_zero _)
    | succ n_7 ih_7 =>
      intro i hi hmu H locs hM ls hl
      refine lv_iload hx hb dX4_move_7 (lv_at hl 0 rfl) ?_
      refine lv_iload hx hb dX4_move_9 (lv_at hl 7 rfl) ?_
      refine lv_icmp_ge (tgt := 71) hx hb dX4_move_11 (by decide) (fun c_1 => ?_) (fun c_1 => ?_)
      · skip
        have e_i : i = z := by have := (nI_leI (a := z) (b := i) (by omega) (by omega)).mp c_1; omega
        subst e_i
        refine lv_iload hx hb dX4_move_71 (lv_at hl 1 rfl) ?_
        rw [hQ]
        exact fb_iret hx hb hr hlocks hM (⟨rfl, rfl⟩) dX4_move_73
      · skip
        have hik : i < z := Nat.lt_of_not_le (fun h => c_1 (nI_le h (by omega)))
        refine lv_iload hx hb dX4_move_14 (lv_at hl 1 rfl) ?_
        refine lv_aload_n hx hb dX4_move_16 rfl (lv_at hl 2 rfl) ?_
        refine lv_bipush (v := 6) hx hb dX4_move_17 (by decide) ?_
        refine lv_iload_n hx hb dX4_move_19 rfl (lv_at hl 3 rfl) ?_
        refine lv_imul hx hb dX4_move_20 ?_
        refine W.eq (g2 := F0 mv _ ls (.int (nI (6 * p)) :: .ref (sa S a) :: .int (mm - mvm (mx (I a) p) mm i) :: [])) (by first | rfl | rw [show (6 * (nI p) : Int32) = nI (6 * p) from pk_mul 6 p]) ?_
        refine lv_iload hx hb dX4_move_21 (lv_at hl 0 rfl) ?_
        refine lv_iadd hx hb dX4_move_23 ?_
        refine W.eq (g2 := F0 mv _ ls (.int (nI (6 * p + i)) :: .ref (sa S a) :: .int (mm - mvm (mx (I a) p) mm i) :: [])) (by first | rfl | rw [show ((nI (6 * p)) + (nI i) : Int32) = nI (6 * p + i) from nI_add _ _]) ?_
        refine fb_iald (r := a) hx hb hM (h1) (ce6 (h2)) (k := 6 * p + i) (nI_clamp (by omega)) (by rw [h3]; exact vp_in_nI (by omega) (by omega)) dX4_move_24 ?_
        refine va_mmin hx hb (hml.trans hl.1.symm) hown (hts (.methodLink RX4 83 Lib.Math.min.name) (by decide +kernel)) (hts (.static Lib.Math.min.name) (by decide +kernel)) (hts (.initialized "java/lang/Math") (by decide +kernel)) (hts (.code Lib.Math.min.name Lib.Math.min.code 2 (some .int)) (by decide +kernel)) (Nat.le_of_ble_eq_true rfl) (Nat.le_of_ble_eq_true rfl) (Nat.le_of_ble_eq_true rfl) (Nat.le_of_ble_eq_true rfl) dX4_move_25 ?_
        refine W.eq (g2 := F0 mv _ ls (.int (mvn (mx (I a) p) mm i) :: [])) (by first | rfl | rw [show (if (mvI I a p b q mm i) a (6 * p + i) < mm - mvm (mx (I a) p) mm i then (mvI I a p b q mm i) a (6 * p + i) else mm - mvm (mx (I a) p) mm i : Int32) = mvn (mx (I a) p) mm i from by rw [mvI_a I hd mm (by omega)]; exact (mn_c _ _).trans (congrArg (fun x => mn x (mm - mvm (mx (I a) p) mm i)) (mx_k (I a) p (show i < 6 by omega)).symm)]) ?_
        refine lv_istore (lv' := [(8, .int (mvn (mx (I a) p) mm i)), (7, .int (nI i)), (6, .int (mm - mvm (mx (I a) p) mm i)), (0, .ref (sa S a)), (1, .int (nI p)), (2, .ref (sa S b)), (3, .int (nI q)), (4, .int mm), (5, .int (nI z))]) hx hb dX4_move_28 hl (by decide) rfl (fun ls hl => ?_)
        refine lv_aload_n hx hb dX4_move_30 rfl (lv_at hl 3 rfl) ?_
        refine lv_bipush (v := 6) hx hb dX4_move_31 (by decide) ?_
        refine lv_iload_n hx hb dX4_move_33 rfl (lv_at hl 4 rfl) ?_
        refine lv_imul hx hb dX4_move_34 ?_
        refine W.eq (g2 := F0 mv _ ls (.int (nI (6 * p)) :: .ref (sa S a) :: [])) (by first | rfl | rw [show (6 * (nI p) : Int32) = nI (6 * p) from pk_mul 6 p]) ?_
        refine lv_iload hx hb dX4_move_35 (lv_at hl 1 rfl) ?_
        refine lv_iadd hx hb dX4_move_37 ?_
        refine W.eq (g2 := F0 mv _ ls (.int (nI (6 * p + i)) :: .ref (sa S a) :: [])) (by first | rfl | rw [show ((nI (6 * p)) + (nI i) : Int32) = nI (6 * p + i) from nI_add _ _]) ?_
        refine lv_dup2_11 hx hb dX4_move_38 rfl rfl ?_
        refine fb_iald (r := a) hx hb hM (h1) (ce6 (h2)) (k := 6 * p + i) (nI_clamp (by omega)) (by rw [h3]; exact vp_in_nI (by omega) (by omega)) dX4_move_39 ?_
        refine lv_iload hx hb dX4_move_40 (lv_at hl 0 rfl) ?_
        refine lv_isub hx hb dX4_move_42 ?_
        refine fb_iast (r := a) hx hb hM (h1) (ce6 (h2)) (k := 6 * p + i) (nI_clamp (by omega)) (by rw [h3]; exact vp_in_nI (by omega) (by omega)) dX4_move_43 (up_I (j := 6 * p + i) (by rw [ce6 (h2)]; simp [va_up])) (w' := (S, V, (sT V), (va_up (mvI I a p b q mm i) a (upd ((mvI I a p b q mm i) a) (6 * p + i) (((mvI I a p b q mm i) a (6 * p + i)) - (mvn (mx (I a) p) mm i)))))) ⟨rfl, rfl, rfl⟩ (fun H locs hM => ?_)
        rw [mvI_a I hd mm (by omega)] at hM
        obtain ⟨J, hJ⟩ : ∃ J, J = va_up (mvI I a p b q mm i) a (upd ((mvI I a p b q mm i) a) (6 * p + i) (I a (6 * p + i) - mvn (mx (I a) p) mm i)) := ⟨_, rfl⟩
        rw [← hJ] at hM
        refine lv_aload_n hx hb dX4_move_44 rfl (lv_at hl 5 rfl) ?_
        refine lv_bipush (v := 6) hx hb dX4_move_45 (by decide) ?_
        refine lv_iload_n hx hb dX4_move_47 rfl (lv_at hl 6 rfl) ?_
        refine lv_imul hx hb dX4_move_48 ?_
        refine W.eq (g2 := F0 mv _ ls (.int (nI (6 * q)) :: .ref (sa S b) :: [])) (by first | rfl | rw [show (6 * (nI q) : Int32) = nI (6 * q) from pk_mul 6 q]) ?_
        refine lv_iload hx hb dX4_move_49 (lv_at hl 1 rfl) ?_
        refine lv_iadd hx hb dX4_move_51 ?_
        refine W.eq (g2 := F0 mv _ ls (.int (nI (6 * q + i)) :: .ref (sa S b) :: [])) (by first | rfl | rw [show ((nI (6 * q)) + (nI i) : Int32) = nI (6 * q + i) from nI_add _ _]) ?_
        refine lv_dup2_11 hx hb dX4_move_52 rfl rfl ?_
        refine fb_iald (r := b) hx hb hM (g1) (ce6 (g2)) (k := 6 * q + i) (nI_clamp (by omega)) (by rw [g3]; exact vp_in_nI (by omega) (by omega)) dX4_move_53 ?_
        refine lv_iload hx hb dX4_move_54 (lv_at hl 0 rfl) ?_
        refine lv_iadd hx hb dX4_move_56 ?_
        refine fb_iast (r := b) hx hb hM (g1) (ce6 (g2)) (k := 6 * q + i) (nI_clamp (by omega)) (by rw [g3]; exact vp_in_nI (by omega) (by omega)) dX4_move_57 (up_I (j := 6 * q + i) (by rw [ce6 (g2)]; simp [va_up])) (w' := (S, V, (sT V), (va_up J b (upd (J b) (6 * q + i) ((J b (6 * q + i)) + (mvn (mx (I a) p) mm i)))))) ⟨rfl, rfl, rfl⟩ (fun H locs hM => ?_)
        rw [mvI_s I hd mm (by omega) J hJ] at hM
        refine lv_iload hx hb dX4_move_58 (lv_at hl 2 rfl) ?_
        refine lv_iload hx hb dX4_move_60 (lv_at hl 0 rfl) ?_
        refine lv_isub hx hb dX4_move_62 ?_
        refine W.eq (g2 := F0 mv _ ls (.int (mm - mvm (mx (I a) p) mm (i + 1)) :: [])) (by first | rfl | rw [show ((mm - mvm (mx (I a) p) mm i) - (mvn (mx (I a) p) mm i) : Int32) = mm - mvm (mx (I a) p) mm (i + 1) from by show _ = mm - (mvm (mx (I a) p) mm i + mvn (mx (I a) p) mm i); rw [Int32.sub_sub]]) ?_
        refine lv_istore (lv' := [(6, .int (mm - mvm (mx (I a) p) mm (i + 1))), (8, .int (mvn (mx (I a) p) mm i)), (7, .int (nI i)), (0, .ref (sa S a)), (1, .int (nI p)), (2, .ref (sa S b)), (3, .int (nI q)), (4, .int mm), (5, .int (nI z))]) hx hb dX4_move_63 hl (by decide) rfl (fun ls hl => ?_)
        refine lv_iinc (v := nI (i + 1)) (lv' := [(7, .int (nI (i + 1))), (6, .int (mm - mvm (mx (I a) p) mm (i + 1))), (8, .int (mvn (mx (I a) p) mm i)), (0, .ref (sa S a)), (1, .int (nI p)), (2, .ref (sa S b)), (3, .int (nI q)), (4, .int mm), (5, .int (nI z))]) hx hb dX4_move_65 hl (k := 2) rfl (nI_1 _) (by decide) rfl (fun ls hl => ?_)
        refine lv_goto (tgt := 7) hx hb dX4_move_68 (by decide) ?_
        exact ih_7 (i + 1) (by omega) (by omega) _ _ hM ls (lv_sub hl [0, 1, 3, 4, 5, 6, 7, 8] rfl)
  rw [show I = (mvI I a p b q mm 0) from (mvI_0 I mm).symm] at hM
  have hl : lv_has ls 9 [(7, .int 0), (6, .int (mm - mvm (mx (I a) p) mm 0)), (0, .ref (sa S a)), (1, .int (nI p)), (2, .ref (sa S b)), (3, .int (nI q)), (4, .int mm), (5, .int (nI z))] := by rw [show mm - mvm (mx (I a) p) mm 0 = mm from Int32.sub_zero mm]; exact hl
  exact LP_7 _ 0 (by omega) (Nat.lt_succ_self _) _ _ hM ls (lv_sub hl [0, 1, 2, 3, 4, 5, 6, 7] rfl)

abbrev rm_X4_warmth : Room := { frames := 1, cells := 0, slots := 0, locals := 24 }
set_option maxHeartbeats 4000000 in
set_option maxRecDepth 100000 in
theorem c_X4_warmth (D : va_G) (y : Nat → ClassId) (l : Launch) (S : fb_Sh) (V I : fb_V) (o nt : Nat) (cf rf : Nat → Nat) (hA : MdAt S o nt cf rf) (ns : Nat) (df : Nat → Nat) (hF : MF I o ns nt cf rf df) (t : Nat) (ht : t < nt) (q : Nat) (hq : q < cf t * rf t) : CI D y l yX4_warmth wsX4_warmth rm_X4_warmth [.ref (sa S o), .int (nI t), .int (nI q)] (S, V, (sT V), I) (fun z u => z = wm (mx (I (o + 10 + t)) q) ∧ u = (S, V, sT V, I)) 0 0 := by
  refine CI.of (cc := cX4_warmth) (maxL := 5) (ret := (some .int)) (by decide) rfl (Nat.le_of_ble_eq_true rfl) ?_
  intro pv ev s mv below meth cv A hx hb hml hr hown hts hlocks hname hM ls hl
  have hown : s.vm.findClass RX4 = some mv.cls := hown
  have hl : lv_has ls 5 [(0, .ref (sa S o)), (1, .int (nI t)), (2, .int (nI q))] := hl
  have hin4 : ∀ x ∈ wsX40, x ∈ wsX4_warmth := by decide +kernel
  obtain ⟨Q, hQ⟩ : ∃ Q, Q = MQ below (va_Qi (fun z u => z = wm (mx (I (o + 10 + t)) q) ∧ u = (S, V, sT V, I)) (fun u t => fb_P D y A u t) A) (([.ref (sa S o), .int (nI t), .int (nI q)] : List Value).toArray) s 0 0 A := ⟨_, rfl⟩
  rw [← hQ]
  have hns : ns ≤ 12 := hF.2.2.1
  have hnt : nt ≤ 6 := hF.2.2.2.1
  have hcr := hF.cr ht
  have htF := hF.2.2.2.2.1 t ht
  refine lv_iconst (v := 0) hx hb dX4_warmth_0 (by decide) ?_
  refine lv_istore_n (lv' := [(3, .int 0), (0, .ref (sa S o)), (1, .int (nI t)), (2, .int (nI q))]) hx hb dX4_warmth_1 rfl hl (by decide) rfl (fun ls hl => ?_)
  refine lv_iconst (v := 0) hx hb dX4_warmth_2 (by decide) ?_
  refine lv_istore (lv' := [(4, .int 0), (3, .int 0), (0, .ref (sa S o)), (1, .int (nI t)), (2, .int (nI q))]) hx hb dX4_warmth_3 hl (by decide) rfl (fun ls hl => ?_)
  have LP_5 : ∀ (n : Nat) (i : Nat) (hi : i ≤ 6), 6 - i < n → ∀ (H : Heap) (locs : List Loc), fb_M D y A s (S, V, (sT V), I) H locs → ∀ ls, lv_has ls 5 [(4, .int (nI i)), (3, .int (wsum (mx (I (o + 10 + t)) q) i)), (0, .ref (sa S o)), (1, .int (nI t)), (2, .int (nI q))] → W pv l ev rm_X4_warmth s mv ([.ref (sa S o), .int (nI t), .int (nI q)] : List Value).toArray below meth cv H locs 0 0 Q (F0 mv 5 ls []) := by
    intro n_5
    induction n_5 with
    | zero => intro i hi hmu; exact absurd hmu (Nat.not_lt_zero _)
    | succ n_5 ih_5 =>
      intro i hi hmu H locs hM ls hl
      refine lv_iload hx hb dX4_warmth_5 (lv_at hl 0 rfl) ?_
      refine lv_bipush (v := 6) hx hb dX4_warmth_7 (by decide) ?_
      refine lv_icmp_ge (tgt := 41) hx hb dX4_warmth_9 (by decide) (fun c_1 => ?_) (fun c_1 => ?_)
      · skip
        have e_i : i = 6 := by have := (nI_leI (a := 6) (b := i) (by omega) (by omega)).mp c_1; omega
        subst e_i
        refine lv_sipush (v := 900) hx hb dX4_warmth_41 (by decide) ?_
        refine lv_iload_n hx hb dX4_warmth_44 rfl (lv_at hl 1 rfl) ?_
        refine va_mmin hx hb (hml.trans hl.1.symm) hown (hts (.methodLink RX4 83 Lib.Math.min.name) (by decide +kernel)) (hts (.static Lib.Math.min.name) (by decide +kernel)) (hts (.initialized "java/lang/Math") (by decide +kernel)) (hts (.code Lib.Math.min.name Lib.Math.min.code 2 (some .int)) (by decide +kernel)) (Nat.le_of_ble_eq_true rfl) (Nat.le_of_ble_eq_true rfl) (Nat.le_of_ble_eq_true rfl) (Nat.le_of_ble_eq_true rfl) dX4_warmth_45 ?_
        rw [hQ]
        exact fb_iret hx hb hr hlocks hM (⟨mn_c _ _, rfl⟩) dX4_warmth_48
      · skip
        have hik : i < 6 := Nat.lt_of_not_le (fun h => c_1 (nI_le h (by omega)))
        refine lv_iload_n hx hb dX4_warmth_12 rfl (lv_at hl 1 rfl) ?_
        refine lv_bipush (v := 6) hx hb dX4_warmth_13 (by decide) ?_
        refine lv_iload hx hb dX4_warmth_15 (lv_at hl 0 rfl) ?_
        refine lv_isub hx hb dX4_warmth_17 ?_
        refine lv_aload_n hx hb dX4_warmth_18 rfl (lv_at hl 2 rfl) ?_
        refine fb_get (r := o) hx hb hown hts hin4 hM ((hA.1).1) (ce4 ((hA.1).2)) rfl 8 (by decide) (hts (.fieldLink RX4 27 "FeatherBedsModel" "squares" "[[I") (by decide +kernel)) (fun _ h9 => h9) (v := .ref (sa S (o + 5))) (congrArg (fun z => some (va_rf z)) ((hA.2.1).2.2.2.2.1)) dX4_warmth_19 ?_
        refine lv_iload_n hx hb dX4_warmth_22 rfl (lv_at hl 3 rfl) ?_
        refine fb_aaldA (r := (o + 5)) hx hb hM ((hA.2.2.2.2.2.2.1).1) (ce10 ((hA.2.2.2.2.2.2.1).2.1)) 4 rfl (k := t) (nI_clamp (by omega)) (b := sa S (o + 10 + t)) (((hA.2.2.2.2.2.2.2.2.2) t (by omega)).1.1) (by rw [(hA.2.2.2.2.2.2.1).2.2]; exact vp_in_nI (by omega) (by omega)) dX4_warmth_23 ?_
        refine lv_bipush (v := 6) hx hb dX4_warmth_24 (by decide) ?_
        refine lv_iload_n hx hb dX4_warmth_26 rfl (lv_at hl 4 rfl) ?_
        refine lv_imul hx hb dX4_warmth_27 ?_
        refine W.eq (g2 := F0 mv _ ls (.int (nI (6 * q)) :: .ref (sa S (o + 10 + t)) :: .int (6 - (nI i)) :: .int (wsum (mx (I (o + 10 + t)) q) i) :: [])) (by first | rfl | rw [show (6 * (nI q) : Int32) = nI (6 * q) from pk_mul 6 q]) ?_
        refine lv_iload hx hb dX4_warmth_28 (lv_at hl 0 rfl) ?_
        refine lv_iadd hx hb dX4_warmth_30 ?_
        refine W.eq (g2 := F0 mv _ ls (.int (nI (6 * q + i)) :: .ref (sa S (o + 10 + t)) :: .int (6 - (nI i)) :: .int (wsum (mx (I (o + 10 + t)) q) i) :: [])) (by first | rfl | rw [show ((nI (6 * q)) + (nI i) : Int32) = nI (6 * q + i) from nI_add _ _]) ?_
        refine fb_iald (r := (o + 10 + t)) hx hb hM (((hA.2.2.2.2.2.2.2.2.2) t (by omega)).1.2.1) (ce6 (((hA.2.2.2.2.2.2.2.2.2) t (by omega)).1.2.2.1)) (k := 6 * q + i) (nI_clamp (by omega)) (by rw [((hA.2.2.2.2.2.2.2.2.2) t (by omega)).1.2.2.2]; exact vp_in_nI (by omega) (by omega)) dX4_warmth_31 ?_
        refine lv_imul hx hb dX4_warmth_32 ?_
        refine lv_iadd hx hb dX4_warmth_33 ?_
        refine W.eq (g2 := F0 mv _ ls (.int (wsum (mx (I (o + 10 + t)) q) (i + 1)) :: [])) (by first | rfl | rw [show ((wsum (mx (I (o + 10 + t)) q) i) + ((6 - (nI i)) * (I (o + 10 + t) (6 * q + i))) : Int32) = wsum (mx (I (o + 10 + t)) q) (i + 1) from by show _ = wsum (mx (I (o + 10 + t)) q) i + (6 - nI i) * mx (I (o + 10 + t)) q i; rw [mx_k _ _ hik]]) ?_
        refine lv_istore_n (lv' := [(3, .int (wsum (mx (I (o + 10 + t)) q) (i + 1))), (4, .int (nI i)), (0, .ref (sa S o)), (1, .int (nI t)), (2, .int (nI q))]) hx hb dX4_warmth_34 rfl hl (by decide) rfl (fun ls hl => ?_)
        refine lv_iinc (v := nI (i + 1)) (lv' := [(4, .int (nI (i + 1))), (3, .int (wsum (mx (I (o + 10 + t)) q) (i + 1))), (0, .ref (sa S o)), (1, .int (nI t)), (2, .int (nI q))]) hx hb dX4_warmth_35 hl (k := 1) rfl (nI_1 _) (by decide) rfl (fun ls hl => ?_)
        refine lv_goto (tgt := 5) hx hb dX4_warmth_38 (by decide) ?_
        exact ih_5 (i + 1) (by omega) (by omega) _ _ hM ls (lv_sub hl [0, 1, 2, 3, 4] rfl)
  exact LP_5 _ 0 (by omega) (Nat.lt_succ_self _) _ _ hM ls (lv_sub hl [0, 1, 2, 3, 4] rfl)

abbrev rm_X4_feathers : Room := { frames := 0, cells := 0, slots := 0, locals := 0 }
set_option maxHeartbeats 4000000 in
set_option maxRecDepth 100000 in
theorem c_X4_feathers (D : va_G) (y : Nat → ClassId) (l : Launch) (S : fb_Sh) (V I : fb_V) (o nt : Nat) (cf rf : Nat → Nat) (hA : MdAt S o nt cf rf) (ns : Nat) (df : Nat → Nat) (hF : MF I o ns nt cf rf df) (t : Nat) (ht : t < nt) : CI D y l yX4_feathers wsX4_feathers rm_X4_feathers [.ref (sa S o), .int (nI t)] (S, V, (sT V), I) (fun z u => z = asf (I (o + 10 + t)) (6 * (cf t * rf t)) ∧ u = (S, V, sT V, I)) 0 0 := by
  refine CI.of (cc := cX4_feathers) (maxL := 7) (ret := (some .int)) (by decide) rfl (Nat.le_of_ble_eq_true rfl) ?_
  intro pv ev s mv below meth cv A hx hb hml hr hown hts hlocks hname hM ls hl
  have hown : s.vm.findClass RX4 = some mv.cls := hown
  have hl : lv_has ls 7 [(0, .ref (sa S o)), (1, .int (nI t))] := hl
  have hin4 : ∀ x ∈ wsX40, x ∈ wsX4_feathers := by decide +kernel
  obtain ⟨Q, hQ⟩ : ∃ Q, Q = MQ below (va_Qi (fun z u => z = asf (I (o + 10 + t)) (6 * (cf t * rf t)) ∧ u = (S, V, sT V, I)) (fun u t => fb_P D y A u t) A) (([.ref (sa S o), .int (nI t)] : List Value).toArray) s 0 0 A := ⟨_, rfl⟩
  rw [← hQ]
  have hns : ns ≤ 12 := hF.2.2.1
  have hnt : nt ≤ 6 := hF.2.2.2.1
  have hcr := hF.cr ht
  have htF := hF.2.2.2.2.1 t ht
  refine lv_iconst (v := 0) hx hb dX4_feathers_0 (by decide) ?_
  refine lv_istore_n (lv' := [(2, .int 0), (0, .ref (sa S o)), (1, .int (nI t))]) hx hb dX4_feathers_1 rfl hl (by decide) rfl (fun ls hl => ?_)
  refine lv_aload_n hx hb dX4_feathers_2 rfl (lv_at hl 1 rfl) ?_
  refine fb_get (r := o) hx hb hown hts hin4 hM ((hA.1).1) (ce4 ((hA.1).2)) rfl 8 (by decide) (hts (.fieldLink RX4 27 "FeatherBedsModel" "squares" "[[I") (by decide +kernel)) (fun _ h9 => h9) (v := .ref (sa S (o + 5))) (congrArg (fun z => some (va_rf z)) ((hA.2.1).2.2.2.2.1)) dX4_feathers_3 ?_
  refine lv_iload_n hx hb dX4_feathers_6 rfl (lv_at hl 2 rfl) ?_
  refine fb_aaldA (r := (o + 5)) hx hb hM ((hA.2.2.2.2.2.2.1).1) (ce10 ((hA.2.2.2.2.2.2.1).2.1)) 4 rfl (k := t) (nI_clamp (by omega)) (b := sa S (o + 10 + t)) (((hA.2.2.2.2.2.2.2.2.2) t (by omega)).1.1) (by rw [(hA.2.2.2.2.2.2.1).2.2]; exact vp_in_nI (by omega) (by omega)) dX4_feathers_7 ?_
  refine lv_astore_n (lv' := [(3, .ref (sa S (o + 10 + t))), (2, .int 0), (0, .ref (sa S o)), (1, .int (nI t))]) hx hb dX4_feathers_8 rfl hl (by decide) rfl (fun ls hl => ?_)
  refine lv_aload_n hx hb dX4_feathers_9 rfl (lv_at hl 0 rfl) ?_
  refine fb_alen (r := (o + 10 + t)) hx hb hM (((hA.2.2.2.2.2.2.2.2.2) t (by omega)).1.2.1) (ce6 (((hA.2.2.2.2.2.2.2.2.2) t (by omega)).1.2.2.1)) 0 rfl (v := nI (6 * (cf t * rf t))) (congrArg Int32.ofNat (((hA.2.2.2.2.2.2.2.2.2) t (by omega)).1.2.2.2)) dX4_feathers_10 ?_
  refine lv_istore (lv' := [(4, .int (nI ((6 * (cf t * rf t))))), (3, .ref (sa S (o + 10 + t))), (2, .int 0), (0, .ref (sa S o)), (1, .int (nI t))]) hx hb dX4_feathers_11 hl (by decide) rfl (fun ls hl => ?_)
  refine lv_iconst (v := 0) hx hb dX4_feathers_13 (by decide) ?_
  refine lv_istore (lv' := [(5, .int 0), (4, .int (nI ((6 * (cf t * rf t))))), (3, .ref (sa S (o + 10 + t))), (2, .int 0), (0, .ref (sa S o)), (1, .int (nI t))]) hx hb dX4_feathers_14 hl (by decide) rfl (fun ls hl => ?_)
  have LP_16 : ∀ (n : Nat) (i : Nat) (hi : i ≤ 6 * (cf t * rf t)), 6 * (cf t * rf t) - i < n → ∀ (H : Heap) (locs : List Loc), fb_M D y A s (S, V, (sT V), I) H locs → ∀ ls, lv_has ls 7 [(5, .int (nI i)), (4, .int (nI (6 * (cf t * rf t)))), (3, .ref (sa S (o + 10 + t))), (2, .int (asf (I (o + 10 + t)) i)), (0, .ref (sa S o)), (1, .int (nI t))] → W pv l ev rm_X4_feathers s mv ([.ref (sa S o), .int (nI t)] : List Value).toArray below meth cv H locs 0 0 Q (F0 mv 16 ls []) := by
    intro n_16
    induction n_16 with
    | zero => intro i hi hmu; exact absurd hmu (Nat.not_lt_zero _)
    | succ n_16 ih_16 =>
      intro i hi hmu H locs hM ls hl
      refine lv_iload hx hb dX4_feathers_16 (lv_at hl 0 rfl) ?_
      refine lv_iload hx hb dX4_feathers_18 (lv_at hl 1 rfl) ?_
      refine lv_icmp_ge (tgt := 40) hx hb dX4_feathers_20 (by decide) (fun c_1 => ?_) (fun c_1 => ?_)
      · skip
        have e_i : i = (6 * (cf t * rf t)) := by have := (nI_leI (a := (6 * (cf t * rf t))) (b := i) (by omega) (by omega)).mp c_1; omega
        subst e_i
        refine lv_iload_n hx hb dX4_feathers_40 rfl (lv_at hl 3 rfl) ?_
        rw [hQ]
        exact fb_iret hx hb hr hlocks hM (⟨rfl, rfl⟩) dX4_feathers_41
      · skip
        have hik : i < (6 * (cf t * rf t)) := Nat.lt_of_not_le (fun h => c_1 (nI_le h (by omega)))
        refine lv_aload_n hx hb dX4_feathers_23 rfl (lv_at hl 2 rfl) ?_
        refine lv_iload hx hb dX4_feathers_24 (lv_at hl 0 rfl) ?_
        refine fb_iald (r := (o + 10 + t)) hx hb hM (((hA.2.2.2.2.2.2.2.2.2) t (by omega)).1.2.1) (ce6 (((hA.2.2.2.2.2.2.2.2.2) t (by omega)).1.2.2.1)) (k := i) (nI_clamp (by omega)) (by rw [((hA.2.2.2.2.2.2.2.2.2) t (by omega)).1.2.2.2]; exact vp_in_nI (by omega) (by omega)) dX4_feathers_26 ?_
        refine lv_istore (lv' := [(6, .int (I (o + 10 + t) i)), (5, .int (nI i)), (4, .int (nI (6 * (cf t * rf t)))), (3, .ref (sa S (o + 10 + t))), (2, .int (asf (I (o + 10 + t)) i)), (0, .ref (sa S o)), (1, .int (nI t))]) hx hb dX4_feathers_27 hl (by decide) rfl (fun ls hl => ?_)
        refine lv_iload_n hx hb dX4_feathers_29 rfl (lv_at hl 4 rfl) ?_
        refine lv_iload hx hb dX4_feathers_30 (lv_at hl 0 rfl) ?_
        refine lv_iadd hx hb dX4_feathers_32 ?_
        refine lv_istore_n (lv' := [(2, .int ((asf (I (o + 10 + t)) i) + (I (o + 10 + t) i))), (6, .int (I (o + 10 + t) i)), (5, .int (nI i)), (4, .int (nI (6 * (cf t * rf t)))), (3, .ref (sa S (o + 10 + t))), (0, .ref (sa S o)), (1, .int (nI t))]) hx hb dX4_feathers_33 rfl hl (by decide) rfl (fun ls hl => ?_)
        refine lv_iinc (v := nI (i + 1)) (lv' := [(5, .int (nI (i + 1))), (2, .int ((asf (I (o + 10 + t)) i) + (I (o + 10 + t) i))), (6, .int (I (o + 10 + t) i)), (4, .int (nI (6 * (cf t * rf t)))), (3, .ref (sa S (o + 10 + t))), (0, .ref (sa S o)), (1, .int (nI t))]) hx hb dX4_feathers_34 hl (k := 2) rfl (nI_1 _) (by decide) rfl (fun ls hl => ?_)
        refine lv_goto (tgt := 16) hx hb dX4_feathers_37 (by decide) ?_
        exact ih_16 (i + 1) (by omega) (by omega) _ _ hM ls (lv_sub hl [0, 3, 4, 1, 5, 6] rfl)
  exact LP_16 _ 0 (by omega) (Nat.lt_succ_self _) _ _ hM ls (lv_sub hl [0, 1, 2, 3, 4, 5] rfl)

abbrev rm_X4_other : Room := { frames := 2, cells := 0, slots := 0, locals := 43 }
set_option maxHeartbeats 4000000 in
set_option maxRecDepth 100000 in
theorem c_X4_other (D : va_G) (y : Nat → ClassId) (l : Launch) (S : fb_Sh) (V I : fb_V) (o nt : Nat) (cf rf : Nat → Nat) (hA : MdAt S o nt cf rf) (ns : Nat) (df : Nat → Nat) (hF : MF I o ns nt cf rf df) (t : Nat) (ht : t < nt) (q : Nat) (hq : q < cf t * rf t) (k : Nat) (hk : k < 2) : CI D y l yX4_other wsX4_other rm_X4_other [.ref (sa S o), .int (nI t), .int (nI q), .int (nI k)] (S, V, (sT V), I) (fun z u => z = othM (cf t) (cf t * rf t) q k ∧ u = (S, V, sT V, I)) 0 0 := by
  refine CI.of (cc := cX4_other) (maxL := 5) (ret := (some .int)) (by decide) rfl (Nat.le_of_ble_eq_true rfl) ?_
  intro pv ev s mv below meth cv A hx hb hml hr hown hts hlocks hname hM ls hl
  have hown : s.vm.findClass RX4 = some mv.cls := hown
  have hl : lv_has ls 5 [(0, .ref (sa S o)), (1, .int (nI t)), (2, .int (nI q)), (3, .int (nI k))] := hl
  have hin4 : ∀ x ∈ wsX40, x ∈ wsX4_other := by decide +kernel
  obtain ⟨Q, hQ⟩ : ∃ Q, Q = MQ below (va_Qi (fun z u => z = othM (cf t) (cf t * rf t) q k ∧ u = (S, V, sT V, I)) (fun u t => fb_P D y A u t) A) (([.ref (sa S o), .int (nI t), .int (nI q), .int (nI k)] : List Value).toArray) s 0 0 A := ⟨_, rfl⟩
  rw [← hQ]
  have hns : ns ≤ 12 := hF.2.2.1
  have hnt : nt ≤ 6 := hF.2.2.2.1
  have hcr := hF.cr ht
  have htF := hF.2.2.2.2.1 t ht
  have hc1 : 1 ≤ cf t := htF.2.2.2.1
  have hc6 : cf t ≤ 6 := htF.2.2.2.2.1
  have hm : q % cf t < cf t := Nat.mod_lt _ (by omega)
  refine lv_aload_n hx hb dX4_other_0 rfl (lv_at hl 0 rfl) ?_
  refine lv_iload_n hx hb dX4_other_1 rfl (lv_at hl 1 rfl) ?_
  refine lv_iconst (v := 0) hx hb dX4_other_2 (by decide) ?_
  refine fb_callVi (r := o) hx hb hml hown hts hM ((hA.1).1) (ce4 ((hA.1).2)) rfl (As := [.int (nI t), .int 0]) (rest := []) (c_X4_ti D y l S V I o nt cf rf hA ns df hF t ht 0 (by decide)) (cwV 2 hts gX4_other_X4_ti rfl rfl rfl (by decide +kernel) ⟨Nat.le_of_ble_eq_true rfl, Nat.le_of_ble_eq_true rfl⟩) rfl hl.1 rfl (Nat.le_of_ble_eq_true rfl) dX4_other_3 ⟨Nat.le_of_ble_eq_true rfl, Nat.le_of_ble_eq_true rfl⟩ (fun v_1 u H locs hp hM => ?_)
  obtain ⟨hv, hu⟩ := hp
  have hv := Eq.symm hv
  have hu := Eq.symm hu
  subst hv
  subst hu
  rw [show (I (o + 4) (3 * t + 0) : Int32) = nI (cf t) from htF.1]
  refine lv_istore (lv' := [(4, .int (nI (cf t))), (0, .ref (sa S o)), (1, .int (nI t)), (2, .int (nI q)), (3, .int (nI k))]) hx hb dX4_other_6 hl (by decide) rfl (fun ls hl => ?_)
  refine lv_iload_n hx hb dX4_other_8 rfl (lv_at hl 4 rfl) ?_
  refine lv_if_ne (tgt := 31) hx hb dX4_other_9 (by decide) (fun c_2 => ?_) (fun c_2 => ?_)
  · skip
    have e1 : k = 1 := by rcases (show k = 0 ∨ k = 1 by omega) with h | h; exact absurd (by rw [h]; rfl) c_2; exact h
    refine lv_iload_n hx hb dX4_other_31 rfl (lv_at hl 3 rfl) ?_
    refine lv_iload hx hb dX4_other_32 (lv_at hl 0 rfl) ?_
    refine lv_iadd hx hb dX4_other_34 ?_
    refine W.eq (g2 := F0 mv _ ls (.int (nI (q + cf t)) :: [])) (by first | rfl | rw [show ((nI q) + (nI (cf t)) : Int32) = nI (q + cf t) from nI_add _ _]) ?_
    refine lv_aload_n hx hb dX4_other_35 rfl (lv_at hl 1 rfl) ?_
    refine lv_iload_n hx hb dX4_other_36 rfl (lv_at hl 2 rfl) ?_
    refine fb_callVi (r := o) hx hb hml hown hts hM ((hA.1).1) (ce4 ((hA.1).2)) rfl (As := [.int (nI t)]) (rest := [.int (nI (q + cf t))]) (c_X4_squaresOf D y l S V I o nt cf rf hA ns df hF t ht) (cwV 1 hts gX4_other_X4_squaresOf rfl rfl rfl (by decide +kernel) ⟨Nat.le_of_ble_eq_true rfl, Nat.le_of_ble_eq_true rfl⟩) rfl hl.1 rfl (Nat.le_of_ble_eq_true rfl) dX4_other_37 ⟨Nat.le_of_ble_eq_true rfl, Nat.le_of_ble_eq_true rfl⟩ (fun v_3 u H locs hp hM => ?_)
    obtain ⟨hv, hu⟩ := hp
    have hv := Eq.symm hv
    have hu := Eq.symm hu
    subst hv
    subst hu
    refine lv_icmp_lt (tgt := 47) hx hb dX4_other_40 (by decide) (fun c_4 => ?_) (fun c_4 => ?_)
    · skip
      have hxx : ofx (cf t) (cf t * rf t) q k = true := by rw [e1]; exact ofx_1 ((nI_ltI (by omega) (by omega)).mp c_4)
      refine lv_iload_n hx hb dX4_other_47 rfl (lv_at hl 3 rfl) ?_
      refine lv_iload hx hb dX4_other_48 (lv_at hl 0 rfl) ?_
      refine lv_iadd hx hb dX4_other_50 ?_
      refine W.eq (g2 := F0 mv _ ls (.int (nI (q + cf t)) :: [])) (by first | rfl | rw [show ((nI q) + (nI (cf t)) : Int32) = nI (q + cf t) from nI_add _ _]) ?_
      rw [hQ]
      exact fb_iret hx hb hr hlocks hM (⟨by first | (rw [othM_t hxx, e1]; rfl) | (rw [othM_f hxx]; done), rfl⟩) dX4_other_51
    · skip
      have hxx : ofx (cf t) (cf t * rf t) q k = false := by rw [e1]; cases ee : ofx (cf t) (cf t * rf t) q 1 with | false => rfl | true => exact absurd (nI_lt (of_decide_eq_true (show decide (q + cf t < cf t * rf t) = true from ee)) (by omega)) c_4
      refine lv_iconst (v := (-1)) hx hb dX4_other_43 (by decide) ?_
      refine lv_goto (tgt := 51) hx hb dX4_other_44 (by decide) ?_
      rw [hQ]
      exact fb_iret hx hb hr hlocks hM (⟨by first | (rw [othM_t hxx, e1]; rfl) | (rw [othM_f hxx]; done), rfl⟩) dX4_other_51
  · skip
    have e1 : k = 0 := by rcases (show k = 0 ∨ k = 1 by omega) with h | h; exact h; exact absurd c_2 (by rw [h]; decide)
    refine lv_iload_n hx hb dX4_other_12 rfl (lv_at hl 3 rfl) ?_
    refine lv_iload hx hb dX4_other_13 (lv_at hl 0 rfl) ?_
    refine lv_irem hx hb dX4_other_15 (nI_ne0 (by omega) (by omega)) ?_
    refine W.eq (g2 := F0 mv _ ls (.int (nI (q % cf t)) :: [])) (by first | rfl | rw [show ((nI q) - (nI q) / (nI (cf t)) * (nI (cf t)) : Int32) = nI (q % cf t) from pk_rem (by omega) (by omega) (by omega)]) ?_
    refine lv_iload hx hb dX4_other_16 (lv_at hl 0 rfl) ?_
    refine lv_iconst (v := 1) hx hb dX4_other_18 (by decide) ?_
    refine lv_isub hx hb dX4_other_19 ?_
    refine lv_icmp_ne (tgt := 27) hx hb dX4_other_20 (by decide) (fun c_5 => ?_) (fun c_5 => ?_)
    · skip
      have hxx : ofx (cf t) (cf t * rf t) q k = true := by rw [e1]; exact ofx_0 ((ofx_c (n := 0) hc1).resolve_left c_5)
      refine lv_iload_n hx hb dX4_other_27 rfl (lv_at hl 3 rfl) ?_
      refine lv_iconst (v := 1) hx hb dX4_other_28 (by decide) ?_
      refine lv_iadd hx hb dX4_other_29 ?_
      refine W.eq (g2 := F0 mv _ ls (.int (nI (q + 1)) :: [])) (by first | rfl | rw [show ((nI q) + 1 : Int32) = nI (q + 1) from nI_1 _]) ?_
      rw [hQ]
      exact fb_iret hx hb hr hlocks hM (⟨by first | (rw [othM_t hxx, e1]; rfl) | (rw [othM_f hxx]; done), rfl⟩) dX4_other_30
    · skip
      have hxx : ofx (cf t) (cf t * rf t) q k = false := by rw [e1]; cases ee : ofx (cf t) (cf t * rf t) q 0 with | false => rfl | true => exact absurd c_5 (ofx_cn hc1 hc6 (of_decide_eq_true (show decide (q % cf t + 1 < cf t) = true from ee)))
      refine lv_iconst (v := (-1)) hx hb dX4_other_23 (by decide) ?_
      refine lv_goto (tgt := 30) hx hb dX4_other_24 (by decide) ?_
      rw [hQ]
      exact fb_iret hx hb hr hlocks hM (⟨by first | (rw [othM_t hxx, e1]; rfl) | (rw [othM_f hxx]; done), rfl⟩) dX4_other_30

abbrev rm_X4_isOpen : Room := { frames := 3, cells := 0, slots := 0, locals := 67 }
set_option maxHeartbeats 4000000 in
set_option maxRecDepth 100000 in
theorem c_X4_isOpen (D : va_G) (y : Nat → ClassId) (l : Launch) (S : fb_Sh) (V I : fb_V) (o nt : Nat) (cf rf : Nat → Nat) (hA : MdAt S o nt cf rf) (ns : Nat) (df : Nat → Nat) (hF : MF I o ns nt cf rf df) (t : Nat) (ht : t < nt) (q : Nat) (hq : q < cf t * rf t) (k : Nat) (hk : k < 2) : CI D y l yX4_isOpen wsX4_isOpen rm_X4_isOpen [.ref (sa S o), .int (nI t), .int (nI q), .int (nI k)] (S, V, (sT V), I) (fun z u => z = ob (cf t) (cf t * rf t) (I (o + 20 + t)) q k ∧ u = (S, V, sT V, I)) 0 0 := by
  refine CI.of (cc := cX4_isOpen) (maxL := 4) (ret := (some .boolean)) (by decide) rfl (Nat.le_of_ble_eq_true rfl) ?_
  intro pv ev s mv below meth cv A hx hb hml hr hown hts hlocks hname hM ls hl
  have hown : s.vm.findClass RX4 = some mv.cls := hown
  have hl : lv_has ls 4 [(0, .ref (sa S o)), (1, .int (nI t)), (2, .int (nI q)), (3, .int (nI k))] := hl
  have hin4 : ∀ x ∈ wsX40, x ∈ wsX4_isOpen := by decide +kernel
  obtain ⟨Q, hQ⟩ : ∃ Q, Q = MQ below (va_Qi (fun z u => z = ob (cf t) (cf t * rf t) (I (o + 20 + t)) q k ∧ u = (S, V, sT V, I)) (fun u t => fb_P D y A u t) A) (([.ref (sa S o), .int (nI t), .int (nI q), .int (nI k)] : List Value).toArray) s 0 0 A := ⟨_, rfl⟩
  rw [← hQ]
  have hns : ns ≤ 12 := hF.2.2.1
  have hnt : nt ≤ 6 := hF.2.2.2.1
  have hcr := hF.cr ht
  have htF := hF.2.2.2.2.1 t ht
  have hc1 : 1 ≤ cf t := htF.2.2.2.1
  refine lv_aload_n hx hb dX4_isOpen_0 rfl (lv_at hl 0 rfl) ?_
  refine lv_iload_n hx hb dX4_isOpen_1 rfl (lv_at hl 1 rfl) ?_
  refine lv_iload_n hx hb dX4_isOpen_2 rfl (lv_at hl 2 rfl) ?_
  refine lv_iload_n hx hb dX4_isOpen_3 rfl (lv_at hl 3 rfl) ?_
  refine fb_callVi (r := o) hx hb hml hown hts hM ((hA.1).1) (ce4 ((hA.1).2)) rfl (As := [.int (nI t), .int (nI q), .int (nI k)]) (rest := []) (c_X4_other D y l S V I o nt cf rf hA ns df hF t ht q hq k hk) (cwV 3 hts gX4_isOpen_X4_other rfl rfl rfl (by decide +kernel) ⟨Nat.le_of_ble_eq_true rfl, Nat.le_of_ble_eq_true rfl⟩) rfl hl.1 rfl (Nat.le_of_ble_eq_true rfl) dX4_isOpen_4 ⟨Nat.le_of_ble_eq_true rfl, Nat.le_of_ble_eq_true rfl⟩ (fun v_1 u H locs hp hM => ?_)
  obtain ⟨hv, hu⟩ := hp
  have hv := Eq.symm hv
  have hu := Eq.symm hu
  subst hv
  subst hu
  refine lv_iconst (v := (-1)) hx hb dX4_isOpen_7 (by decide) ?_
  refine lv_icmp_eq (tgt := 30) hx hb dX4_isOpen_8 (by decide) (fun c_2 => ?_) (fun c_2 => ?_)
  · skip
    have hxx : ofx (cf t) (cf t * rf t) q k = false := by cases ee : ofx (cf t) (cf t * rf t) q k with | false => rfl | true => exact absurd (by rw [othM_t ee] at c_2; exact c_2) (nI_m1 (by have := (oft_lt (n := cf t * rf t) rfl hc1 hq ee).1; omega))
    refine lv_iconst (v := 0) hx hb dX4_isOpen_30 (by decide) ?_
    rw [hQ]
    exact fb_zret hx hb hr (by first | rfl | decide | assumption) hlocks hM (⟨by unfold ob opn; first | (simp [hxx]; done) | (simp [hxx, c_3]; done), rfl⟩) dX4_isOpen_31
  · skip
    have hxx : ofx (cf t) (cf t * rf t) q k = true := by cases ee : ofx (cf t) (cf t * rf t) q k with | true => rfl | false => exact absurd (othM_f ee) c_2
    refine lv_aload_n hx hb dX4_isOpen_11 rfl (lv_at hl 0 rfl) ?_
    refine fb_get (r := o) hx hb hown hts hin4 hM ((hA.1).1) (ce4 ((hA.1).2)) rfl 9 (by decide) (hts (.fieldLink RX4 33 "FeatherBedsModel" "seams" "[[Z") (by decide +kernel)) (fun _ h9 => h9) (v := .ref (sa S (o + 6))) (congrArg (fun z => some (va_rf z)) ((hA.2.1).2.2.2.2.2.1)) dX4_isOpen_12 ?_
    refine lv_iload_n hx hb dX4_isOpen_15 rfl (lv_at hl 1 rfl) ?_
    refine fb_aaldA (r := (o + 6)) hx hb hM ((hA.2.2.2.2.2.2.2.1).1) (ce11 ((hA.2.2.2.2.2.2.2.1).2.1)) 5 rfl (k := t) (nI_clamp (by omega)) (b := sa S (o + 20 + t)) (((hA.2.2.2.2.2.2.2.2.2) t (by omega)).2.1) (by rw [(hA.2.2.2.2.2.2.2.1).2.2]; exact vp_in_nI (by omega) (by omega)) dX4_isOpen_16 ?_
    refine lv_iconst (v := 2) hx hb dX4_isOpen_17 (by decide) ?_
    refine lv_iload_n hx hb dX4_isOpen_18 rfl (lv_at hl 2 rfl) ?_
    refine lv_imul hx hb dX4_isOpen_19 ?_
    refine W.eq (g2 := F0 mv _ ls (.int (nI (2 * q)) :: .ref (sa S (o + 20 + t)) :: [])) (by first | rfl | rw [show (2 * (nI q) : Int32) = nI (2 * q) from pk_mul 2 q]) ?_
    refine lv_iload_n hx hb dX4_isOpen_20 rfl (lv_at hl 3 rfl) ?_
    refine lv_iadd hx hb dX4_isOpen_21 ?_
    refine W.eq (g2 := F0 mv _ ls (.int (nI (2 * q + k)) :: .ref (sa S (o + 20 + t)) :: [])) (by first | rfl | rw [show ((nI (2 * q)) + (nI k) : Int32) = nI (2 * q + k) from nI_add _ _]) ?_
    refine fb_zald (r := (o + 20 + t)) hx hb hM (((hA.2.2.2.2.2.2.2.2.2) t (by omega)).2.2.1) (ce7 (((hA.2.2.2.2.2.2.2.2.2) t (by omega)).2.2.2.1)) (k := 2 * q + k) (nI_clamp (by omega)) (by rw [((hA.2.2.2.2.2.2.2.2.2) t (by omega)).2.2.2.2]; exact vp_in_nI (by omega) (by omega)) dX4_isOpen_22 ?_
    refine lv_if_ne (tgt := 30) hx hb dX4_isOpen_23 (by decide) (fun c_3 => ?_) (fun c_3 => ?_)
    · skip
      refine lv_iconst (v := 0) hx hb dX4_isOpen_30 (by decide) ?_
      rw [hQ]
      exact fb_zret hx hb hr (by first | rfl | decide | assumption) hlocks hM (⟨by unfold ob opn; first | (simp [hxx]; done) | (simp [hxx, c_3]; done), rfl⟩) dX4_isOpen_31
    · skip
      refine lv_iconst (v := 1) hx hb dX4_isOpen_26 (by decide) ?_
      refine lv_goto (tgt := 31) hx hb dX4_isOpen_27 (by decide) ?_
      rw [hQ]
      exact fb_zret hx hb hr (by first | rfl | decide | assumption) hlocks hM (⟨by unfold ob opn; first | (simp [hxx]; done) | (simp [hxx, c_3]; done), rfl⟩) dX4_isOpen_31

abbrev rm_X4_open : Room := { frames := 4, cells := 0, slots := 0, locals := 90 }
set_option maxHeartbeats 4000000 in
set_option maxRecDepth 100000 in
theorem c_X4_open (D : va_G) (y : Nat → ClassId) (l : Launch) (S : fb_Sh) (V I : fb_V) (o nt : Nat) (cf rf : Nat → Nat) (hA : MdAt S o nt cf rf) (ns : Nat) (df : Nat → Nat) (hF : MF I o ns nt cf rf df) (t : Nat) (ht : t < nt) : CI D y l yX4_open wsX4_open rm_X4_open [.ref (sa S o), .int (nI t)] (S, V, (sT V), I) (fun z u => z = opc (cf t) (cf t * rf t) (I (o + 20 + t)) (2 * (cf t * rf t)) ∧ u = (S, V, sT V, I)) 0 0 := by
  refine CI.of (cc := cX4_open) (maxL := 4) (ret := (some .int)) (by decide) rfl (Nat.le_of_ble_eq_true rfl) ?_
  intro pv ev s mv below meth cv A hx hb hml hr hown hts hlocks hname hM ls hl
  have hown : s.vm.findClass RX4 = some mv.cls := hown
  have hl : lv_has ls 4 [(0, .ref (sa S o)), (1, .int (nI t))] := hl
  have hin4 : ∀ x ∈ wsX40, x ∈ wsX4_open := by decide +kernel
  obtain ⟨Q, hQ⟩ : ∃ Q, Q = MQ below (va_Qi (fun z u => z = opc (cf t) (cf t * rf t) (I (o + 20 + t)) (2 * (cf t * rf t)) ∧ u = (S, V, sT V, I)) (fun u t => fb_P D y A u t) A) (([.ref (sa S o), .int (nI t)] : List Value).toArray) s 0 0 A := ⟨_, rfl⟩
  rw [← hQ]
  have hns : ns ≤ 12 := hF.2.2.1
  have hnt : nt ≤ 6 := hF.2.2.2.1
  have hcr := hF.cr ht
  have htF := hF.2.2.2.2.1 t ht
  refine lv_iconst (v := 0) hx hb dX4_open_0 (by decide) ?_
  refine lv_istore_n (lv' := [(2, .int 0), (0, .ref (sa S o)), (1, .int (nI t))]) hx hb dX4_open_1 rfl hl (by decide) rfl (fun ls hl => ?_)
  refine lv_iconst (v := 0) hx hb dX4_open_2 (by decide) ?_
  refine lv_istore_n (lv' := [(3, .int 0), (2, .int 0), (0, .ref (sa S o)), (1, .int (nI t))]) hx hb dX4_open_3 rfl hl (by decide) rfl (fun ls hl => ?_)
  have LP_4 : ∀ (n : Nat) (i : Nat) (hi : i ≤ 2 * (cf t * rf t)), 2 * (cf t * rf t) - i < n → ∀ (H : Heap) (locs : List Loc), fb_M D y A s (S, V, (sT V), I) H locs → ∀ ls, lv_has ls 4 [(3, .int (nI i)), (2, .int (opc (cf t) (cf t * rf t) (I (o + 20 + t)) i)), (0, .ref (sa S o)), (1, .int (nI t))] → W pv l ev rm_X4_open s mv ([.ref (sa S o), .int (nI t)] : List Value).toArray below meth cv H locs 0 0 Q (F0 mv 4 ls []) := by
    intro n_4
    induction n_4 with
    | zero => intro i hi hmu; exact absurd hmu (Nat.not_lt_zero _)
    | succ n_4 ih_4 =>
      intro i hi hmu H locs hM ls hl
      refine lv_iload_n hx hb dX4_open_4 rfl (lv_at hl 0 rfl) ?_
      refine lv_iconst (v := 2) hx hb dX4_open_5 (by decide) ?_
      refine lv_aload_n hx hb dX4_open_6 rfl (lv_at hl 2 rfl) ?_
      refine lv_iload_n hx hb dX4_open_7 rfl (lv_at hl 3 rfl) ?_
      refine fb_callVi (r := o) hx hb hml hown hts hM ((hA.1).1) (ce4 ((hA.1).2)) rfl (As := [.int (nI t)]) (rest := [.int 2, .int (nI i)]) (c_X4_squaresOf D y l S V I o nt cf rf hA ns df hF t ht) (cwV 1 hts gX4_open_X4_squaresOf rfl rfl rfl (by decide +kernel) ⟨Nat.le_of_ble_eq_true rfl, Nat.le_of_ble_eq_true rfl⟩) rfl hl.1 rfl (Nat.le_of_ble_eq_true rfl) dX4_open_8 ⟨Nat.le_of_ble_eq_true rfl, Nat.le_of_ble_eq_true rfl⟩ (fun v_1 u H locs hp hM => ?_)
      obtain ⟨hv, hu⟩ := hp
      have hv := Eq.symm hv
      have hu := Eq.symm hu
      subst hv
      subst hu
      refine lv_imul hx hb dX4_open_11 ?_
      refine W.eq (g2 := F0 mv _ ls (.int (nI (2 * (cf t * rf t))) :: .int (nI i) :: [])) (by first | rfl | rw [show (2 * (nI (cf t * rf t)) : Int32) = nI (2 * (cf t * rf t)) from pk_mul 2 _]) ?_
      refine lv_icmp_ge (tgt := 43) hx hb dX4_open_12 (by decide) (fun c_2 => ?_) (fun c_2 => ?_)
      · skip
        have e_i : i = (2 * (cf t * rf t)) := by have := (nI_leI (a := (2 * (cf t * rf t))) (b := i) (by omega) (by omega)).mp c_2; omega
        subst e_i
        refine lv_iload_n hx hb dX4_open_43 rfl (lv_at hl 1 rfl) ?_
        rw [hQ]
        exact fb_iret hx hb hr hlocks hM (⟨rfl, rfl⟩) dX4_open_44
      · skip
        have hik : i < (2 * (cf t * rf t)) := Nat.lt_of_not_le (fun h => c_2 (nI_le h (by omega)))
        refine lv_iload_n hx hb dX4_open_15 rfl (lv_at hl 1 rfl) ?_
        refine lv_aload_n hx hb dX4_open_16 rfl (lv_at hl 2 rfl) ?_
        refine lv_iload_n hx hb dX4_open_17 rfl (lv_at hl 3 rfl) ?_
        refine lv_iload_n hx hb dX4_open_18 rfl (lv_at hl 0 rfl) ?_
        refine lv_iconst (v := 2) hx hb dX4_open_19 (by decide) ?_
        refine lv_idiv hx hb dX4_open_20 (by decide) ?_
        refine W.eq (g2 := F0 mv _ ls (.int (nI (i / 2)) :: .int (nI t) :: .ref (sa S o) :: .int (opc (cf t) (cf t * rf t) (I (o + 20 + t)) i) :: [])) (by first | rfl | rw [show ((nI i) / 2 : Int32) = nI (i / 2) from pk_div (d := 2) (by omega) (by omega) (by omega)]) ?_
        refine lv_iload_n hx hb dX4_open_21 rfl (lv_at hl 0 rfl) ?_
        refine lv_iconst (v := 2) hx hb dX4_open_22 (by decide) ?_
        refine lv_irem hx hb dX4_open_23 (by decide) ?_
        refine W.eq (g2 := F0 mv _ ls (.int (nI (i % 2)) :: .int (nI (i / 2)) :: .int (nI t) :: .ref (sa S o) :: .int (opc (cf t) (cf t * rf t) (I (o + 20 + t)) i) :: [])) (by first | rfl | rw [show ((nI i) - (nI i) / 2 * 2 : Int32) = nI (i % 2) from pk_rem (d := 2) (by omega) (by omega) (by omega)]) ?_
        refine fb_callVi (r := o) hx hb hml hown hts hM ((hA.1).1) (ce4 ((hA.1).2)) rfl (As := [.int (nI t), .int (nI (i / 2)), .int (nI (i % 2))]) (rest := [.int (opc (cf t) (cf t * rf t) (I (o + 20 + t)) i)]) (c_X4_isOpen D y l S V I o nt cf rf hA ns df hF t ht (i / 2) (by omega) (i % 2) (by omega)) (cwV 3 hts gX4_open_X4_isOpen rfl rfl rfl (by decide +kernel) ⟨Nat.le_of_ble_eq_true rfl, Nat.le_of_ble_eq_true rfl⟩) rfl hl.1 rfl (Nat.le_of_ble_eq_true rfl) dX4_open_24 ⟨Nat.le_of_ble_eq_true rfl, Nat.le_of_ble_eq_true rfl⟩ (fun v_3 u H locs hp hM => ?_)
        obtain ⟨hv, hu⟩ := hp
        have hv := Eq.symm hv
        have hu := Eq.symm hu
        subst hv
        subst hu
        refine lv_if_eq (tgt := 34) hx hb dX4_open_27 (by decide) (fun c_4 => ?_) (fun c_4 => ?_)
        · skip
          have hob := c_4
          refine lv_iconst (v := 0) hx hb dX4_open_34 (by decide) ?_
          refine lv_iadd hx hb dX4_open_35 ?_
          refine W.eq (g2 := F0 mv _ ls (.int (opc (cf t) (cf t * rf t) (I (o + 20 + t)) (i + 1)) :: [])) (by first | rfl | rw [show ((opc (cf t) (cf t * rf t) (I (o + 20 + t)) i) + 0 : Int32) = opc (cf t) (cf t * rf t) (I (o + 20 + t)) (i + 1) from by show _ = opc (cf t) (cf t * rf t) (I (o + 20 + t)) i + ob (cf t) (cf t * rf t) (I (o + 20 + t)) (i / 2) (i % 2); unfold ob; first | rw [if_neg (by rw [ob_0 hob]; decide)] | rw [if_pos (ob_1 hob)]]) ?_
          refine lv_istore_n (lv' := [(2, .int (opc (cf t) (cf t * rf t) (I (o + 20 + t)) (i + 1))), (3, .int (nI i)), (0, .ref (sa S o)), (1, .int (nI t))]) hx hb dX4_open_36 rfl hl (by decide) rfl (fun ls hl => ?_)
          refine lv_iinc (v := nI (i + 1)) (lv' := [(3, .int (nI (i + 1))), (2, .int (opc (cf t) (cf t * rf t) (I (o + 20 + t)) (i + 1))), (0, .ref (sa S o)), (1, .int (nI t))]) hx hb dX4_open_37 hl (k := 1) rfl (nI_1 _) (by decide) rfl (fun ls hl => ?_)
          refine lv_goto (tgt := 4) hx hb dX4_open_40 (by decide) ?_
          exact ih_4 (i + 1) (by omega) (by omega) _ _ hM ls (lv_sub hl [0, 1, 2, 3] rfl)
        · skip
          have hob := c_4
          refine lv_iconst (v := 1) hx hb dX4_open_30 (by decide) ?_
          refine lv_goto (tgt := 35) hx hb dX4_open_31 (by decide) ?_
          refine lv_iadd hx hb dX4_open_35 ?_
          refine W.eq (g2 := F0 mv _ ls (.int (opc (cf t) (cf t * rf t) (I (o + 20 + t)) (i + 1)) :: [])) (by first | rfl | rw [show ((opc (cf t) (cf t * rf t) (I (o + 20 + t)) i) + 1 : Int32) = opc (cf t) (cf t * rf t) (I (o + 20 + t)) (i + 1) from by show _ = opc (cf t) (cf t * rf t) (I (o + 20 + t)) i + ob (cf t) (cf t * rf t) (I (o + 20 + t)) (i / 2) (i % 2); unfold ob; first | rw [if_neg (by rw [ob_0 hob]; decide)] | rw [if_pos (ob_1 hob)]]) ?_
          refine lv_istore_n (lv' := [(2, .int (opc (cf t) (cf t * rf t) (I (o + 20 + t)) (i + 1))), (3, .int (nI i)), (0, .ref (sa S o)), (1, .int (nI t))]) hx hb dX4_open_36 rfl hl (by decide) rfl (fun ls hl => ?_)
          refine lv_iinc (v := nI (i + 1)) (lv' := [(3, .int (nI (i + 1))), (2, .int (opc (cf t) (cf t * rf t) (I (o + 20 + t)) (i + 1))), (0, .ref (sa S o)), (1, .int (nI t))]) hx hb dX4_open_37 hl (k := 1) rfl (nI_1 _) (by decide) rfl (fun ls hl => ?_)
          refine lv_goto (tgt := 4) hx hb dX4_open_40 (by decide) ?_
          exact ih_4 (i + 1) (by omega) (by omega) _ _ hM ls (lv_sub hl [0, 1, 2, 3] rfl)
  exact LP_4 _ 0 (by omega) (Nat.lt_succ_self _) _ _ hM ls (lv_sub hl [0, 1, 2, 3] rfl)

abbrev rm_X4_coldest : Room := { frames := 2, cells := 0, slots := 0, locals := 48 }
set_option maxHeartbeats 4000000 in
set_option maxRecDepth 100000 in
theorem c_X4_coldest (D : va_G) (y : Nat → ClassId) (l : Launch) (S : fb_Sh) (V I : fb_V) (o nt : Nat) (cf rf : Nat → Nat) (hA : MdAt S o nt cf rf) (ns : Nat) (df : Nat → Nat) (hF : MF I o ns nt cf rf df) (t : Nat) (ht : t < nt) : CI D y l yX4_coldest wsX4_coldest rm_X4_coldest [.ref (sa S o), .int (nI t)] (S, V, (sT V), I) (fun z u => z = nI (cld (mx (I (o + 10 + t))) (cf t * rf t)) ∧ u = (S, V, sT V, I)) 0 0 := by
  refine CI.of (cc := cX4_coldest) (maxL := 4) (ret := (some .int)) (by decide) rfl (Nat.le_of_ble_eq_true rfl) ?_
  intro pv ev s mv below meth cv A hx hb hml hr hown hts hlocks hname hM ls hl
  have hown : s.vm.findClass RX4 = some mv.cls := hown
  have hl : lv_has ls 4 [(0, .ref (sa S o)), (1, .int (nI t))] := hl
  have hin4 : ∀ x ∈ wsX40, x ∈ wsX4_coldest := by decide +kernel
  obtain ⟨Q, hQ⟩ : ∃ Q, Q = MQ below (va_Qi (fun z u => z = nI (cld (mx (I (o + 10 + t))) (cf t * rf t)) ∧ u = (S, V, sT V, I)) (fun u t => fb_P D y A u t) A) (([.ref (sa S o), .int (nI t)] : List Value).toArray) s 0 0 A := ⟨_, rfl⟩
  rw [← hQ]
  have hns : ns ≤ 12 := hF.2.2.1
  have hnt : nt ≤ 6 := hF.2.2.2.1
  have hcr := hF.cr ht
  have htF := hF.2.2.2.2.1 t ht
  refine lv_iconst (v := 0) hx hb dX4_coldest_0 (by decide) ?_
  refine lv_istore_n (lv' := [(2, .int 0), (0, .ref (sa S o)), (1, .int (nI t))]) hx hb dX4_coldest_1 rfl hl (by decide) rfl (fun ls hl => ?_)
  refine lv_iconst (v := 1) hx hb dX4_coldest_2 (by decide) ?_
  refine lv_istore_n (lv' := [(3, .int 1), (2, .int 0), (0, .ref (sa S o)), (1, .int (nI t))]) hx hb dX4_coldest_3 rfl hl (by decide) rfl (fun ls hl => ?_)
  have LP_4 : ∀ (n : Nat) (i : Nat) (hi : i ≤ cf t * rf t) (hi1 : 1 ≤ i), cf t * rf t - i < n → ∀ (H : Heap) (locs : List Loc), fb_M D y A s (S, V, (sT V), I) H locs → ∀ ls, lv_has ls 4 [(3, .int (nI i)), (2, .int (nI (cld (mx (I (o + 10 + t))) i))), (0, .ref (sa S o)), (1, .int (nI t))] → W pv l ev rm_X4_coldest s mv ([.ref (sa S o), .int (nI t)] : List Value).toArray below meth cv H locs 0 0 Q (F0 mv 4 ls []) := by
    intro n_4
    induction n_4 with
    | zero => intro i hi hi1 hmu; exact absurd hmu (Nat.not_lt_zero _)
    | succ n_4 ih_4 =>
      intro i hi hi1 hmu H locs hM ls hl
      refine lv_iload_n hx hb dX4_coldest_4 rfl (lv_at hl 0 rfl) ?_
      refine lv_aload_n hx hb dX4_coldest_5 rfl (lv_at hl 2 rfl) ?_
      refine lv_iload_n hx hb dX4_coldest_6 rfl (lv_at hl 3 rfl) ?_
      refine fb_callVi (r := o) hx hb hml hown hts hM ((hA.1).1) (ce4 ((hA.1).2)) rfl (As := [.int (nI t)]) (rest := [.int (nI i)]) (c_X4_squaresOf D y l S V I o nt cf rf hA ns df hF t ht) (cwV 1 hts gX4_coldest_X4_squaresOf rfl rfl rfl (by decide +kernel) ⟨Nat.le_of_ble_eq_true rfl, Nat.le_of_ble_eq_true rfl⟩) rfl hl.1 rfl (Nat.le_of_ble_eq_true rfl) dX4_coldest_7 ⟨Nat.le_of_ble_eq_true rfl, Nat.le_of_ble_eq_true rfl⟩ (fun v_1 u H locs hp hM => ?_)
      obtain ⟨hv, hu⟩ := hp
      have hv := Eq.symm hv
      have hu := Eq.symm hu
      subst hv
      subst hu
      refine lv_icmp_ge (tgt := 36) hx hb dX4_coldest_10 (by decide) (fun c_2 => ?_) (fun c_2 => ?_)
      · skip
        have e_i : i = (cf t * rf t) := by have := (nI_leI (a := (cf t * rf t)) (b := i) (by omega) (by omega)).mp c_2; omega
        subst e_i
        refine lv_iload_n hx hb dX4_coldest_36 rfl (lv_at hl 1 rfl) ?_
        rw [hQ]
        exact fb_iret hx hb hr hlocks hM (⟨rfl, rfl⟩) dX4_coldest_37
      · skip
        have hik : i < (cf t * rf t) := Nat.lt_of_not_le (fun h => c_2 (nI_le h (by omega)))
        refine lv_aload_n hx hb dX4_coldest_13 rfl (lv_at hl 2 rfl) ?_
        refine lv_iload_n hx hb dX4_coldest_14 rfl (lv_at hl 3 rfl) ?_
        refine lv_iload_n hx hb dX4_coldest_15 rfl (lv_at hl 0 rfl) ?_
        refine fb_callVi (r := o) hx hb hml hown hts hM ((hA.1).1) (ce4 ((hA.1).2)) rfl (As := [.int (nI t), .int (nI i)]) (rest := []) (c_X4_warmth D y l S V I o nt cf rf hA ns df hF t ht i (hik)) (cwV 2 hts gX4_coldest_X4_warmth rfl rfl rfl (by decide +kernel) ⟨Nat.le_of_ble_eq_true rfl, Nat.le_of_ble_eq_true rfl⟩) rfl hl.1 rfl (Nat.le_of_ble_eq_true rfl) dX4_coldest_16 ⟨Nat.le_of_ble_eq_true rfl, Nat.le_of_ble_eq_true rfl⟩ (fun v_3 u H locs hp hM => ?_)
        obtain ⟨hv, hu⟩ := hp
        have hv := Eq.symm hv
        have hu := Eq.symm hu
        subst hv
        subst hu
        refine lv_aload_n hx hb dX4_coldest_19 rfl (lv_at hl 2 rfl) ?_
        refine lv_iload_n hx hb dX4_coldest_20 rfl (lv_at hl 3 rfl) ?_
        refine lv_iload_n hx hb dX4_coldest_21 rfl (lv_at hl 1 rfl) ?_
        have hcl := cld_lt (mx (I (o + 10 + t))) i
        refine fb_callVi (r := o) hx hb hml hown hts hM ((hA.1).1) (ce4 ((hA.1).2)) rfl (As := [.int (nI t), .int (nI (cld (mx (I (o + 10 + t))) i))]) (rest := [.int (wm (mx (I (o + 10 + t)) i))]) (c_X4_warmth D y l S V I o nt cf rf hA ns df hF t ht (cld (mx (I (o + 10 + t))) i) (by omega)) (cwV 2 hts gX4_coldest_X4_warmth rfl rfl rfl (by decide +kernel) ⟨Nat.le_of_ble_eq_true rfl, Nat.le_of_ble_eq_true rfl⟩) rfl hl.1 rfl (Nat.le_of_ble_eq_true rfl) dX4_coldest_22 ⟨Nat.le_of_ble_eq_true rfl, Nat.le_of_ble_eq_true rfl⟩ (fun v_4 u H locs hp hM => ?_)
        obtain ⟨hv, hu⟩ := hp
        have hv := Eq.symm hv
        have hu := Eq.symm hu
        subst hv
        subst hu
        refine lv_icmp_ge (tgt := 30) hx hb dX4_coldest_25 (by decide) (fun c_5 => ?_) (fun c_5 => ?_)
        · skip
          have c_br := c_5
          refine lv_iinc (v := nI (i + 1)) (lv' := [(3, .int (nI (i + 1))), (2, .int (nI (cld (mx (I (o + 10 + t))) i))), (0, .ref (sa S o)), (1, .int (nI t))]) hx hb dX4_coldest_30 hl (k := 0) rfl (nI_1 _) (by decide) rfl (fun ls hl => ?_)
          refine lv_goto (tgt := 4) hx hb dX4_coldest_33 (by decide) ?_
          have eF : nI (cld (mx (I (o + 10 + t))) i) = nI (cld (mx (I (o + 10 + t))) (i + 1)) := by show _ = nI (if wm (mx (I (o + 10 + t)) (cld (mx (I (o + 10 + t))) i)) ≤ wm (mx (I (o + 10 + t)) i) then cld (mx (I (o + 10 + t))) i else i); first | rw [if_pos c_br] | rw [if_neg c_br]
          rw [eF] at hl
          exact ih_4 (i + 1) (by omega) (by omega) (by omega) _ _ hM ls (lv_sub hl [0, 1, 2, 3] rfl)
        · skip
          have c_br := c_5
          refine lv_iload_n hx hb dX4_coldest_28 rfl (lv_at hl 0 rfl) ?_
          refine lv_istore_n (lv' := [(2, .int (nI i)), (3, .int (nI i)), (0, .ref (sa S o)), (1, .int (nI t))]) hx hb dX4_coldest_29 rfl hl (by decide) rfl (fun ls hl => ?_)
          refine lv_iinc (v := nI (i + 1)) (lv' := [(3, .int (nI (i + 1))), (2, .int (nI i)), (0, .ref (sa S o)), (1, .int (nI t))]) hx hb dX4_coldest_30 hl (k := 1) rfl (nI_1 _) (by decide) rfl (fun ls hl => ?_)
          refine lv_goto (tgt := 4) hx hb dX4_coldest_33 (by decide) ?_
          have eF : nI i = nI (cld (mx (I (o + 10 + t))) (i + 1)) := by show _ = nI (if wm (mx (I (o + 10 + t)) (cld (mx (I (o + 10 + t))) i)) ≤ wm (mx (I (o + 10 + t)) i) then cld (mx (I (o + 10 + t))) i else i); first | rw [if_pos c_br] | rw [if_neg c_br]
          rw [eF] at hl
          exact ih_4 (i + 1) (by omega) (by omega) (by omega) _ _ hM ls (lv_sub hl [0, 1, 2, 3] rfl)
  have e0 : (0 : Int32) = nI (cld (mx (I (o + 10 + t))) 1) := by rw [cld_1]; rfl
  rw [e0] at hl
  exact LP_4 _ 1 (by omega) (by omega) (Nat.lt_succ_self _) _ _ hM ls (lv_sub hl [0, 1, 2, 3] rfl)
