abbrev rm_X4_take : Room := { frames := 1, cells := 0, slots := 0, locals := 25 }
set_option maxHeartbeats 4000000 in
set_option maxRecDepth 100000 in
theorem c_X4_take (D : va_G) (y : Nat → ClassId) (l : Launch) (S : fb_Sh) (V I : fb_V) (a b : Nat) (ha : RA S a 6 6) (hb_ : RA S b 6 6) (hne : a ≠ b) (m : Int32) : CI D y l yX4_take wsX4_take rm_X4_take [.ref (sa S a), .ref (sa S b), .int m] (S, V, (sT V), I) (fun z u => z = (mn m (mn (s6 (I a)) (300 - s6 (I b)))) ∧ u = (S, V, sT V, (tk2 I a b (I a) (I b) (mn m (mn (s6 (I a)) (300 - s6 (I b)))) 6))) 0 0 := by
  refine CI.of (cc := cX4_take) (maxL := 7) (ret := (some .int)) (by decide) rfl (Nat.le_of_ble_eq_true rfl) ?_
  intro pv ev s mv below meth cv A hx hb hml hr hown hts hlocks hname hM ls hl
  have hown : s.vm.findClass RX4 = some mv.cls := hown
  have hl : lv_has ls 7 [(0, .ref (sa S a)), (1, .ref (sa S b)), (2, .int m)] := hl
  obtain ⟨Q, hQ⟩ : ∃ Q, Q = MQ below (va_Qi (fun z u => z = (mn m (mn (s6 (I a)) (300 - s6 (I b)))) ∧ u = (S, V, sT V, (tk2 I a b (I a) (I b) (mn m (mn (s6 (I a)) (300 - s6 (I b)))) 6))) (fun u t => fb_P D y A u t) A) (([.ref (sa S a), .ref (sa S b), .int m] : List Value).toArray) s 0 0 A := ⟨_, rfl⟩
  rw [← hQ]
  refine lv_iload_n hx hb dX4_take_0 rfl (lv_at hl 2 rfl) ?_
  refine lv_aload_n hx hb dX4_take_1 rfl (lv_at hl 0 rfl) ?_
  refine fb_callSi hx hb hml hown hts hM (As := [.ref (sa S a)]) (rest := [.int m]) (c_X5_all D y l S V I a ha) (va_cwS 1 hts gX4_take_X5_all rfl rfl rfl (by decide +kernel) ⟨Nat.le_of_ble_eq_true rfl, Nat.le_of_ble_eq_true rfl⟩) rfl hl.1 rfl (Nat.le_of_ble_eq_true rfl) dX4_take_2 ⟨Nat.le_of_ble_eq_true rfl, Nat.le_of_ble_eq_true rfl⟩ (fun v_1 u_ H locs hp hM => ?_)
  obtain ⟨hv_, hu_⟩ := hp
  have hv_ := Eq.symm hv_
  have hu_ := Eq.symm hu_
  subst hv_
  subst hu_
  refine lv_sipush (v := 300) hx hb dX4_take_5 (by decide) ?_
  refine lv_aload_n hx hb dX4_take_8 rfl (lv_at hl 1 rfl) ?_
  refine fb_callSi hx hb hml hown hts hM (As := [.ref (sa S b)]) (rest := [.int 300, .int (s6 (I a)), .int m]) (c_X5_all D y l S V I b hb_) (va_cwS 1 hts gX4_take_X5_all rfl rfl rfl (by decide +kernel) ⟨Nat.le_of_ble_eq_true rfl, Nat.le_of_ble_eq_true rfl⟩) rfl hl.1 rfl (Nat.le_of_ble_eq_true rfl) dX4_take_9 ⟨Nat.le_of_ble_eq_true rfl, Nat.le_of_ble_eq_true rfl⟩ (fun v_2 u_ H locs hp hM => ?_)
  obtain ⟨hv_, hu_⟩ := hp
  have hv_ := Eq.symm hv_
  have hu_ := Eq.symm hu_
  subst hv_
  subst hu_
  refine lv_isub hx hb dX4_take_12 ?_
  refine va_mmin hx hb (hml.trans hl.1.symm) hown (hts (.methodLink RX4 35 Lib.Math.min.name) (by decide +kernel)) (hts (.static Lib.Math.min.name) (by decide +kernel)) (hts (.initialized "java/lang/Math") (by decide +kernel)) (hts (.code Lib.Math.min.name Lib.Math.min.code 2 (some .int)) (by decide +kernel)) (Nat.le_of_ble_eq_true rfl) (Nat.le_of_ble_eq_true rfl) (Nat.le_of_ble_eq_true rfl) (Nat.le_of_ble_eq_true rfl) dX4_take_13 ?_
  refine W.eq (g2 := F0 mv _ ls (.int (mn (s6 (I a)) (300 - s6 (I b))) :: .int m :: [])) (rfl) ?_
  refine va_mmin hx hb (hml.trans hl.1.symm) hown (hts (.methodLink RX4 35 Lib.Math.min.name) (by decide +kernel)) (hts (.static Lib.Math.min.name) (by decide +kernel)) (hts (.initialized "java/lang/Math") (by decide +kernel)) (hts (.code Lib.Math.min.name Lib.Math.min.code 2 (some .int)) (by decide +kernel)) (Nat.le_of_ble_eq_true rfl) (Nat.le_of_ble_eq_true rfl) (Nat.le_of_ble_eq_true rfl) (Nat.le_of_ble_eq_true rfl) dX4_take_16 ?_
  refine W.eq (g2 := F0 mv _ ls (.int (mn m (mn (s6 (I a)) (300 - s6 (I b)))) :: [])) (rfl) ?_
  refine lv_istore_n (lv' := [(3, .int (mn m (mn (s6 (I a)) (300 - s6 (I b))))), (0, .ref (sa S a)), (1, .ref (sa S b)), (2, .int m)]) hx hb dX4_take_19 rfl hl (by decide) rfl (fun ls hl => ?_)
  refine lv_iload_n hx hb dX4_take_20 rfl (lv_at hl 0 rfl) ?_
  refine lv_istore (lv' := [(4, .int (mn m (mn (s6 (I a)) (300 - s6 (I b))))), (3, .int (mn m (mn (s6 (I a)) (300 - s6 (I b))))), (0, .ref (sa S a)), (1, .ref (sa S b)), (2, .int m)]) hx hb dX4_take_21 hl (by decide) rfl (fun ls hl => ?_)
  refine lv_iconst (v := 0) hx hb dX4_take_23 (by decide) ?_
  refine lv_istore (lv' := [(5, .int 0), (4, .int (mn m (mn (s6 (I a)) (300 - s6 (I b))))), (3, .int (mn m (mn (s6 (I a)) (300 - s6 (I b))))), (0, .ref (sa S a)), (1, .ref (sa S b)), (2, .int m)]) hx hb dX4_take_24 hl (by decide) rfl (fun ls hl => ?_)
  have LP_26 : ∀ (n : Nat) (k : Nat) (hk : k ≤ 6), 6 - k < n → ∀ (H : Heap) (locs : List Loc), fb_M D y A s (S, V, (sT V), (tk2 I a b (I a) (I b) (mn m (mn (s6 (I a)) (300 - s6 (I b)))) k)) H locs → ∀ ls, lv_has ls 7 [(5, .int (nI k)), (4, .int ((mn m (mn (s6 (I a)) (300 - s6 (I b)))) - mvm (I a) (mn m (mn (s6 (I a)) (300 - s6 (I b)))) k)), (3, .int ((mn m (mn (s6 (I a)) (300 - s6 (I b)))))), (0, .ref (sa S a)), (1, .ref (sa S b))] → W pv l ev rm_X4_take s mv ([.ref (sa S a), .ref (sa S b), .int m] : List Value).toArray below meth cv H locs 0 0 Q (F0 mv 26 ls []) := by
    intro n_26
    induction n_26 with
    | zero => intro k hk hmu; exact absurd hmu (Nat.not_lt_zero _)
    | succ n_26 ih_26 =>
      intro k hk hmu H locs hM ls hl
      refine lv_iload hx hb dX4_take_26 (lv_at hl 0 rfl) ?_
      refine lv_bipush (v := 6) hx hb dX4_take_28 (by decide) ?_
      refine lv_icmp_ge (tgt := 75) hx hb dX4_take_30 (by decide) (fun c_3 => ?_) (fun c_3 => ?_)
      · skip
        have e_k : k = 6 := by have := (nI_leI (a := 6) (b := k) (by omega) (by omega)).mp c_3; omega
        have e_k := Eq.symm e_k
        subst e_k
        refine lv_iload_n hx hb dX4_take_75 rfl (lv_at hl 2 rfl) ?_
        rw [hQ]
        exact fb_iret hx hb hr hlocks hM (⟨rfl, rfl⟩) dX4_take_76
      · skip
        have hk6 : k < 6 := Nat.lt_of_not_le (fun z => c_3 (nI_le z (by omega)))
        refine lv_iload hx hb dX4_take_33 (lv_at hl 1 rfl) ?_
        refine lv_aload_n hx hb dX4_take_35 rfl (lv_at hl 3 rfl) ?_
        refine lv_iload hx hb dX4_take_36 (lv_at hl 0 rfl) ?_
        refine fb_iald (r := a) hx hb hM ((ha).1) (ce6 ((ha).2.1)) (k := k) (nI_clamp (by omega)) (by rw [(ha).2.2]; exact vp_in_nI (by omega) (by omega)) dX4_take_38 ?_
        refine W.eq (g2 := F0 mv _ ls (.int (I a k) :: .int ((mn m (mn (s6 (I a)) (300 - s6 (I b)))) - mvm (I a) (mn m (mn (s6 (I a)) (300 - s6 (I b)))) k) :: [])) (by rw [show ((tk2 I a b (I a) (I b) (mn m (mn (s6 (I a)) (300 - s6 (I b)))) k) a k : Int32) = I a k from by rw [tk2_a _ hne]; exact mva_i _ _ _]) ?_
        refine va_mmin hx hb (hml.trans hl.1.symm) hown (hts (.methodLink RX4 35 Lib.Math.min.name) (by decide +kernel)) (hts (.static Lib.Math.min.name) (by decide +kernel)) (hts (.initialized "java/lang/Math") (by decide +kernel)) (hts (.code Lib.Math.min.name Lib.Math.min.code 2 (some .int)) (by decide +kernel)) (Nat.le_of_ble_eq_true rfl) (Nat.le_of_ble_eq_true rfl) (Nat.le_of_ble_eq_true rfl) (Nat.le_of_ble_eq_true rfl) dX4_take_39 ?_
        refine W.eq (g2 := F0 mv _ ls (.int (mvn (I a) (mn m (mn (s6 (I a)) (300 - s6 (I b)))) k) :: [])) (by rw [show (if I a k < (mn m (mn (s6 (I a)) (300 - s6 (I b)))) - mvm (I a) (mn m (mn (s6 (I a)) (300 - s6 (I b)))) k then I a k else (mn m (mn (s6 (I a)) (300 - s6 (I b)))) - mvm (I a) (mn m (mn (s6 (I a)) (300 - s6 (I b)))) k : Int32) = mvn (I a) (mn m (mn (s6 (I a)) (300 - s6 (I b)))) k from mn_c _ _]) ?_
        refine lv_istore (lv' := [(6, .int (mvn (I a) (mn m (mn (s6 (I a)) (300 - s6 (I b)))) k)), (5, .int (nI k)), (4, .int ((mn m (mn (s6 (I a)) (300 - s6 (I b)))) - mvm (I a) (mn m (mn (s6 (I a)) (300 - s6 (I b)))) k)), (3, .int ((mn m (mn (s6 (I a)) (300 - s6 (I b)))))), (0, .ref (sa S a)), (1, .ref (sa S b))]) hx hb dX4_take_42 hl (by decide) rfl (fun ls hl => ?_)
        refine lv_aload_n hx hb dX4_take_44 rfl (lv_at hl 4 rfl) ?_
        refine lv_iload hx hb dX4_take_45 (lv_at hl 1 rfl) ?_
        refine lv_dup2_11 hx hb dX4_take_47 rfl rfl ?_
        refine fb_iald (r := a) hx hb hM ((ha).1) (ce6 ((ha).2.1)) (k := k) (nI_clamp (by omega)) (by rw [(ha).2.2]; exact vp_in_nI (by omega) (by omega)) dX4_take_48 ?_
        refine W.eq (g2 := F0 mv _ ls (.int (I a k) :: .int (nI k) :: .ref (sa S a) :: [])) (by rw [show ((tk2 I a b (I a) (I b) (mn m (mn (s6 (I a)) (300 - s6 (I b)))) k) a k : Int32) = I a k from by rw [tk2_a _ hne]; exact mva_i _ _ _]) ?_
        refine lv_iload hx hb dX4_take_49 (lv_at hl 0 rfl) ?_
        refine lv_isub hx hb dX4_take_51 ?_
        refine fb_iast (r := a) hx hb hM ((ha).1) (ce6 ((ha).2.1)) (k := k) (nI_clamp (by omega)) (by rw [(ha).2.2]; exact vp_in_nI (by omega) (by omega)) dX4_take_52 (up_I (j := k) (by rw [ce6 (S := S) ((ha).2.1)]; simp [va_up])) (w' := (S, V, (sT V), (va_up (tk2 I a b (I a) (I b) (mn m (mn (s6 (I a)) (300 - s6 (I b)))) k) a (upd ((tk2 I a b (I a) (I b) (mn m (mn (s6 (I a)) (300 - s6 (I b)))) k) a) k ((I a k) - (mvn (I a) (mn m (mn (s6 (I a)) (300 - s6 (I b)))) k)))))) ⟨rfl, rfl, rfl⟩ (fun H locs hM => ?_)
        have eI : (va_up (tk2 I a b (I a) (I b) (mn m (mn (s6 (I a)) (300 - s6 (I b)))) k) a (upd ((tk2 I a b (I a) (I b) (mn m (mn (s6 (I a)) (300 - s6 (I b)))) k) a) k ((I a k) - (mvn (I a) (mn m (mn (s6 (I a)) (300 - s6 (I b)))) k)))) = (va_up (va_up I b (mvb (I a) (I b) (mn m (mn (s6 (I a)) (300 - s6 (I b)))) k)) a (mva (I a) (mn m (mn (s6 (I a)) (300 - s6 (I b)))) (k + 1))) := by rw [tk2_a _ hne]; exact tk2_s1 _ hne _ _ _ k
        rw [eI] at hM
        clear eI
        refine lv_aload_n hx hb dX4_take_53 rfl (lv_at hl 5 rfl) ?_
        refine lv_iload hx hb dX4_take_54 (lv_at hl 1 rfl) ?_
        refine lv_dup2_11 hx hb dX4_take_56 rfl rfl ?_
        refine fb_iald (r := b) hx hb hM ((hb_).1) (ce6 ((hb_).2.1)) (k := k) (nI_clamp (by omega)) (by rw [(hb_).2.2]; exact vp_in_nI (by omega) (by omega)) dX4_take_57 ?_
        refine W.eq (g2 := F0 mv _ ls (.int (I b k) :: .int (nI k) :: .ref (sa S b) :: [])) (by rw [show ((va_up (va_up I b (mvb (I a) (I b) (mn m (mn (s6 (I a)) (300 - s6 (I b)))) k)) a (mva (I a) (mn m (mn (s6 (I a)) (300 - s6 (I b)))) (k + 1))) b k : Int32) = I b k from by rw [va_up_ne _ _ (Ne.symm hne), va_up_self]; exact mvb_i _ _ _ _]) ?_
        refine lv_iload hx hb dX4_take_58 (lv_at hl 0 rfl) ?_
        refine lv_iadd hx hb dX4_take_60 ?_
        refine fb_iast (r := b) hx hb hM ((hb_).1) (ce6 ((hb_).2.1)) (k := k) (nI_clamp (by omega)) (by rw [(hb_).2.2]; exact vp_in_nI (by omega) (by omega)) dX4_take_61 (up_I (j := k) (by rw [ce6 (S := S) ((hb_).2.1)]; simp [va_up])) (w' := (S, V, (sT V), (va_up (va_up (va_up I b (mvb (I a) (I b) (mn m (mn (s6 (I a)) (300 - s6 (I b)))) k)) a (mva (I a) (mn m (mn (s6 (I a)) (300 - s6 (I b)))) (k + 1))) b (upd ((va_up (va_up I b (mvb (I a) (I b) (mn m (mn (s6 (I a)) (300 - s6 (I b)))) k)) a (mva (I a) (mn m (mn (s6 (I a)) (300 - s6 (I b)))) (k + 1))) b) k ((I b k) + (mvn (I a) (mn m (mn (s6 (I a)) (300 - s6 (I b)))) k)))))) ⟨rfl, rfl, rfl⟩ (fun H locs hM => ?_)
        have eI : (va_up (va_up (va_up I b (mvb (I a) (I b) (mn m (mn (s6 (I a)) (300 - s6 (I b)))) k)) a (mva (I a) (mn m (mn (s6 (I a)) (300 - s6 (I b)))) (k + 1))) b (upd ((va_up (va_up I b (mvb (I a) (I b) (mn m (mn (s6 (I a)) (300 - s6 (I b)))) k)) a (mva (I a) (mn m (mn (s6 (I a)) (300 - s6 (I b)))) (k + 1))) b) k ((I b k) + (mvn (I a) (mn m (mn (s6 (I a)) (300 - s6 (I b)))) k)))) = (tk2 I a b (I a) (I b) (mn m (mn (s6 (I a)) (300 - s6 (I b)))) (k + 1)) := by rw [va_up_ne _ _ (Ne.symm hne), va_up_self]; exact tk2_s2 _ hne _ _ _ k
        rw [eI] at hM
        clear eI
        refine lv_iload hx hb dX4_take_62 (lv_at hl 2 rfl) ?_
        refine lv_iload hx hb dX4_take_64 (lv_at hl 0 rfl) ?_
        refine lv_isub hx hb dX4_take_66 ?_
        refine W.eq (g2 := F0 mv _ ls (.int ((mn m (mn (s6 (I a)) (300 - s6 (I b)))) - mvm (I a) (mn m (mn (s6 (I a)) (300 - s6 (I b)))) (k + 1)) :: [])) (by rw [show (((mn m (mn (s6 (I a)) (300 - s6 (I b)))) - mvm (I a) (mn m (mn (s6 (I a)) (300 - s6 (I b)))) k) - (mvn (I a) (mn m (mn (s6 (I a)) (300 - s6 (I b)))) k) : Int32) = (mn m (mn (s6 (I a)) (300 - s6 (I b)))) - mvm (I a) (mn m (mn (s6 (I a)) (300 - s6 (I b)))) (k + 1) from mvm_s _ _ _]) ?_
        refine lv_istore (lv' := [(4, .int ((mn m (mn (s6 (I a)) (300 - s6 (I b)))) - mvm (I a) (mn m (mn (s6 (I a)) (300 - s6 (I b)))) (k + 1))), (6, .int (mvn (I a) (mn m (mn (s6 (I a)) (300 - s6 (I b)))) k)), (5, .int (nI k)), (3, .int ((mn m (mn (s6 (I a)) (300 - s6 (I b)))))), (0, .ref (sa S a)), (1, .ref (sa S b))]) hx hb dX4_take_67 hl (by decide) rfl (fun ls hl => ?_)
        refine lv_iinc (v := nI (k + 1)) (lv' := [(5, .int (nI (k + 1))), (4, .int ((mn m (mn (s6 (I a)) (300 - s6 (I b)))) - mvm (I a) (mn m (mn (s6 (I a)) (300 - s6 (I b)))) (k + 1))), (6, .int (mvn (I a) (mn m (mn (s6 (I a)) (300 - s6 (I b)))) k)), (3, .int ((mn m (mn (s6 (I a)) (300 - s6 (I b)))))), (0, .ref (sa S a)), (1, .ref (sa S b))]) hx hb dX4_take_69 hl (k := 2) rfl (nI_1 _) (by decide) rfl (fun ls hl => ?_)
        refine lv_goto (tgt := 26) hx hb dX4_take_72 (by decide) ?_
        exact ih_26 (k + 1) (by omega) (by omega) _ _ hM ls (lv_sub hl [0, 1, 3, 4, 5] rfl)
  rw [show I = (tk2 I a b (I a) (I b) (mn m (mn (s6 (I a)) (300 - s6 (I b)))) 0) from (tk2_0 I _ rfl rfl).symm] at hM
  have hl : lv_has ls 7 [(5, .int 0), (4, .int ((mn m (mn (s6 (I a)) (300 - s6 (I b)))) - mvm (I a) (mn m (mn (s6 (I a)) (300 - s6 (I b)))) 0)), (3, .int (mn m (mn (s6 (I a)) (300 - s6 (I b))))), (0, .ref (sa S a)), (1, .ref (sa S b)), (2, .int m)] := by rw [show (mn m (mn (s6 (I a)) (300 - s6 (I b)))) - mvm (I a) (mn m (mn (s6 (I a)) (300 - s6 (I b)))) 0 = (mn m (mn (s6 (I a)) (300 - s6 (I b)))) from Int32.sub_zero _]; exact hl
  exact LP_26 _ 0 (by omega) (Nat.lt_succ_self _) _ _ hM ls (lv_sub hl [0, 1, 2, 3, 4] rfl)

abbrev rm_X4_blown : Room := { frames := 1, cells := 8, slots := 49, locals := 24 }
set_option maxHeartbeats 4000000 in
set_option maxRecDepth 100000 in
theorem c_X4_blown (D : va_G) (y : Nat → ClassId) (l : Launch) (S : fb_Sh) (V I : fb_V) (ns nt : Nat) (rho cf rf : Nat → Nat) (hA : SmAt S ns nt rho cf rf) (F : Nat) (hF : Fs S F) (i : Nat) (hi : i < ns) (dm : Nat) (hdm : I 1001 i = nI dm) (hd9 : dm ≤ 9) (w : Nat) (hw : w ≤ 20) (hn12 : ns ≤ 12) : CR D y l yX4_blown wsX4_blown rm_X4_blown [.ref (sa S 1000), .int (nI i), .int (nI w)] (S, V, (sT V), I) (fun a u => ∃ S2, u = (S2, V, sT V, (rB I (F + 1) 7 (gq (I (rho i)) (fun j => nI (cN w j dm)) 6))) ∧ a = sa S2 F ∧ RA S2 F 10 7 ∧ (∀ r, r < 7 → PA S2 F r (F + 1 + r) ∧ RA S2 (F + 1 + r) 6 6) ∧ Ext (fun x => F ≤ x ∧ x ≤ F + 7) S S2) 8 49 := by
  refine CR.of (cc := cX4_blown) (maxL := 7) (ret := (some (.array (.array .int)))) (by decide) rfl (Nat.le_of_ble_eq_true rfl) ?_
  intro pv ev s mv below meth cv A hx hb hml hr hown hts hlocks hname hM ls hl
  have hown : s.vm.findClass RX4 = some mv.cls := hown
  have hl : lv_has ls 7 [(0, .ref (sa S 1000)), (1, .int (nI i)), (2, .int (nI w))] := hl
  have hin4 : ∀ x ∈ wsX40, x ∈ wsX4_blown := by decide +kernel
  obtain ⟨Q, hQ⟩ : ∃ Q, Q = MQ below (va_Qr (fun _ : fb_W => True) (fun u a t9 => (fun a u => ∃ S2, u = (S2, V, sT V, (rB I (F + 1) 7 (gq (I (rho i)) (fun j => nI (cN w j dm)) 6))) ∧ a = sa S2 F ∧ RA S2 F 10 7 ∧ (∀ r, r < 7 → PA S2 F r (F + 1 + r) ∧ RA S2 (F + 1 + r) 6 6) ∧ Ext (fun x => F ≤ x ∧ x ≤ F + 7) S S2) a u ∧ fb_P D y A u t9) A) (([.ref (sa S 1000), .int (nI i), .int (nI w)] : List Value).toArray) s 8 49 A := ⟨_, rfl⟩
  rw [← hQ]
  refine lv_bipush (v := 7) hx hb dX4_blown_0 (by decide) ?_
  refine lv_bipush (v := 6) hx hb dX4_blown_2 (by decide) ?_
  have hFf : ∀ x, x ∈ sR S → ¬ (F ≤ x ∧ x ≤ F + 7) := fun x hx z => absurd (hF.2 x hx) (by omega)
  have hFn : ∀ x, F ≤ x ∧ x ≤ F + 7 → x ∉ sR S := fun x z hx => hFf x hx z
  refine fb_mnaI hx hb hown (hts (.classLink RX4 22 "[[I") (by decide +kernel)) (hts (.arrayClass .int) (by decide +kernel)) hM (N := 7) (K := 6) (by decide) (by decide) (by decide) (by decide) (by decide) (by decide) (Nat.le_of_ble_eq_true rfl) (Nat.le_of_ble_eq_true rfl) dX4_blown_4 F hFf (fun q9 ra9 H hM => ?_)
  obtain ⟨f1, f2, f3, hE⟩ := mk2_ok S F q9 7 6 10 6 ra9
  obtain ⟨S2, eS2⟩ : ∃ S2, S2 = fb_mk2 S F q9 7 6 10 6 ra9 := ⟨_, rfl⟩
  rw [← eS2] at hM f1 f2 f3 hE
  have hA2 : SmAt S2 ns nt rho cf rf := hA.grow hE hFn
  have k0 : sa S2 1000 = sa S 1000 := AA.ext hE (hFf 1000 hA.1.1)
  rw [← k0] at hl
  refine W.eq (g2 := F0 mv 8 ls [.ref (sa S2 F)]) (by rw [f2]) ?_
  rw [show rB I (F + 1) 7 (fun _ _ => 0) = (rB I (F + 1) 7 (gq (I (rho i)) (fun j => nI (cN w j dm)) 0)) from by rw [gq_0]] at hM
  refine lv_astore_n (lv' := [(3, .ref (sa S2 F)), (0, .ref (sa S2 1000)), (1, .int (nI i)), (2, .int (nI w))]) hx hb dX4_blown_8 rfl hl (by decide) rfl (fun ls hl => ?_)
  refine lv_iconst (v := 0) hx hb dX4_blown_9 (by decide) ?_
  refine lv_istore (lv' := [(4, .int 0), (3, .ref (sa S2 F)), (0, .ref (sa S2 1000)), (1, .int (nI i)), (2, .int (nI w))]) hx hb dX4_blown_10 hl (by decide) rfl (fun ls hl => ?_)
  have LP_12 : ∀ (n : Nat) (k : Nat) (hk : k ≤ 6), 6 - k < n → ∀ (H : Heap) (locs : List Loc), fb_M D y A s (S2, V, (sT V), (rB I (F + 1) 7 (gq (I (rho i)) (fun j => nI (cN w j dm)) k))) H locs → ∀ ls, lv_has ls 7 [(4, .int (nI k)), (3, .ref (sa S2 F)), (0, .ref (sa S2 1000)), (1, .int (nI i)), (2, .int (nI w))] → W pv l ev rm_X4_blown s mv ([.ref (sa S 1000), .int (nI i), .int (nI w)] : List Value).toArray below meth cv H locs (0 + 1 + 7) (0 + 7 + 7 * 6) Q (F0 mv 12 ls []) := by
    intro n_12
    induction n_12 with
    | zero => intro k hk hmu; exact absurd hmu (Nat.not_lt_zero _)
    | succ n_12 ih_12 =>
      intro k hk hmu H locs hM ls hl
      refine lv_iload hx hb dX4_blown_12 (lv_at hl 0 rfl) ?_
      refine lv_bipush (v := 6) hx hb dX4_blown_14 (by decide) ?_
      refine lv_icmp_ge (tgt := 142) hx hb dX4_blown_16 (by decide) (fun c_1 => ?_) (fun c_1 => ?_)
      · skip
        have e_k : k = 6 := by have := (nI_leI (a := 6) (b := k) (by omega) (by omega)).mp c_1; omega
        have e_k := Eq.symm e_k
        subst e_k
        refine lv_aload_n hx hb dX4_blown_142 rfl (lv_at hl 1 rfl) ?_
        rw [hQ]
        refine W.widen (show _ ≤ 8 from Nat.le_of_ble_eq_true rfl) (show _ ≤ 49 from Nat.le_of_ble_eq_true rfl) ?_
        exact fb_aret hx hb hr (Or.inr ⟨_, rfl⟩) hlocks hM (⟨S2, rfl, rfl, f1, f3, hE⟩) dX4_blown_143
      · skip
        have hk6 : k < 6 := Nat.lt_of_not_le (fun z => c_1 (nI_le z (by omega)))
        refine lv_aload_n hx hb dX4_blown_19 rfl (lv_at hl 2 rfl) ?_
        refine fb_get (r := 1000) hx hb hown hts hin4 hM (hA2.1.1) (ce4 (hA2.1.2)) rfl 0 (by decide) (hts (.fieldLink RX4 9 "FeatherBedsLaw$Sim" "sacks" "[[I") (by decide +kernel)) (fun _ h9 => h9) (v := .ref (sa S2 (1020 + ns))) (congrArg (fun z => some (va_rf z)) (hA2.2.1.1)) dX4_blown_20 ?_
        refine lv_iload_n hx hb dX4_blown_23 rfl (lv_at hl 3 rfl) ?_
        refine fb_aaldA (r := (1020 + ns)) hx hb hM (hA2.2.2.1.1) (ce10 (hA2.2.2.1.2.1)) 4 rfl (k := i) (nI_clamp (by omega)) (b := sa S2 (rho i)) ((hA2.2.2.2.2.2.2.1 i (by omega)).1) (by rw [hA2.2.2.1.2.2]; exact vp_in_nI (by omega) (by omega)) dX4_blown_24 ?_
        refine lv_iload hx hb dX4_blown_25 (lv_at hl 0 rfl) ?_
        refine fb_iald (r := (rho i)) hx hb hM (((hA2.2.2.2.2.2.2.1 i (by omega)).2).1) (ce6 (((hA2.2.2.2.2.2.2.1 i (by omega)).2).2.1)) (k := k) (nI_clamp (by omega)) (by rw [((hA2.2.2.2.2.2.2.1 i (by omega)).2).2.2]; exact vp_in_nI (by omega) (by omega)) dX4_blown_27 ?_
        refine W.eq (g2 := F0 mv _ ls (.int (I (rho i) k) :: [])) (by rw [show ((rB I (F + 1) 7 (gq (I (rho i)) (fun j => nI (cN w j dm)) k)) (rho i) k : Int32) = I (rho i) k from congrFun (rB_out I _ (Or.inl (by have := hA.rlt hF hi; omega))) k]) ?_
        refine lv_istore (lv' := [(5, .int (I (rho i) k)), (4, .int (nI k)), (3, .ref (sa S2 F)), (0, .ref (sa S2 1000)), (1, .int (nI i)), (2, .int (nI w))]) hx hb dX4_blown_28 hl (by decide) rfl (fun ls hl => ?_)
        refine lv_iconst (v := 4) hx hb dX4_blown_30 (by decide) ?_
        refine lv_bipush (v := 12) hx hb dX4_blown_31 (by decide) ?_
        refine lv_iload_n hx hb dX4_blown_33 rfl (lv_at hl 5 rfl) ?_
        refine lv_imul hx hb dX4_blown_34 ?_
        refine lv_iload hx hb dX4_blown_35 (lv_at hl 1 rfl) ?_
        refine lv_iconst (v := 1) hx hb dX4_blown_37 (by decide) ?_
        refine lv_iadd hx hb dX4_blown_38 ?_
        refine lv_aload_n hx hb dX4_blown_39 rfl (lv_at hl 3 rfl) ?_
        refine fb_get (r := 1000) hx hb hown hts hin4 hM (hA2.1.1) (ce4 (hA2.1.2)) rfl 1 (by decide) (hts (.fieldLink RX4 15 "FeatherBedsLaw$Sim" "damp" "[I") (by decide +kernel)) (fun _ h9 => h9) (v := .ref (sa S2 1001)) (congrArg (fun z => some (va_rf z)) (hA2.2.1.2.1)) dX4_blown_40 ?_
        refine lv_iload_n hx hb dX4_blown_43 rfl (lv_at hl 4 rfl) ?_
        refine fb_iald (r := 1001) hx hb hM (hA2.2.2.2.1.1) (ce6 (hA2.2.2.2.1.2.1)) (k := i) (nI_clamp (by omega)) (by rw [hA2.2.2.2.1.2.2]; exact vp_in_nI (by omega) (by omega)) dX4_blown_44 ?_
        refine W.eq (g2 := F0 mv _ ls (.int (nI dm) :: .int ((nI k) + 1) :: .int (12 * (nI w)) :: .int 4 :: [])) (by rw [show ((rB I (F + 1) 7 (gq (I (rho i)) (fun j => nI (cN w j dm)) k)) 1001 i : Int32) = nI dm from (congrFun (rB_out I _ (Or.inl (by have := hF.1; omega))) i).trans hdm]) ?_
        refine lv_iconst (v := 4) hx hb dX4_blown_45 (by decide) ?_
        refine lv_iadd hx hb dX4_blown_46 ?_
        refine lv_imul hx hb dX4_blown_47 ?_
        refine lv_idiv hx hb dX4_blown_48 (cN_nz hk6 hd9) ?_
        refine va_mmin hx hb (hml.trans hl.1.symm) hown (hts (.methodLink RX4 35 Lib.Math.min.name) (by decide +kernel)) (hts (.static Lib.Math.min.name) (by decide +kernel)) (hts (.initialized "java/lang/Math") (by decide +kernel)) (hts (.code Lib.Math.min.name Lib.Math.min.code 2 (some .int)) (by decide +kernel)) (Nat.le_of_ble_eq_true rfl) (Nat.le_of_ble_eq_true rfl) (Nat.le_of_ble_eq_true rfl) (by show _ ≤ 49; omega) dX4_blown_49 ?_
        refine W.eq (g2 := F0 mv _ ls (.int (nI (cN w k dm)) :: [])) (by rw [show (if (12 * (nI w)) / (((nI k) + 1) * ((nI dm) + 4)) < 4 then (12 * (nI w)) / (((nI k) + 1) * ((nI dm) + 4)) else 4 : Int32) = nI (cN w k dm) from mn_cN hw hk6 hd9]) ?_
        obtain ⟨c, ec⟩ : ∃ c, c = cN w k dm := ⟨_, rfl⟩
        have hc5 : c < 5 := by rw [ec]; exact cN_lt _ _ _
        rw [← ec]
        refine lv_istore (lv' := [(6, .int (nI c)), (5, .int (I (rho i) k)), (4, .int (nI k)), (3, .ref (sa S2 F)), (0, .ref (sa S2 1000)), (1, .int (nI i)), (2, .int (nI w))]) hx hb dX4_blown_52 hl (by decide) rfl (fun ls hl => ?_)
        refine lv_aload_n hx hb dX4_blown_54 rfl (lv_at hl 3 rfl) ?_
        refine lv_iload hx hb dX4_blown_55 (lv_at hl 0 rfl) ?_
        refine fb_aaldA (r := F) hx hb hM (f1.1) (ce10 (f1.2.1)) 4 rfl (k := c) (nI_clamp (by omega)) (b := sa S2 (F + 1 + c)) ((f3 c (by omega)).1) (by rw [f1.2.2]; exact vp_in_nI (by omega) (by omega)) dX4_blown_57 ?_
        refine lv_iload hx hb dX4_blown_58 (lv_at hl 2 rfl) ?_
        refine lv_dup2_11 hx hb dX4_blown_60 rfl rfl ?_
        refine fb_iald (r := (F + 1 + c)) hx hb hM (((f3 c (by omega)).2).1) (ce6 (((f3 c (by omega)).2).2.1)) (k := k) (nI_clamp (by omega)) (by rw [((f3 c (by omega)).2).2.2]; exact vp_in_nI (by omega) (by omega)) dX4_blown_61 ?_
        refine W.eq (g2 := F0 mv _ ls (.int (0) :: .int (nI k) :: .ref (sa S2 (F + 1 + c)) :: [])) (by rw [show ((rB I (F + 1) 7 (gq (I (rho i)) (fun j => nI (cN w j dm)) k)) (F + 1 + c) k : Int32) = 0 from by rw [rB_at I (F + 1) _ (by omega)]; exact gq_k _ _ _ _]) ?_
        refine lv_bipush (v := 6) hx hb dX4_blown_62 (by decide) ?_
        refine lv_iload hx hb dX4_blown_64 (lv_at hl 1 rfl) ?_
        refine lv_imul hx hb dX4_blown_66 ?_
        refine lv_bipush (v := 10) hx hb dX4_blown_67 (by decide) ?_
        refine lv_idiv hx hb dX4_blown_69 (by decide) ?_
        refine lv_iadd hx hb dX4_blown_70 ?_
        refine fb_iast (r := (F + 1 + c)) hx hb hM (((f3 c (by omega)).2).1) (ce6 (((f3 c (by omega)).2).2.1)) (k := k) (nI_clamp (by omega)) (by rw [((f3 c (by omega)).2).2.2]; exact vp_in_nI (by omega) (by omega)) dX4_blown_71 (up_I (j := k) (by rw [ce6 (S := S2) (((f3 c (by omega)).2).2.1)]; simp [va_up])) (w' := (S2, V, (sT V), (va_up (rB I (F + 1) 7 (gq (I (rho i)) (fun j => nI (cN w j dm)) k)) (F + 1 + c) (upd ((rB I (F + 1) 7 (gq (I (rho i)) (fun j => nI (cN w j dm)) k)) (F + 1 + c)) k (0 + ((6 * (I (rho i) k)) / 10)))))) ⟨rfl, rfl, rfl⟩ (fun H locs hM => ?_)
        have eI : (va_up (rB I (F + 1) 7 (gq (I (rho i)) (fun j => nI (cN w j dm)) k)) (F + 1 + c) (upd ((rB I (F + 1) 7 (gq (I (rho i)) (fun j => nI (cN w j dm)) k)) (F + 1 + c)) k (0 + ((6 * (I (rho i) k)) / 10)))) = (rB I (F + 1) 7 (va_up (gq (I (rho i)) (fun j => nI (cN w j dm)) k) c (gq (I (rho i)) (fun j => nI (cN w j dm)) (k + 1) c))) := by rw [rB_at I (F + 1) _ (by omega), rB_up I _ _ (by omega), gq_u (I (rho i)) (fun j => nI (cN w j dm)) k c (by rw [← ec]; exact brnA _ (by omega))]
        rw [eI] at hM
        clear eI
        refine lv_aload_n hx hb dX4_blown_72 rfl (lv_at hl 3 rfl) ?_
        refine lv_iload hx hb dX4_blown_73 (lv_at hl 0 rfl) ?_
        refine lv_iconst (v := 4) hx hb dX4_blown_75 (by decide) ?_
        refine lv_icmp_ne (tgt := 84) hx hb dX4_blown_76 (by decide) (fun c_2 => ?_) (fun c_2 => ?_)
        · skip
          have h4 : ¬ c = 4 := fun z => c_2 (by rw [z]; rfl)
          have h_r2 : (c + 1) = if c = 4 then 6 else c + 1 := (if_neg h4).symm
          refine lv_iload hx hb dX4_blown_84 (lv_at hl 0 rfl) ?_
          refine lv_iconst (v := 1) hx hb dX4_blown_86 (by decide) ?_
          refine lv_iadd hx hb dX4_blown_87 ?_
          refine W.eq (g2 := F0 mv _ ls (.int (nI (c + 1)) :: .ref (sa S2 F) :: [])) (by rw [show ((nI c) + 1 : Int32) = nI (c + 1) from nI_1 _]) ?_
          refine fb_aaldA (r := F) hx hb hM (f1.1) (ce10 (f1.2.1)) 4 rfl (k := c + 1) (nI_clamp (by omega)) (b := sa S2 (F + 1 + (c + 1))) ((f3 (c + 1) (by omega)).1) (by rw [f1.2.2]; exact vp_in_nI (by omega) (by omega)) dX4_blown_88 ?_
          refine lv_iload hx hb dX4_blown_89 (lv_at hl 2 rfl) ?_
          refine lv_dup2_11 hx hb dX4_blown_91 rfl rfl ?_
          refine fb_iald (r := (F + 1 + (c + 1))) hx hb hM (((f3 (c + 1) (by omega)).2).1) (ce6 (((f3 (c + 1) (by omega)).2).2.1)) (k := k) (nI_clamp (by omega)) (by rw [((f3 (c + 1) (by omega)).2).2.2]; exact vp_in_nI (by omega) (by omega)) dX4_blown_92 ?_
          refine W.eq (g2 := F0 mv _ ls (.int (0) :: .int (nI k) :: .ref (sa S2 (F + 1 + (c + 1))) :: [])) (by rw [show ((rB I (F + 1) 7 (va_up (gq (I (rho i)) (fun j => nI (cN w j dm)) k) c (gq (I (rho i)) (fun j => nI (cN w j dm)) (k + 1) c))) (F + 1 + (c + 1)) k : Int32) = 0 from by rw [rB_at I (F + 1) _ (by omega), va_up_ne _ _ (show (c + 1) ≠ c by omega)]; exact gq_k _ _ _ _]) ?_
          refine lv_iload hx hb dX4_blown_93 (lv_at hl 1 rfl) ?_
          refine lv_iconst (v := 4) hx hb dX4_blown_95 (by decide) ?_
          refine lv_idiv hx hb dX4_blown_96 (by decide) ?_
          refine lv_iadd hx hb dX4_blown_97 ?_
          refine fb_iast (r := (F + 1 + (c + 1))) hx hb hM (((f3 (c + 1) (by omega)).2).1) (ce6 (((f3 (c + 1) (by omega)).2).2.1)) (k := k) (nI_clamp (by omega)) (by rw [((f3 (c + 1) (by omega)).2).2.2]; exact vp_in_nI (by omega) (by omega)) dX4_blown_98 (up_I (j := k) (by rw [ce6 (S := S2) (((f3 (c + 1) (by omega)).2).2.1)]; simp [va_up])) (w' := (S2, V, (sT V), (va_up (rB I (F + 1) 7 (va_up (gq (I (rho i)) (fun j => nI (cN w j dm)) k) c (gq (I (rho i)) (fun j => nI (cN w j dm)) (k + 1) c))) (F + 1 + (c + 1)) (upd ((rB I (F + 1) 7 (va_up (gq (I (rho i)) (fun j => nI (cN w j dm)) k) c (gq (I (rho i)) (fun j => nI (cN w j dm)) (k + 1) c))) (F + 1 + (c + 1))) k (0 + ((I (rho i) k) / 4)))))) ⟨rfl, rfl, rfl⟩ (fun H locs hM => ?_)
          have eI : (va_up (rB I (F + 1) 7 (va_up (gq (I (rho i)) (fun j => nI (cN w j dm)) k) c (gq (I (rho i)) (fun j => nI (cN w j dm)) (k + 1) c))) (F + 1 + (c + 1)) (upd ((rB I (F + 1) 7 (va_up (gq (I (rho i)) (fun j => nI (cN w j dm)) k) c (gq (I (rho i)) (fun j => nI (cN w j dm)) (k + 1) c))) (F + 1 + (c + 1))) k (0 + ((I (rho i) k) / 4)))) = (rB I (F + 1) 7 (va_up (va_up (gq (I (rho i)) (fun j => nI (cN w j dm)) k) c (gq (I (rho i)) (fun j => nI (cN w j dm)) (k + 1) c)) (c + 1) (gq (I (rho i)) (fun j => nI (cN w j dm)) (k + 1) (c + 1)))) := by rw [rB_at I (F + 1) _ (by omega), rB_up I _ _ (by omega), va_up_ne _ _ (show (c + 1) ≠ c by omega), gq_u (I (rho i)) (fun j => nI (cN w j dm)) k (c + 1) (by rw [← ec]; exact brnB _ (by omega) h_r2)]
          rw [eI] at hM
          clear eI
          refine lv_aload_n hx hb dX4_blown_99 rfl (lv_at hl 3 rfl) ?_
          refine lv_iload hx hb dX4_blown_100 (lv_at hl 0 rfl) ?_
          refine lv_if_ne (tgt := 109) hx hb dX4_blown_102 (by decide) (fun c_3 => ?_) (fun c_3 => ?_)
          · skip
            have h0 : ¬ c = 0 := fun z => c_3 (by rw [z]; rfl)
            have h_r3 : (c - 1) = if c = 0 then 5 else c - 1 := (if_neg h0).symm
            refine lv_iload hx hb dX4_blown_109 (lv_at hl 0 rfl) ?_
            refine lv_iconst (v := 1) hx hb dX4_blown_111 (by decide) ?_
            refine lv_isub hx hb dX4_blown_112 ?_
            refine W.eq (g2 := F0 mv _ ls (.int (nI (c - 1)) :: .ref (sa S2 F) :: [])) (by rw [show ((nI c) - 1 : Int32) = nI (c - 1) from pk_sub (b := 1) (by omega)]) ?_
            refine fb_aaldA (r := F) hx hb hM (f1.1) (ce10 (f1.2.1)) 4 rfl (k := c - 1) (nI_clamp (by omega)) (b := sa S2 (F + 1 + (c - 1))) ((f3 (c - 1) (by omega)).1) (by rw [f1.2.2]; exact vp_in_nI (by omega) (by omega)) dX4_blown_113 ?_
            refine lv_iload hx hb dX4_blown_114 (lv_at hl 2 rfl) ?_
            refine lv_dup2_11 hx hb dX4_blown_116 rfl rfl ?_
            refine fb_iald (r := (F + 1 + (c - 1))) hx hb hM (((f3 (c - 1) (by omega)).2).1) (ce6 (((f3 (c - 1) (by omega)).2).2.1)) (k := k) (nI_clamp (by omega)) (by rw [((f3 (c - 1) (by omega)).2).2.2]; exact vp_in_nI (by omega) (by omega)) dX4_blown_117 ?_
            refine W.eq (g2 := F0 mv _ ls (.int (0) :: .int (nI k) :: .ref (sa S2 (F + 1 + (c - 1))) :: [])) (by rw [show ((rB I (F + 1) 7 (va_up (va_up (gq (I (rho i)) (fun j => nI (cN w j dm)) k) c (gq (I (rho i)) (fun j => nI (cN w j dm)) (k + 1) c)) (c + 1) (gq (I (rho i)) (fun j => nI (cN w j dm)) (k + 1) (c + 1)))) (F + 1 + (c - 1)) k : Int32) = 0 from by rw [rB_at I (F + 1) _ (by omega), va_up_ne _ _ (show (c - 1) ≠ (c + 1) by omega), va_up_ne _ _ (show (c - 1) ≠ c by omega)]; exact gq_k _ _ _ _]) ?_
            refine lv_iload hx hb dX4_blown_118 (lv_at hl 1 rfl) ?_
            refine lv_bipush (v := 6) hx hb dX4_blown_120 (by decide) ?_
            refine lv_iload hx hb dX4_blown_122 (lv_at hl 1 rfl) ?_
            refine lv_imul hx hb dX4_blown_124 ?_
            refine lv_bipush (v := 10) hx hb dX4_blown_125 (by decide) ?_
            refine lv_idiv hx hb dX4_blown_127 (by decide) ?_
            refine lv_isub hx hb dX4_blown_128 ?_
            refine lv_iload hx hb dX4_blown_129 (lv_at hl 1 rfl) ?_
            refine lv_iconst (v := 4) hx hb dX4_blown_131 (by decide) ?_
            refine lv_idiv hx hb dX4_blown_132 (by decide) ?_
            refine lv_isub hx hb dX4_blown_133 ?_
            refine lv_iadd hx hb dX4_blown_134 ?_
            refine fb_iast (r := (F + 1 + (c - 1))) hx hb hM (((f3 (c - 1) (by omega)).2).1) (ce6 (((f3 (c - 1) (by omega)).2).2.1)) (k := k) (nI_clamp (by omega)) (by rw [((f3 (c - 1) (by omega)).2).2.2]; exact vp_in_nI (by omega) (by omega)) dX4_blown_135 (up_I (j := k) (by rw [ce6 (S := S2) (((f3 (c - 1) (by omega)).2).2.1)]; simp [va_up])) (w' := (S2, V, (sT V), (va_up (rB I (F + 1) 7 (va_up (va_up (gq (I (rho i)) (fun j => nI (cN w j dm)) k) c (gq (I (rho i)) (fun j => nI (cN w j dm)) (k + 1) c)) (c + 1) (gq (I (rho i)) (fun j => nI (cN w j dm)) (k + 1) (c + 1)))) (F + 1 + (c - 1)) (upd ((rB I (F + 1) 7 (va_up (va_up (gq (I (rho i)) (fun j => nI (cN w j dm)) k) c (gq (I (rho i)) (fun j => nI (cN w j dm)) (k + 1) c)) (c + 1) (gq (I (rho i)) (fun j => nI (cN w j dm)) (k + 1) (c + 1)))) (F + 1 + (c - 1))) k (0 + (((I (rho i) k) - ((6 * (I (rho i) k)) / 10)) - ((I (rho i) k) / 4))))))) ⟨rfl, rfl, rfl⟩ (fun H locs hM => ?_)
            have eI : (va_up (rB I (F + 1) 7 (va_up (va_up (gq (I (rho i)) (fun j => nI (cN w j dm)) k) c (gq (I (rho i)) (fun j => nI (cN w j dm)) (k + 1) c)) (c + 1) (gq (I (rho i)) (fun j => nI (cN w j dm)) (k + 1) (c + 1)))) (F + 1 + (c - 1)) (upd ((rB I (F + 1) 7 (va_up (va_up (gq (I (rho i)) (fun j => nI (cN w j dm)) k) c (gq (I (rho i)) (fun j => nI (cN w j dm)) (k + 1) c)) (c + 1) (gq (I (rho i)) (fun j => nI (cN w j dm)) (k + 1) (c + 1)))) (F + 1 + (c - 1))) k (0 + (((I (rho i) k) - ((6 * (I (rho i) k)) / 10)) - ((I (rho i) k) / 4))))) = (rB I (F + 1) 7 (va_up (va_up (va_up (gq (I (rho i)) (fun j => nI (cN w j dm)) k) c (gq (I (rho i)) (fun j => nI (cN w j dm)) (k + 1) c)) (c + 1) (gq (I (rho i)) (fun j => nI (cN w j dm)) (k + 1) (c + 1))) (c - 1) (gq (I (rho i)) (fun j => nI (cN w j dm)) (k + 1) (c - 1)))) := by rw [rB_at I (F + 1) _ (by omega), rB_up I _ _ (by omega), va_up_ne _ _ (show (c - 1) ≠ (c + 1) by omega), va_up_ne _ _ (show (c - 1) ≠ c by omega), gq_u (I (rho i)) (fun j => nI (cN w j dm)) k (c - 1) (by rw [← ec]; exact brnC _ (by omega) h_r3)]
            rw [eI] at hM
            clear eI
            have eI : (rB I (F + 1) 7 (va_up (va_up (va_up (gq (I (rho i)) (fun j => nI (cN w j dm)) k) c (gq (I (rho i)) (fun j => nI (cN w j dm)) (k + 1) c)) (c + 1) (gq (I (rho i)) (fun j => nI (cN w j dm)) (k + 1) (c + 1))) (c - 1) (gq (I (rho i)) (fun j => nI (cN w j dm)) (k + 1) (c - 1)))) = (rB I (F + 1) 7 (gq (I (rho i)) (fun j => nI (cN w j dm)) (k + 1))) := rB_ext I _ (gq3 _ _ k (by omega) (congrArg nI ec.symm) h_r2 h_r3)
            rw [eI] at hM
            clear eI
            refine lv_iinc (v := nI (k + 1)) (lv' := [(4, .int (nI (k + 1))), (6, .int (nI c)), (5, .int (I (rho i) k)), (3, .ref (sa S2 F)), (0, .ref (sa S2 1000)), (1, .int (nI i)), (2, .int (nI w))]) hx hb dX4_blown_136 hl (k := 2) rfl (nI_1 _) (by decide) rfl (fun ls hl => ?_)
            refine lv_goto (tgt := 12) hx hb dX4_blown_139 (by decide) ?_
            exact ih_12 (k + 1) (by omega) (by omega) _ _ hM ls (lv_sub hl [0, 3, 4, 5, 6] rfl)
          · skip
            have h0 : c = 0 := (nI_eq (a := c) (b := 0) (by omega) (by omega)).mp c_3
            have h_r3 : 5 = if c = 0 then 5 else c - 1 := (if_pos h0).symm
            refine lv_iconst (v := 5) hx hb dX4_blown_105 (by decide) ?_
            refine lv_goto (tgt := 113) hx hb dX4_blown_106 (by decide) ?_
            refine fb_aaldA (r := F) hx hb hM (f1.1) (ce10 (f1.2.1)) 4 rfl (k := 5) (by decide) (b := sa S2 (F + 1 + 5)) ((f3 5 (by omega)).1) (by rw [f1.2.2]; exact pk_in 5 _ (by omega) (by decide) (by omega)) dX4_blown_113 ?_
            refine lv_iload hx hb dX4_blown_114 (lv_at hl 2 rfl) ?_
            refine lv_dup2_11 hx hb dX4_blown_116 rfl rfl ?_
            refine fb_iald (r := (F + 1 + 5)) hx hb hM (((f3 5 (by omega)).2).1) (ce6 (((f3 5 (by omega)).2).2.1)) (k := k) (nI_clamp (by omega)) (by rw [((f3 5 (by omega)).2).2.2]; exact vp_in_nI (by omega) (by omega)) dX4_blown_117 ?_
            refine W.eq (g2 := F0 mv _ ls (.int (0) :: .int (nI k) :: .ref (sa S2 (F + 1 + 5)) :: [])) (by rw [show ((rB I (F + 1) 7 (va_up (va_up (gq (I (rho i)) (fun j => nI (cN w j dm)) k) c (gq (I (rho i)) (fun j => nI (cN w j dm)) (k + 1) c)) (c + 1) (gq (I (rho i)) (fun j => nI (cN w j dm)) (k + 1) (c + 1)))) (F + 1 + 5) k : Int32) = 0 from by rw [rB_at I (F + 1) _ (by omega), va_up_ne _ _ (show 5 ≠ (c + 1) by omega), va_up_ne _ _ (show 5 ≠ c by omega)]; exact gq_k _ _ _ _]) ?_
            refine lv_iload hx hb dX4_blown_118 (lv_at hl 1 rfl) ?_
            refine lv_bipush (v := 6) hx hb dX4_blown_120 (by decide) ?_
            refine lv_iload hx hb dX4_blown_122 (lv_at hl 1 rfl) ?_
            refine lv_imul hx hb dX4_blown_124 ?_
            refine lv_bipush (v := 10) hx hb dX4_blown_125 (by decide) ?_
            refine lv_idiv hx hb dX4_blown_127 (by decide) ?_
            refine lv_isub hx hb dX4_blown_128 ?_
            refine lv_iload hx hb dX4_blown_129 (lv_at hl 1 rfl) ?_
            refine lv_iconst (v := 4) hx hb dX4_blown_131 (by decide) ?_
            refine lv_idiv hx hb dX4_blown_132 (by decide) ?_
            refine lv_isub hx hb dX4_blown_133 ?_
            refine lv_iadd hx hb dX4_blown_134 ?_
            refine fb_iast (r := (F + 1 + 5)) hx hb hM (((f3 5 (by omega)).2).1) (ce6 (((f3 5 (by omega)).2).2.1)) (k := k) (nI_clamp (by omega)) (by rw [((f3 5 (by omega)).2).2.2]; exact vp_in_nI (by omega) (by omega)) dX4_blown_135 (up_I (j := k) (by rw [ce6 (S := S2) (((f3 5 (by omega)).2).2.1)]; simp [va_up])) (w' := (S2, V, (sT V), (va_up (rB I (F + 1) 7 (va_up (va_up (gq (I (rho i)) (fun j => nI (cN w j dm)) k) c (gq (I (rho i)) (fun j => nI (cN w j dm)) (k + 1) c)) (c + 1) (gq (I (rho i)) (fun j => nI (cN w j dm)) (k + 1) (c + 1)))) (F + 1 + 5) (upd ((rB I (F + 1) 7 (va_up (va_up (gq (I (rho i)) (fun j => nI (cN w j dm)) k) c (gq (I (rho i)) (fun j => nI (cN w j dm)) (k + 1) c)) (c + 1) (gq (I (rho i)) (fun j => nI (cN w j dm)) (k + 1) (c + 1)))) (F + 1 + 5)) k (0 + (((I (rho i) k) - ((6 * (I (rho i) k)) / 10)) - ((I (rho i) k) / 4))))))) ⟨rfl, rfl, rfl⟩ (fun H locs hM => ?_)
            have eI : (va_up (rB I (F + 1) 7 (va_up (va_up (gq (I (rho i)) (fun j => nI (cN w j dm)) k) c (gq (I (rho i)) (fun j => nI (cN w j dm)) (k + 1) c)) (c + 1) (gq (I (rho i)) (fun j => nI (cN w j dm)) (k + 1) (c + 1)))) (F + 1 + 5) (upd ((rB I (F + 1) 7 (va_up (va_up (gq (I (rho i)) (fun j => nI (cN w j dm)) k) c (gq (I (rho i)) (fun j => nI (cN w j dm)) (k + 1) c)) (c + 1) (gq (I (rho i)) (fun j => nI (cN w j dm)) (k + 1) (c + 1)))) (F + 1 + 5)) k (0 + (((I (rho i) k) - ((6 * (I (rho i) k)) / 10)) - ((I (rho i) k) / 4))))) = (rB I (F + 1) 7 (va_up (va_up (va_up (gq (I (rho i)) (fun j => nI (cN w j dm)) k) c (gq (I (rho i)) (fun j => nI (cN w j dm)) (k + 1) c)) (c + 1) (gq (I (rho i)) (fun j => nI (cN w j dm)) (k + 1) (c + 1))) 5 (gq (I (rho i)) (fun j => nI (cN w j dm)) (k + 1) 5))) := by rw [rB_at I (F + 1) _ (by omega), rB_up I _ _ (by omega), va_up_ne _ _ (show 5 ≠ (c + 1) by omega), va_up_ne _ _ (show 5 ≠ c by omega), gq_u (I (rho i)) (fun j => nI (cN w j dm)) k 5 (by rw [← ec]; exact brnC _ (by omega) h_r3)]
            rw [eI] at hM
            clear eI
            have eI : (rB I (F + 1) 7 (va_up (va_up (va_up (gq (I (rho i)) (fun j => nI (cN w j dm)) k) c (gq (I (rho i)) (fun j => nI (cN w j dm)) (k + 1) c)) (c + 1) (gq (I (rho i)) (fun j => nI (cN w j dm)) (k + 1) (c + 1))) 5 (gq (I (rho i)) (fun j => nI (cN w j dm)) (k + 1) 5))) = (rB I (F + 1) 7 (gq (I (rho i)) (fun j => nI (cN w j dm)) (k + 1))) := rB_ext I _ (gq3 _ _ k (by omega) (congrArg nI ec.symm) h_r2 h_r3)
            rw [eI] at hM
            clear eI
            refine lv_iinc (v := nI (k + 1)) (lv' := [(4, .int (nI (k + 1))), (6, .int (nI c)), (5, .int (I (rho i) k)), (3, .ref (sa S2 F)), (0, .ref (sa S2 1000)), (1, .int (nI i)), (2, .int (nI w))]) hx hb dX4_blown_136 hl (k := 2) rfl (nI_1 _) (by decide) rfl (fun ls hl => ?_)
            refine lv_goto (tgt := 12) hx hb dX4_blown_139 (by decide) ?_
            exact ih_12 (k + 1) (by omega) (by omega) _ _ hM ls (lv_sub hl [0, 3, 4, 5, 6] rfl)
        · skip
          have h4 : c = 4 := (nI_eq (a := c) (b := 4) (by omega) (by omega)).mp c_2
          have h_r2 : 6 = if c = 4 then 6 else c + 1 := (if_pos h4).symm
          refine lv_bipush (v := 6) hx hb dX4_blown_79 (by decide) ?_
          refine lv_goto (tgt := 88) hx hb dX4_blown_81 (by decide) ?_
          refine fb_aaldA (r := F) hx hb hM (f1.1) (ce10 (f1.2.1)) 4 rfl (k := 6) (by decide) (b := sa S2 (F + 1 + 6)) ((f3 6 (by omega)).1) (by rw [f1.2.2]; exact pk_in 6 _ (by omega) (by decide) (by omega)) dX4_blown_88 ?_
          refine lv_iload hx hb dX4_blown_89 (lv_at hl 2 rfl) ?_
          refine lv_dup2_11 hx hb dX4_blown_91 rfl rfl ?_
          refine fb_iald (r := (F + 1 + 6)) hx hb hM (((f3 6 (by omega)).2).1) (ce6 (((f3 6 (by omega)).2).2.1)) (k := k) (nI_clamp (by omega)) (by rw [((f3 6 (by omega)).2).2.2]; exact vp_in_nI (by omega) (by omega)) dX4_blown_92 ?_
          refine W.eq (g2 := F0 mv _ ls (.int (0) :: .int (nI k) :: .ref (sa S2 (F + 1 + 6)) :: [])) (by rw [show ((rB I (F + 1) 7 (va_up (gq (I (rho i)) (fun j => nI (cN w j dm)) k) c (gq (I (rho i)) (fun j => nI (cN w j dm)) (k + 1) c))) (F + 1 + 6) k : Int32) = 0 from by rw [rB_at I (F + 1) _ (by omega), va_up_ne _ _ (show 6 ≠ c by omega)]; exact gq_k _ _ _ _]) ?_
          refine lv_iload hx hb dX4_blown_93 (lv_at hl 1 rfl) ?_
          refine lv_iconst (v := 4) hx hb dX4_blown_95 (by decide) ?_
          refine lv_idiv hx hb dX4_blown_96 (by decide) ?_
          refine lv_iadd hx hb dX4_blown_97 ?_
          refine fb_iast (r := (F + 1 + 6)) hx hb hM (((f3 6 (by omega)).2).1) (ce6 (((f3 6 (by omega)).2).2.1)) (k := k) (nI_clamp (by omega)) (by rw [((f3 6 (by omega)).2).2.2]; exact vp_in_nI (by omega) (by omega)) dX4_blown_98 (up_I (j := k) (by rw [ce6 (S := S2) (((f3 6 (by omega)).2).2.1)]; simp [va_up])) (w' := (S2, V, (sT V), (va_up (rB I (F + 1) 7 (va_up (gq (I (rho i)) (fun j => nI (cN w j dm)) k) c (gq (I (rho i)) (fun j => nI (cN w j dm)) (k + 1) c))) (F + 1 + 6) (upd ((rB I (F + 1) 7 (va_up (gq (I (rho i)) (fun j => nI (cN w j dm)) k) c (gq (I (rho i)) (fun j => nI (cN w j dm)) (k + 1) c))) (F + 1 + 6)) k (0 + ((I (rho i) k) / 4)))))) ⟨rfl, rfl, rfl⟩ (fun H locs hM => ?_)
          have eI : (va_up (rB I (F + 1) 7 (va_up (gq (I (rho i)) (fun j => nI (cN w j dm)) k) c (gq (I (rho i)) (fun j => nI (cN w j dm)) (k + 1) c))) (F + 1 + 6) (upd ((rB I (F + 1) 7 (va_up (gq (I (rho i)) (fun j => nI (cN w j dm)) k) c (gq (I (rho i)) (fun j => nI (cN w j dm)) (k + 1) c))) (F + 1 + 6)) k (0 + ((I (rho i) k) / 4)))) = (rB I (F + 1) 7 (va_up (va_up (gq (I (rho i)) (fun j => nI (cN w j dm)) k) c (gq (I (rho i)) (fun j => nI (cN w j dm)) (k + 1) c)) 6 (gq (I (rho i)) (fun j => nI (cN w j dm)) (k + 1) 6))) := by rw [rB_at I (F + 1) _ (by omega), rB_up I _ _ (by omega), va_up_ne _ _ (show 6 ≠ c by omega), gq_u (I (rho i)) (fun j => nI (cN w j dm)) k 6 (by rw [← ec]; exact brnB _ (by omega) h_r2)]
          rw [eI] at hM
          clear eI
          refine lv_aload_n hx hb dX4_blown_99 rfl (lv_at hl 3 rfl) ?_
          refine lv_iload hx hb dX4_blown_100 (lv_at hl 0 rfl) ?_
          refine lv_if_ne (tgt := 109) hx hb dX4_blown_102 (by decide) (fun c_4 => ?_) (fun c_4 => ?_)
          · skip
            have h0 : ¬ c = 0 := fun z => c_4 (by rw [z]; rfl)
            have h_r3 : (c - 1) = if c = 0 then 5 else c - 1 := (if_neg h0).symm
            refine lv_iload hx hb dX4_blown_109 (lv_at hl 0 rfl) ?_
            refine lv_iconst (v := 1) hx hb dX4_blown_111 (by decide) ?_
            refine lv_isub hx hb dX4_blown_112 ?_
            refine W.eq (g2 := F0 mv _ ls (.int (nI (c - 1)) :: .ref (sa S2 F) :: [])) (by rw [show ((nI c) - 1 : Int32) = nI (c - 1) from pk_sub (b := 1) (by omega)]) ?_
            refine fb_aaldA (r := F) hx hb hM (f1.1) (ce10 (f1.2.1)) 4 rfl (k := c - 1) (nI_clamp (by omega)) (b := sa S2 (F + 1 + (c - 1))) ((f3 (c - 1) (by omega)).1) (by rw [f1.2.2]; exact vp_in_nI (by omega) (by omega)) dX4_blown_113 ?_
            refine lv_iload hx hb dX4_blown_114 (lv_at hl 2 rfl) ?_
            refine lv_dup2_11 hx hb dX4_blown_116 rfl rfl ?_
            refine fb_iald (r := (F + 1 + (c - 1))) hx hb hM (((f3 (c - 1) (by omega)).2).1) (ce6 (((f3 (c - 1) (by omega)).2).2.1)) (k := k) (nI_clamp (by omega)) (by rw [((f3 (c - 1) (by omega)).2).2.2]; exact vp_in_nI (by omega) (by omega)) dX4_blown_117 ?_
            refine W.eq (g2 := F0 mv _ ls (.int (0) :: .int (nI k) :: .ref (sa S2 (F + 1 + (c - 1))) :: [])) (by rw [show ((rB I (F + 1) 7 (va_up (va_up (gq (I (rho i)) (fun j => nI (cN w j dm)) k) c (gq (I (rho i)) (fun j => nI (cN w j dm)) (k + 1) c)) 6 (gq (I (rho i)) (fun j => nI (cN w j dm)) (k + 1) 6))) (F + 1 + (c - 1)) k : Int32) = 0 from by rw [rB_at I (F + 1) _ (by omega), va_up_ne _ _ (show (c - 1) ≠ 6 by omega), va_up_ne _ _ (show (c - 1) ≠ c by omega)]; exact gq_k _ _ _ _]) ?_
            refine lv_iload hx hb dX4_blown_118 (lv_at hl 1 rfl) ?_
            refine lv_bipush (v := 6) hx hb dX4_blown_120 (by decide) ?_
            refine lv_iload hx hb dX4_blown_122 (lv_at hl 1 rfl) ?_
            refine lv_imul hx hb dX4_blown_124 ?_
            refine lv_bipush (v := 10) hx hb dX4_blown_125 (by decide) ?_
            refine lv_idiv hx hb dX4_blown_127 (by decide) ?_
            refine lv_isub hx hb dX4_blown_128 ?_
            refine lv_iload hx hb dX4_blown_129 (lv_at hl 1 rfl) ?_
            refine lv_iconst (v := 4) hx hb dX4_blown_131 (by decide) ?_
            refine lv_idiv hx hb dX4_blown_132 (by decide) ?_
            refine lv_isub hx hb dX4_blown_133 ?_
            refine lv_iadd hx hb dX4_blown_134 ?_
            refine fb_iast (r := (F + 1 + (c - 1))) hx hb hM (((f3 (c - 1) (by omega)).2).1) (ce6 (((f3 (c - 1) (by omega)).2).2.1)) (k := k) (nI_clamp (by omega)) (by rw [((f3 (c - 1) (by omega)).2).2.2]; exact vp_in_nI (by omega) (by omega)) dX4_blown_135 (up_I (j := k) (by rw [ce6 (S := S2) (((f3 (c - 1) (by omega)).2).2.1)]; simp [va_up])) (w' := (S2, V, (sT V), (va_up (rB I (F + 1) 7 (va_up (va_up (gq (I (rho i)) (fun j => nI (cN w j dm)) k) c (gq (I (rho i)) (fun j => nI (cN w j dm)) (k + 1) c)) 6 (gq (I (rho i)) (fun j => nI (cN w j dm)) (k + 1) 6))) (F + 1 + (c - 1)) (upd ((rB I (F + 1) 7 (va_up (va_up (gq (I (rho i)) (fun j => nI (cN w j dm)) k) c (gq (I (rho i)) (fun j => nI (cN w j dm)) (k + 1) c)) 6 (gq (I (rho i)) (fun j => nI (cN w j dm)) (k + 1) 6))) (F + 1 + (c - 1))) k (0 + (((I (rho i) k) - ((6 * (I (rho i) k)) / 10)) - ((I (rho i) k) / 4))))))) ⟨rfl, rfl, rfl⟩ (fun H locs hM => ?_)
            have eI : (va_up (rB I (F + 1) 7 (va_up (va_up (gq (I (rho i)) (fun j => nI (cN w j dm)) k) c (gq (I (rho i)) (fun j => nI (cN w j dm)) (k + 1) c)) 6 (gq (I (rho i)) (fun j => nI (cN w j dm)) (k + 1) 6))) (F + 1 + (c - 1)) (upd ((rB I (F + 1) 7 (va_up (va_up (gq (I (rho i)) (fun j => nI (cN w j dm)) k) c (gq (I (rho i)) (fun j => nI (cN w j dm)) (k + 1) c)) 6 (gq (I (rho i)) (fun j => nI (cN w j dm)) (k + 1) 6))) (F + 1 + (c - 1))) k (0 + (((I (rho i) k) - ((6 * (I (rho i) k)) / 10)) - ((I (rho i) k) / 4))))) = (rB I (F + 1) 7 (va_up (va_up (va_up (gq (I (rho i)) (fun j => nI (cN w j dm)) k) c (gq (I (rho i)) (fun j => nI (cN w j dm)) (k + 1) c)) 6 (gq (I (rho i)) (fun j => nI (cN w j dm)) (k + 1) 6)) (c - 1) (gq (I (rho i)) (fun j => nI (cN w j dm)) (k + 1) (c - 1)))) := by rw [rB_at I (F + 1) _ (by omega), rB_up I _ _ (by omega), va_up_ne _ _ (show (c - 1) ≠ 6 by omega), va_up_ne _ _ (show (c - 1) ≠ c by omega), gq_u (I (rho i)) (fun j => nI (cN w j dm)) k (c - 1) (by rw [← ec]; exact brnC _ (by omega) h_r3)]
            rw [eI] at hM
            clear eI
            have eI : (rB I (F + 1) 7 (va_up (va_up (va_up (gq (I (rho i)) (fun j => nI (cN w j dm)) k) c (gq (I (rho i)) (fun j => nI (cN w j dm)) (k + 1) c)) 6 (gq (I (rho i)) (fun j => nI (cN w j dm)) (k + 1) 6)) (c - 1) (gq (I (rho i)) (fun j => nI (cN w j dm)) (k + 1) (c - 1)))) = (rB I (F + 1) 7 (gq (I (rho i)) (fun j => nI (cN w j dm)) (k + 1))) := rB_ext I _ (gq3 _ _ k (by omega) (congrArg nI ec.symm) h_r2 h_r3)
            rw [eI] at hM
            clear eI
            refine lv_iinc (v := nI (k + 1)) (lv' := [(4, .int (nI (k + 1))), (6, .int (nI c)), (5, .int (I (rho i) k)), (3, .ref (sa S2 F)), (0, .ref (sa S2 1000)), (1, .int (nI i)), (2, .int (nI w))]) hx hb dX4_blown_136 hl (k := 2) rfl (nI_1 _) (by decide) rfl (fun ls hl => ?_)
            refine lv_goto (tgt := 12) hx hb dX4_blown_139 (by decide) ?_
            exact ih_12 (k + 1) (by omega) (by omega) _ _ hM ls (lv_sub hl [0, 3, 4, 5, 6] rfl)
          · skip
            have h0 : c = 0 := (nI_eq (a := c) (b := 0) (by omega) (by omega)).mp c_4
            have h_r3 : 5 = if c = 0 then 5 else c - 1 := (if_pos h0).symm
            refine lv_iconst (v := 5) hx hb dX4_blown_105 (by decide) ?_
            refine lv_goto (tgt := 113) hx hb dX4_blown_106 (by decide) ?_
            refine fb_aaldA (r := F) hx hb hM (f1.1) (ce10 (f1.2.1)) 4 rfl (k := 5) (by decide) (b := sa S2 (F + 1 + 5)) ((f3 5 (by omega)).1) (by rw [f1.2.2]; exact pk_in 5 _ (by omega) (by decide) (by omega)) dX4_blown_113 ?_
            refine lv_iload hx hb dX4_blown_114 (lv_at hl 2 rfl) ?_
            refine lv_dup2_11 hx hb dX4_blown_116 rfl rfl ?_
            refine fb_iald (r := (F + 1 + 5)) hx hb hM (((f3 5 (by omega)).2).1) (ce6 (((f3 5 (by omega)).2).2.1)) (k := k) (nI_clamp (by omega)) (by rw [((f3 5 (by omega)).2).2.2]; exact vp_in_nI (by omega) (by omega)) dX4_blown_117 ?_
            refine W.eq (g2 := F0 mv _ ls (.int (0) :: .int (nI k) :: .ref (sa S2 (F + 1 + 5)) :: [])) (by rw [show ((rB I (F + 1) 7 (va_up (va_up (gq (I (rho i)) (fun j => nI (cN w j dm)) k) c (gq (I (rho i)) (fun j => nI (cN w j dm)) (k + 1) c)) 6 (gq (I (rho i)) (fun j => nI (cN w j dm)) (k + 1) 6))) (F + 1 + 5) k : Int32) = 0 from by rw [rB_at I (F + 1) _ (by omega), va_up_ne _ _ (show 5 ≠ 6 by omega), va_up_ne _ _ (show 5 ≠ c by omega)]; exact gq_k _ _ _ _]) ?_
            refine lv_iload hx hb dX4_blown_118 (lv_at hl 1 rfl) ?_
            refine lv_bipush (v := 6) hx hb dX4_blown_120 (by decide) ?_
            refine lv_iload hx hb dX4_blown_122 (lv_at hl 1 rfl) ?_
            refine lv_imul hx hb dX4_blown_124 ?_
            refine lv_bipush (v := 10) hx hb dX4_blown_125 (by decide) ?_
            refine lv_idiv hx hb dX4_blown_127 (by decide) ?_
            refine lv_isub hx hb dX4_blown_128 ?_
            refine lv_iload hx hb dX4_blown_129 (lv_at hl 1 rfl) ?_
            refine lv_iconst (v := 4) hx hb dX4_blown_131 (by decide) ?_
            refine lv_idiv hx hb dX4_blown_132 (by decide) ?_
            refine lv_isub hx hb dX4_blown_133 ?_
            refine lv_iadd hx hb dX4_blown_134 ?_
            refine fb_iast (r := (F + 1 + 5)) hx hb hM (((f3 5 (by omega)).2).1) (ce6 (((f3 5 (by omega)).2).2.1)) (k := k) (nI_clamp (by omega)) (by rw [((f3 5 (by omega)).2).2.2]; exact vp_in_nI (by omega) (by omega)) dX4_blown_135 (up_I (j := k) (by rw [ce6 (S := S2) (((f3 5 (by omega)).2).2.1)]; simp [va_up])) (w' := (S2, V, (sT V), (va_up (rB I (F + 1) 7 (va_up (va_up (gq (I (rho i)) (fun j => nI (cN w j dm)) k) c (gq (I (rho i)) (fun j => nI (cN w j dm)) (k + 1) c)) 6 (gq (I (rho i)) (fun j => nI (cN w j dm)) (k + 1) 6))) (F + 1 + 5) (upd ((rB I (F + 1) 7 (va_up (va_up (gq (I (rho i)) (fun j => nI (cN w j dm)) k) c (gq (I (rho i)) (fun j => nI (cN w j dm)) (k + 1) c)) 6 (gq (I (rho i)) (fun j => nI (cN w j dm)) (k + 1) 6))) (F + 1 + 5)) k (0 + (((I (rho i) k) - ((6 * (I (rho i) k)) / 10)) - ((I (rho i) k) / 4))))))) ⟨rfl, rfl, rfl⟩ (fun H locs hM => ?_)
            have eI : (va_up (rB I (F + 1) 7 (va_up (va_up (gq (I (rho i)) (fun j => nI (cN w j dm)) k) c (gq (I (rho i)) (fun j => nI (cN w j dm)) (k + 1) c)) 6 (gq (I (rho i)) (fun j => nI (cN w j dm)) (k + 1) 6))) (F + 1 + 5) (upd ((rB I (F + 1) 7 (va_up (va_up (gq (I (rho i)) (fun j => nI (cN w j dm)) k) c (gq (I (rho i)) (fun j => nI (cN w j dm)) (k + 1) c)) 6 (gq (I (rho i)) (fun j => nI (cN w j dm)) (k + 1) 6))) (F + 1 + 5)) k (0 + (((I (rho i) k) - ((6 * (I (rho i) k)) / 10)) - ((I (rho i) k) / 4))))) = (rB I (F + 1) 7 (va_up (va_up (va_up (gq (I (rho i)) (fun j => nI (cN w j dm)) k) c (gq (I (rho i)) (fun j => nI (cN w j dm)) (k + 1) c)) 6 (gq (I (rho i)) (fun j => nI (cN w j dm)) (k + 1) 6)) 5 (gq (I (rho i)) (fun j => nI (cN w j dm)) (k + 1) 5))) := by rw [rB_at I (F + 1) _ (by omega), rB_up I _ _ (by omega), va_up_ne _ _ (show 5 ≠ 6 by omega), va_up_ne _ _ (show 5 ≠ c by omega), gq_u (I (rho i)) (fun j => nI (cN w j dm)) k 5 (by rw [← ec]; exact brnC _ (by omega) h_r3)]
            rw [eI] at hM
            clear eI
            have eI : (rB I (F + 1) 7 (va_up (va_up (va_up (gq (I (rho i)) (fun j => nI (cN w j dm)) k) c (gq (I (rho i)) (fun j => nI (cN w j dm)) (k + 1) c)) 6 (gq (I (rho i)) (fun j => nI (cN w j dm)) (k + 1) 6)) 5 (gq (I (rho i)) (fun j => nI (cN w j dm)) (k + 1) 5))) = (rB I (F + 1) 7 (gq (I (rho i)) (fun j => nI (cN w j dm)) (k + 1))) := rB_ext I _ (gq3 _ _ k (by omega) (congrArg nI ec.symm) h_r2 h_r3)
            rw [eI] at hM
            clear eI
            refine lv_iinc (v := nI (k + 1)) (lv' := [(4, .int (nI (k + 1))), (6, .int (nI c)), (5, .int (I (rho i) k)), (3, .ref (sa S2 F)), (0, .ref (sa S2 1000)), (1, .int (nI i)), (2, .int (nI w))]) hx hb dX4_blown_136 hl (k := 2) rfl (nI_1 _) (by decide) rfl (fun ls hl => ?_)
            refine lv_goto (tgt := 12) hx hb dX4_blown_139 (by decide) ?_
            exact ih_12 (k + 1) (by omega) (by omega) _ _ hM ls (lv_sub hl [0, 3, 4, 5, 6] rfl)
  exact LP_12 _ 0 (by omega) (Nat.lt_succ_self _) _ _ hM ls (lv_sub hl [0, 1, 2, 3, 4] rfl)
