abbrev rm_X4_bringBack : Room := { frames := 1, cells := 0, slots := 0, locals := 24 }
set_option maxHeartbeats 4000000 in
set_option maxRecDepth 100000 in
theorem c_X4_bringBack (D : va_G) (y : Nat → ClassId) (l : Launch) (S : fb_Sh) (V I : fb_V) (o nt : Nat) (cf rf : Nat → Nat) (hA : MdAt S o nt cf rf) (ns : Nat) (df : Nat → Nat) (hF : MF I o ns nt cf rf df) (t : Nat) (ht : t < nt) (a : Nat) (h1 : a ∈ sR S) (h2 : sk S a = 6) (h3 : sn S a = 6 * (cf t * rf t)) (hne : o + 10 + t ≠ a) : CV D y l yX4_bringBack wsX4_bringBack rm_X4_bringBack [.ref (sa S o), .int (nI t), .ref (sa S a)] (S, V, (sT V), I) (fun u => u = (S, V, sT V, va_up I (o + 10 + t) (va_cpy (I a) (I (o + 10 + t)) 0 0 (6 * (cf t * rf t))))) 0 0 := by
  refine CV.of (cc := cX4_bringBack) (maxL := 3) (ret := none) (by decide) rfl (Nat.le_of_ble_eq_true rfl) ?_
  intro pv ev s mv below meth cv A hx hb hml hr hown hts hlocks hname hM ls hl
  have hown : s.vm.findClass RX4 = some mv.cls := hown
  have hl : lv_has ls 3 [(0, .ref (sa S o)), (1, .int (nI t)), (2, .ref (sa S a))] := hl
  have hin4 : ∀ x ∈ wsX40, x ∈ wsX4_bringBack := by decide +kernel
  obtain ⟨Q, hQ⟩ : ∃ Q, Q = MQ below (va_Qv (fun u => u = (S, V, sT V, va_up I (o + 10 + t) (va_cpy (I a) (I (o + 10 + t)) 0 0 (6 * (cf t * rf t))))) (fun u t => fb_P D y A u t) A) (([.ref (sa S o), .int (nI t), .ref (sa S a)] : List Value).toArray) s 0 0 A := ⟨_, rfl⟩
  rw [← hQ]
  have hns : ns ≤ 12 := hF.2.2.1
  have hnt : nt ≤ 6 := hF.2.2.2.1
  have hcr := hF.cr ht
  refine lv_aload_n hx hb dX4_bringBack_0 rfl (lv_at hl 2 rfl) ?_
  refine lv_iconst (v := 0) hx hb dX4_bringBack_1 (by decide) ?_
  refine lv_aload_n hx hb dX4_bringBack_2 rfl (lv_at hl 0 rfl) ?_
  refine fb_get (r := o) hx hb hown hts hin4 hM ((hA.1).1) (ce4 ((hA.1).2)) rfl 8 (by decide) (hts (.fieldLink RX4 27 "FeatherBedsModel" "squares" "[[I") (by decide +kernel)) (fun _ h9 => h9) (v := .ref (sa S (o + 5))) (congrArg (fun z => some (va_rf z)) ((hA.2.1).2.2.2.2.1)) dX4_bringBack_3 ?_
  refine lv_iload_n hx hb dX4_bringBack_6 rfl (lv_at hl 1 rfl) ?_
  refine fb_aaldA (r := (o + 5)) hx hb hM ((hA.2.2.2.2.2.2.1).1) (ce10 ((hA.2.2.2.2.2.2.1).2.1)) 4 rfl (k := t) (nI_clamp (by omega)) (b := sa S (o + 10 + t)) (((hA.2.2.2.2.2.2.2.2.2) t (by omega)).1.1) (by rw [(hA.2.2.2.2.2.2.1).2.2]; exact vp_in_nI (by omega) (by omega)) dX4_bringBack_7 ?_
  refine lv_iconst (v := 0) hx hb dX4_bringBack_8 (by decide) ?_
  refine lv_aload_n hx hb dX4_bringBack_9 rfl (lv_at hl 2 rfl) ?_
  refine fb_alen (r := a) hx hb hM (h1) (ce6 (h2)) 0 rfl (v := nI (6 * (cf t * rf t))) (congrArg Int32.ofNat (h3)) dX4_bringBack_10 ?_
  refine fb_copy hx hb (hml.trans hl.1.symm) hown (hts (.methodLink RX4 99 arraycopyName) (by decide +kernel)) (hts (.native arraycopyName) (by decide +kernel)) (hts (.static arraycopyName) (by decide +kernel)) (hts (.initialized "java/lang/System") (by decide +kernel)) hM (r := a) (r1 := (o + 10 + t)) (h1) (h2) (((hA.2.2.2.2.2.2.2.2.2) t (by omega)).1.2.1) (((hA.2.2.2.2.2.2.2.2.2) t (by omega)).1.2.2.1) hne (((hA.2.2.2.2.2.2.2.2.2) t (by omega)).1.2.2.2) (h3) (Nat.le_refl _) (nI_clamp (by omega)) (nI_pos (by omega)) (Nat.le_of_ble_eq_true rfl) (by decide +kernel) dX4_bringBack_11 (fun H locs hM => ?_)
  rw [hQ]
  exact fb_vret hx hb hr hlocks hM (rfl) dX4_bringBack_14

abbrev rm_X4_coldBehind : Room := { frames := 6, cells := 0, slots := 0, locals := 140 }
set_option maxHeartbeats 4000000 in
set_option maxRecDepth 100000 in
theorem c_X4_coldBehind (D : va_G) (y : Nat → ClassId) (l : Launch) (S : fb_Sh) (V I : fb_V) (o nt : Nat) (cf rf : Nat → Nat) (hA : MdAt S o nt cf rf) (ns : Nat) (df : Nat → Nat) (hF : MF I o ns nt cf rf df) (t : Nat) (ht : t < nt) (a : Nat) (h1 : a ∈ sR S) (h2 : sk S a = 6) (h3 : sn S a = 6 * (cf t * rf t)) (hne : o + 10 + t ≠ a) (hsame : I a = I (o + 10 + t)) (z : Nat) (hz : z < 2 ^ 31) : CI D y l yX4_coldBehind wsX4_coldBehind rm_X4_coldBehind [.ref (sa S o), .int (nI t), .int (nI z), .ref (sa S a)] (S, V, (sT V), I) (fun v u => v = wm (mx (ngf (cf t) (cf t * rf t) (df t) (I (o + 20 + t)) (I (o + 10 + t)) z) (cld (mx (ngf (cf t) (cf t * rf t) (df t) (I (o + 20 + t)) (I (o + 10 + t)) z)) (cf t * rf t))) ∧ u = (S, V, sT V, I)) 0 0 := by
  refine CI.of (cc := cX4_coldBehind) (maxL := 5) (ret := (some .int)) (by decide) rfl (Nat.le_of_ble_eq_true rfl) ?_
  intro pv ev s mv below meth cv A hx hb hml hr hown hts hlocks hname hM ls hl
  have hown : s.vm.findClass RX4 = some mv.cls := hown
  have hl : lv_has ls 5 [(0, .ref (sa S o)), (1, .int (nI t)), (2, .int (nI z)), (3, .ref (sa S a))] := hl
  have hin4 : ∀ x ∈ wsX40, x ∈ wsX4_coldBehind := by decide +kernel
  obtain ⟨Q, hQ⟩ : ∃ Q, Q = MQ below (va_Qi (fun v u => v = wm (mx (ngf (cf t) (cf t * rf t) (df t) (I (o + 20 + t)) (I (o + 10 + t)) z) (cld (mx (ngf (cf t) (cf t * rf t) (df t) (I (o + 20 + t)) (I (o + 10 + t)) z)) (cf t * rf t))) ∧ u = (S, V, sT V, I)) (fun u t => fb_P D y A u t) A) (([.ref (sa S o), .int (nI t), .int (nI z), .ref (sa S a)] : List Value).toArray) s 0 0 A := ⟨_, rfl⟩
  rw [← hQ]
  have hns : ns ≤ 12 := hF.2.2.1
  have hnt : nt ≤ 6 := hF.2.2.2.1
  have hc1 := (hF.2.2.2.2.1 t ht).2.2.2.1
  refine lv_iconst (v := 0) hx hb dX4_coldBehind_0 (by decide) ?_
  refine lv_istore (lv' := [(4, .int 0), (0, .ref (sa S o)), (1, .int (nI t)), (2, .int (nI z)), (3, .ref (sa S a))]) hx hb dX4_coldBehind_1 hl (by decide) rfl (fun ls hl => ?_)
  have LP_3 : ∀ (n : Nat) (k : Nat) (hk : k ≤ z), z - k < n → ∀ (H : Heap) (locs : List Loc), fb_M D y A s (S, V, (sT V), (va_up I (o + 10 + t) (ngf (cf t) (cf t * rf t) (df t) (I (o + 20 + t)) (I (o + 10 + t)) k))) H locs → ∀ ls, lv_has ls 5 [(4, .int (nI k)), (0, .ref (sa S o)), (1, .int (nI t)), (2, .int (nI z)), (3, .ref (sa S a))] → W pv l ev rm_X4_coldBehind s mv ([.ref (sa S o), .int (nI t), .int (nI z), .ref (sa S a)] : List Value).toArray below meth cv H locs 0 0 Q (F0 mv 3 ls []) := by
    intro n_3
    induction n_3 with
    | zero => intro k hk hmu; exact absurd hmu (Nat.not_lt_zero _)
    | succ n_3 ih_3 =>
      intro k hk hmu H locs hM ls hl
      refine lv_iload hx hb dX4_coldBehind_3 (lv_at hl 0 rfl) ?_
      refine lv_iload_n hx hb dX4_coldBehind_5 rfl (lv_at hl 3 rfl) ?_
      refine lv_icmp_ge (tgt := 21) hx hb dX4_coldBehind_6 (by decide) (fun c_1 => ?_) (fun c_1 => ?_)
      · skip
        have e_k : k = z := by have := (nI_leI (a := z) (b := k) (by omega) (by omega)).mp c_1; omega
        have e_k := Eq.symm e_k
        subst e_k
        refine lv_aload_n hx hb dX4_coldBehind_21 rfl (lv_at hl 1 rfl) ?_
        refine lv_iload_n hx hb dX4_coldBehind_22 rfl (lv_at hl 2 rfl) ?_
        refine lv_iconst (v := 5) hx hb dX4_coldBehind_23 (by decide) ?_
        refine fb_callVi (r := o) hx hb hml hown hts hM ((hA.1).1) (ce4 ((hA.1).2)) rfl (As := [.int (nI t), .int 5]) (rest := []) (c_X4_tickTold_5 D y l S V (va_up I (o + 10 + t) (ngf (cf t) (cf t * rf t) (df t) (I (o + 20 + t)) (I (o + 10 + t)) z)) o nt cf rf hA ns df (hF.up _ (by omega) (by omega) (by omega)) t ht) (cwV 2 hts gX4_coldBehind_X4_tickTold rfl rfl rfl (by decide +kernel) ⟨Nat.le_of_ble_eq_true rfl, Nat.le_of_ble_eq_true rfl⟩) rfl hl.1 rfl (Nat.le_of_ble_eq_true rfl) dX4_coldBehind_24 ⟨Nat.le_of_ble_eq_true rfl, Nat.le_of_ble_eq_true rfl⟩ (fun v_2 u H locs hp hM => ?_)
        obtain ⟨hv_, hu_⟩ := hp
        have hv_ := Eq.symm hv_
        have hu_ := Eq.symm hu_
        subst hv_
        subst hu_
        rw [show (wm (mx ((va_up I (o + 10 + t) (ngf (cf t) (cf t * rf t) (df t) (I (o + 20 + t)) (I (o + 10 + t)) z)) (o + 10 + t)) (cld (mx ((va_up I (o + 10 + t) (ngf (cf t) (cf t * rf t) (df t) (I (o + 20 + t)) (I (o + 10 + t)) z)) (o + 10 + t))) (cf t * rf t))) : Int32) = wm (mx (ngf (cf t) (cf t * rf t) (df t) (I (o + 20 + t)) (I (o + 10 + t)) z) (cld (mx (ngf (cf t) (cf t * rf t) (df t) (I (o + 20 + t)) (I (o + 10 + t)) z)) (cf t * rf t))) from by rw [va_up_self]]
        refine lv_istore (lv' := [(4, .int (wm (mx (ngf (cf t) (cf t * rf t) (df t) (I (o + 20 + t)) (I (o + 10 + t)) z) (cld (mx (ngf (cf t) (cf t * rf t) (df t) (I (o + 20 + t)) (I (o + 10 + t)) z)) (cf t * rf t))))), (0, .ref (sa S o)), (1, .int (nI t)), (2, .int (nI z)), (3, .ref (sa S a))]) hx hb dX4_coldBehind_27 hl (by decide) rfl (fun ls hl => ?_)
        refine lv_aload_n hx hb dX4_coldBehind_29 rfl (lv_at hl 1 rfl) ?_
        refine lv_iload_n hx hb dX4_coldBehind_30 rfl (lv_at hl 2 rfl) ?_
        refine lv_aload_n hx hb dX4_coldBehind_31 rfl (lv_at hl 4 rfl) ?_
        refine fb_callVv (r := o) hx hb hml hown hts hM ((hA.1).1) (ce4 ((hA.1).2)) rfl (As := [.int (nI t), .ref (sa S a)]) (rest := []) (c_X4_bringBack D y l S V (va_up I (o + 10 + t) (ngf (cf t) (cf t * rf t) (df t) (I (o + 20 + t)) (I (o + 10 + t)) z)) o nt cf rf hA ns df (hF.up _ (by omega) (by omega) (by omega)) t ht a h1 h2 h3 (by omega)) (cwV 2 hts gX4_coldBehind_X4_bringBack rfl rfl rfl (by decide +kernel) ⟨Nat.le_of_ble_eq_true rfl, Nat.le_of_ble_eq_true rfl⟩) rfl hl.1 rfl (Nat.le_of_ble_eq_true rfl) dX4_coldBehind_32 ⟨Nat.le_of_ble_eq_true rfl, Nat.le_of_ble_eq_true rfl⟩ (fun u H locs hp hM => ?_)
        have hp := Eq.symm hp
        subst hp
        have eI : (va_up (va_up I (o + 10 + t) (ngf (cf t) (cf t * rf t) (df t) (I (o + 20 + t)) (I (o + 10 + t)) z)) (o + 10 + t) (va_cpy ((va_up I (o + 10 + t) (ngf (cf t) (cf t * rf t) (df t) (I (o + 20 + t)) (I (o + 10 + t)) z)) a) ((va_up I (o + 10 + t) (ngf (cf t) (cf t * rf t) (df t) (I (o + 20 + t)) (I (o + 10 + t)) z)) (o + 10 + t)) 0 0 (6 * (cf t * rf t)))) = I := by rw [va_up_self, va_up_ne _ _ (show a ≠ o + 10 + t by omega), up_up, hsame, cpy_ngf rfl hc1, up_id _ _ _ rfl]
        rw [eI] at hM
        clear eI
        refine lv_iload hx hb dX4_coldBehind_35 (lv_at hl 0 rfl) ?_
        rw [hQ]
        exact fb_iret hx hb hr hlocks hM (⟨rfl, rfl⟩) dX4_coldBehind_37
      · skip
        have hkk : k < z := Nat.lt_of_not_le (fun h => c_1 (nI_le h (by omega)))
        refine lv_aload_n hx hb dX4_coldBehind_9 rfl (lv_at hl 1 rfl) ?_
        refine lv_iload_n hx hb dX4_coldBehind_10 rfl (lv_at hl 2 rfl) ?_
        refine fb_callVi (r := o) hx hb hml hown hts hM ((hA.1).1) (ce4 ((hA.1).2)) rfl (As := [.int (nI t)]) (rest := []) (c_X4_nightOf D y l S V (va_up I (o + 10 + t) (ngf (cf t) (cf t * rf t) (df t) (I (o + 20 + t)) (I (o + 10 + t)) k)) o nt cf rf hA ns df (hF.up _ (by omega) (by omega) (by omega)) t ht) (cwV 1 hts gX4_coldBehind_X4_nightOf rfl rfl rfl (by decide +kernel) ⟨Nat.le_of_ble_eq_true rfl, Nat.le_of_ble_eq_true rfl⟩) rfl hl.1 rfl (Nat.le_of_ble_eq_true rfl) dX4_coldBehind_11 ⟨Nat.le_of_ble_eq_true rfl, Nat.le_of_ble_eq_true rfl⟩ (fun v_4 u H locs hp hM => ?_)
        obtain ⟨hv_, hu_⟩ := hp
        have hv_ := Eq.symm hv_
        have hu_ := Eq.symm hu_
        subst hv_
        subst hu_
        have eI : (va_up (va_up I (o + 10 + t) (ngf (cf t) (cf t * rf t) (df t) (I (o + 20 + t)) (I (o + 10 + t)) k)) (o + 10 + t) (fsh (cf t) (cf t * rf t) ((va_up I (o + 10 + t) (ngf (cf t) (cf t * rf t) (df t) (I (o + 20 + t)) (I (o + 10 + t)) k)) (o + 20 + t)) (fpk (nI (df t)) ((va_up I (o + 10 + t) (ngf (cf t) (cf t * rf t) (df t) (I (o + 20 + t)) (I (o + 10 + t)) k)) (o + 10 + t)) (6 * (cf t * rf t))) (2 * (cf t * rf t)))) = (va_up I (o + 10 + t) (ngf (cf t) (cf t * rf t) (df t) (I (o + 20 + t)) (I (o + 10 + t)) (k + 1))) := by rw [va_up_self, va_up_ne _ _ (show o + 20 + t ≠ o + 10 + t by omega), up_up]; rfl
        rw [eI] at hM
        clear eI
        refine lv_pop hx hb dX4_coldBehind_14 rfl ?_
        refine lv_iinc (v := nI (k + 1)) (lv' := [(4, .int (nI (k + 1))), (0, .ref (sa S o)), (1, .int (nI t)), (2, .int (nI z)), (3, .ref (sa S a))]) hx hb dX4_coldBehind_15 hl (k := 0) rfl (nI_1 _) (by decide) rfl (fun ls hl => ?_)
        refine lv_goto (tgt := 3) hx hb dX4_coldBehind_18 (by decide) ?_
        exact ih_3 (k + 1) (by omega) (by omega) _ _ hM ls (lv_sub hl [0, 1, 2, 3, 4] rfl)
  rw [show I = (va_up I (o + 10 + t) (ngf (cf t) (cf t * rf t) (df t) (I (o + 20 + t)) (I (o + 10 + t)) 0)) from (up_id _ _ _ rfl).symm] at hM
  exact LP_3 _ 0 (by omega) (Nat.lt_succ_self _) _ _ hM ls (lv_sub hl [0, 1, 2, 3, 4] rfl)
