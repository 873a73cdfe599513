abbrev rm_X3_advise : Room := { frames := 7, cells := 2, slots := 12, locals := 145 }
set_option maxHeartbeats 4000000 in
set_option maxRecDepth 100000 in
theorem c_X3_advise_ok (D : va_G) (y : Nat → ClassId) (l : Launch) (S : fb_Sh) (V I : fb_V) (a1 ns nt es na : Nat) (hC : CpAt S a1 ns nt es na) (cf rf df : Nat → Nat) (hF : CF I ns nt cf rf df) (t : Nat) (ht : t < nt) (z : Nat) (hza : 1 ≤ z) (hz : z ≤ 60) (hX : TZ (tv V (300 + 72 * t))) (h7 : TZ (tv V 732)) (hN0 : NF (cf t) (cf t * rf t) (df t) (nbB (I (30 + 4 * t + 2))) (tv V (300 + 72 * t)) z) (hN1 : ∀ q k, q < (cf t * rf t) → k < 2 → opn (cf t) (cf t * rf t) (I (30 + 4 * t + 2)) q k = true → NF (cf t) (cf t * rf t) (df t) (upd (nbB (I (30 + 4 * t + 2))) (2 * q + k) (nb 1)) (tv V (300 + 72 * t)) z) : CI D y l yX3_advise wsX3_advise rm_X3_advise [.ref (sa S 0), .int (nI t), .int (nI z)] (S, V, (sT V), I) (fun v u => v = (cadv (cf t) (cf t * rf t) (df t) z (I (30 + 4 * t + 2)) (nbB (I (30 + 4 * t + 2))) (tv V (300 + 72 * t)) (2 * (cf t * rf t))).1 ∧ ∃ Y J, TZ Y ∧ Tri I J ∧ u = (S, stv V 732 Y, sT (stv V 732 Y), J)) 2 12 := by
  refine CI.of (cc := cX3_advise) (maxL := 9) (ret := (some .int)) (by decide) rfl (Nat.le_of_ble_eq_true rfl) ?_
  intro pv ev s mv below meth cv A hx hb hml hr hown hts hlocks hname hM ls hl
  have hown : s.vm.findClass RX3 = some mv.cls := hown
  have hl : lv_has ls 9 [(0, .ref (sa S 0)), (1, .int (nI t)), (2, .int (nI z))] := hl
  have hin3 : ∀ x ∈ wsX30, x ∈ wsX3_advise := by decide +kernel
  have hin2 : ∀ x ∈ wsX20, x ∈ wsX3_advise := by decide +kernel
  obtain ⟨Q, hQ⟩ : ∃ Q, Q = MQ below (va_Qi (fun v u => v = (cadv (cf t) (cf t * rf t) (df t) z (I (30 + 4 * t + 2)) (nbB (I (30 + 4 * t + 2))) (tv V (300 + 72 * t)) (2 * (cf t * rf t))).1 ∧ ∃ Y J, TZ Y ∧ Tri I J ∧ u = (S, stv V 732 Y, sT (stv V 732 Y), J)) (fun u t => fb_P D y A u t) A) (([.ref (sa S 0), .int (nI t), .int (nI z)] : List Value).toArray) s 2 12 A := ⟨_, rfl⟩
  rw [← hQ]
  have hns : ns ≤ 12 := hF.2.2.1
  have hnt : nt ≤ 6 := hF.2.2.2.1
  have hfT := hF.2.2.2.2 t ht
  have hcr := hfT.le
  have hN : NF (cf t) (cf t * rf t) (df t) (trB I (30 + 4 * t)) (trX V (300 + 72 * t)) z := NF_cg rfl hfT.2.2.2.2.1 hcr.2 (fun j hj => (trB_cg I _ hcr.2 j hj).symm) (fun j hj => (trX_c0 (by omega) hX h7 j hj).symm) hN0
  refine lv_aload_n hx hb dX3_advise_0 rfl (lv_at hl 0 rfl) ?_
  refine lv_iload_n hx hb dX3_advise_1 rfl (lv_at hl 1 rfl) ?_
  refine fb_callVr (r := 0) hx hb hml hown hts hM ((hC.1).1) (ce3 ((hC.1).2)) rfl (As := [.int (nI t)]) (rest := []) (c_X3_needTick D y l S V I a1 ns nt es na hC cf rf df hF t ht) (cwV 1 hts gX3_advise_X3_needTick rfl rfl rfl (by decide +kernel) ⟨Nat.le_of_ble_eq_true rfl, Nat.le_of_ble_eq_true rfl⟩) rfl hl.1 rfl (Nat.le_of_ble_eq_true rfl) dX3_advise_2 ⟨Nat.le_of_ble_eq_true rfl, Nat.le_of_ble_eq_true rfl⟩ (fun v_1 u_ H locs hp hM => ?_)
  obtain ⟨hv_, hu_⟩ := hp
  have hv_ := Eq.symm hv_
  have hu_ := Eq.symm hu_
  subst hv_
  subst hu_
  refine lv_astore_n (lv' := [(3, .ref (sa S (30 + 4 * t))), (0, .ref (sa S 0)), (1, .int (nI t)), (2, .int (nI z))]) hx hb dX3_advise_5 rfl hl (by decide) rfl (fun ls hl => ?_)
  refine lv_iload_n hx hb dX3_advise_6 rfl (lv_at hl 3 rfl) ?_
  refine lv_iconst (v := 1) hx hb dX3_advise_7 (by decide) ?_
  refine lv_bipush (v := 60) hx hb dX3_advise_8 (by decide) ?_
  refine fb_callSv hx hb hml hown hts hM (As := [.int (nI z), .int 1, .int 60]) (rest := []) (c_X3_needRange D y l S V I (nI z) 1 60 (nI_nlt (b := 1) hza (by omega)) (nI_nlt (a := 60) hz (by omega))) (va_cwS 3 hts gX3_advise_X3_needRange rfl rfl rfl (by decide +kernel) ⟨Nat.le_of_ble_eq_true rfl, Nat.le_of_ble_eq_true rfl⟩) rfl hl.1 rfl (Nat.le_of_ble_eq_true rfl) dX3_advise_10 ⟨Nat.le_of_ble_eq_true rfl, Nat.le_of_ble_eq_true rfl⟩ (fun u_ H locs hp hM => ?_)
  have hp := Eq.symm hp
  subst hp
  refine lv_aload_n hx hb dX3_advise_13 rfl (lv_at hl 1 rfl) ?_
  refine fb_get (r := 0) hx hb hown hts hin3 hM ((hC.1).1) (ce3 ((hC.1).2)) rfl 3 (by decide) (hts (.fieldLink RX3 31 "FeatherBeds" "trial" "LFeatherBeds$Tick;") (by decide +kernel)) (fun _ h9 => h9) (v := .ref (sa S 54)) (congrArg (fun z => some (va_rf z)) ((hC.2.1).2.2.2)) dX3_advise_14 ?_
  refine lv_aload_n hx hb dX3_advise_17 rfl (lv_at hl 0 rfl) ?_
  refine fb_callVv (r := 54) hx hb hml hown hts hM ((hC.tr.1)) (ce2 ((hC.tr.2.1))) rfl (As := [.ref (sa S (30 + 4 * t))]) (rest := []) (c_X2_become D y l S V I 54 732 (30 + 4 * t) (300 + 72 * t) (cf t) (rf t) (df t) hC.tr (hC.tk ht) hfT (Or.inl (by omega)) (Or.inl (by omega))) (cwV 1 hts gX3_advise_X2_become rfl rfl rfl (by decide +kernel) ⟨Nat.le_of_ble_eq_true rfl, Nat.le_of_ble_eq_true rfl⟩) rfl hl.1 rfl (Nat.le_of_ble_eq_true rfl) dX3_advise_18 ⟨Nat.le_of_ble_eq_true rfl, Nat.le_of_ble_eq_true rfl⟩ (fun u_ H locs hp hM => ?_)
  have hp := Eq.symm hp
  subst hp
  have hM : fb_M D y A s (S, (trV V (300 + 72 * t)), (sT (trV V (300 + 72 * t))), (trI I (30 + 4 * t) (cf t) (rf t) (df t))) H locs := hM
  refine lv_aload_n hx hb dX3_advise_21 rfl (lv_at hl 1 rfl) ?_
  refine fb_get (r := 0) hx hb hown hts hin3 hM ((hC.1).1) (ce3 ((hC.1).2)) rfl 3 (by decide) (hts (.fieldLink RX3 31 "FeatherBeds" "trial" "LFeatherBeds$Tick;") (by decide +kernel)) (fun _ h9 => h9) (v := .ref (sa S 54)) (congrArg (fun z => some (va_rf z)) ((hC.2.1).2.2.2)) dX3_advise_22 ?_
  refine lv_iload_n hx hb dX3_advise_25 rfl (lv_at hl 3 rfl) ?_
  refine fb_callVi (r := 54) hx hb hml hown hts hM ((hC.tr.1)) (ce2 ((hC.tr.2.1))) rfl (As := [.int (nI z)]) (rest := []) (c_X2_sleep D y l S (trV V (300 + 72 * t)) (trI I (30 + 4 * t) (cf t) (rf t) (df t)) 54 732 (cf t) (rf t) (df t) hC.tr (trI_F hfT) (trX V (300 + 72 * t)) (trX_at V _) z (by omega) (by rw [(show (trI I (30 + 4 * t) (cf t) (rf t) (df t)) (54 + 2) = (trB I (30 + 4 * t)) from trI_B I _ _ _ _)]; exact hN)) (cwV 1 hts gX3_advise_X2_sleep rfl rfl rfl (by decide +kernel) ⟨Nat.le_of_ble_eq_true rfl, Nat.le_of_ble_eq_true rfl⟩) rfl hl.1 rfl (Nat.le_of_ble_eq_true rfl) dX3_advise_26 ⟨Nat.le_of_ble_eq_true rfl, Nat.le_of_ble_eq_true rfl⟩ (fun v_4 u_ H locs hp hM => ?_)
  rw [(show (trI I (30 + 4 * t) (cf t) (rf t) (df t)) (54 + 2) = (trB I (30 + 4 * t)) from trI_B I _ _ _ _)] at hp
  obtain ⟨hv_, hu_⟩ := hp
  have hv_ := Eq.symm hv_
  have hu_ := Eq.symm hu_
  subst hv_
  subst hu_
  refine lv_pop hx hb dX3_advise_29 rfl ?_
  refine lv_aload_n hx hb dX3_advise_30 rfl (lv_at hl 1 rfl) ?_
  refine fb_get (r := 0) hx hb hown hts hin3 hM ((hC.1).1) (ce3 ((hC.1).2)) rfl 3 (by decide) (hts (.fieldLink RX3 31 "FeatherBeds" "trial" "LFeatherBeds$Tick;") (by decide +kernel)) (fun _ h9 => h9) (v := .ref (sa S 54)) (congrArg (fun z => some (va_rf z)) ((hC.2.1).2.2.2)) dX3_advise_31 ?_
  refine fb_callVi (r := 54) hx hb hml hown hts hM ((hC.tr.1)) (ce2 ((hC.tr.2.1))) rfl (As := []) (rest := []) (c_X2_coldestWarmth D y l S (stv (trV V (300 + 72 * t)) 732 (ngs (cf t) (cf t * rf t) (df t) (trB I (30 + 4 * t)) (trX V (300 + 72 * t)) z)) (trI I (30 + 4 * t) (cf t) (rf t) (df t)) 54 732 (cf t) (rf t) (df t) hC.tr (trI_F hfT) (ngs (cf t) (cf t * rf t) (df t) (trB I (30 + 4 * t)) (trX V (300 + 72 * t)) z) (fun q9 hq9 => stv_at _ 732 _ hq9)) (cwV 0 hts gX3_advise_X2_coldestWarmth rfl rfl rfl (by decide +kernel) ⟨Nat.le_of_ble_eq_true rfl, Nat.le_of_ble_eq_true rfl⟩) rfl hl.1 rfl (Nat.le_of_ble_eq_true rfl) dX3_advise_34 ⟨Nat.le_of_ble_eq_true rfl, Nat.le_of_ble_eq_true rfl⟩ (fun v_5 u_ H locs hp hM => ?_)
  obtain ⟨hv_, hu_⟩ := hp
  have hv_ := Eq.symm hv_
  have hu_ := Eq.symm hu_
  subst hv_
  subst hu_
  rw [show (wm ((ngs (cf t) (cf t * rf t) (df t) (trB I (30 + 4 * t)) (trX V (300 + 72 * t)) z) (cld (ngs (cf t) (cf t * rf t) (df t) (trB I (30 + 4 * t)) (trX V (300 + 72 * t)) z) (cf t * rf t))) : Int32) = (cadv (cf t) (cf t * rf t) (df t) z (I (30 + 4 * t + 2)) (nbB (I (30 + 4 * t + 2))) (tv V (300 + 72 * t)) 0).2 from cwk_cg rfl hfT.2.2.2.2.1 hcr.1 hcr.2 (trB_cg I _ hcr.2) (trX_c0 (by omega) hX h7) z]
  rw [show (stv (trV V (300 + 72 * t)) 732 (ngs (cf t) (cf t * rf t) (df t) (trB I (30 + 4 * t)) (trX V (300 + 72 * t)) z)) = stv V 732 (ngs (cf t) (cf t * rf t) (df t) (trB I (30 + 4 * t)) (trX V (300 + 72 * t)) z) from stv_stv _ _ _ _] at hM
  refine lv_istore (lv' := [(4, .int ((cadv (cf t) (cf t * rf t) (df t) z (I (30 + 4 * t + 2)) (nbB (I (30 + 4 * t + 2))) (tv V (300 + 72 * t)) 0).2)), (3, .ref (sa S (30 + 4 * t))), (0, .ref (sa S 0)), (1, .int (nI t)), (2, .int (nI z))]) hx hb dX3_advise_37 hl (by decide) rfl (fun ls hl => ?_)
  refine lv_iconst (v := (-1)) hx hb dX3_advise_39 (by decide) ?_
  refine lv_istore (lv' := [(5, .int (-1)), (4, .int ((cadv (cf t) (cf t * rf t) (df t) z (I (30 + 4 * t + 2)) (nbB (I (30 + 4 * t + 2))) (tv V (300 + 72 * t)) 0).2)), (3, .ref (sa S (30 + 4 * t))), (0, .ref (sa S 0)), (1, .int (nI t)), (2, .int (nI z))]) hx hb dX3_advise_40 hl (by decide) rfl (fun ls hl => ?_)
  refine lv_iconst (v := 0) hx hb dX3_advise_42 (by decide) ?_
  refine lv_istore (lv' := [(6, .int 0), (5, .int (-1)), (4, .int ((cadv (cf t) (cf t * rf t) (df t) z (I (30 + 4 * t + 2)) (nbB (I (30 + 4 * t + 2))) (tv V (300 + 72 * t)) 0).2)), (3, .ref (sa S (30 + 4 * t))), (0, .ref (sa S 0)), (1, .int (nI t)), (2, .int (nI z))]) hx hb dX3_advise_43 hl (by decide) rfl (fun ls hl => ?_)
  have LP_45 : ∀ (n : Nat) (q : Nat) (Y : fb_V) (J : fb_V) (hq : q ≤ cf t * rf t) (hY : TZ Y) (hJ : Tri I J), cf t * rf t - q < n → ∀ (H : Heap) (locs : List Loc), fb_M D y A s (S, (stv V 732 Y), (sT (stv V 732 Y)), J) H locs → ∀ ls, lv_has ls 9 [(6, .int (nI q)), (5, .int ((cadv (cf t) (cf t * rf t) (df t) z (I (30 + 4 * t + 2)) (nbB (I (30 + 4 * t + 2))) (tv V (300 + 72 * t)) (2 * q)).1)), (4, .int ((cadv (cf t) (cf t * rf t) (df t) z (I (30 + 4 * t + 2)) (nbB (I (30 + 4 * t + 2))) (tv V (300 + 72 * t)) (2 * q)).2)), (3, .ref (sa S (30 + 4 * t))), (0, .ref (sa S 0)), (1, .int (nI t)), (2, .int (nI z))] → W pv l ev rm_X3_advise s mv ([.ref (sa S 0), .int (nI t), .int (nI z)] : List Value).toArray below meth cv H locs (0 + 1 + 1) (0 + 6 + 6) Q (F0 mv 45 ls []) := by
    intro n_45
    induction n_45 with
    | zero => intro q Y J hq hY hJ hmu; exact absurd hmu (Nat.not_lt_zero _)
    | succ n_45 ih_45 =>
      intro q Y J hq hY hJ hmu H locs hM ls hl
      refine lv_iload hx hb dX3_advise_45 (lv_at hl 0 rfl) ?_
      refine lv_aload_n hx hb dX3_advise_47 rfl (lv_at hl 3 rfl) ?_
      refine fb_getN (r := (30 + 4 * t)) hx hb hown hts hin2 hM (((hC.tk ht).1)) (ce2 (((hC.tk ht).2.1))) rfl 3 (by decide) (host := "FeatherBeds") (by decide +kernel) (fun _ h9 => h9) (v := .int (nI ((cf t * rf t)))) (congrArg (fun z => some (Value.int z)) (((hF.tri hJ).2.2.2.2 t ht).2.2.2.1)) dX3_advise_48 ?_
      refine lv_icmp_ge (tgt := 118) hx hb dX3_advise_51 (by decide) (fun c_6 => ?_) (fun c_6 => ?_)
      · skip
        have e_q : q = (cf t * rf t) := by have := (nI_leI (a := (cf t * rf t)) (b := q) (by omega) (by omega)).mp c_6; omega
        have e_q := Eq.symm e_q
        subst e_q
        refine lv_iload hx hb dX3_advise_118 (lv_at hl 1 rfl) ?_
        rw [hQ]
        refine W.widen (show _ ≤ 2 from Nat.le_of_ble_eq_true rfl) (show _ ≤ 12 from Nat.le_of_ble_eq_true rfl) ?_
        exact fb_iret hx hb hr hlocks hM (⟨rfl, _, _, hY, hJ, rfl⟩) dX3_advise_120
      · skip
        have hqk : q < (cf t * rf t) := Nat.lt_of_not_le (fun h => c_6 (nI_le h (by omega)))
        refine lv_iconst (v := 0) hx hb dX3_advise_54 (by decide) ?_
        refine lv_istore (lv' := [(7, .int 0), (6, .int (nI q)), (5, .int ((cadv (cf t) (cf t * rf t) (df t) z (I (30 + 4 * t + 2)) (nbB (I (30 + 4 * t + 2))) (tv V (300 + 72 * t)) (2 * q)).1)), (4, .int ((cadv (cf t) (cf t * rf t) (df t) z (I (30 + 4 * t + 2)) (nbB (I (30 + 4 * t + 2))) (tv V (300 + 72 * t)) (2 * q)).2)), (3, .ref (sa S (30 + 4 * t))), (0, .ref (sa S 0)), (1, .int (nI t)), (2, .int (nI z))]) hx hb dX3_advise_55 hl (by decide) rfl (fun ls hl => ?_)
        have LP_57 : ∀ (n : Nat) (k : Nat) (Y : fb_V) (J : fb_V) (hk : k ≤ 2) (hY : TZ Y) (hJ : Tri I J), 2 - k < n → ∀ (H : Heap) (locs : List Loc), fb_M D y A s (S, (stv V 732 Y), (sT (stv V 732 Y)), J) H locs → ∀ ls, lv_has ls 9 [(7, .int (nI k)), (6, .int (nI q)), (5, .int ((cadv (cf t) (cf t * rf t) (df t) z (I (30 + 4 * t + 2)) (nbB (I (30 + 4 * t + 2))) (tv V (300 + 72 * t)) (2 * q + k)).1)), (4, .int ((cadv (cf t) (cf t * rf t) (df t) z (I (30 + 4 * t + 2)) (nbB (I (30 + 4 * t + 2))) (tv V (300 + 72 * t)) (2 * q + k)).2)), (3, .ref (sa S (30 + 4 * t))), (0, .ref (sa S 0)), (1, .int (nI t)), (2, .int (nI z))] → W pv l ev rm_X3_advise s mv ([.ref (sa S 0), .int (nI t), .int (nI z)] : List Value).toArray below meth cv H locs (0 + 1 + 1) (0 + 6 + 6) Q (F0 mv 57 ls []) := by
          intro n_57
          induction n_57 with
          | zero => intro k Y J hk hY hJ hmu; exact absurd hmu (Nat.not_lt_zero _)
          | succ n_57 ih_57 =>
            intro k Y J hk hY hJ hmu H locs hM ls hl
            refine lv_iload hx hb dX3_advise_57 (lv_at hl 0 rfl) ?_
            refine lv_iconst (v := 2) hx hb dX3_advise_59 (by decide) ?_
            refine lv_icmp_ge (tgt := 112) hx hb dX3_advise_60 (by decide) (fun c_7 => ?_) (fun c_7 => ?_)
            · skip
              have e_k : k = 2 := by have := (nI_leI (a := 2) (b := k) (by omega) (by omega)).mp c_7; omega
              have e_k := Eq.symm e_k
              subst e_k
              refine lv_iinc (v := nI (q + 1)) (lv' := [(6, .int (nI (q + 1))), (7, .int (nI 2)), (5, .int ((cadv (cf t) (cf t * rf t) (df t) z (I (30 + 4 * t + 2)) (nbB (I (30 + 4 * t + 2))) (tv V (300 + 72 * t)) (2 * q + 2)).1)), (4, .int ((cadv (cf t) (cf t * rf t) (df t) z (I (30 + 4 * t + 2)) (nbB (I (30 + 4 * t + 2))) (tv V (300 + 72 * t)) (2 * q + 2)).2)), (3, .ref (sa S (30 + 4 * t))), (0, .ref (sa S 0)), (1, .int (nI t)), (2, .int (nI z))]) hx hb dX3_advise_112 hl (k := 1) rfl (nI_1 _) (by decide) rfl (fun ls hl => ?_)
              refine lv_goto (tgt := 45) hx hb dX3_advise_115 (by decide) ?_
              exact ih_45 (q + 1) Y J (by omega) hY hJ (by omega) _ _ hM ls (lv_sub hl [0, 2, 3, 4, 5, 6, 7] rfl)
            · skip
              have hkk : k < 2 := Nat.lt_of_not_le (fun h => c_7 (nI_le h (by omega)))
              refine lv_aload_n hx hb dX3_advise_63 rfl (lv_at hl 4 rfl) ?_
              refine lv_iload hx hb dX3_advise_64 (lv_at hl 1 rfl) ?_
              refine lv_iload hx hb dX3_advise_66 (lv_at hl 0 rfl) ?_
              refine fb_callVi (r := (30 + 4 * t)) hx hb hml hown hts hM (((hC.tk ht).1)) (ce2 (((hC.tk ht).2.1))) rfl (As := [.int (nI q), .int (nI k)]) (rest := []) (c_X2_isOpen D y l S (stv V 732 Y) J (30 + 4 * t) (300 + 72 * t) (cf t) (rf t) (df t) (hC.tk ht) ((hF.tri hJ).2.2.2.2 t ht) q hqk k hkk) (cwV 2 hts gX3_advise_X2_isOpen rfl rfl rfl (by decide +kernel) ⟨Nat.le_of_ble_eq_true rfl, Nat.le_of_ble_eq_true rfl⟩) rfl hl.1 rfl (Nat.le_of_ble_eq_true rfl) dX3_advise_68 ⟨Nat.le_of_ble_eq_true rfl, Nat.le_of_ble_eq_true rfl⟩ (fun v_8 u_ H locs hp hM => ?_)
              obtain ⟨hv_, hu_⟩ := hp
              have hv_ := Eq.symm hv_
              have hu_ := Eq.symm hu_
              subst hv_
              subst hu_
              rw [show (ob (cf t) (cf t * rf t) (J (30 + 4 * t + 2)) q k : Int32) = ob (cf t) (cf t * rf t) (I (30 + 4 * t + 2)) q k from by rw [hJ (30 + 4 * t + 2) (by omega) (by omega)]]
              refine lv_if_eq (tgt := 106) hx hb dX3_advise_71 (by decide) (fun c_9 => ?_) (fun c_9 => ?_)
              · skip
                have hob := c_9
                have eB : (cadv (cf t) (cf t * rf t) (df t) z (I (30 + 4 * t + 2)) (nbB (I (30 + 4 * t + 2))) (tv V (300 + 72 * t)) (2 * q + (k + 1))) = (cadv (cf t) (cf t * rf t) (df t) z (I (30 + 4 * t + 2)) (nbB (I (30 + 4 * t + 2))) (tv V (300 + 72 * t)) (2 * q + k)) := cadv_n hkk (ob_0 hob)
                refine lv_iinc (v := nI (k + 1)) (lv' := [(7, .int (nI (k + 1))), (6, .int (nI q)), (5, .int ((cadv (cf t) (cf t * rf t) (df t) z (I (30 + 4 * t + 2)) (nbB (I (30 + 4 * t + 2))) (tv V (300 + 72 * t)) (2 * q + k)).1)), (4, .int ((cadv (cf t) (cf t * rf t) (df t) z (I (30 + 4 * t + 2)) (nbB (I (30 + 4 * t + 2))) (tv V (300 + 72 * t)) (2 * q + k)).2)), (3, .ref (sa S (30 + 4 * t))), (0, .ref (sa S 0)), (1, .int (nI t)), (2, .int (nI z))]) hx hb dX3_advise_106 hl (k := 0) rfl (nI_1 _) (by decide) rfl (fun ls hl => ?_)
                refine lv_goto (tgt := 57) hx hb dX3_advise_109 (by decide) ?_
                have hl : lv_has ls 9 [(7, .int (nI (k + 1))), (6, .int (nI q)), (5, .int ((cadv (cf t) (cf t * rf t) (df t) z (I (30 + 4 * t + 2)) (nbB (I (30 + 4 * t + 2))) (tv V (300 + 72 * t)) (2 * q + (k + 1))).1)), (4, .int ((cadv (cf t) (cf t * rf t) (df t) z (I (30 + 4 * t + 2)) (nbB (I (30 + 4 * t + 2))) (tv V (300 + 72 * t)) (2 * q + (k + 1))).2)), (3, .ref (sa S (30 + 4 * t))), (0, .ref (sa S 0)), (1, .int (nI t)), (2, .int (nI z))] := by rw [eB]; exact lv_sub hl [0, 1, 2, 3, 4, 5, 6, 7] rfl
                exact ih_57 (k + 1) _ _ (by omega) hY hJ (by omega) _ _ hM ls (lv_sub hl [0, 1, 2, 3, 4, 5, 6, 7] rfl)
              · skip
                have ho := ob_1 c_9
                refine lv_aload_n hx hb dX3_advise_74 rfl (lv_at hl 5 rfl) ?_
                refine lv_aload_n hx hb dX3_advise_75 rfl (lv_at hl 4 rfl) ?_
                refine lv_iload hx hb dX3_advise_76 (lv_at hl 1 rfl) ?_
                refine lv_iload hx hb dX3_advise_78 (lv_at hl 0 rfl) ?_
                refine lv_iload_n hx hb dX3_advise_80 rfl (lv_at hl 7 rfl) ?_
                have eX9 := (trX_cg (show 300 + 72 * t + 72 ≤ 732 by omega) hX hY)
                have eB9 : ∀ j, j < 2 * (cf t * rf t) → trB J (30 + 4 * t) j = (nbB (I (30 + 4 * t + 2))) j := by have h9 := trB_cg J (30 + 4 * t) hcr.2; rw [hJ (30 + 4 * t + 2) (by omega) (by omega)] at h9; exact h9
                have hN9 : NF (cf t) (cf t * rf t) (df t) (upd (trB J (30 + 4 * t)) (2 * q + k) (nb 1)) (trX (stv V 732 Y) (300 + 72 * t)) z := NF_cg rfl hfT.2.2.2.2.1 hcr.2 (fun j hj => (upd_cg eB9 j hj).symm) (fun j hj => (eX9 j hj).symm) (hN1 q k hqk hkk ho)
                refine fb_callVi (r := 0) hx hb hml hown hts hM ((hC.1).1) (ce3 ((hC.1).2)) rfl (As := [.ref (sa S (30 + 4 * t)), .int (nI q), .int (nI k), .int (nI z)]) (rest := []) (c_X3_warmthIfSewn D y l S (stv V 732 Y) J a1 ns nt es na hC (30 + 4 * t) (300 + 72 * t) (cf t) (rf t) (df t) (hC.tk ht) ((hF.tri hJ).2.2.2.2 t ht) (by omega) (by omega) q (by omega) k hkk z (by omega) hN9) (cwV 4 hts gX3_advise_X3_warmthIfSewn rfl rfl rfl (by decide +kernel) ⟨Nat.le_of_ble_eq_true rfl, Nat.le_of_ble_eq_true rfl⟩) rfl hl.1 rfl (Nat.le_of_ble_eq_true rfl) dX3_advise_81 ⟨Nat.le_of_ble_eq_true rfl, Nat.le_of_ble_eq_true rfl⟩ (fun v_10 u_ H locs hp hM => ?_)
                obtain ⟨hv_, hu_⟩ := hp
                have hv_ := Eq.symm hv_
                have hu_ := Eq.symm hu_
                subst hv_
                subst hu_
                rw [show ((wm ((ngs (cf t) (cf t * rf t) (df t) (upd (trB J (30 + 4 * t)) (2 * q + k) (nb 1)) (trX (stv V 732 Y) (300 + 72 * t)) z) (cld (ngs (cf t) (cf t * rf t) (df t) (upd (trB J (30 + 4 * t)) (2 * q + k) (nb 1)) (trX (stv V 732 Y) (300 + 72 * t)) z) (cf t * rf t)))) : Int32) = (cwk (cf t) (cf t * rf t) (df t) (upd (nbB (I (30 + 4 * t + 2))) (2 * q + k) (nb 1)) (tv V (300 + 72 * t)) z) from cwk_cg rfl hfT.2.2.2.2.1 hcr.1 hcr.2 (upd_cg eB9) eX9 z]
                rw [show (stv (trV (stv V 732 Y) (300 + 72 * t)) 732 (ngs (cf t) (cf t * rf t) (df t) (upd (trB J (30 + 4 * t)) (2 * q + k) (nb 1)) (trX (stv V 732 Y) (300 + 72 * t)) z)) = stv V 732 (ngs (cf t) (cf t * rf t) (df t) (upd (trB J (30 + 4 * t)) (2 * q + k) (nb 1)) (trX (stv V 732 Y) (300 + 72 * t)) z) from (stv_stv _ _ _ _).trans (stv_stv _ _ _ _)] at hM
                have hY2 : TZ (ngs (cf t) (cf t * rf t) (df t) (upd (trB J (30 + 4 * t)) (2 * q + k) (nb 1)) (trX (stv V 732 Y) (300 + 72 * t)) z) := ngs_tz rfl hfT.2.2.2.2.1 hcr.2 (fun q9 hq9 => by rw [eX9 q9 hq9]; exact hX q9 hq9) z
                have hJ2 : Tri I (va_up (trI J (30 + 4 * t) (cf t) (rf t) (df t)) 56 (upd (trB J (30 + 4 * t)) (2 * q + k) (nb 1))) := (hJ.trI _ _ _ _).up _
                refine lv_istore (lv' := [(8, .int ((cwk (cf t) (cf t * rf t) (df t) (upd (nbB (I (30 + 4 * t + 2))) (2 * q + k) (nb 1)) (tv V (300 + 72 * t)) z))), (7, .int (nI k)), (6, .int (nI q)), (5, .int ((cadv (cf t) (cf t * rf t) (df t) z (I (30 + 4 * t + 2)) (nbB (I (30 + 4 * t + 2))) (tv V (300 + 72 * t)) (2 * q + k)).1)), (4, .int ((cadv (cf t) (cf t * rf t) (df t) z (I (30 + 4 * t + 2)) (nbB (I (30 + 4 * t + 2))) (tv V (300 + 72 * t)) (2 * q + k)).2)), (3, .ref (sa S (30 + 4 * t))), (0, .ref (sa S 0)), (1, .int (nI t)), (2, .int (nI z))]) hx hb dX3_advise_84 hl (by decide) rfl (fun ls hl => ?_)
                refine lv_iload hx hb dX3_advise_86 (lv_at hl 0 rfl) ?_
                refine lv_iload hx hb dX3_advise_88 (lv_at hl 4 rfl) ?_
                refine lv_icmp_le (tgt := 106) hx hb dX3_advise_90 (by decide) (fun c_11 => ?_) (fun c_11 => ?_)
                · skip
                  have eB : (cadv (cf t) (cf t * rf t) (df t) z (I (30 + 4 * t + 2)) (nbB (I (30 + 4 * t + 2))) (tv V (300 + 72 * t)) (2 * q + (k + 1))) = (cadv (cf t) (cf t * rf t) (df t) z (I (30 + 4 * t + 2)) (nbB (I (30 + 4 * t + 2))) (tv V (300 + 72 * t)) (2 * q + k)) := cadv_k hkk ho c_11
                  refine lv_iinc (v := nI (k + 1)) (lv' := [(7, .int (nI (k + 1))), (8, .int ((cwk (cf t) (cf t * rf t) (df t) (upd (nbB (I (30 + 4 * t + 2))) (2 * q + k) (nb 1)) (tv V (300 + 72 * t)) z))), (6, .int (nI q)), (5, .int ((cadv (cf t) (cf t * rf t) (df t) z (I (30 + 4 * t + 2)) (nbB (I (30 + 4 * t + 2))) (tv V (300 + 72 * t)) (2 * q + k)).1)), (4, .int ((cadv (cf t) (cf t * rf t) (df t) z (I (30 + 4 * t + 2)) (nbB (I (30 + 4 * t + 2))) (tv V (300 + 72 * t)) (2 * q + k)).2)), (3, .ref (sa S (30 + 4 * t))), (0, .ref (sa S 0)), (1, .int (nI t)), (2, .int (nI z))]) hx hb dX3_advise_106 hl (k := 1) rfl (nI_1 _) (by decide) rfl (fun ls hl => ?_)
                  refine lv_goto (tgt := 57) hx hb dX3_advise_109 (by decide) ?_
                  have hl : lv_has ls 9 [(7, .int (nI (k + 1))), (6, .int (nI q)), (5, .int ((cadv (cf t) (cf t * rf t) (df t) z (I (30 + 4 * t + 2)) (nbB (I (30 + 4 * t + 2))) (tv V (300 + 72 * t)) (2 * q + (k + 1))).1)), (4, .int ((cadv (cf t) (cf t * rf t) (df t) z (I (30 + 4 * t + 2)) (nbB (I (30 + 4 * t + 2))) (tv V (300 + 72 * t)) (2 * q + (k + 1))).2)), (3, .ref (sa S (30 + 4 * t))), (0, .ref (sa S 0)), (1, .int (nI t)), (2, .int (nI z))] := by rw [eB]; exact lv_sub hl [0, 2, 3, 4, 5, 6, 7, 8] rfl
                  exact ih_57 (k + 1) _ _ (by omega) hY2 hJ2 (by omega) _ _ hM ls (lv_sub hl [0, 1, 2, 3, 4, 5, 6, 7] rfl)
                · skip
                  have eB : (cadv (cf t) (cf t * rf t) (df t) z (I (30 + 4 * t + 2)) (nbB (I (30 + 4 * t + 2))) (tv V (300 + 72 * t)) (2 * q + (k + 1))) = (nI (2 * q + k), (cwk (cf t) (cf t * rf t) (df t) (upd (nbB (I (30 + 4 * t + 2))) (2 * q + k) (nb 1)) (tv V (300 + 72 * t)) z)) := cadv_b hkk ho c_11
                  refine lv_iload hx hb dX3_advise_93 (lv_at hl 0 rfl) ?_
                  refine lv_istore (lv' := [(4, .int ((cwk (cf t) (cf t * rf t) (df t) (upd (nbB (I (30 + 4 * t + 2))) (2 * q + k) (nb 1)) (tv V (300 + 72 * t)) z))), (8, .int ((cwk (cf t) (cf t * rf t) (df t) (upd (nbB (I (30 + 4 * t + 2))) (2 * q + k) (nb 1)) (tv V (300 + 72 * t)) z))), (7, .int (nI k)), (6, .int (nI q)), (5, .int ((cadv (cf t) (cf t * rf t) (df t) z (I (30 + 4 * t + 2)) (nbB (I (30 + 4 * t + 2))) (tv V (300 + 72 * t)) (2 * q + k)).1)), (3, .ref (sa S (30 + 4 * t))), (0, .ref (sa S 0)), (1, .int (nI t)), (2, .int (nI z))]) hx hb dX3_advise_95 hl (by decide) rfl (fun ls hl => ?_)
                  refine lv_iconst (v := 2) hx hb dX3_advise_97 (by decide) ?_
                  refine lv_iload hx hb dX3_advise_98 (lv_at hl 3 rfl) ?_
                  refine lv_imul hx hb dX3_advise_100 ?_
                  refine W.eq (g2 := F0 mv _ ls (.int (nI (2 * q)) :: [])) (by first | rfl | rw [show (2 * (nI q) : Int32) = nI (2 * q) from pk_mul 2 _]) ?_
                  refine lv_iload hx hb dX3_advise_101 (lv_at hl 2 rfl) ?_
                  refine lv_iadd hx hb dX3_advise_103 ?_
                  refine W.eq (g2 := F0 mv _ ls (.int (nI (2 * q + k)) :: [])) (by first | rfl | rw [show ((nI (2 * q)) + (nI k) : Int32) = nI (2 * q + k) from nI_add _ _]) ?_
                  refine lv_istore (lv' := [(5, .int (nI (2 * q + k))), (4, .int ((cwk (cf t) (cf t * rf t) (df t) (upd (nbB (I (30 + 4 * t + 2))) (2 * q + k) (nb 1)) (tv V (300 + 72 * t)) z))), (8, .int ((cwk (cf t) (cf t * rf t) (df t) (upd (nbB (I (30 + 4 * t + 2))) (2 * q + k) (nb 1)) (tv V (300 + 72 * t)) z))), (7, .int (nI k)), (6, .int (nI q)), (3, .ref (sa S (30 + 4 * t))), (0, .ref (sa S 0)), (1, .int (nI t)), (2, .int (nI z))]) hx hb dX3_advise_104 hl (by decide) rfl (fun ls hl => ?_)
                  refine lv_iinc (v := nI (k + 1)) (lv' := [(7, .int (nI (k + 1))), (5, .int (nI (2 * q + k))), (4, .int ((cwk (cf t) (cf t * rf t) (df t) (upd (nbB (I (30 + 4 * t + 2))) (2 * q + k) (nb 1)) (tv V (300 + 72 * t)) z))), (8, .int ((cwk (cf t) (cf t * rf t) (df t) (upd (nbB (I (30 + 4 * t + 2))) (2 * q + k) (nb 1)) (tv V (300 + 72 * t)) z))), (6, .int (nI q)), (3, .ref (sa S (30 + 4 * t))), (0, .ref (sa S 0)), (1, .int (nI t)), (2, .int (nI z))]) hx hb dX3_advise_106 hl (k := 3) rfl (nI_1 _) (by decide) rfl (fun ls hl => ?_)
                  refine lv_goto (tgt := 57) hx hb dX3_advise_109 (by decide) ?_
                  have hl : lv_has ls 9 [(7, .int (nI (k + 1))), (6, .int (nI q)), (5, .int ((cadv (cf t) (cf t * rf t) (df t) z (I (30 + 4 * t + 2)) (nbB (I (30 + 4 * t + 2))) (tv V (300 + 72 * t)) (2 * q + (k + 1))).1)), (4, .int ((cadv (cf t) (cf t * rf t) (df t) z (I (30 + 4 * t + 2)) (nbB (I (30 + 4 * t + 2))) (tv V (300 + 72 * t)) (2 * q + (k + 1))).2)), (3, .ref (sa S (30 + 4 * t))), (0, .ref (sa S 0)), (1, .int (nI t)), (2, .int (nI z))] := by rw [eB]; exact lv_sub hl [0, 4, 1, 2, 5, 6, 7, 8] rfl
                  exact ih_57 (k + 1) _ _ (by omega) hY2 hJ2 (by omega) _ _ hM ls (lv_sub hl [0, 1, 2, 3, 4, 5, 6, 7] rfl)
        exact LP_57 _ 0 Y J (by omega) hY hJ (Nat.lt_succ_self _) _ _ hM ls (lv_sub hl [0, 1, 2, 3, 4, 5, 6, 7] rfl)
  exact LP_45 _ 0 _ _ (by omega) (ngs_tz rfl hfT.2.2.2.2.1 hcr.2 (fun q9 hq9 => by rw [trX_c0 (by omega) hX h7 q9 hq9]; exact hX q9 hq9) z) ((Tri.rf I).trI _ _ _ _) (Nat.lt_succ_self _) _ _ hM ls (lv_sub hl [0, 1, 2, 3, 4, 5, 6] rfl)

set_option maxHeartbeats 4000000 in
set_option maxRecDepth 100000 in
theorem c_X3_advise_x0 (a0 : Nat × Nat) (D : va_G) (y : Nat → ClassId) (l : Launch) (hfl : l.stackTraces = false) (S : fb_Sh) (V I : fb_V) (a1 ns nt es na : Nat) (hC : CpAt S a1 ns nt es na) (cf rf df : Nat → Nat) (hF : CF I ns nt cf rf df) (p0 : Int32) (ho : p0 < 0 ∨ nI nt ≤ p0) (p1 : Int32) : CX a0 D y l yX3_advise wsX3_advise rm_X3_advise [.ref (sa S 0), .int p0, .int p1] (S, V, (sT V), I) "java/lang/IndexOutOfBoundsException" 2 12 := by
  refine CX.of (cc := cX3_advise) (maxL := 9) (ret := (some .int)) (by decide) rfl (Nat.le_of_ble_eq_true rfl) ?_
  intro pv ev s mv below meth cv A hx hb hml hown hts hlocks hout hM hE ls hl
  have hown : s.vm.findClass RX3 = some mv.cls := hown
  have hl : lv_has ls 9 [(0, .ref (sa S 0)), (1, .int p0), (2, .int p1)] := hl
  have hin3 : ∀ x ∈ wsX30, x ∈ wsX3_advise := by decide +kernel
  have hin2 : ∀ x ∈ wsX20, x ∈ wsX3_advise := by decide +kernel
  obtain ⟨Q, hQ⟩ : ∃ Q, Q = vx_MQ below (va_Qi (fun (_ : Int32) (_ : fb_W) => False) (fun _ _ => True) A) (vx_X (fun u : fb_W => u = (S, V, (sT V), I)) (fun E' u t => E' = "java/lang/IndexOutOfBoundsException" ∧ fb_P D y A u t) A) ([.ref (sa S 0), .int p0, .int p1] : List Value).toArray s 2 12 A := ⟨_, rfl⟩
  rw [← hQ]
  have hns : ns ≤ 12 := hF.2.2.1
  have hnt : nt ≤ 6 := hF.2.2.2.1
  refine lv_aload_n hx hb dX3_advise_0 rfl (lv_at hl 0 rfl) ?_
  refine lv_iload_n hx hb dX3_advise_1 rfl (lv_at hl 1 rfl) ?_
  rw [hQ]
  exact fb_xcallV (r := 0) hx hb hml hown hts hM hE ((hC.1).1) (ce3 ((hC.1).2)) rfl (As := [.int p0]) (rest := []) (c_X3_needTick_x a0 D y l hfl S V I a1 ns nt es na hC cf rf df hF p0 ho) (cwV 1 hts gX3_advise_X3_needTick rfl rfl rfl (by decide +kernel) ⟨Nat.le_of_ble_eq_true rfl, Nat.le_of_ble_eq_true rfl⟩) rfl hl.1 rfl (Nat.le_of_ble_eq_true rfl) dX3_advise_2 ⟨Nat.le_of_ble_eq_true rfl, Nat.le_of_ble_eq_true rfl⟩ hout hlocks (Nat.le_of_ble_eq_true rfl) (Nat.le_of_ble_eq_true rfl)

set_option maxHeartbeats 4000000 in
set_option maxRecDepth 100000 in
theorem c_X3_advise_x1 (a0 : Nat × Nat) (D : va_G) (y : Nat → ClassId) (l : Launch) (hfl : l.stackTraces = false) (S : fb_Sh) (V I : fb_V) (a1 ns nt es na : Nat) (hC : CpAt S a1 ns nt es na) (cf rf df : Nat → Nat) (hF : CF I ns nt cf rf df) (t : Nat) (ht : t < nt) (p1 : Int32) (ho : p1 < 1 ∨ 60 < p1) : CX a0 D y l yX3_advise wsX3_advise rm_X3_advise [.ref (sa S 0), .int (nI t), .int p1] (S, V, (sT V), I) "java/lang/IllegalArgumentException" 2 12 := by
  refine CX.of (cc := cX3_advise) (maxL := 9) (ret := (some .int)) (by decide) rfl (Nat.le_of_ble_eq_true rfl) ?_
  intro pv ev s mv below meth cv A hx hb hml hown hts hlocks hout hM hE ls hl
  have hown : s.vm.findClass RX3 = some mv.cls := hown
  have hl : lv_has ls 9 [(0, .ref (sa S 0)), (1, .int (nI t)), (2, .int p1)] := hl
  have hin3 : ∀ x ∈ wsX30, x ∈ wsX3_advise := by decide +kernel
  have hin2 : ∀ x ∈ wsX20, x ∈ wsX3_advise := by decide +kernel
  obtain ⟨Q, hQ⟩ : ∃ Q, Q = vx_MQ below (va_Qi (fun (_ : Int32) (_ : fb_W) => False) (fun _ _ => True) A) (vx_X (fun u : fb_W => u = (S, V, (sT V), I)) (fun E' u t => E' = "java/lang/IllegalArgumentException" ∧ fb_P D y A u t) A) ([.ref (sa S 0), .int (nI t), .int p1] : List Value).toArray s 2 12 A := ⟨_, rfl⟩
  rw [← hQ]
  have hns : ns ≤ 12 := hF.2.2.1
  have hnt : nt ≤ 6 := hF.2.2.2.1
  have hfT := hF.2.2.2.2 t ht
  have hcr := hfT.le
  refine lv_aload_n hx hb dX3_advise_0 rfl (lv_at hl 0 rfl) ?_
  refine lv_iload_n hx hb dX3_advise_1 rfl (lv_at hl 1 rfl) ?_
  refine fb_callVr (r := 0) hx hb hml hown hts hM ((hC.1).1) (ce3 ((hC.1).2)) rfl (As := [.int (nI t)]) (rest := []) (c_X3_needTick D y l S V I a1 ns nt es na hC cf rf df hF t ht) (cwV 1 hts gX3_advise_X3_needTick rfl rfl rfl (by decide +kernel) ⟨Nat.le_of_ble_eq_true rfl, Nat.le_of_ble_eq_true rfl⟩) rfl hl.1 rfl (Nat.le_of_ble_eq_true rfl) dX3_advise_2 ⟨Nat.le_of_ble_eq_true rfl, Nat.le_of_ble_eq_true rfl⟩ (fun v_1 u_ H locs hp hM => ?_)
  obtain ⟨hv_, hu_⟩ := hp
  have hv_ := Eq.symm hv_
  have hu_ := Eq.symm hu_
  subst hv_
  subst hu_
  refine lv_astore_n (lv' := [(3, .ref (sa S (30 + 4 * t))), (0, .ref (sa S 0)), (1, .int (nI t)), (2, .int p1)]) hx hb dX3_advise_5 rfl hl (by decide) rfl (fun ls hl => ?_)
  refine lv_iload_n hx hb dX3_advise_6 rfl (lv_at hl 3 rfl) ?_
  refine lv_iconst (v := 1) hx hb dX3_advise_7 (by decide) ?_
  refine lv_bipush (v := 60) hx hb dX3_advise_8 (by decide) ?_
  rw [hQ]
  exact fb_xcallS hx hb hml hown hts hM hE (As := [.int p1, .int 1, .int 60]) (rest := []) (c_X3_needRange_x a0 D y l hfl S V I p1 1 60 ho) (va_cwS 3 hts gX3_advise_X3_needRange rfl rfl rfl (by decide +kernel) ⟨Nat.le_of_ble_eq_true rfl, Nat.le_of_ble_eq_true rfl⟩) rfl hl.1 rfl (Nat.le_of_ble_eq_true rfl) dX3_advise_10 ⟨Nat.le_of_ble_eq_true rfl, Nat.le_of_ble_eq_true rfl⟩ hout hlocks (Nat.le_of_ble_eq_true rfl) (Nat.le_of_ble_eq_true rfl)
