set_option maxHeartbeats 4000000 in
set_option maxRecDepth 100000 in
theorem c_L_act_4 (D : va_G) (y : Nat → ClassId) (l : Launch) (S : fb_Sh) (V I : fb_V) (a1 ns nt N F : Nat) (rho cf rf df : Nat → Nat) (hI : Iv a1 S V I ns nt rho cf rf df N F) (hn1 : 1 ≤ ns) (ht1 : 1 ≤ nt) (hN : N ≤ 600000) (x : Int32) (hk9 : blN (x >>> (8 &&& 31)) 9 = 4)  : CI D y l yL_act wsL_act rm_L_act [.ref (sa S 0), .ref (sa S 1000), .int x] (S, V, (sT V), I) (fun z u => ActP a1 S V I ns nt rho cf rf df N z u) 10 60 := by
  refine CI.of (cc := cL_act) (maxL := 15) (ret := (some .boolean)) (by decide) rfl (Nat.le_of_ble_eq_true rfl) ?_
  intro pv ev s mv below meth cv A hx hb hml hr hown hts hlocks hname hM ls hl
  have hown : s.vm.findClass RL = some mv.cls := hown
  have hl : lv_has ls 15 [(0, .ref (sa S 0)), (1, .ref (sa S 1000)), (2, .int x)] := hl
  have hin3 : ∀ x ∈ wsX30, x ∈ wsL_act := by decide +kernel
  have hin4 : ∀ x ∈ wsX40, x ∈ wsL_act := by decide +kernel
  have hin14 : ∀ x ∈ wsX50, x ∈ wsL_act := by decide +kernel
  obtain ⟨Q, hQ⟩ : ∃ Q, Q = MQ below (va_Qi (fun z u => ActP a1 S V I ns nt rho cf rf df N z u) (fun u t => fb_P D y A u t) A) (([.ref (sa S 0), .ref (sa S 1000), .int x] : List Value).toArray) s 10 60 A := ⟨_, rfl⟩
  rw [← hQ]
  obtain ⟨⟨hC, hA⟩, ⟨hRh, hFs⟩, hCF, ⟨hW, hSk, hCh, hTk, hTZ⟩, hns4, hnt3⟩ := id hI
  obtain ⟨w0, hw1, hw20, hw0, hw00⟩ := hW.1
  have hFs4 := hFs.1
  refine lv_iload_n hx hb dL_act_0 rfl (lv_at hl 2 rfl) ?_
  refine lv_aload_n hx hb dL_act_1 rfl (lv_at hl 1 rfl) ?_
  refine fb_get (r := 1000) hx hb hown hts hin4 hM (hA.1.1) (ce4 (hA.1.2)) rfl 0 (by decide) (hts (.fieldLink RL 32 "FeatherBedsLaw$Sim" "sacks" "[[I") (by decide +kernel)) (fun _ h9 => h9) (v := .ref (sa S (1020 + ns))) (congrArg (fun z => some (va_rf z)) (hA.2.1.1)) dL_act_2 ?_
  refine fb_alen (r := (1020 + ns)) hx hb hM (hA.2.2.1.1) (ce10 (hA.2.2.1.2.1)) 4 rfl (v := nI ns) (congrArg Int32.ofNat (hA.2.2.1.2.2)) dL_act_5 ?_
  refine fb_callSi hx hb hml hown hts hM (As := [.int x, .int (nI ns)]) (rest := []) (c_L_below D y l S V I x ns (by omega) (by omega)) (va_cwS 2 hts gL_act_L_below rfl rfl rfl (by decide +kernel) ⟨Nat.le_of_ble_eq_true rfl, Nat.le_of_ble_eq_true rfl⟩) rfl hl.1 rfl (Nat.le_of_ble_eq_true rfl) dL_act_6 ⟨Nat.le_of_ble_eq_true rfl, Nat.le_of_ble_eq_true rfl⟩ (fun v_1 u_ H locs hp hM => ?_)
  obtain ⟨hv_, hu_⟩ := hp
  have hv_ := Eq.symm hv_
  have hu_ := Eq.symm hu_
  subst hv_
  subst hu_
  obtain ⟨i, ei⟩ : ∃ i, i = blN x ns := ⟨_, rfl⟩
  have hi : i < ns := by rw [ei]; exact blN_lt _ (by omega)
  rw [← ei]
  have hri := hRh.1 i hi
  refine lv_istore_n (lv' := [(3, .int (nI i)), (0, .ref (sa S 0)), (1, .ref (sa S 1000)), (2, .int x)]) hx hb dL_act_9 rfl hl (by decide) rfl (fun ls hl => ?_)
  refine lv_iload_n hx hb dL_act_10 rfl (lv_at hl 3 rfl) ?_
  refine lv_iconst (v := 3) hx hb dL_act_11 (by decide) ?_
  refine lv_ishr hx hb dL_act_12 ?_
  refine lv_iconst (v := 5) hx hb dL_act_13 (by decide) ?_
  refine fb_callSi hx hb hml hown hts hM (As := [.int (x >>> (3 &&& 31)), .int 5]) (rest := []) (c_L_below D y l S V I (x >>> (3 &&& 31)) 5 (by omega) (by omega)) (va_cwS 2 hts gL_act_L_below rfl rfl rfl (by decide +kernel) ⟨Nat.le_of_ble_eq_true rfl, Nat.le_of_ble_eq_true rfl⟩) rfl hl.1 rfl (Nat.le_of_ble_eq_true rfl) dL_act_14 ⟨Nat.le_of_ble_eq_true rfl, Nat.le_of_ble_eq_true rfl⟩ (fun v_2 u_ H locs hp hM => ?_)
  obtain ⟨hv_, hu_⟩ := hp
  have hv_ := Eq.symm hv_
  have hu_ := Eq.symm hu_
  subst hv_
  subst hu_
  obtain ⟨c, ec⟩ : ∃ c, c = blN (x >>> (3 &&& 31)) 5 := ⟨_, rfl⟩
  have hc : c < 5 := by rw [ec]; exact blN_lt _ (by omega)
  rw [← ec]
  refine lv_istore (lv' := [(4, .int (nI c)), (3, .int (nI i)), (0, .ref (sa S 0)), (1, .ref (sa S 1000)), (2, .int x)]) hx hb dL_act_17 hl (by decide) rfl (fun ls hl => ?_)
  refine lv_iload_n hx hb dL_act_19 rfl (lv_at hl 4 rfl) ?_
  refine lv_iconst (v := 2) hx hb dL_act_20 (by decide) ?_
  refine lv_ishr hx hb dL_act_21 ?_
  refine lv_aload_n hx hb dL_act_22 rfl (lv_at hl 3 rfl) ?_
  refine fb_get (r := 1000) hx hb hown hts hin4 hM (hA.1.1) (ce4 (hA.1.2)) rfl 4 (by decide) (hts (.fieldLink RL 47 "FeatherBedsLaw$Sim" "ticks" "[LFeatherBedsLaw$Tick;") (by decide +kernel)) (fun _ h9 => h9) (v := .ref (sa S (1040 + nt))) (congrArg (fun z => some (va_rf z)) (hA.2.1.2.2.2)) dL_act_23 ?_
  refine fb_alen (r := (1040 + nt)) hx hb hM (hA.2.2.2.2.2.1.1) (ce13 (hA.2.2.2.2.2.1.2.1)) 6 rfl (v := nI nt) (congrArg Int32.ofNat (hA.2.2.2.2.2.1.2.2)) dL_act_26 ?_
  refine fb_callSi hx hb hml hown hts hM (As := [.int (x >>> (2 &&& 31)), .int (nI nt)]) (rest := []) (c_L_below D y l S V I (x >>> (2 &&& 31)) nt (by omega) (by omega)) (va_cwS 2 hts gL_act_L_below rfl rfl rfl (by decide +kernel) ⟨Nat.le_of_ble_eq_true rfl, Nat.le_of_ble_eq_true rfl⟩) rfl hl.1 rfl (Nat.le_of_ble_eq_true rfl) dL_act_27 ⟨Nat.le_of_ble_eq_true rfl, Nat.le_of_ble_eq_true rfl⟩ (fun v_3 u_ H locs hp hM => ?_)
  obtain ⟨hv_, hu_⟩ := hp
  have hv_ := Eq.symm hv_
  have hu_ := Eq.symm hu_
  subst hv_
  subst hu_
  obtain ⟨t, et⟩ : ∃ t, t = blN (x >>> (2 &&& 31)) nt := ⟨_, rfl⟩
  have ht : t < nt := by rw [et]; exact blN_lt _ (by omega)
  rw [← et]
  have htk := hTk t ht
  have hcr := htk.n36
  have hLt := (hA.2.2.2.2.2.2.2.2 t ht).2
  refine lv_istore (lv' := [(5, .int (nI t)), (4, .int (nI c)), (3, .int (nI i)), (0, .ref (sa S 0)), (1, .ref (sa S 1000)), (2, .int x)]) hx hb dL_act_30 hl (by decide) rfl (fun ls hl => ?_)
  refine lv_aload_n hx hb dL_act_32 rfl (lv_at hl 4 rfl) ?_
  refine fb_get (r := 1000) hx hb hown hts hin4 hM (hA.1.1) (ce4 (hA.1.2)) rfl 4 (by decide) (hts (.fieldLink RL 47 "FeatherBedsLaw$Sim" "ticks" "[LFeatherBedsLaw$Tick;") (by decide +kernel)) (fun _ h9 => h9) (v := .ref (sa S (1040 + nt))) (congrArg (fun z => some (va_rf z)) (hA.2.1.2.2.2)) dL_act_33 ?_
  refine lv_iload hx hb dL_act_36 (lv_at hl 0 rfl) ?_
  refine fb_aald (r := (1040 + nt)) hx hb hM (hA.2.2.2.2.2.1.1) (ce13 (hA.2.2.2.2.2.1.2.1)) 6 rfl (k := t) (nI_clamp (by omega)) (b := sa S (1100 + 100 * t)) ((hA.2.2.2.2.2.2.2.2 t (by omega)).1) (by rw [hA.2.2.2.2.2.1.2.2]; exact vp_in_nI (by omega) (by omega)) dL_act_38 ?_
  refine lv_astore (lv' := [(6, .ref (sa S (1100 + 100 * t))), (5, .int (nI t)), (4, .int (nI c)), (3, .int (nI i)), (0, .ref (sa S 0)), (1, .ref (sa S 1000)), (2, .int x)]) hx hb dL_act_39 hl (by decide) rfl (fun ls hl => ?_)
  refine lv_iload_n hx hb dL_act_41 rfl (lv_at hl 6 rfl) ?_
  refine lv_iconst (v := 4) hx hb dL_act_42 (by decide) ?_
  refine lv_ishr hx hb dL_act_43 ?_
  refine lv_aload hx hb dL_act_44 (lv_at hl 0 rfl) ?_
  refine fb_get (r := (1100 + 100 * t)) hx hb hown hts hin14 hM (hLt.1.1) (ce14 (hLt.1.2)) rfl 3 (by decide) (hts (.fieldLink RL 51 "FeatherBedsLaw$Tick" "squares" "[[I") (by decide +kernel)) (fun _ h9 => h9) (v := .ref (sa S ((1100 + 100 * t) + 9))) (congrArg (fun z => some (va_rf z)) (hLt.2.1)) dL_act_46 ?_
  refine fb_alen (r := ((1100 + 100 * t) + 9)) hx hb hM (hLt.2.2.2.1.1) (ce10 (hLt.2.2.2.1.2.1)) 4 rfl (v := nI (cf t * rf t)) (congrArg Int32.ofNat (hLt.2.2.2.1.2.2)) dL_act_49 ?_
  refine fb_callSi hx hb hml hown hts hM (As := [.int (x >>> (4 &&& 31)), .int (nI ((cf t * rf t)))]) (rest := []) (c_L_below D y l S V I (x >>> (4 &&& 31)) (cf t * rf t) (by omega) (by omega)) (va_cwS 2 hts gL_act_L_below rfl rfl rfl (by decide +kernel) ⟨Nat.le_of_ble_eq_true rfl, Nat.le_of_ble_eq_true rfl⟩) rfl hl.1 rfl (Nat.le_of_ble_eq_true rfl) dL_act_50 ⟨Nat.le_of_ble_eq_true rfl, Nat.le_of_ble_eq_true rfl⟩ (fun v_4 u_ H locs hp hM => ?_)
  obtain ⟨hv_, hu_⟩ := hp
  have hv_ := Eq.symm hv_
  have hu_ := Eq.symm hu_
  subst hv_
  subst hu_
  obtain ⟨q, eq⟩ : ∃ q, q = blN (x >>> (4 &&& 31)) (cf t * rf t) := ⟨_, rfl⟩
  have hq : q < (cf t * rf t) := by rw [eq]; exact blN_lt _ (by omega)
  rw [← eq]
  refine lv_istore (lv' := [(7, .int (nI q)), (6, .ref (sa S (1100 + 100 * t))), (5, .int (nI t)), (4, .int (nI c)), (3, .int (nI i)), (0, .ref (sa S 0)), (1, .ref (sa S 1000)), (2, .int x)]) hx hb dL_act_53 hl (by decide) rfl (fun ls hl => ?_)
  refine lv_iconst (v := 1) hx hb dL_act_55 (by decide) ?_
  refine lv_iload_n hx hb dL_act_56 rfl (lv_at hl 7 rfl) ?_
  refine lv_iconst (v := 5) hx hb dL_act_57 (by decide) ?_
  refine lv_ishr hx hb dL_act_58 ?_
  refine lv_sipush (v := 300) hx hb dL_act_59 (by decide) ?_
  refine fb_callSi hx hb hml hown hts hM (As := [.int (x >>> (5 &&& 31)), .int 300]) (rest := [.int 1]) (c_L_below D y l S V I (x >>> (5 &&& 31)) 300 (by omega) (by omega)) (va_cwS 2 hts gL_act_L_below rfl rfl rfl (by decide +kernel) ⟨Nat.le_of_ble_eq_true rfl, Nat.le_of_ble_eq_true rfl⟩) rfl hl.1 rfl (Nat.le_of_ble_eq_true rfl) dL_act_62 ⟨Nat.le_of_ble_eq_true rfl, Nat.le_of_ble_eq_true rfl⟩ (fun v_5 u_ H locs hp hM => ?_)
  obtain ⟨hv_, hu_⟩ := hp
  have hv_ := Eq.symm hv_
  have hu_ := Eq.symm hu_
  subst hv_
  subst hu_
  obtain ⟨m0, em0⟩ : ∃ m0, m0 = blN (x >>> (5 &&& 31)) 300 := ⟨_, rfl⟩
  have hm0 : m0 < 300 := by rw [em0]; exact blN_lt _ (by omega)
  rw [← em0]
  refine lv_iadd hx hb dL_act_65 ?_
  refine W.eq (g2 := F0 mv _ ls (.int (nI (1 + m0)) :: [])) (by rw [show (1 + (nI m0) : Int32) = nI (1 + m0) from nI_add 1 m0]) ?_
  obtain ⟨m, em⟩ : ∃ m, m = 1 + m0 := ⟨_, rfl⟩
  have hma : 1 ≤ m := by omega
  have hm : m ≤ 300 := by omega
  rw [← em]
  refine lv_istore (lv' := [(8, .int (nI m)), (7, .int (nI q)), (6, .ref (sa S (1100 + 100 * t))), (5, .int (nI t)), (4, .int (nI c)), (3, .int (nI i)), (0, .ref (sa S 0)), (1, .ref (sa S 1000)), (2, .int x)]) hx hb dL_act_66 hl (by decide) rfl (fun ls hl => ?_)
  refine lv_iload_n hx hb dL_act_68 rfl (lv_at hl 8 rfl) ?_
  refine lv_bipush (v := 8) hx hb dL_act_69 (by decide) ?_
  refine lv_ishr hx hb dL_act_71 ?_
  refine lv_bipush (v := 9) hx hb dL_act_72 (by decide) ?_
  refine fb_callSi hx hb hml hown hts hM (As := [.int (x >>> (8 &&& 31)), .int 9]) (rest := []) (c_L_below D y l S V I (x >>> (8 &&& 31)) 9 (by omega) (by omega)) (va_cwS 2 hts gL_act_L_below rfl rfl rfl (by decide +kernel) ⟨Nat.le_of_ble_eq_true rfl, Nat.le_of_ble_eq_true rfl⟩) rfl hl.1 rfl (Nat.le_of_ble_eq_true rfl) dL_act_74 ⟨Nat.le_of_ble_eq_true rfl, Nat.le_of_ble_eq_true rfl⟩ (fun v_6 u_ H locs hp hM => ?_)
  obtain ⟨hv_, hu_⟩ := hp
  have hv_ := Eq.symm hv_
  have hu_ := Eq.symm hu_
  subst hv_
  subst hu_
  refine W.eq (g2 := F0 mv _ ls (.int (nI 4) :: [])) (by rw [show (nI (blN (x >>> (8 &&& 31)) 9) : Int32) = nI 4 from congrArg nI hk9]) ?_
  refine lv_tableIn (off := 259) (tgt := 336) hx hb dL_act_77 (by decide) (by decide) rfl (by decide) ?_
  refine lv_iload_n hx hb dL_act_336 rfl (lv_at hl 8 rfl) ?_
  refine lv_iconst (v := 3) hx hb dL_act_337 (by decide) ?_
  refine lv_ishr hx hb dL_act_338 ?_
  refine lv_bipush (v := 6) hx hb dL_act_339 (by decide) ?_
  refine fb_callSi hx hb hml hown hts hM (As := [.int (x >>> (3 &&& 31)), .int 6]) (rest := []) (c_L_below D y l S V I (x >>> (3 &&& 31)) 6 (by omega) (by omega)) (va_cwS 2 hts gL_act_L_below rfl rfl rfl (by decide +kernel) ⟨Nat.le_of_ble_eq_true rfl, Nat.le_of_ble_eq_true rfl⟩) rfl hl.1 rfl (Nat.le_of_ble_eq_true rfl) dL_act_341 ⟨Nat.le_of_ble_eq_true rfl, Nat.le_of_ble_eq_true rfl⟩ (fun v_7 u_ H locs hp hM => ?_)
  obtain ⟨hv_, hu_⟩ := hp
  have hv_ := Eq.symm hv_
  have hu_ := Eq.symm hu_
  subst hv_
  subst hu_
  obtain ⟨k, ek⟩ : ∃ k, k = blN (x >>> (3 &&& 31)) 6 := ⟨_, rfl⟩
  have hk : k < 6 := by rw [ek]; exact blN_lt _ (by omega)
  rw [← ek]
  obtain ⟨hJs, ⟨fv, hfv, hf5⟩, dm, hd9, hd1, hd2⟩ := hSk i hi
  obtain ⟨v, ev⟩ : ∃ v, v = fv k := ⟨_, rfl⟩
  have hv : V (200 + 2 * i) k = nI v := by rw [hfv, nv_k _ hk, ev]
  have hv5 : v ≤ 500 := by rw [ev]; exact hf5 k hk
  have hvr : I (rho i) k = nI v := by rw [hJs]; exact hv
  refine lv_istore (lv' := [(11, .int (nI k)), (8, .int (nI m)), (7, .int (nI q)), (6, .ref (sa S (1100 + 100 * t))), (5, .int (nI t)), (4, .int (nI c)), (3, .int (nI i)), (0, .ref (sa S 0)), (1, .ref (sa S 1000)), (2, .int x)]) hx hb dL_act_344 hl (by decide) rfl (fun ls hl => ?_)
  refine lv_aload_n hx hb dL_act_346 rfl (lv_at hl 8 rfl) ?_
  refine fb_get (r := 1000) hx hb hown hts hin4 hM (hA.1.1) (ce4 (hA.1.2)) rfl 0 (by decide) (hts (.fieldLink RL 32 "FeatherBedsLaw$Sim" "sacks" "[[I") (by decide +kernel)) (fun _ h9 => h9) (v := .ref (sa S (1020 + ns))) (congrArg (fun z => some (va_rf z)) (hA.2.1.1)) dL_act_347 ?_
  refine lv_iload_n hx hb dL_act_350 rfl (lv_at hl 6 rfl) ?_
  refine fb_aaldA (r := (1020 + ns)) hx hb hM (hA.2.2.1.1) (ce10 (hA.2.2.1.2.1)) 4 rfl (k := i) (nI_clamp (by omega)) (b := sa S (rho i)) ((hA.2.2.2.2.2.2.1 i (by omega)).1) (by rw [hA.2.2.1.2.2]; exact vp_in_nI (by omega) (by omega)) dL_act_351 ?_
  refine lv_iload hx hb dL_act_352 (lv_at hl 0 rfl) ?_
  refine fb_iald (r := (rho i)) hx hb hM (((hA.2.2.2.2.2.2.1 i (by omega)).2).1) (ce6 (((hA.2.2.2.2.2.2.1 i (by omega)).2).2.1)) (k := k) (nI_clamp (by omega)) (by rw [((hA.2.2.2.2.2.2.1 i (by omega)).2).2.2]; exact vp_in_nI (by omega) (by omega)) dL_act_354 ?_
  refine W.eq (g2 := F0 mv _ ls (.int (nI v) :: [])) (by rw [show (I (rho i) k : Int32) = nI v from hvr]) ?_
  refine lv_iload hx hb dL_act_355 (lv_at hl 1 rfl) ?_
  refine lv_iadd hx hb dL_act_357 ?_
  refine W.eq (g2 := F0 mv _ ls (.int (nI (v + m)) :: [])) (by rw [show ((nI v) + (nI m) : Int32) = nI (v + m) from nI_add _ _]) ?_
  refine lv_sipush (v := 500) hx hb dL_act_358 (by decide) ?_
  refine lv_icmp_le (tgt := 366) hx hb dL_act_361 (by decide) (fun c_8 => ?_) (fun c_8 => ?_)
  · skip
    have hfit : ¬ 500 < nI (v + m) := Int32.not_lt.mpr c_8
    refine lv_aload_n hx hb dL_act_366 rfl (lv_at hl 8 rfl) ?_
    refine fb_get (r := 1000) hx hb hown hts hin4 hM (hA.1.1) (ce4 (hA.1.2)) rfl 0 (by decide) (hts (.fieldLink RL 32 "FeatherBedsLaw$Sim" "sacks" "[[I") (by decide +kernel)) (fun _ h9 => h9) (v := .ref (sa S (1020 + ns))) (congrArg (fun z => some (va_rf z)) (hA.2.1.1)) dL_act_367 ?_
    refine lv_iload_n hx hb dL_act_370 rfl (lv_at hl 6 rfl) ?_
    refine fb_aaldA (r := (1020 + ns)) hx hb hM (hA.2.2.1.1) (ce10 (hA.2.2.1.2.1)) 4 rfl (k := i) (nI_clamp (by omega)) (b := sa S (rho i)) ((hA.2.2.2.2.2.2.1 i (by omega)).1) (by rw [hA.2.2.1.2.2]; exact vp_in_nI (by omega) (by omega)) dL_act_371 ?_
    refine lv_iload hx hb dL_act_372 (lv_at hl 0 rfl) ?_
    refine lv_dup2_11 hx hb dL_act_374 rfl rfl ?_
    refine fb_iald (r := (rho i)) hx hb hM (((hA.2.2.2.2.2.2.1 i (by omega)).2).1) (ce6 (((hA.2.2.2.2.2.2.1 i (by omega)).2).2.1)) (k := k) (nI_clamp (by omega)) (by rw [((hA.2.2.2.2.2.2.1 i (by omega)).2).2.2]; exact vp_in_nI (by omega) (by omega)) dL_act_375 ?_
    refine W.eq (g2 := F0 mv _ ls (.int (nI v) :: .int (nI k) :: .ref (sa S (rho i)) :: [])) (by rw [show (I (rho i) k : Int32) = nI v from hvr]) ?_
    refine lv_iload hx hb dL_act_376 (lv_at hl 1 rfl) ?_
    refine lv_iadd hx hb dL_act_378 ?_
    refine W.eq (g2 := F0 mv _ ls (.int (nI (v + m)) :: .int (nI k) :: .ref (sa S (rho i)) :: [])) (by rw [show ((nI v) + (nI m) : Int32) = nI (v + m) from nI_add _ _]) ?_
    refine fb_iast (r := (rho i)) hx hb hM (((hA.2.2.2.2.2.2.1 i (by omega)).2).1) (ce6 (((hA.2.2.2.2.2.2.1 i (by omega)).2).2.1)) (k := k) (nI_clamp (by omega)) (by rw [((hA.2.2.2.2.2.2.1 i (by omega)).2).2.2]; exact vp_in_nI (by omega) (by omega)) dL_act_379 (up_I (j := k) (by rw [ce6 (S := S) (((hA.2.2.2.2.2.2.1 i (by omega)).2).2.1)]; simp [va_up])) (w' := (S, V, (sT V), (va_up I (rho i) (upd (I (rho i)) k (nI (v + m)))))) ⟨rfl, rfl, rfl⟩ (fun H locs hM => ?_)
    refine lv_aload_n hx hb dL_act_380 rfl (lv_at hl 7 rfl) ?_
    refine lv_iload_n hx hb dL_act_381 rfl (lv_at hl 6 rfl) ?_
    refine lv_iload hx hb dL_act_382 (lv_at hl 0 rfl) ?_
    refine lv_iload hx hb dL_act_384 (lv_at hl 1 rfl) ?_
    have hcf4 : CF (va_up I (rho i) (upd (I (rho i)) k (nI (v + m)))) ns nt cf rf df := cf_same hCF (fun x9 h9 _ _ => va_up_ne _ _ (by omega)) (by omega)
    refine fb_callVi (r := 0) hx hb hml hown hts hM (hC.1.1) (ce3 (hC.1.2)) rfl (As := [.int (nI i), .int (nI k), .int (nI m)]) (rest := []) (c_X3_put_ok D y l S V (va_up I (rho i) (upd (I (rho i)) k (nI (v + m)))) a1 ns nt 4 10 hC cf rf df hcf4 i hi k hk m hma (by omega) (by rw [hv, nI_add]; exact hfit)) (cwV 3 hts gL_act_X3_put rfl rfl rfl (by decide +kernel) ⟨Nat.le_of_ble_eq_true rfl, Nat.le_of_ble_eq_true rfl⟩) rfl hl.1 rfl (Nat.le_of_ble_eq_true rfl) dL_act_386 ⟨Nat.le_of_ble_eq_true rfl, Nat.le_of_ble_eq_true rfl⟩ (fun v_9 u_ H locs hp hM => ?_)
    obtain ⟨hv_, hu_⟩ := hp
    have hv_ := Eq.symm hv_
    have hu_ := Eq.symm hu_
    subst hv_
    subst hu_
    refine W.eq (g2 := F0 mv _ ls (.int (nI (v + m)) :: [])) (by rw [show ((V (200 + 2 * i)) k + nI m : Int32) = nI (v + m) from by rw [hv, nI_add]]) ?_
    refine lv_aload_n hx hb dL_act_389 rfl (lv_at hl 8 rfl) ?_
    refine fb_get (r := 1000) hx hb hown hts hin4 hM (hA.1.1) (ce4 (hA.1.2)) rfl 0 (by decide) (hts (.fieldLink RL 32 "FeatherBedsLaw$Sim" "sacks" "[[I") (by decide +kernel)) (fun _ h9 => h9) (v := .ref (sa S (1020 + ns))) (congrArg (fun z => some (va_rf z)) (hA.2.1.1)) dL_act_390 ?_
    refine lv_iload_n hx hb dL_act_393 rfl (lv_at hl 6 rfl) ?_
    refine fb_aaldA (r := (1020 + ns)) hx hb hM (hA.2.2.1.1) (ce10 (hA.2.2.1.2.1)) 4 rfl (k := i) (nI_clamp (by omega)) (b := sa S (rho i)) ((hA.2.2.2.2.2.2.1 i (by omega)).1) (by rw [hA.2.2.1.2.2]; exact vp_in_nI (by omega) (by omega)) dL_act_394 ?_
    refine lv_iload hx hb dL_act_395 (lv_at hl 0 rfl) ?_
    refine fb_iald (r := (rho i)) hx hb hM (((hA.2.2.2.2.2.2.1 i (by omega)).2).1) (ce6 (((hA.2.2.2.2.2.2.1 i (by omega)).2).2.1)) (k := k) (nI_clamp (by omega)) (by rw [((hA.2.2.2.2.2.2.1 i (by omega)).2).2.2]; exact vp_in_nI (by omega) (by omega)) dL_act_397 ?_
    refine W.eq (g2 := F0 mv _ ls (.int (nI (v + m)) :: .int (nI (v + m)) :: [])) (by rw [show ((va_up I (rho i) (upd (I (rho i)) k (nI (v + m)))) (rho i) k : Int32) = nI (v + m) from by rw [va_up_self]; exact if_pos rfl]) ?_
    refine lv_icmp_ne (tgt := 405) hx hb dL_act_398 (by decide) (fun c_10 => absurd (rfl) c_10) (fun c_10 => ?_)
    refine lv_iconst (v := 1) hx hb dL_act_401 (by decide) ?_
    refine lv_goto (tgt := 406) hx hb dL_act_402 (by decide) ?_
    rw [hQ]
    refine W.widen (show _ ≤ 10 from Nat.le_of_ble_eq_true rfl) (show _ ≤ 60 from Nat.le_of_ble_eq_true rfl) ?_
    exact fb_zret hx hb hr (by first | rfl | decide | assumption) hlocks hM (ActP.of (Ac.put hI hi hk hv (by have h9 : ¬ 500 < v + m := fun z => hfit (nI_lt z (by omega)); omega) rfl rfl) hm) dL_act_406
  · skip
    skip
    refine lv_iconst (v := 1) hx hb dL_act_364 (by decide) ?_
    rw [hQ]
    refine W.widen (show _ ≤ 10 from Nat.le_of_ble_eq_true rfl) (show _ ≤ 60 from Nat.le_of_ble_eq_true rfl) ?_
    exact fb_zret hx hb hr (by first | rfl | decide | assumption) hlocks hM (ActP.of (Ac.nil hI) (by omega)) dL_act_365

set_option maxHeartbeats 4000000 in
set_option maxRecDepth 100000 in
theorem c_L_act_5 (D : va_G) (y : Nat → ClassId) (l : Launch) (S : fb_Sh) (V I : fb_V) (a1 ns nt N F : Nat) (rho cf rf df : Nat → Nat) (hI : Iv a1 S V I ns nt rho cf rf df N F) (hn1 : 1 ≤ ns) (ht1 : 1 ≤ nt) (hN : N ≤ 600000) (x : Int32) (hk9 : blN (x >>> (8 &&& 31)) 9 = 5)  : CI D y l yL_act wsL_act rm_L_act [.ref (sa S 0), .ref (sa S 1000), .int x] (S, V, (sT V), I) (fun z u => ActP a1 S V I ns nt rho cf rf df N z u) 10 60 := by
  refine CI.of (cc := cL_act) (maxL := 15) (ret := (some .boolean)) (by decide) rfl (Nat.le_of_ble_eq_true rfl) ?_
  intro pv ev s mv below meth cv A hx hb hml hr hown hts hlocks hname hM ls hl
  have hown : s.vm.findClass RL = some mv.cls := hown
  have hl : lv_has ls 15 [(0, .ref (sa S 0)), (1, .ref (sa S 1000)), (2, .int x)] := hl
  have hin3 : ∀ x ∈ wsX30, x ∈ wsL_act := by decide +kernel
  have hin4 : ∀ x ∈ wsX40, x ∈ wsL_act := by decide +kernel
  have hin14 : ∀ x ∈ wsX50, x ∈ wsL_act := by decide +kernel
  obtain ⟨Q, hQ⟩ : ∃ Q, Q = MQ below (va_Qi (fun z u => ActP a1 S V I ns nt rho cf rf df N z u) (fun u t => fb_P D y A u t) A) (([.ref (sa S 0), .ref (sa S 1000), .int x] : List Value).toArray) s 10 60 A := ⟨_, rfl⟩
  rw [← hQ]
  obtain ⟨⟨hC, hA⟩, ⟨hRh, hFs⟩, hCF, ⟨hW, hSk, hCh, hTk, hTZ⟩, hns4, hnt3⟩ := id hI
  obtain ⟨w0, hw1, hw20, hw0, hw00⟩ := hW.1
  have hFs4 := hFs.1
  refine lv_iload_n hx hb dL_act_0 rfl (lv_at hl 2 rfl) ?_
  refine lv_aload_n hx hb dL_act_1 rfl (lv_at hl 1 rfl) ?_
  refine fb_get (r := 1000) hx hb hown hts hin4 hM (hA.1.1) (ce4 (hA.1.2)) rfl 0 (by decide) (hts (.fieldLink RL 32 "FeatherBedsLaw$Sim" "sacks" "[[I") (by decide +kernel)) (fun _ h9 => h9) (v := .ref (sa S (1020 + ns))) (congrArg (fun z => some (va_rf z)) (hA.2.1.1)) dL_act_2 ?_
  refine fb_alen (r := (1020 + ns)) hx hb hM (hA.2.2.1.1) (ce10 (hA.2.2.1.2.1)) 4 rfl (v := nI ns) (congrArg Int32.ofNat (hA.2.2.1.2.2)) dL_act_5 ?_
  refine fb_callSi hx hb hml hown hts hM (As := [.int x, .int (nI ns)]) (rest := []) (c_L_below D y l S V I x ns (by omega) (by omega)) (va_cwS 2 hts gL_act_L_below rfl rfl rfl (by decide +kernel) ⟨Nat.le_of_ble_eq_true rfl, Nat.le_of_ble_eq_true rfl⟩) rfl hl.1 rfl (Nat.le_of_ble_eq_true rfl) dL_act_6 ⟨Nat.le_of_ble_eq_true rfl, Nat.le_of_ble_eq_true rfl⟩ (fun v_1 u_ H locs hp hM => ?_)
  obtain ⟨hv_, hu_⟩ := hp
  have hv_ := Eq.symm hv_
  have hu_ := Eq.symm hu_
  subst hv_
  subst hu_
  obtain ⟨i, ei⟩ : ∃ i, i = blN x ns := ⟨_, rfl⟩
  have hi : i < ns := by rw [ei]; exact blN_lt _ (by omega)
  rw [← ei]
  have hri := hRh.1 i hi
  refine lv_istore_n (lv' := [(3, .int (nI i)), (0, .ref (sa S 0)), (1, .ref (sa S 1000)), (2, .int x)]) hx hb dL_act_9 rfl hl (by decide) rfl (fun ls hl => ?_)
  refine lv_iload_n hx hb dL_act_10 rfl (lv_at hl 3 rfl) ?_
  refine lv_iconst (v := 3) hx hb dL_act_11 (by decide) ?_
  refine lv_ishr hx hb dL_act_12 ?_
  refine lv_iconst (v := 5) hx hb dL_act_13 (by decide) ?_
  refine fb_callSi hx hb hml hown hts hM (As := [.int (x >>> (3 &&& 31)), .int 5]) (rest := []) (c_L_below D y l S V I (x >>> (3 &&& 31)) 5 (by omega) (by omega)) (va_cwS 2 hts gL_act_L_below rfl rfl rfl (by decide +kernel) ⟨Nat.le_of_ble_eq_true rfl, Nat.le_of_ble_eq_true rfl⟩) rfl hl.1 rfl (Nat.le_of_ble_eq_true rfl) dL_act_14 ⟨Nat.le_of_ble_eq_true rfl, Nat.le_of_ble_eq_true rfl⟩ (fun v_2 u_ H locs hp hM => ?_)
  obtain ⟨hv_, hu_⟩ := hp
  have hv_ := Eq.symm hv_
  have hu_ := Eq.symm hu_
  subst hv_
  subst hu_
  obtain ⟨c, ec⟩ : ∃ c, c = blN (x >>> (3 &&& 31)) 5 := ⟨_, rfl⟩
  have hc : c < 5 := by rw [ec]; exact blN_lt _ (by omega)
  rw [← ec]
  refine lv_istore (lv' := [(4, .int (nI c)), (3, .int (nI i)), (0, .ref (sa S 0)), (1, .ref (sa S 1000)), (2, .int x)]) hx hb dL_act_17 hl (by decide) rfl (fun ls hl => ?_)
  refine lv_iload_n hx hb dL_act_19 rfl (lv_at hl 4 rfl) ?_
  refine lv_iconst (v := 2) hx hb dL_act_20 (by decide) ?_
  refine lv_ishr hx hb dL_act_21 ?_
  refine lv_aload_n hx hb dL_act_22 rfl (lv_at hl 3 rfl) ?_
  refine fb_get (r := 1000) hx hb hown hts hin4 hM (hA.1.1) (ce4 (hA.1.2)) rfl 4 (by decide) (hts (.fieldLink RL 47 "FeatherBedsLaw$Sim" "ticks" "[LFeatherBedsLaw$Tick;") (by decide +kernel)) (fun _ h9 => h9) (v := .ref (sa S (1040 + nt))) (congrArg (fun z => some (va_rf z)) (hA.2.1.2.2.2)) dL_act_23 ?_
  refine fb_alen (r := (1040 + nt)) hx hb hM (hA.2.2.2.2.2.1.1) (ce13 (hA.2.2.2.2.2.1.2.1)) 6 rfl (v := nI nt) (congrArg Int32.ofNat (hA.2.2.2.2.2.1.2.2)) dL_act_26 ?_
  refine fb_callSi hx hb hml hown hts hM (As := [.int (x >>> (2 &&& 31)), .int (nI nt)]) (rest := []) (c_L_below D y l S V I (x >>> (2 &&& 31)) nt (by omega) (by omega)) (va_cwS 2 hts gL_act_L_below rfl rfl rfl (by decide +kernel) ⟨Nat.le_of_ble_eq_true rfl, Nat.le_of_ble_eq_true rfl⟩) rfl hl.1 rfl (Nat.le_of_ble_eq_true rfl) dL_act_27 ⟨Nat.le_of_ble_eq_true rfl, Nat.le_of_ble_eq_true rfl⟩ (fun v_3 u_ H locs hp hM => ?_)
  obtain ⟨hv_, hu_⟩ := hp
  have hv_ := Eq.symm hv_
  have hu_ := Eq.symm hu_
  subst hv_
  subst hu_
  obtain ⟨t, et⟩ : ∃ t, t = blN (x >>> (2 &&& 31)) nt := ⟨_, rfl⟩
  have ht : t < nt := by rw [et]; exact blN_lt _ (by omega)
  rw [← et]
  have htk := hTk t ht
  have hcr := htk.n36
  have hLt := (hA.2.2.2.2.2.2.2.2 t ht).2
  refine lv_istore (lv' := [(5, .int (nI t)), (4, .int (nI c)), (3, .int (nI i)), (0, .ref (sa S 0)), (1, .ref (sa S 1000)), (2, .int x)]) hx hb dL_act_30 hl (by decide) rfl (fun ls hl => ?_)
  refine lv_aload_n hx hb dL_act_32 rfl (lv_at hl 4 rfl) ?_
  refine fb_get (r := 1000) hx hb hown hts hin4 hM (hA.1.1) (ce4 (hA.1.2)) rfl 4 (by decide) (hts (.fieldLink RL 47 "FeatherBedsLaw$Sim" "ticks" "[LFeatherBedsLaw$Tick;") (by decide +kernel)) (fun _ h9 => h9) (v := .ref (sa S (1040 + nt))) (congrArg (fun z => some (va_rf z)) (hA.2.1.2.2.2)) dL_act_33 ?_
  refine lv_iload hx hb dL_act_36 (lv_at hl 0 rfl) ?_
  refine fb_aald (r := (1040 + nt)) hx hb hM (hA.2.2.2.2.2.1.1) (ce13 (hA.2.2.2.2.2.1.2.1)) 6 rfl (k := t) (nI_clamp (by omega)) (b := sa S (1100 + 100 * t)) ((hA.2.2.2.2.2.2.2.2 t (by omega)).1) (by rw [hA.2.2.2.2.2.1.2.2]; exact vp_in_nI (by omega) (by omega)) dL_act_38 ?_
  refine lv_astore (lv' := [(6, .ref (sa S (1100 + 100 * t))), (5, .int (nI t)), (4, .int (nI c)), (3, .int (nI i)), (0, .ref (sa S 0)), (1, .ref (sa S 1000)), (2, .int x)]) hx hb dL_act_39 hl (by decide) rfl (fun ls hl => ?_)
  refine lv_iload_n hx hb dL_act_41 rfl (lv_at hl 6 rfl) ?_
  refine lv_iconst (v := 4) hx hb dL_act_42 (by decide) ?_
  refine lv_ishr hx hb dL_act_43 ?_
  refine lv_aload hx hb dL_act_44 (lv_at hl 0 rfl) ?_
  refine fb_get (r := (1100 + 100 * t)) hx hb hown hts hin14 hM (hLt.1.1) (ce14 (hLt.1.2)) rfl 3 (by decide) (hts (.fieldLink RL 51 "FeatherBedsLaw$Tick" "squares" "[[I") (by decide +kernel)) (fun _ h9 => h9) (v := .ref (sa S ((1100 + 100 * t) + 9))) (congrArg (fun z => some (va_rf z)) (hLt.2.1)) dL_act_46 ?_
  refine fb_alen (r := ((1100 + 100 * t) + 9)) hx hb hM (hLt.2.2.2.1.1) (ce10 (hLt.2.2.2.1.2.1)) 4 rfl (v := nI (cf t * rf t)) (congrArg Int32.ofNat (hLt.2.2.2.1.2.2)) dL_act_49 ?_
  refine fb_callSi hx hb hml hown hts hM (As := [.int (x >>> (4 &&& 31)), .int (nI ((cf t * rf t)))]) (rest := []) (c_L_below D y l S V I (x >>> (4 &&& 31)) (cf t * rf t) (by omega) (by omega)) (va_cwS 2 hts gL_act_L_below rfl rfl rfl (by decide +kernel) ⟨Nat.le_of_ble_eq_true rfl, Nat.le_of_ble_eq_true rfl⟩) rfl hl.1 rfl (Nat.le_of_ble_eq_true rfl) dL_act_50 ⟨Nat.le_of_ble_eq_true rfl, Nat.le_of_ble_eq_true rfl⟩ (fun v_4 u_ H locs hp hM => ?_)
  obtain ⟨hv_, hu_⟩ := hp
  have hv_ := Eq.symm hv_
  have hu_ := Eq.symm hu_
  subst hv_
  subst hu_
  obtain ⟨q, eq⟩ : ∃ q, q = blN (x >>> (4 &&& 31)) (cf t * rf t) := ⟨_, rfl⟩
  have hq : q < (cf t * rf t) := by rw [eq]; exact blN_lt _ (by omega)
  rw [← eq]
  refine lv_istore (lv' := [(7, .int (nI q)), (6, .ref (sa S (1100 + 100 * t))), (5, .int (nI t)), (4, .int (nI c)), (3, .int (nI i)), (0, .ref (sa S 0)), (1, .ref (sa S 1000)), (2, .int x)]) hx hb dL_act_53 hl (by decide) rfl (fun ls hl => ?_)
  refine lv_iconst (v := 1) hx hb dL_act_55 (by decide) ?_
  refine lv_iload_n hx hb dL_act_56 rfl (lv_at hl 7 rfl) ?_
  refine lv_iconst (v := 5) hx hb dL_act_57 (by decide) ?_
  refine lv_ishr hx hb dL_act_58 ?_
  refine lv_sipush (v := 300) hx hb dL_act_59 (by decide) ?_
  refine fb_callSi hx hb hml hown hts hM (As := [.int (x >>> (5 &&& 31)), .int 300]) (rest := [.int 1]) (c_L_below D y l S V I (x >>> (5 &&& 31)) 300 (by omega) (by omega)) (va_cwS 2 hts gL_act_L_below rfl rfl rfl (by decide +kernel) ⟨Nat.le_of_ble_eq_true rfl, Nat.le_of_ble_eq_true rfl⟩) rfl hl.1 rfl (Nat.le_of_ble_eq_true rfl) dL_act_62 ⟨Nat.le_of_ble_eq_true rfl, Nat.le_of_ble_eq_true rfl⟩ (fun v_5 u_ H locs hp hM => ?_)
  obtain ⟨hv_, hu_⟩ := hp
  have hv_ := Eq.symm hv_
  have hu_ := Eq.symm hu_
  subst hv_
  subst hu_
  obtain ⟨m0, em0⟩ : ∃ m0, m0 = blN (x >>> (5 &&& 31)) 300 := ⟨_, rfl⟩
  have hm0 : m0 < 300 := by rw [em0]; exact blN_lt _ (by omega)
  rw [← em0]
  refine lv_iadd hx hb dL_act_65 ?_
  refine W.eq (g2 := F0 mv _ ls (.int (nI (1 + m0)) :: [])) (by rw [show (1 + (nI m0) : Int32) = nI (1 + m0) from nI_add 1 m0]) ?_
  obtain ⟨m, em⟩ : ∃ m, m = 1 + m0 := ⟨_, rfl⟩
  have hma : 1 ≤ m := by omega
  have hm : m ≤ 300 := by omega
  rw [← em]
  refine lv_istore (lv' := [(8, .int (nI m)), (7, .int (nI q)), (6, .ref (sa S (1100 + 100 * t))), (5, .int (nI t)), (4, .int (nI c)), (3, .int (nI i)), (0, .ref (sa S 0)), (1, .ref (sa S 1000)), (2, .int x)]) hx hb dL_act_66 hl (by decide) rfl (fun ls hl => ?_)
  refine lv_iload_n hx hb dL_act_68 rfl (lv_at hl 8 rfl) ?_
  refine lv_bipush (v := 8) hx hb dL_act_69 (by decide) ?_
  refine lv_ishr hx hb dL_act_71 ?_
  refine lv_bipush (v := 9) hx hb dL_act_72 (by decide) ?_
  refine fb_callSi hx hb hml hown hts hM (As := [.int (x >>> (8 &&& 31)), .int 9]) (rest := []) (c_L_below D y l S V I (x >>> (8 &&& 31)) 9 (by omega) (by omega)) (va_cwS 2 hts gL_act_L_below rfl rfl rfl (by decide +kernel) ⟨Nat.le_of_ble_eq_true rfl, Nat.le_of_ble_eq_true rfl⟩) rfl hl.1 rfl (Nat.le_of_ble_eq_true rfl) dL_act_74 ⟨Nat.le_of_ble_eq_true rfl, Nat.le_of_ble_eq_true rfl⟩ (fun v_6 u_ H locs hp hM => ?_)
  obtain ⟨hv_, hu_⟩ := hp
  have hv_ := Eq.symm hv_
  have hu_ := Eq.symm hu_
  subst hv_
  subst hu_
  refine W.eq (g2 := F0 mv _ ls (.int (nI 5) :: [])) (by rw [show (nI (blN (x >>> (8 &&& 31)) 9) : Int32) = nI 5 from congrArg nI hk9]) ?_
  refine lv_tableIn (off := 330) (tgt := 407) hx hb dL_act_77 (by decide) (by decide) rfl (by decide) ?_
  refine lv_iload_n hx hb dL_act_407 rfl (lv_at hl 8 rfl) ?_
  refine lv_iconst (v := 3) hx hb dL_act_408 (by decide) ?_
  refine lv_ishr hx hb dL_act_409 ?_
  refine lv_iconst (v := 2) hx hb dL_act_410 (by decide) ?_
  refine fb_callSi hx hb hml hown hts hM (As := [.int (x >>> (3 &&& 31)), .int 2]) (rest := []) (c_L_below D y l S V I (x >>> (3 &&& 31)) 2 (by omega) (by omega)) (va_cwS 2 hts gL_act_L_below rfl rfl rfl (by decide +kernel) ⟨Nat.le_of_ble_eq_true rfl, Nat.le_of_ble_eq_true rfl⟩) rfl hl.1 rfl (Nat.le_of_ble_eq_true rfl) dL_act_411 ⟨Nat.le_of_ble_eq_true rfl, Nat.le_of_ble_eq_true rfl⟩ (fun v_7 u_ H locs hp hM => ?_)
  obtain ⟨hv_, hu_⟩ := hp
  have hv_ := Eq.symm hv_
  have hu_ := Eq.symm hu_
  subst hv_
  subst hu_
  obtain ⟨e, ee⟩ : ∃ e, e = blN (x >>> (3 &&& 31)) 2 := ⟨_, rfl⟩
  have he : e < 2 := by rw [ee]; exact blN_lt _ (by omega)
  rw [← ee]
  have he : e < 2 := he
  refine lv_istore (lv' := [(12, .int (nI e)), (8, .int (nI m)), (7, .int (nI q)), (6, .ref (sa S (1100 + 100 * t))), (5, .int (nI t)), (4, .int (nI c)), (3, .int (nI i)), (0, .ref (sa S 0)), (1, .ref (sa S 1000)), (2, .int x)]) hx hb dL_act_414 hl (by decide) rfl (fun ls hl => ?_)
  refine lv_aload hx hb dL_act_416 (lv_at hl 3 rfl) ?_
  refine lv_iload hx hb dL_act_418 (lv_at hl 2 rfl) ?_
  refine lv_iload hx hb dL_act_420 (lv_at hl 0 rfl) ?_
  refine fb_callVi (r := (1100 + 100 * t)) hx hb hml hown hts hM (hLt.1.1) (ce14 (hLt.1.2)) rfl (As := [.int (nI q), .int (nI e)]) (rest := []) (c_X5_has D y l S V I (1100 + 100 * t) (cf t) (rf t) (df t) hLt htk.1 q hq e he) (cwV 2 hts gL_act_X5_has rfl rfl rfl (by decide +kernel) ⟨Nat.le_of_ble_eq_true rfl, Nat.le_of_ble_eq_true rfl⟩) rfl hl.1 rfl (Nat.le_of_ble_eq_true rfl) dL_act_422 ⟨Nat.le_of_ble_eq_true rfl, Nat.le_of_ble_eq_true rfl⟩ (fun v_8 u_ H locs hp hM => ?_)
  obtain ⟨hv_, hu_⟩ := hp
  have hv_ := Eq.symm hv_
  have hu_ := Eq.symm hu_
  subst hv_
  subst hu_
  refine lv_if_ne (tgt := 430) hx hb dL_act_425 (by decide) (fun c_9 => ?_) (fun c_9 => ?_)
  · skip
    have hox : ofx (cf t) (cf t * rf t) q e = true := by
      by_cases h9 : ofx (cf t) (cf t * rf t) q e = true
      · exact h9
      · exact absurd (if_neg h9) c_9
    refine lv_aload hx hb dL_act_430 (lv_at hl 3 rfl) ?_
    refine fb_get (r := (1100 + 100 * t)) hx hb hown hts hin14 hM (hLt.1.1) (ce14 (hLt.1.2)) rfl 4 (by decide) (hts (.fieldLink RL 92 "FeatherBedsLaw$Tick" "sewn" "[[Z") (by decide +kernel)) (fun _ h9 => h9) (v := .ref (sa S ((1100 + 100 * t) + 49))) (congrArg (fun z => some (va_rf z)) (hLt.2.2.1)) dL_act_432 ?_
    refine lv_iload hx hb dL_act_435 (lv_at hl 2 rfl) ?_
    refine fb_aaldA (r := ((1100 + 100 * t) + 49)) hx hb hM (hLt.2.2.2.2.1.1) (ce11 (hLt.2.2.2.2.1.2.1)) 5 rfl (k := q) (nI_clamp (by omega)) (b := sa S ((1100 + 100 * t) + 50 + q)) ((hLt.2.2.2.2.2 q (by omega)).2.1) (by rw [hLt.2.2.2.2.1.2.2]; exact vp_in_nI (by omega) (by omega)) dL_act_437 ?_
    refine lv_iload hx hb dL_act_438 (lv_at hl 0 rfl) ?_
    refine lv_iload_n hx hb dL_act_440 rfl (lv_at hl 9 rfl) ?_
    refine lv_bipush (v := 6) hx hb dL_act_441 (by decide) ?_
    refine lv_ishr hx hb dL_act_443 ?_
    refine lv_iconst (v := 3) hx hb dL_act_444 (by decide) ?_
    refine fb_callSi hx hb hml hown hts hM (As := [.int (x >>> (6 &&& 31)), .int 3]) (rest := [.int (nI e), .ref (sa S ((1100 + 100 * t) + 50 + q))]) (c_L_below D y l S V I (x >>> (6 &&& 31)) 3 (by omega) (by omega)) (va_cwS 2 hts gL_act_L_below rfl rfl rfl (by decide +kernel) ⟨Nat.le_of_ble_eq_true rfl, Nat.le_of_ble_eq_true rfl⟩) rfl hl.1 rfl (Nat.le_of_ble_eq_true rfl) dL_act_445 ⟨Nat.le_of_ble_eq_true rfl, Nat.le_of_ble_eq_true rfl⟩ (fun v_10 u_ H locs hp hM => ?_)
    obtain ⟨hv_, hu_⟩ := hp
    have hv_ := Eq.symm hv_
    have hu_ := Eq.symm hu_
    subst hv_
    subst hu_
    refine lv_if_le (tgt := 455) hx hb dL_act_448 (by decide) (fun c_11 => ?_) (fun c_11 => ?_)
    · skip
      refine lv_iconst (v := 0) hx hb dL_act_455 (by decide) ?_
      refine fb_zast (r := ((1100 + 100 * t) + 50 + q)) hx hb hM ((hLt.2.2.2.2.2 q (by omega)).2.2.1) (ce7 ((hLt.2.2.2.2.2 q (by omega)).2.2.2.1)) (k := e) (nI_clamp (by omega)) (by rw [(hLt.2.2.2.2.2 q (by omega)).2.2.2.2]; exact vp_in_nI (by omega) (by omega)) dL_act_456 (up_I (j := e) (by rw [ce7 (S := S) ((hLt.2.2.2.2.2 q (by omega)).2.2.2.1)]; simp [va_up])) (w' := (S, V, (sT V), (va_up I ((1100 + 100 * t) + 50 + q) (upd (I ((1100 + 100 * t) + 50 + q)) e (vp_nar .boolean 0))))) ⟨rfl, rfl, rfl⟩ (fun H locs hM => ?_)
      have eI : (va_up I ((1100 + 100 * t) + 50 + q) (upd (I ((1100 + 100 * t) + 50 + q)) e (vp_nar .boolean 0))) = (va_up I (1100 + 100 * t + 50 + q) (upd (I (1100 + 100 * t + 50 + q)) e 0)) := by rw [show vp_nar .boolean 0 = 0 from by decide]
      rw [eI] at hM
      clear eI
      refine lv_aload_n hx hb dL_act_457 rfl (lv_at hl 7 rfl) ?_
      refine lv_iload hx hb dL_act_458 (lv_at hl 4 rfl) ?_
      refine lv_iload hx hb dL_act_460 (lv_at hl 2 rfl) ?_
      refine lv_iload hx hb dL_act_462 (lv_at hl 0 rfl) ?_
      refine lv_aload hx hb dL_act_464 (lv_at hl 3 rfl) ?_
      refine fb_get (r := (1100 + 100 * t)) hx hb hown hts hin14 hM (hLt.1.1) (ce14 (hLt.1.2)) rfl 4 (by decide) (hts (.fieldLink RL 92 "FeatherBedsLaw$Tick" "sewn" "[[Z") (by decide +kernel)) (fun _ h9 => h9) (v := .ref (sa S ((1100 + 100 * t) + 49))) (congrArg (fun z => some (va_rf z)) (hLt.2.2.1)) dL_act_466 ?_
      refine lv_iload hx hb dL_act_469 (lv_at hl 2 rfl) ?_
      refine fb_aaldA (r := ((1100 + 100 * t) + 49)) hx hb hM (hLt.2.2.2.2.1.1) (ce11 (hLt.2.2.2.2.1.2.1)) 5 rfl (k := q) (nI_clamp (by omega)) (b := sa S ((1100 + 100 * t) + 50 + q)) ((hLt.2.2.2.2.2 q (by omega)).2.1) (by rw [hLt.2.2.2.2.1.2.2]; exact vp_in_nI (by omega) (by omega)) dL_act_471 ?_
      refine lv_iload hx hb dL_act_472 (lv_at hl 0 rfl) ?_
      refine fb_zald (r := ((1100 + 100 * t) + 50 + q)) hx hb hM ((hLt.2.2.2.2.2 q (by omega)).2.2.1) (ce7 ((hLt.2.2.2.2.2 q (by omega)).2.2.2.1)) (k := e) (nI_clamp (by omega)) (by rw [(hLt.2.2.2.2.2 q (by omega)).2.2.2.2]; exact vp_in_nI (by omega) (by omega)) dL_act_474 ?_
      refine W.eq (g2 := F0 mv _ ls (.int (0) :: .int (nI e) :: .int (nI q) :: .int (nI t) :: .ref (sa S 0) :: [])) (by rw [show ((va_up I (1100 + 100 * t + 50 + q) (upd (I (1100 + 100 * t + 50 + q)) e 0)) ((1100 + 100 * t) + 50 + q) e : Int32) = 0 from by rw [va_up_self]; exact if_pos rfl]) ?_
      have hcf5 : CF (va_up I (1100 + 100 * t + 50 + q) (upd (I (1100 + 100 * t + 50 + q)) e 0)) ns nt cf rf df := cf_same hCF (fun x9 h9 _ _ => va_up_ne _ _ (by omega)) (by omega)
      have hbo : (va_up I (1100 + 100 * t + 50 + q) (upd (I (1100 + 100 * t + 50 + q)) e 0)) (30 + 4 * t + 2) = I (30 + 4 * t + 2) := va_up_ne _ _ (by omega)
      refine fb_callVi (r := 0) hx hb hml hown hts hM (hC.1.1) (ce3 (hC.1.2)) rfl (As := [.int (nI t), .int (nI q), .int (nI e), .int 0]) (rest := []) (c_X3_sew_ok D y l S V (va_up I (1100 + 100 * t + 50 + q) (upd (I (1100 + 100 * t + 50 + q)) e 0)) a1 ns nt 4 10 hC cf rf df hcf5 t ht q hq e he hox 0) (cwV 4 hts gL_act_X3_sew rfl rfl rfl (by decide +kernel) ⟨Nat.le_of_ble_eq_true rfl, Nat.le_of_ble_eq_true rfl⟩) rfl hl.1 rfl (Nat.le_of_ble_eq_true rfl) dL_act_475 ⟨Nat.le_of_ble_eq_true rfl, Nat.le_of_ble_eq_true rfl⟩ (fun v_12 u_ H locs hp hM => ?_)
      obtain ⟨hv_, hu_⟩ := hp
      have hv_ := Eq.symm hv_
      have hu_ := Eq.symm hu_
      subst hv_
      subst hu_
      have hnb : nb 0 = 0 := by decide
      have eI : (va_up (va_up I (1100 + 100 * t + 50 + q) (upd (I (1100 + 100 * t + 50 + q)) e 0)) (30 + 4 * t + 2) (upd ((va_up I (1100 + 100 * t + 50 + q) (upd (I (1100 + 100 * t + 50 + q)) e 0)) (30 + 4 * t + 2)) (2 * q + e) (nb 0))) = (va_up (va_up I (1100 + 100 * t + 50 + q) (upd (I (1100 + 100 * t + 50 + q)) e 0)) (30 + 4 * t + 2) (upd (I (30 + 4 * t + 2)) (2 * q + e) 0)) := by rw [hbo, hnb]
      rw [eI] at hM
      clear eI
      refine W.eq (g2 := F0 mv _ ls (.int (opc (cf t) (cf t * rf t) (upd (I (30 + 4 * t + 2)) (2 * q + e) 0) (2 * (cf t * rf t))) :: [])) (by rw [show (opc (cf t) (cf t * rf t) (upd ((va_up I (1100 + 100 * t + 50 + q) (upd (I (1100 + 100 * t + 50 + q)) e 0)) (30 + 4 * t + 2)) (2 * q + e) (nb 0)) (2 * (cf t * rf t)) : Int32) = opc (cf t) (cf t * rf t) (upd (I (30 + 4 * t + 2)) (2 * q + e) 0) (2 * (cf t * rf t)) from by rw [hbo, hnb]]) ?_
      refine lv_aload hx hb dL_act_478 (lv_at hl 3 rfl) ?_
      have hA5 := Ac.sew (J := (va_up (va_up I (1100 + 100 * t + 50 + q) (upd (I (1100 + 100 * t + 50 + q)) e 0)) (30 + 4 * t + 2) (upd (I (30 + 4 * t + 2)) (2 * q + e) 0))) hI ht hq he (b := 0) (by decide) (by rw [va_up_ne _ _ (by omega), va_up_self]) (by rw [va_up_self]) (fun x9 h1 h2 => by rw [va_up_ne _ _ h2, va_up_ne _ _ h1])
      have hT5 := hA5.1.2.2.2.1.2.2.2.1 t ht
      refine fb_callVi (r := (1100 + 100 * t)) hx hb hml hown hts hM (hLt.1.1) (ce14 (hLt.1.2)) rfl (As := []) (rest := [.int (opc (cf t) (cf t * rf t) (upd (I (30 + 4 * t + 2)) (2 * q + e) 0) (2 * (cf t * rf t)))]) (c_X5_open D y l S V (va_up (va_up I (1100 + 100 * t + 50 + q) (upd (I (1100 + 100 * t + 50 + q)) e 0)) (30 + 4 * t + 2) (upd (I (30 + 4 * t + 2)) (2 * q + e) 0)) (1100 + 100 * t) (cf t) (rf t) (df t) hLt hT5.1 (upd (I (30 + 4 * t + 2)) (2 * q + e) 0) (fun z9 e9 h1 h2 => by rw [(hT5.2.2.2.2 z9 e9 h1 h2).1, va_up_self])) (cwV 0 hts gL_act_X5_open rfl rfl rfl (by decide +kernel) ⟨Nat.le_of_ble_eq_true rfl, Nat.le_of_ble_eq_true rfl⟩) rfl hl.1 rfl (Nat.le_of_ble_eq_true rfl) dL_act_480 ⟨Nat.le_of_ble_eq_true rfl, Nat.le_of_ble_eq_true rfl⟩ (fun v_13 u_ H locs hp hM => ?_)
      obtain ⟨hv_, hu_⟩ := hp
      have hv_ := Eq.symm hv_
      have hu_ := Eq.symm hu_
      subst hv_
      subst hu_
      refine lv_icmp_ne (tgt := 490) hx hb dL_act_483 (by decide) (fun c_14 => absurd (rfl) c_14) (fun c_14 => ?_)
      refine lv_iconst (v := 1) hx hb dL_act_486 (by decide) ?_
      refine lv_goto (tgt := 491) hx hb dL_act_487 (by decide) ?_
      rw [hQ]
      refine W.widen (show _ ≤ 10 from Nat.le_of_ble_eq_true rfl) (show _ ≤ 60 from Nat.le_of_ble_eq_true rfl) ?_
      exact fb_zret hx hb hr (by first | rfl | decide | assumption) hlocks hM (ActP.of hA5 (by omega)) dL_act_491
    · skip
      refine lv_iconst (v := 1) hx hb dL_act_451 (by decide) ?_
      refine lv_goto (tgt := 456) hx hb dL_act_452 (by decide) ?_
      refine fb_zast (r := ((1100 + 100 * t) + 50 + q)) hx hb hM ((hLt.2.2.2.2.2 q (by omega)).2.2.1) (ce7 ((hLt.2.2.2.2.2 q (by omega)).2.2.2.1)) (k := e) (nI_clamp (by omega)) (by rw [(hLt.2.2.2.2.2 q (by omega)).2.2.2.2]; exact vp_in_nI (by omega) (by omega)) dL_act_456 (up_I (j := e) (by rw [ce7 (S := S) ((hLt.2.2.2.2.2 q (by omega)).2.2.2.1)]; simp [va_up])) (w' := (S, V, (sT V), (va_up I ((1100 + 100 * t) + 50 + q) (upd (I ((1100 + 100 * t) + 50 + q)) e (vp_nar .boolean 1))))) ⟨rfl, rfl, rfl⟩ (fun H locs hM => ?_)
      have eI : (va_up I ((1100 + 100 * t) + 50 + q) (upd (I ((1100 + 100 * t) + 50 + q)) e (vp_nar .boolean 1))) = (va_up I (1100 + 100 * t + 50 + q) (upd (I (1100 + 100 * t + 50 + q)) e 1)) := by rw [show vp_nar .boolean 1 = 1 from by decide]
      rw [eI] at hM
      clear eI
      refine lv_aload_n hx hb dL_act_457 rfl (lv_at hl 7 rfl) ?_
      refine lv_iload hx hb dL_act_458 (lv_at hl 4 rfl) ?_
      refine lv_iload hx hb dL_act_460 (lv_at hl 2 rfl) ?_
      refine lv_iload hx hb dL_act_462 (lv_at hl 0 rfl) ?_
      refine lv_aload hx hb dL_act_464 (lv_at hl 3 rfl) ?_
      refine fb_get (r := (1100 + 100 * t)) hx hb hown hts hin14 hM (hLt.1.1) (ce14 (hLt.1.2)) rfl 4 (by decide) (hts (.fieldLink RL 92 "FeatherBedsLaw$Tick" "sewn" "[[Z") (by decide +kernel)) (fun _ h9 => h9) (v := .ref (sa S ((1100 + 100 * t) + 49))) (congrArg (fun z => some (va_rf z)) (hLt.2.2.1)) dL_act_466 ?_
      refine lv_iload hx hb dL_act_469 (lv_at hl 2 rfl) ?_
      refine fb_aaldA (r := ((1100 + 100 * t) + 49)) hx hb hM (hLt.2.2.2.2.1.1) (ce11 (hLt.2.2.2.2.1.2.1)) 5 rfl (k := q) (nI_clamp (by omega)) (b := sa S ((1100 + 100 * t) + 50 + q)) ((hLt.2.2.2.2.2 q (by omega)).2.1) (by rw [hLt.2.2.2.2.1.2.2]; exact vp_in_nI (by omega) (by omega)) dL_act_471 ?_
      refine lv_iload hx hb dL_act_472 (lv_at hl 0 rfl) ?_
      refine fb_zald (r := ((1100 + 100 * t) + 50 + q)) hx hb hM ((hLt.2.2.2.2.2 q (by omega)).2.2.1) (ce7 ((hLt.2.2.2.2.2 q (by omega)).2.2.2.1)) (k := e) (nI_clamp (by omega)) (by rw [(hLt.2.2.2.2.2 q (by omega)).2.2.2.2]; exact vp_in_nI (by omega) (by omega)) dL_act_474 ?_
      refine W.eq (g2 := F0 mv _ ls (.int (1) :: .int (nI e) :: .int (nI q) :: .int (nI t) :: .ref (sa S 0) :: [])) (by rw [show ((va_up I (1100 + 100 * t + 50 + q) (upd (I (1100 + 100 * t + 50 + q)) e 1)) ((1100 + 100 * t) + 50 + q) e : Int32) = 1 from by rw [va_up_self]; exact if_pos rfl]) ?_
      have hcf5 : CF (va_up I (1100 + 100 * t + 50 + q) (upd (I (1100 + 100 * t + 50 + q)) e 1)) ns nt cf rf df := cf_same hCF (fun x9 h9 _ _ => va_up_ne _ _ (by omega)) (by omega)
      have hbo : (va_up I (1100 + 100 * t + 50 + q) (upd (I (1100 + 100 * t + 50 + q)) e 1)) (30 + 4 * t + 2) = I (30 + 4 * t + 2) := va_up_ne _ _ (by omega)
      refine fb_callVi (r := 0) hx hb hml hown hts hM (hC.1.1) (ce3 (hC.1.2)) rfl (As := [.int (nI t), .int (nI q), .int (nI e), .int 1]) (rest := []) (c_X3_sew_ok D y l S V (va_up I (1100 + 100 * t + 50 + q) (upd (I (1100 + 100 * t + 50 + q)) e 1)) a1 ns nt 4 10 hC cf rf df hcf5 t ht q hq e he hox 1) (cwV 4 hts gL_act_X3_sew rfl rfl rfl (by decide +kernel) ⟨Nat.le_of_ble_eq_true rfl, Nat.le_of_ble_eq_true rfl⟩) rfl hl.1 rfl (Nat.le_of_ble_eq_true rfl) dL_act_475 ⟨Nat.le_of_ble_eq_true rfl, Nat.le_of_ble_eq_true rfl⟩ (fun v_15 u_ H locs hp hM => ?_)
      obtain ⟨hv_, hu_⟩ := hp
      have hv_ := Eq.symm hv_
      have hu_ := Eq.symm hu_
      subst hv_
      subst hu_
      have hnb : nb 1 = 1 := by decide
      have eI : (va_up (va_up I (1100 + 100 * t + 50 + q) (upd (I (1100 + 100 * t + 50 + q)) e 1)) (30 + 4 * t + 2) (upd ((va_up I (1100 + 100 * t + 50 + q) (upd (I (1100 + 100 * t + 50 + q)) e 1)) (30 + 4 * t + 2)) (2 * q + e) (nb 1))) = (va_up (va_up I (1100 + 100 * t + 50 + q) (upd (I (1100 + 100 * t + 50 + q)) e 1)) (30 + 4 * t + 2) (upd (I (30 + 4 * t + 2)) (2 * q + e) 1)) := by rw [hbo, hnb]
      rw [eI] at hM
      clear eI
      refine W.eq (g2 := F0 mv _ ls (.int (opc (cf t) (cf t * rf t) (upd (I (30 + 4 * t + 2)) (2 * q + e) 1) (2 * (cf t * rf t))) :: [])) (by rw [show (opc (cf t) (cf t * rf t) (upd ((va_up I (1100 + 100 * t + 50 + q) (upd (I (1100 + 100 * t + 50 + q)) e 1)) (30 + 4 * t + 2)) (2 * q + e) (nb 1)) (2 * (cf t * rf t)) : Int32) = opc (cf t) (cf t * rf t) (upd (I (30 + 4 * t + 2)) (2 * q + e) 1) (2 * (cf t * rf t)) from by rw [hbo, hnb]]) ?_
      refine lv_aload hx hb dL_act_478 (lv_at hl 3 rfl) ?_
      have hA5 := Ac.sew (J := (va_up (va_up I (1100 + 100 * t + 50 + q) (upd (I (1100 + 100 * t + 50 + q)) e 1)) (30 + 4 * t + 2) (upd (I (30 + 4 * t + 2)) (2 * q + e) 1))) hI ht hq he (b := 1) (by decide) (by rw [va_up_ne _ _ (by omega), va_up_self]) (by rw [va_up_self]) (fun x9 h1 h2 => by rw [va_up_ne _ _ h2, va_up_ne _ _ h1])
      have hT5 := hA5.1.2.2.2.1.2.2.2.1 t ht
      refine fb_callVi (r := (1100 + 100 * t)) hx hb hml hown hts hM (hLt.1.1) (ce14 (hLt.1.2)) rfl (As := []) (rest := [.int (opc (cf t) (cf t * rf t) (upd (I (30 + 4 * t + 2)) (2 * q + e) 1) (2 * (cf t * rf t)))]) (c_X5_open D y l S V (va_up (va_up I (1100 + 100 * t + 50 + q) (upd (I (1100 + 100 * t + 50 + q)) e 1)) (30 + 4 * t + 2) (upd (I (30 + 4 * t + 2)) (2 * q + e) 1)) (1100 + 100 * t) (cf t) (rf t) (df t) hLt hT5.1 (upd (I (30 + 4 * t + 2)) (2 * q + e) 1) (fun z9 e9 h1 h2 => by rw [(hT5.2.2.2.2 z9 e9 h1 h2).1, va_up_self])) (cwV 0 hts gL_act_X5_open rfl rfl rfl (by decide +kernel) ⟨Nat.le_of_ble_eq_true rfl, Nat.le_of_ble_eq_true rfl⟩) rfl hl.1 rfl (Nat.le_of_ble_eq_true rfl) dL_act_480 ⟨Nat.le_of_ble_eq_true rfl, Nat.le_of_ble_eq_true rfl⟩ (fun v_16 u_ H locs hp hM => ?_)
      obtain ⟨hv_, hu_⟩ := hp
      have hv_ := Eq.symm hv_
      have hu_ := Eq.symm hu_
      subst hv_
      subst hu_
      refine lv_icmp_ne (tgt := 490) hx hb dL_act_483 (by decide) (fun c_17 => absurd (rfl) c_17) (fun c_17 => ?_)
      refine lv_iconst (v := 1) hx hb dL_act_486 (by decide) ?_
      refine lv_goto (tgt := 491) hx hb dL_act_487 (by decide) ?_
      rw [hQ]
      refine W.widen (show _ ≤ 10 from Nat.le_of_ble_eq_true rfl) (show _ ≤ 60 from Nat.le_of_ble_eq_true rfl) ?_
      exact fb_zret hx hb hr (by first | rfl | decide | assumption) hlocks hM (ActP.of hA5 (by omega)) dL_act_491
  · skip
    skip
    refine lv_iconst (v := 1) hx hb dL_act_428 (by decide) ?_
    rw [hQ]
    refine W.widen (show _ ≤ 10 from Nat.le_of_ble_eq_true rfl) (show _ ≤ 60 from Nat.le_of_ble_eq_true rfl) ?_
    exact fb_zret hx hb hr (by first | rfl | decide | assumption) hlocks hM (ActP.of (Ac.nil hI) (by omega)) dL_act_429

set_option maxHeartbeats 4000000 in
set_option maxRecDepth 100000 in
theorem c_L_act_6 (D : va_G) (y : Nat → ClassId) (l : Launch) (S : fb_Sh) (V I : fb_V) (a1 ns nt N F : Nat) (rho cf rf df : Nat → Nat) (hI : Iv a1 S V I ns nt rho cf rf df N F) (hn1 : 1 ≤ ns) (ht1 : 1 ≤ nt) (hN : N ≤ 600000) (x : Int32) (hk9 : blN (x >>> (8 &&& 31)) 9 = 6)  : CI D y l yL_act wsL_act rm_L_act [.ref (sa S 0), .ref (sa S 1000), .int x] (S, V, (sT V), I) (fun z u => ActP a1 S V I ns nt rho cf rf df N z u) 10 60 := by
  refine CI.of (cc := cL_act) (maxL := 15) (ret := (some .boolean)) (by decide) rfl (Nat.le_of_ble_eq_true rfl) ?_
  intro pv ev s mv below meth cv A hx hb hml hr hown hts hlocks hname hM ls hl
  have hown : s.vm.findClass RL = some mv.cls := hown
  have hl : lv_has ls 15 [(0, .ref (sa S 0)), (1, .ref (sa S 1000)), (2, .int x)] := hl
  have hin3 : ∀ x ∈ wsX30, x ∈ wsL_act := by decide +kernel
  have hin4 : ∀ x ∈ wsX40, x ∈ wsL_act := by decide +kernel
  have hin14 : ∀ x ∈ wsX50, x ∈ wsL_act := by decide +kernel
  obtain ⟨Q, hQ⟩ : ∃ Q, Q = MQ below (va_Qi (fun z u => ActP a1 S V I ns nt rho cf rf df N z u) (fun u t => fb_P D y A u t) A) (([.ref (sa S 0), .ref (sa S 1000), .int x] : List Value).toArray) s 10 60 A := ⟨_, rfl⟩
  rw [← hQ]
  obtain ⟨⟨hC, hA⟩, ⟨hRh, hFs⟩, hCF, ⟨hW, hSk, hCh, hTk, hTZ⟩, hns4, hnt3⟩ := id hI
  obtain ⟨w0, hw1, hw20, hw0, hw00⟩ := hW.1
  have hFs4 := hFs.1
  refine lv_iload_n hx hb dL_act_0 rfl (lv_at hl 2 rfl) ?_
  refine lv_aload_n hx hb dL_act_1 rfl (lv_at hl 1 rfl) ?_
  refine fb_get (r := 1000) hx hb hown hts hin4 hM (hA.1.1) (ce4 (hA.1.2)) rfl 0 (by decide) (hts (.fieldLink RL 32 "FeatherBedsLaw$Sim" "sacks" "[[I") (by decide +kernel)) (fun _ h9 => h9) (v := .ref (sa S (1020 + ns))) (congrArg (fun z => some (va_rf z)) (hA.2.1.1)) dL_act_2 ?_
  refine fb_alen (r := (1020 + ns)) hx hb hM (hA.2.2.1.1) (ce10 (hA.2.2.1.2.1)) 4 rfl (v := nI ns) (congrArg Int32.ofNat (hA.2.2.1.2.2)) dL_act_5 ?_
  refine fb_callSi hx hb hml hown hts hM (As := [.int x, .int (nI ns)]) (rest := []) (c_L_below D y l S V I x ns (by omega) (by omega)) (va_cwS 2 hts gL_act_L_below rfl rfl rfl (by decide +kernel) ⟨Nat.le_of_ble_eq_true rfl, Nat.le_of_ble_eq_true rfl⟩) rfl hl.1 rfl (Nat.le_of_ble_eq_true rfl) dL_act_6 ⟨Nat.le_of_ble_eq_true rfl, Nat.le_of_ble_eq_true rfl⟩ (fun v_1 u_ H locs hp hM => ?_)
  obtain ⟨hv_, hu_⟩ := hp
  have hv_ := Eq.symm hv_
  have hu_ := Eq.symm hu_
  subst hv_
  subst hu_
  obtain ⟨i, ei⟩ : ∃ i, i = blN x ns := ⟨_, rfl⟩
  have hi : i < ns := by rw [ei]; exact blN_lt _ (by omega)
  rw [← ei]
  have hri := hRh.1 i hi
  refine lv_istore_n (lv' := [(3, .int (nI i)), (0, .ref (sa S 0)), (1, .ref (sa S 1000)), (2, .int x)]) hx hb dL_act_9 rfl hl (by decide) rfl (fun ls hl => ?_)
  refine lv_iload_n hx hb dL_act_10 rfl (lv_at hl 3 rfl) ?_
  refine lv_iconst (v := 3) hx hb dL_act_11 (by decide) ?_
  refine lv_ishr hx hb dL_act_12 ?_
  refine lv_iconst (v := 5) hx hb dL_act_13 (by decide) ?_
  refine fb_callSi hx hb hml hown hts hM (As := [.int (x >>> (3 &&& 31)), .int 5]) (rest := []) (c_L_below D y l S V I (x >>> (3 &&& 31)) 5 (by omega) (by omega)) (va_cwS 2 hts gL_act_L_below rfl rfl rfl (by decide +kernel) ⟨Nat.le_of_ble_eq_true rfl, Nat.le_of_ble_eq_true rfl⟩) rfl hl.1 rfl (Nat.le_of_ble_eq_true rfl) dL_act_14 ⟨Nat.le_of_ble_eq_true rfl, Nat.le_of_ble_eq_true rfl⟩ (fun v_2 u_ H locs hp hM => ?_)
  obtain ⟨hv_, hu_⟩ := hp
  have hv_ := Eq.symm hv_
  have hu_ := Eq.symm hu_
  subst hv_
  subst hu_
  obtain ⟨c, ec⟩ : ∃ c, c = blN (x >>> (3 &&& 31)) 5 := ⟨_, rfl⟩
  have hc : c < 5 := by rw [ec]; exact blN_lt _ (by omega)
  rw [← ec]
  refine lv_istore (lv' := [(4, .int (nI c)), (3, .int (nI i)), (0, .ref (sa S 0)), (1, .ref (sa S 1000)), (2, .int x)]) hx hb dL_act_17 hl (by decide) rfl (fun ls hl => ?_)
  refine lv_iload_n hx hb dL_act_19 rfl (lv_at hl 4 rfl) ?_
  refine lv_iconst (v := 2) hx hb dL_act_20 (by decide) ?_
  refine lv_ishr hx hb dL_act_21 ?_
  refine lv_aload_n hx hb dL_act_22 rfl (lv_at hl 3 rfl) ?_
  refine fb_get (r := 1000) hx hb hown hts hin4 hM (hA.1.1) (ce4 (hA.1.2)) rfl 4 (by decide) (hts (.fieldLink RL 47 "FeatherBedsLaw$Sim" "ticks" "[LFeatherBedsLaw$Tick;") (by decide +kernel)) (fun _ h9 => h9) (v := .ref (sa S (1040 + nt))) (congrArg (fun z => some (va_rf z)) (hA.2.1.2.2.2)) dL_act_23 ?_
  refine fb_alen (r := (1040 + nt)) hx hb hM (hA.2.2.2.2.2.1.1) (ce13 (hA.2.2.2.2.2.1.2.1)) 6 rfl (v := nI nt) (congrArg Int32.ofNat (hA.2.2.2.2.2.1.2.2)) dL_act_26 ?_
  refine fb_callSi hx hb hml hown hts hM (As := [.int (x >>> (2 &&& 31)), .int (nI nt)]) (rest := []) (c_L_below D y l S V I (x >>> (2 &&& 31)) nt (by omega) (by omega)) (va_cwS 2 hts gL_act_L_below rfl rfl rfl (by decide +kernel) ⟨Nat.le_of_ble_eq_true rfl, Nat.le_of_ble_eq_true rfl⟩) rfl hl.1 rfl (Nat.le_of_ble_eq_true rfl) dL_act_27 ⟨Nat.le_of_ble_eq_true rfl, Nat.le_of_ble_eq_true rfl⟩ (fun v_3 u_ H locs hp hM => ?_)
  obtain ⟨hv_, hu_⟩ := hp
  have hv_ := Eq.symm hv_
  have hu_ := Eq.symm hu_
  subst hv_
  subst hu_
  obtain ⟨t, et⟩ : ∃ t, t = blN (x >>> (2 &&& 31)) nt := ⟨_, rfl⟩
  have ht : t < nt := by rw [et]; exact blN_lt _ (by omega)
  rw [← et]
  have htk := hTk t ht
  have hcr := htk.n36
  have hLt := (hA.2.2.2.2.2.2.2.2 t ht).2
  refine lv_istore (lv' := [(5, .int (nI t)), (4, .int (nI c)), (3, .int (nI i)), (0, .ref (sa S 0)), (1, .ref (sa S 1000)), (2, .int x)]) hx hb dL_act_30 hl (by decide) rfl (fun ls hl => ?_)
  refine lv_aload_n hx hb dL_act_32 rfl (lv_at hl 4 rfl) ?_
  refine fb_get (r := 1000) hx hb hown hts hin4 hM (hA.1.1) (ce4 (hA.1.2)) rfl 4 (by decide) (hts (.fieldLink RL 47 "FeatherBedsLaw$Sim" "ticks" "[LFeatherBedsLaw$Tick;") (by decide +kernel)) (fun _ h9 => h9) (v := .ref (sa S (1040 + nt))) (congrArg (fun z => some (va_rf z)) (hA.2.1.2.2.2)) dL_act_33 ?_
  refine lv_iload hx hb dL_act_36 (lv_at hl 0 rfl) ?_
  refine fb_aald (r := (1040 + nt)) hx hb hM (hA.2.2.2.2.2.1.1) (ce13 (hA.2.2.2.2.2.1.2.1)) 6 rfl (k := t) (nI_clamp (by omega)) (b := sa S (1100 + 100 * t)) ((hA.2.2.2.2.2.2.2.2 t (by omega)).1) (by rw [hA.2.2.2.2.2.1.2.2]; exact vp_in_nI (by omega) (by omega)) dL_act_38 ?_
  refine lv_astore (lv' := [(6, .ref (sa S (1100 + 100 * t))), (5, .int (nI t)), (4, .int (nI c)), (3, .int (nI i)), (0, .ref (sa S 0)), (1, .ref (sa S 1000)), (2, .int x)]) hx hb dL_act_39 hl (by decide) rfl (fun ls hl => ?_)
  refine lv_iload_n hx hb dL_act_41 rfl (lv_at hl 6 rfl) ?_
  refine lv_iconst (v := 4) hx hb dL_act_42 (by decide) ?_
  refine lv_ishr hx hb dL_act_43 ?_
  refine lv_aload hx hb dL_act_44 (lv_at hl 0 rfl) ?_
  refine fb_get (r := (1100 + 100 * t)) hx hb hown hts hin14 hM (hLt.1.1) (ce14 (hLt.1.2)) rfl 3 (by decide) (hts (.fieldLink RL 51 "FeatherBedsLaw$Tick" "squares" "[[I") (by decide +kernel)) (fun _ h9 => h9) (v := .ref (sa S ((1100 + 100 * t) + 9))) (congrArg (fun z => some (va_rf z)) (hLt.2.1)) dL_act_46 ?_
  refine fb_alen (r := ((1100 + 100 * t) + 9)) hx hb hM (hLt.2.2.2.1.1) (ce10 (hLt.2.2.2.1.2.1)) 4 rfl (v := nI (cf t * rf t)) (congrArg Int32.ofNat (hLt.2.2.2.1.2.2)) dL_act_49 ?_
  refine fb_callSi hx hb hml hown hts hM (As := [.int (x >>> (4 &&& 31)), .int (nI ((cf t * rf t)))]) (rest := []) (c_L_below D y l S V I (x >>> (4 &&& 31)) (cf t * rf t) (by omega) (by omega)) (va_cwS 2 hts gL_act_L_below rfl rfl rfl (by decide +kernel) ⟨Nat.le_of_ble_eq_true rfl, Nat.le_of_ble_eq_true rfl⟩) rfl hl.1 rfl (Nat.le_of_ble_eq_true rfl) dL_act_50 ⟨Nat.le_of_ble_eq_true rfl, Nat.le_of_ble_eq_true rfl⟩ (fun v_4 u_ H locs hp hM => ?_)
  obtain ⟨hv_, hu_⟩ := hp
  have hv_ := Eq.symm hv_
  have hu_ := Eq.symm hu_
  subst hv_
  subst hu_
  obtain ⟨q, eq⟩ : ∃ q, q = blN (x >>> (4 &&& 31)) (cf t * rf t) := ⟨_, rfl⟩
  have hq : q < (cf t * rf t) := by rw [eq]; exact blN_lt _ (by omega)
  rw [← eq]
  refine lv_istore (lv' := [(7, .int (nI q)), (6, .ref (sa S (1100 + 100 * t))), (5, .int (nI t)), (4, .int (nI c)), (3, .int (nI i)), (0, .ref (sa S 0)), (1, .ref (sa S 1000)), (2, .int x)]) hx hb dL_act_53 hl (by decide) rfl (fun ls hl => ?_)
  refine lv_iconst (v := 1) hx hb dL_act_55 (by decide) ?_
  refine lv_iload_n hx hb dL_act_56 rfl (lv_at hl 7 rfl) ?_
  refine lv_iconst (v := 5) hx hb dL_act_57 (by decide) ?_
  refine lv_ishr hx hb dL_act_58 ?_
  refine lv_sipush (v := 300) hx hb dL_act_59 (by decide) ?_
  refine fb_callSi hx hb hml hown hts hM (As := [.int (x >>> (5 &&& 31)), .int 300]) (rest := [.int 1]) (c_L_below D y l S V I (x >>> (5 &&& 31)) 300 (by omega) (by omega)) (va_cwS 2 hts gL_act_L_below rfl rfl rfl (by decide +kernel) ⟨Nat.le_of_ble_eq_true rfl, Nat.le_of_ble_eq_true rfl⟩) rfl hl.1 rfl (Nat.le_of_ble_eq_true rfl) dL_act_62 ⟨Nat.le_of_ble_eq_true rfl, Nat.le_of_ble_eq_true rfl⟩ (fun v_5 u_ H locs hp hM => ?_)
  obtain ⟨hv_, hu_⟩ := hp
  have hv_ := Eq.symm hv_
  have hu_ := Eq.symm hu_
  subst hv_
  subst hu_
  obtain ⟨m0, em0⟩ : ∃ m0, m0 = blN (x >>> (5 &&& 31)) 300 := ⟨_, rfl⟩
  have hm0 : m0 < 300 := by rw [em0]; exact blN_lt _ (by omega)
  rw [← em0]
  refine lv_iadd hx hb dL_act_65 ?_
  refine W.eq (g2 := F0 mv _ ls (.int (nI (1 + m0)) :: [])) (by rw [show (1 + (nI m0) : Int32) = nI (1 + m0) from nI_add 1 m0]) ?_
  obtain ⟨m, em⟩ : ∃ m, m = 1 + m0 := ⟨_, rfl⟩
  have hma : 1 ≤ m := by omega
  have hm : m ≤ 300 := by omega
  rw [← em]
  refine lv_istore (lv' := [(8, .int (nI m)), (7, .int (nI q)), (6, .ref (sa S (1100 + 100 * t))), (5, .int (nI t)), (4, .int (nI c)), (3, .int (nI i)), (0, .ref (sa S 0)), (1, .ref (sa S 1000)), (2, .int x)]) hx hb dL_act_66 hl (by decide) rfl (fun ls hl => ?_)
  refine lv_iload_n hx hb dL_act_68 rfl (lv_at hl 8 rfl) ?_
  refine lv_bipush (v := 8) hx hb dL_act_69 (by decide) ?_
  refine lv_ishr hx hb dL_act_71 ?_
  refine lv_bipush (v := 9) hx hb dL_act_72 (by decide) ?_
  refine fb_callSi hx hb hml hown hts hM (As := [.int (x >>> (8 &&& 31)), .int 9]) (rest := []) (c_L_below D y l S V I (x >>> (8 &&& 31)) 9 (by omega) (by omega)) (va_cwS 2 hts gL_act_L_below rfl rfl rfl (by decide +kernel) ⟨Nat.le_of_ble_eq_true rfl, Nat.le_of_ble_eq_true rfl⟩) rfl hl.1 rfl (Nat.le_of_ble_eq_true rfl) dL_act_74 ⟨Nat.le_of_ble_eq_true rfl, Nat.le_of_ble_eq_true rfl⟩ (fun v_6 u_ H locs hp hM => ?_)
  obtain ⟨hv_, hu_⟩ := hp
  have hv_ := Eq.symm hv_
  have hu_ := Eq.symm hu_
  subst hv_
  subst hu_
  refine W.eq (g2 := F0 mv _ ls (.int (nI 6) :: [])) (by rw [show (nI (blN (x >>> (8 &&& 31)) 9) : Int32) = nI 6 from congrArg nI hk9]) ?_
  refine lv_tableIn (off := 415) (tgt := 492) hx hb dL_act_77 (by decide) (by decide) rfl (by decide) ?_
  refine lv_iload_n hx hb dL_act_492 rfl (lv_at hl 8 rfl) ?_
  refine lv_bipush (v := 6) hx hb dL_act_493 (by decide) ?_
  refine lv_ishr hx hb dL_act_495 ?_
  refine lv_aload hx hb dL_act_496 (lv_at hl 2 rfl) ?_
  refine fb_get (r := (1100 + 100 * t)) hx hb hown hts hin14 hM (hLt.1.1) (ce14 (hLt.1.2)) rfl 3 (by decide) (hts (.fieldLink RL 51 "FeatherBedsLaw$Tick" "squares" "[[I") (by decide +kernel)) (fun _ h9 => h9) (v := .ref (sa S ((1100 + 100 * t) + 9))) (congrArg (fun z => some (va_rf z)) (hLt.2.1)) dL_act_498 ?_
  refine fb_alen (r := ((1100 + 100 * t) + 9)) hx hb hM (hLt.2.2.2.1.1) (ce10 (hLt.2.2.2.1.2.1)) 4 rfl (v := nI (cf t * rf t)) (congrArg Int32.ofNat (hLt.2.2.2.1.2.2)) dL_act_501 ?_
  refine fb_callSi hx hb hml hown hts hM (As := [.int (x >>> (6 &&& 31)), .int (nI ((cf t * rf t)))]) (rest := []) (c_L_below D y l S V I (x >>> (6 &&& 31)) (cf t * rf t) (by omega) (by omega)) (va_cwS 2 hts gL_act_L_below rfl rfl rfl (by decide +kernel) ⟨Nat.le_of_ble_eq_true rfl, Nat.le_of_ble_eq_true rfl⟩) rfl hl.1 rfl (Nat.le_of_ble_eq_true rfl) dL_act_502 ⟨Nat.le_of_ble_eq_true rfl, Nat.le_of_ble_eq_true rfl⟩ (fun v_7 u_ H locs hp hM => ?_)
  obtain ⟨hv_, hu_⟩ := hp
  have hv_ := Eq.symm hv_
  have hu_ := Eq.symm hu_
  subst hv_
  subst hu_
  obtain ⟨z, ez⟩ : ∃ z, z = blN (x >>> (6 &&& 31)) (cf t * rf t) := ⟨_, rfl⟩
  have hz : z < (cf t * rf t) := by rw [ez]; exact blN_lt _ (by omega)
  rw [← ez]
  refine lv_istore (lv' := [(13, .int (nI z)), (8, .int (nI m)), (7, .int (nI q)), (6, .ref (sa S (1100 + 100 * t))), (5, .int (nI t)), (4, .int (nI c)), (3, .int (nI i)), (0, .ref (sa S 0)), (1, .ref (sa S 1000)), (2, .int x)]) hx hb dL_act_505 hl (by decide) rfl (fun ls hl => ?_)
  refine lv_iload hx hb dL_act_507 (lv_at hl 0 rfl) ?_
  refine lv_iload hx hb dL_act_509 (lv_at hl 2 rfl) ?_
  refine lv_icmp_eq (tgt := 550) hx hb dL_act_511 (by decide) (fun c_8 => ?_) (fun c_8 => ?_)
  · skip
    skip
    refine lv_iconst (v := 1) hx hb dL_act_550 (by decide) ?_
    refine lv_goto (tgt := 555) hx hb dL_act_551 (by decide) ?_
    rw [hQ]
    refine W.widen (show _ ≤ 10 from Nat.le_of_ble_eq_true rfl) (show _ ≤ 60 from Nat.le_of_ble_eq_true rfl) ?_
    exact fb_zret hx hb hr (by first | rfl | decide | assumption) hlocks hM (ActP.of (Ac.nil hI) (by omega)) dL_act_555
  · skip
    have hqz : q ≠ z := fun h9 => c_8 (by rw [h9])
    refine lv_aload_n hx hb dL_act_514 rfl (lv_at hl 7 rfl) ?_
    refine lv_iload hx hb dL_act_515 (lv_at hl 4 rfl) ?_
    refine lv_iload hx hb dL_act_517 (lv_at hl 2 rfl) ?_
    refine lv_iload hx hb dL_act_519 (lv_at hl 0 rfl) ?_
    refine lv_iload hx hb dL_act_521 (lv_at hl 1 rfl) ?_
    refine fb_callVi (r := 0) hx hb hml hown hts hM (hC.1.1) (ce3 (hC.1.2)) rfl (As := [.int (nI t), .int (nI q), .int (nI z), .int (nI m)]) (rest := []) (c_X3_shift_ok D y l S V I a1 ns nt 4 10 hC cf rf df hCF t ht q hq z hz hqz m hma hm) (cwV 4 hts gL_act_X3_shift rfl rfl rfl (by decide +kernel) ⟨Nat.le_of_ble_eq_true rfl, Nat.le_of_ble_eq_true rfl⟩) rfl hl.1 rfl (Nat.le_of_ble_eq_true rfl) dL_act_523 ⟨Nat.le_of_ble_eq_true rfl, Nat.le_of_ble_eq_true rfl⟩ (fun v_9 u_ H locs hp hM => ?_)
    obtain ⟨hv_, hu_⟩ := hp
    have hv_ := Eq.symm hv_
    have hu_ := Eq.symm hu_
    subst hv_
    subst hu_
    obtain ⟨mv1, mv2, mv3, mv4, mv5⟩ := MVE (A := (V (300 + 72 * t + 2 * q))) (B := (V (300 + 72 * t + 2 * z))) (m := m) (htk.2.1 q (by omega)) (by omega) (htk.2.1 z (by omega)) hm
    rw [mv2, mv3] at hM
    refine W.eq (g2 := F0 mv _ ls (.int ((mn (nI m) (mn (s6 (V (300 + 72 * t + 2 * q))) (300 - s6 (V (300 + 72 * t + 2 * z)))))) :: [])) (by rw [show (mvm (V (300 + 72 * t + 2 * q)) (mn (nI m) (300 - s6 (V (300 + 72 * t + 2 * z)))) 6 : Int32) = (mn (nI m) (mn (s6 (V (300 + 72 * t + 2 * q))) (300 - s6 (V (300 + 72 * t + 2 * z))))) from mv1]) ?_
    have eq1 : I (1100 + 100 * t + 10 + q) = (V (300 + 72 * t + 2 * q)) := htk.2.2.1 q hq
    have eq2 : I (1100 + 100 * t + 10 + z) = (V (300 + 72 * t + 2 * z)) := htk.2.2.1 z hz
    refine lv_aload hx hb dL_act_526 (lv_at hl 3 rfl) ?_
    refine fb_get (r := (1100 + 100 * t)) hx hb hown hts hin14 hM (hLt.1.1) (ce14 (hLt.1.2)) rfl 3 (by decide) (hts (.fieldLink RL 51 "FeatherBedsLaw$Tick" "squares" "[[I") (by decide +kernel)) (fun _ h9 => h9) (v := .ref (sa S ((1100 + 100 * t) + 9))) (congrArg (fun z => some (va_rf z)) (hLt.2.1)) dL_act_528 ?_
    refine lv_iload hx hb dL_act_531 (lv_at hl 2 rfl) ?_
    refine fb_aaldA (r := ((1100 + 100 * t) + 9)) hx hb hM (hLt.2.2.2.1.1) (ce10 (hLt.2.2.2.1.2.1)) 4 rfl (k := q) (nI_clamp (by omega)) (b := sa S ((1100 + 100 * t) + 10 + q)) ((hLt.2.2.2.2.2 q (by omega)).1.1) (by rw [hLt.2.2.2.1.2.2]; exact vp_in_nI (by omega) (by omega)) dL_act_533 ?_
    refine lv_aload hx hb dL_act_534 (lv_at hl 3 rfl) ?_
    refine fb_get (r := (1100 + 100 * t)) hx hb hown hts hin14 hM (hLt.1.1) (ce14 (hLt.1.2)) rfl 3 (by decide) (hts (.fieldLink RL 51 "FeatherBedsLaw$Tick" "squares" "[[I") (by decide +kernel)) (fun _ h9 => h9) (v := .ref (sa S ((1100 + 100 * t) + 9))) (congrArg (fun z => some (va_rf z)) (hLt.2.1)) dL_act_536 ?_
    refine lv_iload hx hb dL_act_539 (lv_at hl 0 rfl) ?_
    refine fb_aaldA (r := ((1100 + 100 * t) + 9)) hx hb hM (hLt.2.2.2.1.1) (ce10 (hLt.2.2.2.1.2.1)) 4 rfl (k := z) (nI_clamp (by omega)) (b := sa S ((1100 + 100 * t) + 10 + z)) ((hLt.2.2.2.2.2 z (by omega)).1.1) (by rw [hLt.2.2.2.1.2.2]; exact vp_in_nI (by omega) (by omega)) dL_act_541 ?_
    refine lv_iload hx hb dL_act_542 (lv_at hl 1 rfl) ?_
    refine fb_callSi hx hb hml hown hts hM (As := [.ref (sa S ((1100 + 100 * t) + 10 + q)), .ref (sa S ((1100 + 100 * t) + 10 + z)), .int (nI m)]) (rest := [.int ((mn (nI m) (mn (s6 (V (300 + 72 * t + 2 * q))) (300 - s6 (V (300 + 72 * t + 2 * z))))))]) (c_X4_take D y l S (va_up (va_up V (300 + 72 * t + 2 * q) (mva (V (300 + 72 * t + 2 * q)) (mn (nI m) (mn (s6 (V (300 + 72 * t + 2 * q))) (300 - s6 (V (300 + 72 * t + 2 * z))))) 6)) (300 + 72 * t + 2 * z) (mvb (V (300 + 72 * t + 2 * q)) (V (300 + 72 * t + 2 * z)) (mn (nI m) (mn (s6 (V (300 + 72 * t + 2 * q))) (300 - s6 (V (300 + 72 * t + 2 * z))))) 6)) I (1100 + 100 * t + 10 + q) (1100 + 100 * t + 10 + z) (hLt.2.2.2.2.2 q (by omega)).1.2 (hLt.2.2.2.2.2 z (by omega)).1.2 (by omega) (nI m)) (va_cwS 3 hts gL_act_X4_take rfl rfl rfl (by decide +kernel) ⟨Nat.le_of_ble_eq_true rfl, Nat.le_of_ble_eq_true rfl⟩) rfl hl.1 rfl (Nat.le_of_ble_eq_true rfl) dL_act_544 ⟨Nat.le_of_ble_eq_true rfl, Nat.le_of_ble_eq_true rfl⟩ (fun v_10 u_ H locs hp hM => ?_)
    obtain ⟨hv_, hu_⟩ := hp
    have hv_ := Eq.symm hv_
    have hu_ := Eq.symm hu_
    subst hv_
    subst hu_
    have eI : (tk2 I (1100 + 100 * t + 10 + q) (1100 + 100 * t + 10 + z) (I (1100 + 100 * t + 10 + q)) (I (1100 + 100 * t + 10 + z)) (mn (nI m) (mn (s6 (I (1100 + 100 * t + 10 + q))) (300 - s6 (I (1100 + 100 * t + 10 + z))))) 6) = (va_up (va_up I (1100 + 100 * t + 10 + q) (mva (V (300 + 72 * t + 2 * q)) (mn (nI m) (mn (s6 (V (300 + 72 * t + 2 * q))) (300 - s6 (V (300 + 72 * t + 2 * z))))) 6)) (1100 + 100 * t + 10 + z) (mvb (V (300 + 72 * t + 2 * q)) (V (300 + 72 * t + 2 * z)) (mn (nI m) (mn (s6 (V (300 + 72 * t + 2 * q))) (300 - s6 (V (300 + 72 * t + 2 * z))))) 6)) := by unfold tk2; rw [eq1, eq2]
    rw [eI] at hM
    clear eI
    refine W.eq (g2 := F0 mv _ ls (.int ((mn (nI m) (mn (s6 (V (300 + 72 * t + 2 * q))) (300 - s6 (V (300 + 72 * t + 2 * z)))))) :: .int ((mn (nI m) (mn (s6 (V (300 + 72 * t + 2 * q))) (300 - s6 (V (300 + 72 * t + 2 * z)))))) :: [])) (by rw [show (mn (nI m) (mn (s6 (I (1100 + 100 * t + 10 + q))) (300 - s6 (I (1100 + 100 * t + 10 + z)))) : Int32) = (mn (nI m) (mn (s6 (V (300 + 72 * t + 2 * q))) (300 - s6 (V (300 + 72 * t + 2 * z))))) from by rw [eq1, eq2]]) ?_
    refine lv_icmp_ne (tgt := 554) hx hb dL_act_547 (by decide) (fun c_11 => absurd (rfl) c_11) (fun c_11 => ?_)
    refine lv_iconst (v := 1) hx hb dL_act_550 (by decide) ?_
    refine lv_goto (tgt := 555) hx hb dL_act_551 (by decide) ?_
    rw [hQ]
    refine W.widen (show _ ≤ 10 from Nat.le_of_ble_eq_true rfl) (show _ ≤ 60 from Nat.le_of_ble_eq_true rfl) ?_
    exact fb_zret hx hb hr (by first | rfl | decide | assumption) hlocks hM (ActP.of (Ac.shift hI ht hq hz hqz mv4 mv5 (s6_mv _ _ _) rfl rfl) (by omega)) dL_act_555

set_option maxHeartbeats 4000000 in
set_option maxRecDepth 100000 in
theorem c_L_act_7 (D : va_G) (y : Nat → ClassId) (l : Launch) (S : fb_Sh) (V I : fb_V) (a1 ns nt N F : Nat) (rho cf rf df : Nat → Nat) (hI : Iv a1 S V I ns nt rho cf rf df N F) (hn1 : 1 ≤ ns) (ht1 : 1 ≤ nt) (hN : N ≤ 600000) (x : Int32) (hk9 : blN (x >>> (8 &&& 31)) 9 = 7)  : CI D y l yL_act wsL_act rm_L_act [.ref (sa S 0), .ref (sa S 1000), .int x] (S, V, (sT V), I) (fun z u => ActP a1 S V I ns nt rho cf rf df N z u) 10 60 := by
  refine CI.of (cc := cL_act) (maxL := 15) (ret := (some .boolean)) (by decide) rfl (Nat.le_of_ble_eq_true rfl) ?_
  intro pv ev s mv below meth cv A hx hb hml hr hown hts hlocks hname hM ls hl
  have hown : s.vm.findClass RL = some mv.cls := hown
  have hl : lv_has ls 15 [(0, .ref (sa S 0)), (1, .ref (sa S 1000)), (2, .int x)] := hl
  have hin3 : ∀ x ∈ wsX30, x ∈ wsL_act := by decide +kernel
  have hin4 : ∀ x ∈ wsX40, x ∈ wsL_act := by decide +kernel
  have hin14 : ∀ x ∈ wsX50, x ∈ wsL_act := by decide +kernel
  obtain ⟨Q, hQ⟩ : ∃ Q, Q = MQ below (va_Qi (fun z u => ActP a1 S V I ns nt rho cf rf df N z u) (fun u t => fb_P D y A u t) A) (([.ref (sa S 0), .ref (sa S 1000), .int x] : List Value).toArray) s 10 60 A := ⟨_, rfl⟩
  rw [← hQ]
  obtain ⟨⟨hC, hA⟩, ⟨hRh, hFs⟩, hCF, ⟨hW, hSk, hCh, hTk, hTZ⟩, hns4, hnt3⟩ := id hI
  obtain ⟨w0, hw1, hw20, hw0, hw00⟩ := hW.1
  have hFs4 := hFs.1
  refine lv_iload_n hx hb dL_act_0 rfl (lv_at hl 2 rfl) ?_
  refine lv_aload_n hx hb dL_act_1 rfl (lv_at hl 1 rfl) ?_
  refine fb_get (r := 1000) hx hb hown hts hin4 hM (hA.1.1) (ce4 (hA.1.2)) rfl 0 (by decide) (hts (.fieldLink RL 32 "FeatherBedsLaw$Sim" "sacks" "[[I") (by decide +kernel)) (fun _ h9 => h9) (v := .ref (sa S (1020 + ns))) (congrArg (fun z => some (va_rf z)) (hA.2.1.1)) dL_act_2 ?_
  refine fb_alen (r := (1020 + ns)) hx hb hM (hA.2.2.1.1) (ce10 (hA.2.2.1.2.1)) 4 rfl (v := nI ns) (congrArg Int32.ofNat (hA.2.2.1.2.2)) dL_act_5 ?_
  refine fb_callSi hx hb hml hown hts hM (As := [.int x, .int (nI ns)]) (rest := []) (c_L_below D y l S V I x ns (by omega) (by omega)) (va_cwS 2 hts gL_act_L_below rfl rfl rfl (by decide +kernel) ⟨Nat.le_of_ble_eq_true rfl, Nat.le_of_ble_eq_true rfl⟩) rfl hl.1 rfl (Nat.le_of_ble_eq_true rfl) dL_act_6 ⟨Nat.le_of_ble_eq_true rfl, Nat.le_of_ble_eq_true rfl⟩ (fun v_1 u_ H locs hp hM => ?_)
  obtain ⟨hv_, hu_⟩ := hp
  have hv_ := Eq.symm hv_
  have hu_ := Eq.symm hu_
  subst hv_
  subst hu_
  obtain ⟨i, ei⟩ : ∃ i, i = blN x ns := ⟨_, rfl⟩
  have hi : i < ns := by rw [ei]; exact blN_lt _ (by omega)
  rw [← ei]
  have hri := hRh.1 i hi
  refine lv_istore_n (lv' := [(3, .int (nI i)), (0, .ref (sa S 0)), (1, .ref (sa S 1000)), (2, .int x)]) hx hb dL_act_9 rfl hl (by decide) rfl (fun ls hl => ?_)
  refine lv_iload_n hx hb dL_act_10 rfl (lv_at hl 3 rfl) ?_
  refine lv_iconst (v := 3) hx hb dL_act_11 (by decide) ?_
  refine lv_ishr hx hb dL_act_12 ?_
  refine lv_iconst (v := 5) hx hb dL_act_13 (by decide) ?_
  refine fb_callSi hx hb hml hown hts hM (As := [.int (x >>> (3 &&& 31)), .int 5]) (rest := []) (c_L_below D y l S V I (x >>> (3 &&& 31)) 5 (by omega) (by omega)) (va_cwS 2 hts gL_act_L_below rfl rfl rfl (by decide +kernel) ⟨Nat.le_of_ble_eq_true rfl, Nat.le_of_ble_eq_true rfl⟩) rfl hl.1 rfl (Nat.le_of_ble_eq_true rfl) dL_act_14 ⟨Nat.le_of_ble_eq_true rfl, Nat.le_of_ble_eq_true rfl⟩ (fun v_2 u_ H locs hp hM => ?_)
  obtain ⟨hv_, hu_⟩ := hp
  have hv_ := Eq.symm hv_
  have hu_ := Eq.symm hu_
  subst hv_
  subst hu_
  obtain ⟨c, ec⟩ : ∃ c, c = blN (x >>> (3 &&& 31)) 5 := ⟨_, rfl⟩
  have hc : c < 5 := by rw [ec]; exact blN_lt _ (by omega)
  rw [← ec]
  refine lv_istore (lv' := [(4, .int (nI c)), (3, .int (nI i)), (0, .ref (sa S 0)), (1, .ref (sa S 1000)), (2, .int x)]) hx hb dL_act_17 hl (by decide) rfl (fun ls hl => ?_)
  refine lv_iload_n hx hb dL_act_19 rfl (lv_at hl 4 rfl) ?_
  refine lv_iconst (v := 2) hx hb dL_act_20 (by decide) ?_
  refine lv_ishr hx hb dL_act_21 ?_
  refine lv_aload_n hx hb dL_act_22 rfl (lv_at hl 3 rfl) ?_
  refine fb_get (r := 1000) hx hb hown hts hin4 hM (hA.1.1) (ce4 (hA.1.2)) rfl 4 (by decide) (hts (.fieldLink RL 47 "FeatherBedsLaw$Sim" "ticks" "[LFeatherBedsLaw$Tick;") (by decide +kernel)) (fun _ h9 => h9) (v := .ref (sa S (1040 + nt))) (congrArg (fun z => some (va_rf z)) (hA.2.1.2.2.2)) dL_act_23 ?_
  refine fb_alen (r := (1040 + nt)) hx hb hM (hA.2.2.2.2.2.1.1) (ce13 (hA.2.2.2.2.2.1.2.1)) 6 rfl (v := nI nt) (congrArg Int32.ofNat (hA.2.2.2.2.2.1.2.2)) dL_act_26 ?_
  refine fb_callSi hx hb hml hown hts hM (As := [.int (x >>> (2 &&& 31)), .int (nI nt)]) (rest := []) (c_L_below D y l S V I (x >>> (2 &&& 31)) nt (by omega) (by omega)) (va_cwS 2 hts gL_act_L_below rfl rfl rfl (by decide +kernel) ⟨Nat.le_of_ble_eq_true rfl, Nat.le_of_ble_eq_true rfl⟩) rfl hl.1 rfl (Nat.le_of_ble_eq_true rfl) dL_act_27 ⟨Nat.le_of_ble_eq_true rfl, Nat.le_of_ble_eq_true rfl⟩ (fun v_3 u_ H locs hp hM => ?_)
  obtain ⟨hv_, hu_⟩ := hp
  have hv_ := Eq.symm hv_
  have hu_ := Eq.symm hu_
  subst hv_
  subst hu_
  obtain ⟨t, et⟩ : ∃ t, t = blN (x >>> (2 &&& 31)) nt := ⟨_, rfl⟩
  have ht : t < nt := by rw [et]; exact blN_lt _ (by omega)
  rw [← et]
  have htk := hTk t ht
  have hcr := htk.n36
  have hLt := (hA.2.2.2.2.2.2.2.2 t ht).2
  refine lv_istore (lv' := [(5, .int (nI t)), (4, .int (nI c)), (3, .int (nI i)), (0, .ref (sa S 0)), (1, .ref (sa S 1000)), (2, .int x)]) hx hb dL_act_30 hl (by decide) rfl (fun ls hl => ?_)
  refine lv_aload_n hx hb dL_act_32 rfl (lv_at hl 4 rfl) ?_
  refine fb_get (r := 1000) hx hb hown hts hin4 hM (hA.1.1) (ce4 (hA.1.2)) rfl 4 (by decide) (hts (.fieldLink RL 47 "FeatherBedsLaw$Sim" "ticks" "[LFeatherBedsLaw$Tick;") (by decide +kernel)) (fun _ h9 => h9) (v := .ref (sa S (1040 + nt))) (congrArg (fun z => some (va_rf z)) (hA.2.1.2.2.2)) dL_act_33 ?_
  refine lv_iload hx hb dL_act_36 (lv_at hl 0 rfl) ?_
  refine fb_aald (r := (1040 + nt)) hx hb hM (hA.2.2.2.2.2.1.1) (ce13 (hA.2.2.2.2.2.1.2.1)) 6 rfl (k := t) (nI_clamp (by omega)) (b := sa S (1100 + 100 * t)) ((hA.2.2.2.2.2.2.2.2 t (by omega)).1) (by rw [hA.2.2.2.2.2.1.2.2]; exact vp_in_nI (by omega) (by omega)) dL_act_38 ?_
  refine lv_astore (lv' := [(6, .ref (sa S (1100 + 100 * t))), (5, .int (nI t)), (4, .int (nI c)), (3, .int (nI i)), (0, .ref (sa S 0)), (1, .ref (sa S 1000)), (2, .int x)]) hx hb dL_act_39 hl (by decide) rfl (fun ls hl => ?_)
  refine lv_iload_n hx hb dL_act_41 rfl (lv_at hl 6 rfl) ?_
  refine lv_iconst (v := 4) hx hb dL_act_42 (by decide) ?_
  refine lv_ishr hx hb dL_act_43 ?_
  refine lv_aload hx hb dL_act_44 (lv_at hl 0 rfl) ?_
  refine fb_get (r := (1100 + 100 * t)) hx hb hown hts hin14 hM (hLt.1.1) (ce14 (hLt.1.2)) rfl 3 (by decide) (hts (.fieldLink RL 51 "FeatherBedsLaw$Tick" "squares" "[[I") (by decide +kernel)) (fun _ h9 => h9) (v := .ref (sa S ((1100 + 100 * t) + 9))) (congrArg (fun z => some (va_rf z)) (hLt.2.1)) dL_act_46 ?_
  refine fb_alen (r := ((1100 + 100 * t) + 9)) hx hb hM (hLt.2.2.2.1.1) (ce10 (hLt.2.2.2.1.2.1)) 4 rfl (v := nI (cf t * rf t)) (congrArg Int32.ofNat (hLt.2.2.2.1.2.2)) dL_act_49 ?_
  refine fb_callSi hx hb hml hown hts hM (As := [.int (x >>> (4 &&& 31)), .int (nI ((cf t * rf t)))]) (rest := []) (c_L_below D y l S V I (x >>> (4 &&& 31)) (cf t * rf t) (by omega) (by omega)) (va_cwS 2 hts gL_act_L_below rfl rfl rfl (by decide +kernel) ⟨Nat.le_of_ble_eq_true rfl, Nat.le_of_ble_eq_true rfl⟩) rfl hl.1 rfl (Nat.le_of_ble_eq_true rfl) dL_act_50 ⟨Nat.le_of_ble_eq_true rfl, Nat.le_of_ble_eq_true rfl⟩ (fun v_4 u_ H locs hp hM => ?_)
  obtain ⟨hv_, hu_⟩ := hp
  have hv_ := Eq.symm hv_
  have hu_ := Eq.symm hu_
  subst hv_
  subst hu_
  obtain ⟨q, eq⟩ : ∃ q, q = blN (x >>> (4 &&& 31)) (cf t * rf t) := ⟨_, rfl⟩
  have hq : q < (cf t * rf t) := by rw [eq]; exact blN_lt _ (by omega)
  rw [← eq]
  refine lv_istore (lv' := [(7, .int (nI q)), (6, .ref (sa S (1100 + 100 * t))), (5, .int (nI t)), (4, .int (nI c)), (3, .int (nI i)), (0, .ref (sa S 0)), (1, .ref (sa S 1000)), (2, .int x)]) hx hb dL_act_53 hl (by decide) rfl (fun ls hl => ?_)
  refine lv_iconst (v := 1) hx hb dL_act_55 (by decide) ?_
  refine lv_iload_n hx hb dL_act_56 rfl (lv_at hl 7 rfl) ?_
  refine lv_iconst (v := 5) hx hb dL_act_57 (by decide) ?_
  refine lv_ishr hx hb dL_act_58 ?_
  refine lv_sipush (v := 300) hx hb dL_act_59 (by decide) ?_
  refine fb_callSi hx hb hml hown hts hM (As := [.int (x >>> (5 &&& 31)), .int 300]) (rest := [.int 1]) (c_L_below D y l S V I (x >>> (5 &&& 31)) 300 (by omega) (by omega)) (va_cwS 2 hts gL_act_L_below rfl rfl rfl (by decide +kernel) ⟨Nat.le_of_ble_eq_true rfl, Nat.le_of_ble_eq_true rfl⟩) rfl hl.1 rfl (Nat.le_of_ble_eq_true rfl) dL_act_62 ⟨Nat.le_of_ble_eq_true rfl, Nat.le_of_ble_eq_true rfl⟩ (fun v_5 u_ H locs hp hM => ?_)
  obtain ⟨hv_, hu_⟩ := hp
  have hv_ := Eq.symm hv_
  have hu_ := Eq.symm hu_
  subst hv_
  subst hu_
  obtain ⟨m0, em0⟩ : ∃ m0, m0 = blN (x >>> (5 &&& 31)) 300 := ⟨_, rfl⟩
  have hm0 : m0 < 300 := by rw [em0]; exact blN_lt _ (by omega)
  rw [← em0]
  refine lv_iadd hx hb dL_act_65 ?_
  refine W.eq (g2 := F0 mv _ ls (.int (nI (1 + m0)) :: [])) (by rw [show (1 + (nI m0) : Int32) = nI (1 + m0) from nI_add 1 m0]) ?_
  obtain ⟨m, em⟩ : ∃ m, m = 1 + m0 := ⟨_, rfl⟩
  have hma : 1 ≤ m := by omega
  have hm : m ≤ 300 := by omega
  rw [← em]
  refine lv_istore (lv' := [(8, .int (nI m)), (7, .int (nI q)), (6, .ref (sa S (1100 + 100 * t))), (5, .int (nI t)), (4, .int (nI c)), (3, .int (nI i)), (0, .ref (sa S 0)), (1, .ref (sa S 1000)), (2, .int x)]) hx hb dL_act_66 hl (by decide) rfl (fun ls hl => ?_)
  refine lv_iload_n hx hb dL_act_68 rfl (lv_at hl 8 rfl) ?_
  refine lv_bipush (v := 8) hx hb dL_act_69 (by decide) ?_
  refine lv_ishr hx hb dL_act_71 ?_
  refine lv_bipush (v := 9) hx hb dL_act_72 (by decide) ?_
  refine fb_callSi hx hb hml hown hts hM (As := [.int (x >>> (8 &&& 31)), .int 9]) (rest := []) (c_L_below D y l S V I (x >>> (8 &&& 31)) 9 (by omega) (by omega)) (va_cwS 2 hts gL_act_L_below rfl rfl rfl (by decide +kernel) ⟨Nat.le_of_ble_eq_true rfl, Nat.le_of_ble_eq_true rfl⟩) rfl hl.1 rfl (Nat.le_of_ble_eq_true rfl) dL_act_74 ⟨Nat.le_of_ble_eq_true rfl, Nat.le_of_ble_eq_true rfl⟩ (fun v_6 u_ H locs hp hM => ?_)
  obtain ⟨hv_, hu_⟩ := hp
  have hv_ := Eq.symm hv_
  have hu_ := Eq.symm hu_
  subst hv_
  subst hu_
  refine W.eq (g2 := F0 mv _ ls (.int (nI 7) :: [])) (by rw [show (nI (blN (x >>> (8 &&& 31)) 9) : Int32) = nI 7 from congrArg nI hk9]) ?_
  refine lv_tableOut (tgt := 556) hx hb dL_act_77 (by decide) (by decide) ?_
  refine lv_iconst (v := 0) hx hb dL_act_556 (by decide) ?_
  refine lv_istore (lv' := [(14, .int 0), (8, .int (nI m)), (7, .int (nI q)), (6, .ref (sa S (1100 + 100 * t))), (5, .int (nI t)), (4, .int (nI c)), (3, .int (nI i)), (0, .ref (sa S 0)), (1, .ref (sa S 1000)), (2, .int x)]) hx hb dL_act_557 hl (by decide) rfl (fun ls hl => ?_)
  have LP_559 : ∀ (n : Nat) (k : Nat) (c : Nat) (hk : k ≤ 5) (hc : c < 5), 5 - k < n → ∀ (H : Heap) (locs : List Loc), fb_M D y A s (S, V, (sT V), I) H locs → ∀ ls, lv_has ls 15 [(14, .int (nI k)), (0, .ref (sa S 0)), (1, .ref (sa S 1000)), (2, .int x), (4, .int (nI c)), (5, .int (nI t)), (6, .ref (sa S (1100 + 100 * t))), (7, .int (nI q)), (8, .int (nI m))] → W pv l ev rm_L_act s mv ([.ref (sa S 0), .ref (sa S 1000), .int x] : List Value).toArray below meth cv H locs 0 0 Q (F0 mv 559 ls []) := by
    intro n_559
    induction n_559 with
    | zero => intro k c hk hc hmu; exact absurd hmu (Nat.not_lt_zero _)
    | succ n_559 ih_559 =>
      intro k c hk hc hmu H locs hM ls hl
      refine lv_iload hx hb dL_act_559 (lv_at hl 0 rfl) ?_
      refine lv_iconst (v := 5) hx hb dL_act_561 (by decide) ?_
      refine lv_icmp_ge (tgt := 609) hx hb dL_act_562 (by decide) (fun c_7 => ?_) (fun c_7 => ?_)
      · skip
        refine lv_aload_n hx hb dL_act_609 rfl (lv_at hl 1 rfl) ?_
        refine lv_iload hx hb dL_act_610 (lv_at hl 5 rfl) ?_
        refine lv_iload hx hb dL_act_612 (lv_at hl 7 rfl) ?_
        refine lv_iload hx hb dL_act_614 (lv_at hl 4 rfl) ?_
        refine lv_iload hx hb dL_act_616 (lv_at hl 8 rfl) ?_
        refine fb_callVi (r := 0) hx hb hml hown hts hM (hC.1.1) (ce3 (hC.1.2)) rfl (As := [.int (nI t), .int (nI q), .int (nI c), .int (nI m)]) (rest := []) (c_X3_fill_ok D y l S V I a1 ns nt 4 10 hC cf rf df hCF t ht q hq c hc m hma hm) (cwV 4 hts gL_act_X3_fill rfl rfl rfl (by decide +kernel) ⟨Nat.le_of_ble_eq_true rfl, Nat.le_of_ble_eq_true rfl⟩) rfl hl.1 rfl (Nat.le_of_ble_eq_true rfl) dL_act_618 ⟨Nat.le_of_ble_eq_true rfl, Nat.le_of_ble_eq_true rfl⟩ (fun v_8 u_ H locs hp hM => ?_)
        obtain ⟨hv_, hu_⟩ := hp
        have hv_ := Eq.symm hv_
        have hu_ := Eq.symm hu_
        subst hv_
        subst hu_
        obtain ⟨mv1, mv2, mv3, mv4, mv5⟩ := MVE (A := (V (100 + 2 * c))) (B := (V (300 + 72 * t + 2 * q))) (m := m) ((hCh c hc).2) (by omega) (htk.2.1 q (by omega)) hm
        rw [mv2, mv3] at hM
        refine W.eq (g2 := F0 mv _ ls (.int ((mn (nI m) (mn (s6 (V (100 + 2 * c))) (300 - s6 (V (300 + 72 * t + 2 * q)))))) :: [])) (by rw [show (mvm (V (100 + 2 * c)) (mn (nI m) (300 - s6 (V (300 + 72 * t + 2 * q)))) 6 : Int32) = (mn (nI m) (mn (s6 (V (100 + 2 * c))) (300 - s6 (V (300 + 72 * t + 2 * q))))) from mv1]) ?_
        have eq1 : I (1010 + c) = (V (100 + 2 * c)) := (hCh c hc).1
        have eq2 : I (1100 + 100 * t + 10 + q) = (V (300 + 72 * t + 2 * q)) := htk.2.2.1 q hq
        refine lv_aload_n hx hb dL_act_621 rfl (lv_at hl 2 rfl) ?_
        refine fb_get (r := 1000) hx hb hown hts hin4 hM (hA.1.1) (ce4 (hA.1.2)) rfl 3 (by decide) (hts (.fieldLink RL 60 "FeatherBedsLaw$Sim" "chambers" "[[I") (by decide +kernel)) (fun _ h9 => h9) (v := .ref (sa S 1009)) (congrArg (fun z => some (va_rf z)) (hA.2.1.2.2.1)) dL_act_622 ?_
        refine lv_iload hx hb dL_act_625 (lv_at hl 4 rfl) ?_
        refine fb_aaldA (r := 1009) hx hb hM (hA.2.2.2.2.1.1) (ce10 (hA.2.2.2.2.1.2.1)) 4 rfl (k := c) (nI_clamp (by omega)) (b := sa S (1010 + c)) ((hA.2.2.2.2.2.2.2.1 c (by omega)).1) (by rw [hA.2.2.2.2.1.2.2]; exact vp_in_nI (by omega) (by omega)) dL_act_627 ?_
        refine lv_aload hx hb dL_act_628 (lv_at hl 6 rfl) ?_
        refine fb_get (r := (1100 + 100 * t)) hx hb hown hts hin14 hM (hLt.1.1) (ce14 (hLt.1.2)) rfl 3 (by decide) (hts (.fieldLink RL 51 "FeatherBedsLaw$Tick" "squares" "[[I") (by decide +kernel)) (fun _ h9 => h9) (v := .ref (sa S ((1100 + 100 * t) + 9))) (congrArg (fun z => some (va_rf z)) (hLt.2.1)) dL_act_630 ?_
        refine lv_iload hx hb dL_act_633 (lv_at hl 7 rfl) ?_
        refine fb_aaldA (r := ((1100 + 100 * t) + 9)) hx hb hM (hLt.2.2.2.1.1) (ce10 (hLt.2.2.2.1.2.1)) 4 rfl (k := q) (nI_clamp (by omega)) (b := sa S ((1100 + 100 * t) + 10 + q)) ((hLt.2.2.2.2.2 q (by omega)).1.1) (by rw [hLt.2.2.2.1.2.2]; exact vp_in_nI (by omega) (by omega)) dL_act_635 ?_
        refine lv_iload hx hb dL_act_636 (lv_at hl 8 rfl) ?_
        refine fb_callSi hx hb hml hown hts hM (As := [.ref (sa S (1010 + c)), .ref (sa S ((1100 + 100 * t) + 10 + q)), .int (nI m)]) (rest := [.int ((mn (nI m) (mn (s6 (V (100 + 2 * c))) (300 - s6 (V (300 + 72 * t + 2 * q))))))]) (c_X4_take D y l S (va_up (va_up V (100 + 2 * c) (mva (V (100 + 2 * c)) (mn (nI m) (mn (s6 (V (100 + 2 * c))) (300 - s6 (V (300 + 72 * t + 2 * q))))) 6)) (300 + 72 * t + 2 * q) (mvb (V (100 + 2 * c)) (V (300 + 72 * t + 2 * q)) (mn (nI m) (mn (s6 (V (100 + 2 * c))) (300 - s6 (V (300 + 72 * t + 2 * q))))) 6)) I (1010 + c) (1100 + 100 * t + 10 + q) (hA.2.2.2.2.2.2.2.1 c hc).2 (hLt.2.2.2.2.2 q (by omega)).1.2 (by omega) (nI m)) (va_cwS 3 hts gL_act_X4_take rfl rfl rfl (by decide +kernel) ⟨Nat.le_of_ble_eq_true rfl, Nat.le_of_ble_eq_true rfl⟩) rfl hl.1 rfl (Nat.le_of_ble_eq_true rfl) dL_act_638 ⟨Nat.le_of_ble_eq_true rfl, Nat.le_of_ble_eq_true rfl⟩ (fun v_9 u_ H locs hp hM => ?_)
        obtain ⟨hv_, hu_⟩ := hp
        have hv_ := Eq.symm hv_
        have hu_ := Eq.symm hu_
        subst hv_
        subst hu_
        have eI : (tk2 I (1010 + c) (1100 + 100 * t + 10 + q) (I (1010 + c)) (I (1100 + 100 * t + 10 + q)) (mn (nI m) (mn (s6 (I (1010 + c))) (300 - s6 (I (1100 + 100 * t + 10 + q))))) 6) = (va_up (va_up I (1010 + c) (mva (V (100 + 2 * c)) (mn (nI m) (mn (s6 (V (100 + 2 * c))) (300 - s6 (V (300 + 72 * t + 2 * q))))) 6)) (1100 + 100 * t + 10 + q) (mvb (V (100 + 2 * c)) (V (300 + 72 * t + 2 * q)) (mn (nI m) (mn (s6 (V (100 + 2 * c))) (300 - s6 (V (300 + 72 * t + 2 * q))))) 6)) := by unfold tk2; rw [eq1, eq2]
        rw [eI] at hM
        clear eI
        refine W.eq (g2 := F0 mv _ ls (.int ((mn (nI m) (mn (s6 (V (100 + 2 * c))) (300 - s6 (V (300 + 72 * t + 2 * q)))))) :: .int ((mn (nI m) (mn (s6 (V (100 + 2 * c))) (300 - s6 (V (300 + 72 * t + 2 * q)))))) :: [])) (by rw [show (mn (nI m) (mn (s6 (I (1010 + c))) (300 - s6 (I (1100 + 100 * t + 10 + q)))) : Int32) = (mn (nI m) (mn (s6 (V (100 + 2 * c))) (300 - s6 (V (300 + 72 * t + 2 * q))))) from by rw [eq1, eq2]]) ?_
        refine lv_icmp_ne (tgt := 648) hx hb dL_act_641 (by decide) (fun c_10 => absurd (rfl) c_10) (fun c_10 => ?_)
        refine lv_iconst (v := 1) hx hb dL_act_644 (by decide) ?_
        refine lv_goto (tgt := 649) hx hb dL_act_645 (by decide) ?_
        rw [hQ]
        refine W.widen (show _ ≤ 10 from Nat.le_of_ble_eq_true rfl) (show _ ≤ 60 from Nat.le_of_ble_eq_true rfl) ?_
        exact fb_zret hx hb hr (by first | rfl | decide | assumption) hlocks hM (ActP.of (Ac.fill hI ht hq hc mv4 mv5 (s6_mv _ _ _) rfl rfl) (by omega)) dL_act_649
      · skip
        have hk5 : k < 5 := Nat.lt_of_not_le (fun z => c_7 (nI_le z (by omega)))
        refine lv_iload_n hx hb dL_act_565 rfl (lv_at hl 3 rfl) ?_
        refine lv_bipush (v := 6) hx hb dL_act_566 (by decide) ?_
        refine lv_ishr hx hb dL_act_568 ?_
        refine lv_iconst (v := 3) hx hb dL_act_569 (by decide) ?_
        refine fb_callSi hx hb hml hown hts hM (As := [.int (x >>> (6 &&& 31)), .int 3]) (rest := []) (c_L_below D y l S V I (x >>> (6 &&& 31)) 3 (by omega) (by omega)) (va_cwS 2 hts gL_act_L_below rfl rfl rfl (by decide +kernel) ⟨Nat.le_of_ble_eq_true rfl, Nat.le_of_ble_eq_true rfl⟩) rfl hl.1 rfl (Nat.le_of_ble_eq_true rfl) dL_act_570 ⟨Nat.le_of_ble_eq_true rfl, Nat.le_of_ble_eq_true rfl⟩ (fun v_11 u_ H locs hp hM => ?_)
        obtain ⟨hv_, hu_⟩ := hp
        have hv_ := Eq.symm hv_
        have hu_ := Eq.symm hu_
        subst hv_
        subst hu_
        refine lv_if_le (tgt := 609) hx hb dL_act_573 (by decide) (fun c_12 => ?_) (fun c_12 => ?_)
        · skip
          refine lv_aload_n hx hb dL_act_609 rfl (lv_at hl 1 rfl) ?_
          refine lv_iload hx hb dL_act_610 (lv_at hl 5 rfl) ?_
          refine lv_iload hx hb dL_act_612 (lv_at hl 7 rfl) ?_
          refine lv_iload hx hb dL_act_614 (lv_at hl 4 rfl) ?_
          refine lv_iload hx hb dL_act_616 (lv_at hl 8 rfl) ?_
          refine fb_callVi (r := 0) hx hb hml hown hts hM (hC.1.1) (ce3 (hC.1.2)) rfl (As := [.int (nI t), .int (nI q), .int (nI c), .int (nI m)]) (rest := []) (c_X3_fill_ok D y l S V I a1 ns nt 4 10 hC cf rf df hCF t ht q hq c hc m hma hm) (cwV 4 hts gL_act_X3_fill rfl rfl rfl (by decide +kernel) ⟨Nat.le_of_ble_eq_true rfl, Nat.le_of_ble_eq_true rfl⟩) rfl hl.1 rfl (Nat.le_of_ble_eq_true rfl) dL_act_618 ⟨Nat.le_of_ble_eq_true rfl, Nat.le_of_ble_eq_true rfl⟩ (fun v_13 u_ H locs hp hM => ?_)
          obtain ⟨hv_, hu_⟩ := hp
          have hv_ := Eq.symm hv_
          have hu_ := Eq.symm hu_
          subst hv_
          subst hu_
          obtain ⟨mv1, mv2, mv3, mv4, mv5⟩ := MVE (A := (V (100 + 2 * c))) (B := (V (300 + 72 * t + 2 * q))) (m := m) ((hCh c hc).2) (by omega) (htk.2.1 q (by omega)) hm
          rw [mv2, mv3] at hM
          refine W.eq (g2 := F0 mv _ ls (.int ((mn (nI m) (mn (s6 (V (100 + 2 * c))) (300 - s6 (V (300 + 72 * t + 2 * q)))))) :: [])) (by rw [show (mvm (V (100 + 2 * c)) (mn (nI m) (300 - s6 (V (300 + 72 * t + 2 * q)))) 6 : Int32) = (mn (nI m) (mn (s6 (V (100 + 2 * c))) (300 - s6 (V (300 + 72 * t + 2 * q))))) from mv1]) ?_
          have eq1 : I (1010 + c) = (V (100 + 2 * c)) := (hCh c hc).1
          have eq2 : I (1100 + 100 * t + 10 + q) = (V (300 + 72 * t + 2 * q)) := htk.2.2.1 q hq
          refine lv_aload_n hx hb dL_act_621 rfl (lv_at hl 2 rfl) ?_
          refine fb_get (r := 1000) hx hb hown hts hin4 hM (hA.1.1) (ce4 (hA.1.2)) rfl 3 (by decide) (hts (.fieldLink RL 60 "FeatherBedsLaw$Sim" "chambers" "[[I") (by decide +kernel)) (fun _ h9 => h9) (v := .ref (sa S 1009)) (congrArg (fun z => some (va_rf z)) (hA.2.1.2.2.1)) dL_act_622 ?_
          refine lv_iload hx hb dL_act_625 (lv_at hl 4 rfl) ?_
          refine fb_aaldA (r := 1009) hx hb hM (hA.2.2.2.2.1.1) (ce10 (hA.2.2.2.2.1.2.1)) 4 rfl (k := c) (nI_clamp (by omega)) (b := sa S (1010 + c)) ((hA.2.2.2.2.2.2.2.1 c (by omega)).1) (by rw [hA.2.2.2.2.1.2.2]; exact vp_in_nI (by omega) (by omega)) dL_act_627 ?_
          refine lv_aload hx hb dL_act_628 (lv_at hl 6 rfl) ?_
          refine fb_get (r := (1100 + 100 * t)) hx hb hown hts hin14 hM (hLt.1.1) (ce14 (hLt.1.2)) rfl 3 (by decide) (hts (.fieldLink RL 51 "FeatherBedsLaw$Tick" "squares" "[[I") (by decide +kernel)) (fun _ h9 => h9) (v := .ref (sa S ((1100 + 100 * t) + 9))) (congrArg (fun z => some (va_rf z)) (hLt.2.1)) dL_act_630 ?_
          refine lv_iload hx hb dL_act_633 (lv_at hl 7 rfl) ?_
          refine fb_aaldA (r := ((1100 + 100 * t) + 9)) hx hb hM (hLt.2.2.2.1.1) (ce10 (hLt.2.2.2.1.2.1)) 4 rfl (k := q) (nI_clamp (by omega)) (b := sa S ((1100 + 100 * t) + 10 + q)) ((hLt.2.2.2.2.2 q (by omega)).1.1) (by rw [hLt.2.2.2.1.2.2]; exact vp_in_nI (by omega) (by omega)) dL_act_635 ?_
          refine lv_iload hx hb dL_act_636 (lv_at hl 8 rfl) ?_
          refine fb_callSi hx hb hml hown hts hM (As := [.ref (sa S (1010 + c)), .ref (sa S ((1100 + 100 * t) + 10 + q)), .int (nI m)]) (rest := [.int ((mn (nI m) (mn (s6 (V (100 + 2 * c))) (300 - s6 (V (300 + 72 * t + 2 * q))))))]) (c_X4_take D y l S (va_up (va_up V (100 + 2 * c) (mva (V (100 + 2 * c)) (mn (nI m) (mn (s6 (V (100 + 2 * c))) (300 - s6 (V (300 + 72 * t + 2 * q))))) 6)) (300 + 72 * t + 2 * q) (mvb (V (100 + 2 * c)) (V (300 + 72 * t + 2 * q)) (mn (nI m) (mn (s6 (V (100 + 2 * c))) (300 - s6 (V (300 + 72 * t + 2 * q))))) 6)) I (1010 + c) (1100 + 100 * t + 10 + q) (hA.2.2.2.2.2.2.2.1 c hc).2 (hLt.2.2.2.2.2 q (by omega)).1.2 (by omega) (nI m)) (va_cwS 3 hts gL_act_X4_take rfl rfl rfl (by decide +kernel) ⟨Nat.le_of_ble_eq_true rfl, Nat.le_of_ble_eq_true rfl⟩) rfl hl.1 rfl (Nat.le_of_ble_eq_true rfl) dL_act_638 ⟨Nat.le_of_ble_eq_true rfl, Nat.le_of_ble_eq_true rfl⟩ (fun v_14 u_ H locs hp hM => ?_)
          obtain ⟨hv_, hu_⟩ := hp
          have hv_ := Eq.symm hv_
          have hu_ := Eq.symm hu_
          subst hv_
          subst hu_
          have eI : (tk2 I (1010 + c) (1100 + 100 * t + 10 + q) (I (1010 + c)) (I (1100 + 100 * t + 10 + q)) (mn (nI m) (mn (s6 (I (1010 + c))) (300 - s6 (I (1100 + 100 * t + 10 + q))))) 6) = (va_up (va_up I (1010 + c) (mva (V (100 + 2 * c)) (mn (nI m) (mn (s6 (V (100 + 2 * c))) (300 - s6 (V (300 + 72 * t + 2 * q))))) 6)) (1100 + 100 * t + 10 + q) (mvb (V (100 + 2 * c)) (V (300 + 72 * t + 2 * q)) (mn (nI m) (mn (s6 (V (100 + 2 * c))) (300 - s6 (V (300 + 72 * t + 2 * q))))) 6)) := by unfold tk2; rw [eq1, eq2]
          rw [eI] at hM
          clear eI
          refine W.eq (g2 := F0 mv _ ls (.int ((mn (nI m) (mn (s6 (V (100 + 2 * c))) (300 - s6 (V (300 + 72 * t + 2 * q)))))) :: .int ((mn (nI m) (mn (s6 (V (100 + 2 * c))) (300 - s6 (V (300 + 72 * t + 2 * q)))))) :: [])) (by rw [show (mn (nI m) (mn (s6 (I (1010 + c))) (300 - s6 (I (1100 + 100 * t + 10 + q)))) : Int32) = (mn (nI m) (mn (s6 (V (100 + 2 * c))) (300 - s6 (V (300 + 72 * t + 2 * q))))) from by rw [eq1, eq2]]) ?_
          refine lv_icmp_ne (tgt := 648) hx hb dL_act_641 (by decide) (fun c_15 => absurd (rfl) c_15) (fun c_15 => ?_)
          refine lv_iconst (v := 1) hx hb dL_act_644 (by decide) ?_
          refine lv_goto (tgt := 649) hx hb dL_act_645 (by decide) ?_
          rw [hQ]
          refine W.widen (show _ ≤ 10 from Nat.le_of_ble_eq_true rfl) (show _ ≤ 60 from Nat.le_of_ble_eq_true rfl) ?_
          exact fb_zret hx hb hr (by first | rfl | decide | assumption) hlocks hM (ActP.of (Ac.fill hI ht hq hc mv4 mv5 (s6_mv _ _ _) rfl rfl) (by omega)) dL_act_649
        · skip
          refine lv_aload_n hx hb dL_act_576 rfl (lv_at hl 2 rfl) ?_
          refine fb_get (r := 1000) hx hb hown hts hin4 hM (hA.1.1) (ce4 (hA.1.2)) rfl 3 (by decide) (hts (.fieldLink RL 60 "FeatherBedsLaw$Sim" "chambers" "[[I") (by decide +kernel)) (fun _ h9 => h9) (v := .ref (sa S 1009)) (congrArg (fun z => some (va_rf z)) (hA.2.1.2.2.1)) dL_act_577 ?_
          refine lv_iload hx hb dL_act_580 (lv_at hl 0 rfl) ?_
          refine fb_aaldA (r := 1009) hx hb hM (hA.2.2.2.2.1.1) (ce10 (hA.2.2.2.2.1.2.1)) 4 rfl (k := k) (nI_clamp (by omega)) (b := sa S (1010 + k)) ((hA.2.2.2.2.2.2.2.1 k (by omega)).1) (by rw [hA.2.2.2.2.1.2.2]; exact vp_in_nI (by omega) (by omega)) dL_act_582 ?_
          refine fb_callSi hx hb hml hown hts hM (As := [.ref (sa S (1010 + k))]) (rest := []) (c_X5_all D y l S V I (1010 + k) (hA.2.2.2.2.2.2.2.1 k (by omega)).2) (va_cwS 1 hts gL_act_X5_all rfl rfl rfl (by decide +kernel) ⟨Nat.le_of_ble_eq_true rfl, Nat.le_of_ble_eq_true rfl⟩) rfl hl.1 rfl (Nat.le_of_ble_eq_true rfl) dL_act_583 ⟨Nat.le_of_ble_eq_true rfl, Nat.le_of_ble_eq_true rfl⟩ (fun v_16 u_ H locs hp hM => ?_)
          obtain ⟨hv_, hu_⟩ := hp
          have hv_ := Eq.symm hv_
          have hu_ := Eq.symm hu_
          subst hv_
          subst hu_
          refine lv_aload_n hx hb dL_act_586 rfl (lv_at hl 2 rfl) ?_
          refine fb_get (r := 1000) hx hb hown hts hin4 hM (hA.1.1) (ce4 (hA.1.2)) rfl 3 (by decide) (hts (.fieldLink RL 60 "FeatherBedsLaw$Sim" "chambers" "[[I") (by decide +kernel)) (fun _ h9 => h9) (v := .ref (sa S 1009)) (congrArg (fun z => some (va_rf z)) (hA.2.1.2.2.1)) dL_act_587 ?_
          refine lv_iload hx hb dL_act_590 (lv_at hl 4 rfl) ?_
          refine fb_aaldA (r := 1009) hx hb hM (hA.2.2.2.2.1.1) (ce10 (hA.2.2.2.2.1.2.1)) 4 rfl (k := c) (nI_clamp (by omega)) (b := sa S (1010 + c)) ((hA.2.2.2.2.2.2.2.1 c (by omega)).1) (by rw [hA.2.2.2.2.1.2.2]; exact vp_in_nI (by omega) (by omega)) dL_act_592 ?_
          refine fb_callSi hx hb hml hown hts hM (As := [.ref (sa S (1010 + c))]) (rest := [.int (s6 (I (1010 + k)))]) (c_X5_all D y l S V I (1010 + c) (hA.2.2.2.2.2.2.2.1 c (by omega)).2) (va_cwS 1 hts gL_act_X5_all rfl rfl rfl (by decide +kernel) ⟨Nat.le_of_ble_eq_true rfl, Nat.le_of_ble_eq_true rfl⟩) rfl hl.1 rfl (Nat.le_of_ble_eq_true rfl) dL_act_593 ⟨Nat.le_of_ble_eq_true rfl, Nat.le_of_ble_eq_true rfl⟩ (fun v_17 u_ H locs hp hM => ?_)
          obtain ⟨hv_, hu_⟩ := hp
          have hv_ := Eq.symm hv_
          have hu_ := Eq.symm hu_
          subst hv_
          subst hu_
          refine lv_icmp_le (tgt := 603) hx hb dL_act_596 (by decide) (fun c_18 => ?_) (fun c_18 => ?_)
          · skip
            refine lv_iinc (v := nI (k + 1)) (lv' := [(14, .int (nI (k + 1))), (0, .ref (sa S 0)), (1, .ref (sa S 1000)), (2, .int x), (4, .int (nI c)), (5, .int (nI t)), (6, .ref (sa S (1100 + 100 * t))), (7, .int (nI q)), (8, .int (nI m))]) hx hb dL_act_603 hl (k := 0) rfl (nI_1 _) (by decide) rfl (fun ls hl => ?_)
            refine lv_goto (tgt := 559) hx hb dL_act_606 (by decide) ?_
            exact ih_559 (k + 1) c (by omega) (by omega) (by omega) _ _ hM ls (lv_sub hl [0, 1, 2, 3, 4, 5, 6, 7, 8] rfl)
          · skip
            refine lv_iload hx hb dL_act_599 (lv_at hl 0 rfl) ?_
            refine lv_istore (lv' := [(4, .int (nI k)), (14, .int (nI k)), (0, .ref (sa S 0)), (1, .ref (sa S 1000)), (2, .int x), (5, .int (nI t)), (6, .ref (sa S (1100 + 100 * t))), (7, .int (nI q)), (8, .int (nI m))]) hx hb dL_act_601 hl (by decide) rfl (fun ls hl => ?_)
            refine lv_iinc (v := nI (k + 1)) (lv' := [(14, .int (nI (k + 1))), (4, .int (nI k)), (0, .ref (sa S 0)), (1, .ref (sa S 1000)), (2, .int x), (5, .int (nI t)), (6, .ref (sa S (1100 + 100 * t))), (7, .int (nI q)), (8, .int (nI m))]) hx hb dL_act_603 hl (k := 1) rfl (nI_1 _) (by decide) rfl (fun ls hl => ?_)
            refine lv_goto (tgt := 559) hx hb dL_act_606 (by decide) ?_
            exact ih_559 (k + 1) k (by omega) (by omega) (by omega) _ _ hM ls (lv_sub hl [0, 2, 3, 4, 1, 5, 6, 7, 8] rfl)
  exact LP_559 _ 0 c (by omega) hc (Nat.lt_succ_self _) _ _ hM ls (lv_sub hl [0, 7, 8, 9, 5, 4, 3, 2, 1] rfl)

set_option maxHeartbeats 4000000 in
set_option maxRecDepth 100000 in
theorem c_L_act_8 (D : va_G) (y : Nat → ClassId) (l : Launch) (S : fb_Sh) (V I : fb_V) (a1 ns nt N F : Nat) (rho cf rf df : Nat → Nat) (hI : Iv a1 S V I ns nt rho cf rf df N F) (hn1 : 1 ≤ ns) (ht1 : 1 ≤ nt) (hN : N ≤ 600000) (x : Int32) (hk9 : blN (x >>> (8 &&& 31)) 9 = 8)  : CI D y l yL_act wsL_act rm_L_act [.ref (sa S 0), .ref (sa S 1000), .int x] (S, V, (sT V), I) (fun z u => ActP a1 S V I ns nt rho cf rf df N z u) 10 60 := by
  refine CI.of (cc := cL_act) (maxL := 15) (ret := (some .boolean)) (by decide) rfl (Nat.le_of_ble_eq_true rfl) ?_
  intro pv ev s mv below meth cv A hx hb hml hr hown hts hlocks hname hM ls hl
  have hown : s.vm.findClass RL = some mv.cls := hown
  have hl : lv_has ls 15 [(0, .ref (sa S 0)), (1, .ref (sa S 1000)), (2, .int x)] := hl
  have hin3 : ∀ x ∈ wsX30, x ∈ wsL_act := by decide +kernel
  have hin4 : ∀ x ∈ wsX40, x ∈ wsL_act := by decide +kernel
  have hin14 : ∀ x ∈ wsX50, x ∈ wsL_act := by decide +kernel
  obtain ⟨Q, hQ⟩ : ∃ Q, Q = MQ below (va_Qi (fun z u => ActP a1 S V I ns nt rho cf rf df N z u) (fun u t => fb_P D y A u t) A) (([.ref (sa S 0), .ref (sa S 1000), .int x] : List Value).toArray) s 10 60 A := ⟨_, rfl⟩
  rw [← hQ]
  obtain ⟨⟨hC, hA⟩, ⟨hRh, hFs⟩, hCF, ⟨hW, hSk, hCh, hTk, hTZ⟩, hns4, hnt3⟩ := id hI
  obtain ⟨w0, hw1, hw20, hw0, hw00⟩ := hW.1
  have hFs4 := hFs.1
  refine lv_iload_n hx hb dL_act_0 rfl (lv_at hl 2 rfl) ?_
  refine lv_aload_n hx hb dL_act_1 rfl (lv_at hl 1 rfl) ?_
  refine fb_get (r := 1000) hx hb hown hts hin4 hM (hA.1.1) (ce4 (hA.1.2)) rfl 0 (by decide) (hts (.fieldLink RL 32 "FeatherBedsLaw$Sim" "sacks" "[[I") (by decide +kernel)) (fun _ h9 => h9) (v := .ref (sa S (1020 + ns))) (congrArg (fun z => some (va_rf z)) (hA.2.1.1)) dL_act_2 ?_
  refine fb_alen (r := (1020 + ns)) hx hb hM (hA.2.2.1.1) (ce10 (hA.2.2.1.2.1)) 4 rfl (v := nI ns) (congrArg Int32.ofNat (hA.2.2.1.2.2)) dL_act_5 ?_
  refine fb_callSi hx hb hml hown hts hM (As := [.int x, .int (nI ns)]) (rest := []) (c_L_below D y l S V I x ns (by omega) (by omega)) (va_cwS 2 hts gL_act_L_below rfl rfl rfl (by decide +kernel) ⟨Nat.le_of_ble_eq_true rfl, Nat.le_of_ble_eq_true rfl⟩) rfl hl.1 rfl (Nat.le_of_ble_eq_true rfl) dL_act_6 ⟨Nat.le_of_ble_eq_true rfl, Nat.le_of_ble_eq_true rfl⟩ (fun v_1 u_ H locs hp hM => ?_)
  obtain ⟨hv_, hu_⟩ := hp
  have hv_ := Eq.symm hv_
  have hu_ := Eq.symm hu_
  subst hv_
  subst hu_
  obtain ⟨i, ei⟩ : ∃ i, i = blN x ns := ⟨_, rfl⟩
  have hi : i < ns := by rw [ei]; exact blN_lt _ (by omega)
  rw [← ei]
  have hri := hRh.1 i hi
  refine lv_istore_n (lv' := [(3, .int (nI i)), (0, .ref (sa S 0)), (1, .ref (sa S 1000)), (2, .int x)]) hx hb dL_act_9 rfl hl (by decide) rfl (fun ls hl => ?_)
  refine lv_iload_n hx hb dL_act_10 rfl (lv_at hl 3 rfl) ?_
  refine lv_iconst (v := 3) hx hb dL_act_11 (by decide) ?_
  refine lv_ishr hx hb dL_act_12 ?_
  refine lv_iconst (v := 5) hx hb dL_act_13 (by decide) ?_
  refine fb_callSi hx hb hml hown hts hM (As := [.int (x >>> (3 &&& 31)), .int 5]) (rest := []) (c_L_below D y l S V I (x >>> (3 &&& 31)) 5 (by omega) (by omega)) (va_cwS 2 hts gL_act_L_below rfl rfl rfl (by decide +kernel) ⟨Nat.le_of_ble_eq_true rfl, Nat.le_of_ble_eq_true rfl⟩) rfl hl.1 rfl (Nat.le_of_ble_eq_true rfl) dL_act_14 ⟨Nat.le_of_ble_eq_true rfl, Nat.le_of_ble_eq_true rfl⟩ (fun v_2 u_ H locs hp hM => ?_)
  obtain ⟨hv_, hu_⟩ := hp
  have hv_ := Eq.symm hv_
  have hu_ := Eq.symm hu_
  subst hv_
  subst hu_
  obtain ⟨c, ec⟩ : ∃ c, c = blN (x >>> (3 &&& 31)) 5 := ⟨_, rfl⟩
  have hc : c < 5 := by rw [ec]; exact blN_lt _ (by omega)
  rw [← ec]
  refine lv_istore (lv' := [(4, .int (nI c)), (3, .int (nI i)), (0, .ref (sa S 0)), (1, .ref (sa S 1000)), (2, .int x)]) hx hb dL_act_17 hl (by decide) rfl (fun ls hl => ?_)
  refine lv_iload_n hx hb dL_act_19 rfl (lv_at hl 4 rfl) ?_
  refine lv_iconst (v := 2) hx hb dL_act_20 (by decide) ?_
  refine lv_ishr hx hb dL_act_21 ?_
  refine lv_aload_n hx hb dL_act_22 rfl (lv_at hl 3 rfl) ?_
  refine fb_get (r := 1000) hx hb hown hts hin4 hM (hA.1.1) (ce4 (hA.1.2)) rfl 4 (by decide) (hts (.fieldLink RL 47 "FeatherBedsLaw$Sim" "ticks" "[LFeatherBedsLaw$Tick;") (by decide +kernel)) (fun _ h9 => h9) (v := .ref (sa S (1040 + nt))) (congrArg (fun z => some (va_rf z)) (hA.2.1.2.2.2)) dL_act_23 ?_
  refine fb_alen (r := (1040 + nt)) hx hb hM (hA.2.2.2.2.2.1.1) (ce13 (hA.2.2.2.2.2.1.2.1)) 6 rfl (v := nI nt) (congrArg Int32.ofNat (hA.2.2.2.2.2.1.2.2)) dL_act_26 ?_
  refine fb_callSi hx hb hml hown hts hM (As := [.int (x >>> (2 &&& 31)), .int (nI nt)]) (rest := []) (c_L_below D y l S V I (x >>> (2 &&& 31)) nt (by omega) (by omega)) (va_cwS 2 hts gL_act_L_below rfl rfl rfl (by decide +kernel) ⟨Nat.le_of_ble_eq_true rfl, Nat.le_of_ble_eq_true rfl⟩) rfl hl.1 rfl (Nat.le_of_ble_eq_true rfl) dL_act_27 ⟨Nat.le_of_ble_eq_true rfl, Nat.le_of_ble_eq_true rfl⟩ (fun v_3 u_ H locs hp hM => ?_)
  obtain ⟨hv_, hu_⟩ := hp
  have hv_ := Eq.symm hv_
  have hu_ := Eq.symm hu_
  subst hv_
  subst hu_
  obtain ⟨t, et⟩ : ∃ t, t = blN (x >>> (2 &&& 31)) nt := ⟨_, rfl⟩
  have ht : t < nt := by rw [et]; exact blN_lt _ (by omega)
  rw [← et]
  have htk := hTk t ht
  have hcr := htk.n36
  have hLt := (hA.2.2.2.2.2.2.2.2 t ht).2
  refine lv_istore (lv' := [(5, .int (nI t)), (4, .int (nI c)), (3, .int (nI i)), (0, .ref (sa S 0)), (1, .ref (sa S 1000)), (2, .int x)]) hx hb dL_act_30 hl (by decide) rfl (fun ls hl => ?_)
  refine lv_aload_n hx hb dL_act_32 rfl (lv_at hl 4 rfl) ?_
  refine fb_get (r := 1000) hx hb hown hts hin4 hM (hA.1.1) (ce4 (hA.1.2)) rfl 4 (by decide) (hts (.fieldLink RL 47 "FeatherBedsLaw$Sim" "ticks" "[LFeatherBedsLaw$Tick;") (by decide +kernel)) (fun _ h9 => h9) (v := .ref (sa S (1040 + nt))) (congrArg (fun z => some (va_rf z)) (hA.2.1.2.2.2)) dL_act_33 ?_
  refine lv_iload hx hb dL_act_36 (lv_at hl 0 rfl) ?_
  refine fb_aald (r := (1040 + nt)) hx hb hM (hA.2.2.2.2.2.1.1) (ce13 (hA.2.2.2.2.2.1.2.1)) 6 rfl (k := t) (nI_clamp (by omega)) (b := sa S (1100 + 100 * t)) ((hA.2.2.2.2.2.2.2.2 t (by omega)).1) (by rw [hA.2.2.2.2.2.1.2.2]; exact vp_in_nI (by omega) (by omega)) dL_act_38 ?_
  refine lv_astore (lv' := [(6, .ref (sa S (1100 + 100 * t))), (5, .int (nI t)), (4, .int (nI c)), (3, .int (nI i)), (0, .ref (sa S 0)), (1, .ref (sa S 1000)), (2, .int x)]) hx hb dL_act_39 hl (by decide) rfl (fun ls hl => ?_)
  refine lv_iload_n hx hb dL_act_41 rfl (lv_at hl 6 rfl) ?_
  refine lv_iconst (v := 4) hx hb dL_act_42 (by decide) ?_
  refine lv_ishr hx hb dL_act_43 ?_
  refine lv_aload hx hb dL_act_44 (lv_at hl 0 rfl) ?_
  refine fb_get (r := (1100 + 100 * t)) hx hb hown hts hin14 hM (hLt.1.1) (ce14 (hLt.1.2)) rfl 3 (by decide) (hts (.fieldLink RL 51 "FeatherBedsLaw$Tick" "squares" "[[I") (by decide +kernel)) (fun _ h9 => h9) (v := .ref (sa S ((1100 + 100 * t) + 9))) (congrArg (fun z => some (va_rf z)) (hLt.2.1)) dL_act_46 ?_
  refine fb_alen (r := ((1100 + 100 * t) + 9)) hx hb hM (hLt.2.2.2.1.1) (ce10 (hLt.2.2.2.1.2.1)) 4 rfl (v := nI (cf t * rf t)) (congrArg Int32.ofNat (hLt.2.2.2.1.2.2)) dL_act_49 ?_
  refine fb_callSi hx hb hml hown hts hM (As := [.int (x >>> (4 &&& 31)), .int (nI ((cf t * rf t)))]) (rest := []) (c_L_below D y l S V I (x >>> (4 &&& 31)) (cf t * rf t) (by omega) (by omega)) (va_cwS 2 hts gL_act_L_below rfl rfl rfl (by decide +kernel) ⟨Nat.le_of_ble_eq_true rfl, Nat.le_of_ble_eq_true rfl⟩) rfl hl.1 rfl (Nat.le_of_ble_eq_true rfl) dL_act_50 ⟨Nat.le_of_ble_eq_true rfl, Nat.le_of_ble_eq_true rfl⟩ (fun v_4 u_ H locs hp hM => ?_)
  obtain ⟨hv_, hu_⟩ := hp
  have hv_ := Eq.symm hv_
  have hu_ := Eq.symm hu_
  subst hv_
  subst hu_
  obtain ⟨q, eq⟩ : ∃ q, q = blN (x >>> (4 &&& 31)) (cf t * rf t) := ⟨_, rfl⟩
  have hq : q < (cf t * rf t) := by rw [eq]; exact blN_lt _ (by omega)
  rw [← eq]
  refine lv_istore (lv' := [(7, .int (nI q)), (6, .ref (sa S (1100 + 100 * t))), (5, .int (nI t)), (4, .int (nI c)), (3, .int (nI i)), (0, .ref (sa S 0)), (1, .ref (sa S 1000)), (2, .int x)]) hx hb dL_act_53 hl (by decide) rfl (fun ls hl => ?_)
  refine lv_iconst (v := 1) hx hb dL_act_55 (by decide) ?_
  refine lv_iload_n hx hb dL_act_56 rfl (lv_at hl 7 rfl) ?_
  refine lv_iconst (v := 5) hx hb dL_act_57 (by decide) ?_
  refine lv_ishr hx hb dL_act_58 ?_
  refine lv_sipush (v := 300) hx hb dL_act_59 (by decide) ?_
  refine fb_callSi hx hb hml hown hts hM (As := [.int (x >>> (5 &&& 31)), .int 300]) (rest := [.int 1]) (c_L_below D y l S V I (x >>> (5 &&& 31)) 300 (by omega) (by omega)) (va_cwS 2 hts gL_act_L_below rfl rfl rfl (by decide +kernel) ⟨Nat.le_of_ble_eq_true rfl, Nat.le_of_ble_eq_true rfl⟩) rfl hl.1 rfl (Nat.le_of_ble_eq_true rfl) dL_act_62 ⟨Nat.le_of_ble_eq_true rfl, Nat.le_of_ble_eq_true rfl⟩ (fun v_5 u_ H locs hp hM => ?_)
  obtain ⟨hv_, hu_⟩ := hp
  have hv_ := Eq.symm hv_
  have hu_ := Eq.symm hu_
  subst hv_
  subst hu_
  obtain ⟨m0, em0⟩ : ∃ m0, m0 = blN (x >>> (5 &&& 31)) 300 := ⟨_, rfl⟩
  have hm0 : m0 < 300 := by rw [em0]; exact blN_lt _ (by omega)
  rw [← em0]
  refine lv_iadd hx hb dL_act_65 ?_
  refine W.eq (g2 := F0 mv _ ls (.int (nI (1 + m0)) :: [])) (by rw [show (1 + (nI m0) : Int32) = nI (1 + m0) from nI_add 1 m0]) ?_
  obtain ⟨m, em⟩ : ∃ m, m = 1 + m0 := ⟨_, rfl⟩
  have hma : 1 ≤ m := by omega
  have hm : m ≤ 300 := by omega
  rw [← em]
  refine lv_istore (lv' := [(8, .int (nI m)), (7, .int (nI q)), (6, .ref (sa S (1100 + 100 * t))), (5, .int (nI t)), (4, .int (nI c)), (3, .int (nI i)), (0, .ref (sa S 0)), (1, .ref (sa S 1000)), (2, .int x)]) hx hb dL_act_66 hl (by decide) rfl (fun ls hl => ?_)
  refine lv_iload_n hx hb dL_act_68 rfl (lv_at hl 8 rfl) ?_
  refine lv_bipush (v := 8) hx hb dL_act_69 (by decide) ?_
  refine lv_ishr hx hb dL_act_71 ?_
  refine lv_bipush (v := 9) hx hb dL_act_72 (by decide) ?_
  refine fb_callSi hx hb hml hown hts hM (As := [.int (x >>> (8 &&& 31)), .int 9]) (rest := []) (c_L_below D y l S V I (x >>> (8 &&& 31)) 9 (by omega) (by omega)) (va_cwS 2 hts gL_act_L_below rfl rfl rfl (by decide +kernel) ⟨Nat.le_of_ble_eq_true rfl, Nat.le_of_ble_eq_true rfl⟩) rfl hl.1 rfl (Nat.le_of_ble_eq_true rfl) dL_act_74 ⟨Nat.le_of_ble_eq_true rfl, Nat.le_of_ble_eq_true rfl⟩ (fun v_6 u_ H locs hp hM => ?_)
  obtain ⟨hv_, hu_⟩ := hp
  have hv_ := Eq.symm hv_
  have hu_ := Eq.symm hu_
  subst hv_
  subst hu_
  refine W.eq (g2 := F0 mv _ ls (.int (nI 8) :: [])) (by rw [show (nI (blN (x >>> (8 &&& 31)) 9) : Int32) = nI 8 from congrArg nI hk9]) ?_
  refine lv_tableOut (tgt := 556) hx hb dL_act_77 (by decide) (by decide) ?_
  refine lv_iconst (v := 0) hx hb dL_act_556 (by decide) ?_
  refine lv_istore (lv' := [(14, .int 0), (8, .int (nI m)), (7, .int (nI q)), (6, .ref (sa S (1100 + 100 * t))), (5, .int (nI t)), (4, .int (nI c)), (3, .int (nI i)), (0, .ref (sa S 0)), (1, .ref (sa S 1000)), (2, .int x)]) hx hb dL_act_557 hl (by decide) rfl (fun ls hl => ?_)
  have LP_559 : ∀ (n : Nat) (k : Nat) (c : Nat) (hk : k ≤ 5) (hc : c < 5), 5 - k < n → ∀ (H : Heap) (locs : List Loc), fb_M D y A s (S, V, (sT V), I) H locs → ∀ ls, lv_has ls 15 [(14, .int (nI k)), (0, .ref (sa S 0)), (1, .ref (sa S 1000)), (2, .int x), (4, .int (nI c)), (5, .int (nI t)), (6, .ref (sa S (1100 + 100 * t))), (7, .int (nI q)), (8, .int (nI m))] → W pv l ev rm_L_act s mv ([.ref (sa S 0), .ref (sa S 1000), .int x] : List Value).toArray below meth cv H locs 0 0 Q (F0 mv 559 ls []) := by
    intro n_559
    induction n_559 with
    | zero => intro k c hk hc hmu; exact absurd hmu (Nat.not_lt_zero _)
    | succ n_559 ih_559 =>
      intro k c hk hc hmu H locs hM ls hl
      refine lv_iload hx hb dL_act_559 (lv_at hl 0 rfl) ?_
      refine lv_iconst (v := 5) hx hb dL_act_561 (by decide) ?_
      refine lv_icmp_ge (tgt := 609) hx hb dL_act_562 (by decide) (fun c_7 => ?_) (fun c_7 => ?_)
      · skip
        refine lv_aload_n hx hb dL_act_609 rfl (lv_at hl 1 rfl) ?_
        refine lv_iload hx hb dL_act_610 (lv_at hl 5 rfl) ?_
        refine lv_iload hx hb dL_act_612 (lv_at hl 7 rfl) ?_
        refine lv_iload hx hb dL_act_614 (lv_at hl 4 rfl) ?_
        refine lv_iload hx hb dL_act_616 (lv_at hl 8 rfl) ?_
        refine fb_callVi (r := 0) hx hb hml hown hts hM (hC.1.1) (ce3 (hC.1.2)) rfl (As := [.int (nI t), .int (nI q), .int (nI c), .int (nI m)]) (rest := []) (c_X3_fill_ok D y l S V I a1 ns nt 4 10 hC cf rf df hCF t ht q hq c hc m hma hm) (cwV 4 hts gL_act_X3_fill rfl rfl rfl (by decide +kernel) ⟨Nat.le_of_ble_eq_true rfl, Nat.le_of_ble_eq_true rfl⟩) rfl hl.1 rfl (Nat.le_of_ble_eq_true rfl) dL_act_618 ⟨Nat.le_of_ble_eq_true rfl, Nat.le_of_ble_eq_true rfl⟩ (fun v_8 u_ H locs hp hM => ?_)
        obtain ⟨hv_, hu_⟩ := hp
        have hv_ := Eq.symm hv_
        have hu_ := Eq.symm hu_
        subst hv_
        subst hu_
        obtain ⟨mv1, mv2, mv3, mv4, mv5⟩ := MVE (A := (V (100 + 2 * c))) (B := (V (300 + 72 * t + 2 * q))) (m := m) ((hCh c hc).2) (by omega) (htk.2.1 q (by omega)) hm
        rw [mv2, mv3] at hM
        refine W.eq (g2 := F0 mv _ ls (.int ((mn (nI m) (mn (s6 (V (100 + 2 * c))) (300 - s6 (V (300 + 72 * t + 2 * q)))))) :: [])) (by rw [show (mvm (V (100 + 2 * c)) (mn (nI m) (300 - s6 (V (300 + 72 * t + 2 * q)))) 6 : Int32) = (mn (nI m) (mn (s6 (V (100 + 2 * c))) (300 - s6 (V (300 + 72 * t + 2 * q))))) from mv1]) ?_
        have eq1 : I (1010 + c) = (V (100 + 2 * c)) := (hCh c hc).1
        have eq2 : I (1100 + 100 * t + 10 + q) = (V (300 + 72 * t + 2 * q)) := htk.2.2.1 q hq
        refine lv_aload_n hx hb dL_act_621 rfl (lv_at hl 2 rfl) ?_
        refine fb_get (r := 1000) hx hb hown hts hin4 hM (hA.1.1) (ce4 (hA.1.2)) rfl 3 (by decide) (hts (.fieldLink RL 60 "FeatherBedsLaw$Sim" "chambers" "[[I") (by decide +kernel)) (fun _ h9 => h9) (v := .ref (sa S 1009)) (congrArg (fun z => some (va_rf z)) (hA.2.1.2.2.1)) dL_act_622 ?_
        refine lv_iload hx hb dL_act_625 (lv_at hl 4 rfl) ?_
        refine fb_aaldA (r := 1009) hx hb hM (hA.2.2.2.2.1.1) (ce10 (hA.2.2.2.2.1.2.1)) 4 rfl (k := c) (nI_clamp (by omega)) (b := sa S (1010 + c)) ((hA.2.2.2.2.2.2.2.1 c (by omega)).1) (by rw [hA.2.2.2.2.1.2.2]; exact vp_in_nI (by omega) (by omega)) dL_act_627 ?_
        refine lv_aload hx hb dL_act_628 (lv_at hl 6 rfl) ?_
        refine fb_get (r := (1100 + 100 * t)) hx hb hown hts hin14 hM (hLt.1.1) (ce14 (hLt.1.2)) rfl 3 (by decide) (hts (.fieldLink RL 51 "FeatherBedsLaw$Tick" "squares" "[[I") (by decide +kernel)) (fun _ h9 => h9) (v := .ref (sa S ((1100 + 100 * t) + 9))) (congrArg (fun z => some (va_rf z)) (hLt.2.1)) dL_act_630 ?_
        refine lv_iload hx hb dL_act_633 (lv_at hl 7 rfl) ?_
        refine fb_aaldA (r := ((1100 + 100 * t) + 9)) hx hb hM (hLt.2.2.2.1.1) (ce10 (hLt.2.2.2.1.2.1)) 4 rfl (k := q) (nI_clamp (by omega)) (b := sa S ((1100 + 100 * t) + 10 + q)) ((hLt.2.2.2.2.2 q (by omega)).1.1) (by rw [hLt.2.2.2.1.2.2]; exact vp_in_nI (by omega) (by omega)) dL_act_635 ?_
        refine lv_iload hx hb dL_act_636 (lv_at hl 8 rfl) ?_
        refine fb_callSi hx hb hml hown hts hM (As := [.ref (sa S (1010 + c)), .ref (sa S ((1100 + 100 * t) + 10 + q)), .int (nI m)]) (rest := [.int ((mn (nI m) (mn (s6 (V (100 + 2 * c))) (300 - s6 (V (300 + 72 * t + 2 * q))))))]) (c_X4_take D y l S (va_up (va_up V (100 + 2 * c) (mva (V (100 + 2 * c)) (mn (nI m) (mn (s6 (V (100 + 2 * c))) (300 - s6 (V (300 + 72 * t + 2 * q))))) 6)) (300 + 72 * t + 2 * q) (mvb (V (100 + 2 * c)) (V (300 + 72 * t + 2 * q)) (mn (nI m) (mn (s6 (V (100 + 2 * c))) (300 - s6 (V (300 + 72 * t + 2 * q))))) 6)) I (1010 + c) (1100 + 100 * t + 10 + q) (hA.2.2.2.2.2.2.2.1 c hc).2 (hLt.2.2.2.2.2 q (by omega)).1.2 (by omega) (nI m)) (va_cwS 3 hts gL_act_X4_take rfl rfl rfl (by decide +kernel) ⟨Nat.le_of_ble_eq_true rfl, Nat.le_of_ble_eq_true rfl⟩) rfl hl.1 rfl (Nat.le_of_ble_eq_true rfl) dL_act_638 ⟨Nat.le_of_ble_eq_true rfl, Nat.le_of_ble_eq_true rfl⟩ (fun v_9 u_ H locs hp hM => ?_)
        obtain ⟨hv_, hu_⟩ := hp
        have hv_ := Eq.symm hv_
        have hu_ := Eq.symm hu_
        subst hv_
        subst hu_
        have eI : (tk2 I (1010 + c) (1100 + 100 * t + 10 + q) (I (1010 + c)) (I (1100 + 100 * t + 10 + q)) (mn (nI m) (mn (s6 (I (1010 + c))) (300 - s6 (I (1100 + 100 * t + 10 + q))))) 6) = (va_up (va_up I (1010 + c) (mva (V (100 + 2 * c)) (mn (nI m) (mn (s6 (V (100 + 2 * c))) (300 - s6 (V (300 + 72 * t + 2 * q))))) 6)) (1100 + 100 * t + 10 + q) (mvb (V (100 + 2 * c)) (V (300 + 72 * t + 2 * q)) (mn (nI m) (mn (s6 (V (100 + 2 * c))) (300 - s6 (V (300 + 72 * t + 2 * q))))) 6)) := by unfold tk2; rw [eq1, eq2]
        rw [eI] at hM
        clear eI
        refine W.eq (g2 := F0 mv _ ls (.int ((mn (nI m) (mn (s6 (V (100 + 2 * c))) (300 - s6 (V (300 + 72 * t + 2 * q)))))) :: .int ((mn (nI m) (mn (s6 (V (100 + 2 * c))) (300 - s6 (V (300 + 72 * t + 2 * q)))))) :: [])) (by rw [show (mn (nI m) (mn (s6 (I (1010 + c))) (300 - s6 (I (1100 + 100 * t + 10 + q)))) : Int32) = (mn (nI m) (mn (s6 (V (100 + 2 * c))) (300 - s6 (V (300 + 72 * t + 2 * q))))) from by rw [eq1, eq2]]) ?_
        refine lv_icmp_ne (tgt := 648) hx hb dL_act_641 (by decide) (fun c_10 => absurd (rfl) c_10) (fun c_10 => ?_)
        refine lv_iconst (v := 1) hx hb dL_act_644 (by decide) ?_
        refine lv_goto (tgt := 649) hx hb dL_act_645 (by decide) ?_
        rw [hQ]
        refine W.widen (show _ ≤ 10 from Nat.le_of_ble_eq_true rfl) (show _ ≤ 60 from Nat.le_of_ble_eq_true rfl) ?_
        exact fb_zret hx hb hr (by first | rfl | decide | assumption) hlocks hM (ActP.of (Ac.fill hI ht hq hc mv4 mv5 (s6_mv _ _ _) rfl rfl) (by omega)) dL_act_649
      · skip
        have hk5 : k < 5 := Nat.lt_of_not_le (fun z => c_7 (nI_le z (by omega)))
        refine lv_iload_n hx hb dL_act_565 rfl (lv_at hl 3 rfl) ?_
        refine lv_bipush (v := 6) hx hb dL_act_566 (by decide) ?_
        refine lv_ishr hx hb dL_act_568 ?_
        refine lv_iconst (v := 3) hx hb dL_act_569 (by decide) ?_
        refine fb_callSi hx hb hml hown hts hM (As := [.int (x >>> (6 &&& 31)), .int 3]) (rest := []) (c_L_below D y l S V I (x >>> (6 &&& 31)) 3 (by omega) (by omega)) (va_cwS 2 hts gL_act_L_below rfl rfl rfl (by decide +kernel) ⟨Nat.le_of_ble_eq_true rfl, Nat.le_of_ble_eq_true rfl⟩) rfl hl.1 rfl (Nat.le_of_ble_eq_true rfl) dL_act_570 ⟨Nat.le_of_ble_eq_true rfl, Nat.le_of_ble_eq_true rfl⟩ (fun v_11 u_ H locs hp hM => ?_)
        obtain ⟨hv_, hu_⟩ := hp
        have hv_ := Eq.symm hv_
        have hu_ := Eq.symm hu_
        subst hv_
        subst hu_
        refine lv_if_le (tgt := 609) hx hb dL_act_573 (by decide) (fun c_12 => ?_) (fun c_12 => ?_)
        · skip
          refine lv_aload_n hx hb dL_act_609 rfl (lv_at hl 1 rfl) ?_
          refine lv_iload hx hb dL_act_610 (lv_at hl 5 rfl) ?_
          refine lv_iload hx hb dL_act_612 (lv_at hl 7 rfl) ?_
          refine lv_iload hx hb dL_act_614 (lv_at hl 4 rfl) ?_
          refine lv_iload hx hb dL_act_616 (lv_at hl 8 rfl) ?_
          refine fb_callVi (r := 0) hx hb hml hown hts hM (hC.1.1) (ce3 (hC.1.2)) rfl (As := [.int (nI t), .int (nI q), .int (nI c), .int (nI m)]) (rest := []) (c_X3_fill_ok D y l S V I a1 ns nt 4 10 hC cf rf df hCF t ht q hq c hc m hma hm) (cwV 4 hts gL_act_X3_fill rfl rfl rfl (by decide +kernel) ⟨Nat.le_of_ble_eq_true rfl, Nat.le_of_ble_eq_true rfl⟩) rfl hl.1 rfl (Nat.le_of_ble_eq_true rfl) dL_act_618 ⟨Nat.le_of_ble_eq_true rfl, Nat.le_of_ble_eq_true rfl⟩ (fun v_13 u_ H locs hp hM => ?_)
          obtain ⟨hv_, hu_⟩ := hp
          have hv_ := Eq.symm hv_
          have hu_ := Eq.symm hu_
          subst hv_
          subst hu_
          obtain ⟨mv1, mv2, mv3, mv4, mv5⟩ := MVE (A := (V (100 + 2 * c))) (B := (V (300 + 72 * t + 2 * q))) (m := m) ((hCh c hc).2) (by omega) (htk.2.1 q (by omega)) hm
          rw [mv2, mv3] at hM
          refine W.eq (g2 := F0 mv _ ls (.int ((mn (nI m) (mn (s6 (V (100 + 2 * c))) (300 - s6 (V (300 + 72 * t + 2 * q)))))) :: [])) (by rw [show (mvm (V (100 + 2 * c)) (mn (nI m) (300 - s6 (V (300 + 72 * t + 2 * q)))) 6 : Int32) = (mn (nI m) (mn (s6 (V (100 + 2 * c))) (300 - s6 (V (300 + 72 * t + 2 * q))))) from mv1]) ?_
          have eq1 : I (1010 + c) = (V (100 + 2 * c)) := (hCh c hc).1
          have eq2 : I (1100 + 100 * t + 10 + q) = (V (300 + 72 * t + 2 * q)) := htk.2.2.1 q hq
          refine lv_aload_n hx hb dL_act_621 rfl (lv_at hl 2 rfl) ?_
          refine fb_get (r := 1000) hx hb hown hts hin4 hM (hA.1.1) (ce4 (hA.1.2)) rfl 3 (by decide) (hts (.fieldLink RL 60 "FeatherBedsLaw$Sim" "chambers" "[[I") (by decide +kernel)) (fun _ h9 => h9) (v := .ref (sa S 1009)) (congrArg (fun z => some (va_rf z)) (hA.2.1.2.2.1)) dL_act_622 ?_
          refine lv_iload hx hb dL_act_625 (lv_at hl 4 rfl) ?_
          refine fb_aaldA (r := 1009) hx hb hM (hA.2.2.2.2.1.1) (ce10 (hA.2.2.2.2.1.2.1)) 4 rfl (k := c) (nI_clamp (by omega)) (b := sa S (1010 + c)) ((hA.2.2.2.2.2.2.2.1 c (by omega)).1) (by rw [hA.2.2.2.2.1.2.2]; exact vp_in_nI (by omega) (by omega)) dL_act_627 ?_
          refine lv_aload hx hb dL_act_628 (lv_at hl 6 rfl) ?_
          refine fb_get (r := (1100 + 100 * t)) hx hb hown hts hin14 hM (hLt.1.1) (ce14 (hLt.1.2)) rfl 3 (by decide) (hts (.fieldLink RL 51 "FeatherBedsLaw$Tick" "squares" "[[I") (by decide +kernel)) (fun _ h9 => h9) (v := .ref (sa S ((1100 + 100 * t) + 9))) (congrArg (fun z => some (va_rf z)) (hLt.2.1)) dL_act_630 ?_
          refine lv_iload hx hb dL_act_633 (lv_at hl 7 rfl) ?_
          refine fb_aaldA (r := ((1100 + 100 * t) + 9)) hx hb hM (hLt.2.2.2.1.1) (ce10 (hLt.2.2.2.1.2.1)) 4 rfl (k := q) (nI_clamp (by omega)) (b := sa S ((1100 + 100 * t) + 10 + q)) ((hLt.2.2.2.2.2 q (by omega)).1.1) (by rw [hLt.2.2.2.1.2.2]; exact vp_in_nI (by omega) (by omega)) dL_act_635 ?_
          refine lv_iload hx hb dL_act_636 (lv_at hl 8 rfl) ?_
          refine fb_callSi hx hb hml hown hts hM (As := [.ref (sa S (1010 + c)), .ref (sa S ((1100 + 100 * t) + 10 + q)), .int (nI m)]) (rest := [.int ((mn (nI m) (mn (s6 (V (100 + 2 * c))) (300 - s6 (V (300 + 72 * t + 2 * q))))))]) (c_X4_take D y l S (va_up (va_up V (100 + 2 * c) (mva (V (100 + 2 * c)) (mn (nI m) (mn (s6 (V (100 + 2 * c))) (300 - s6 (V (300 + 72 * t + 2 * q))))) 6)) (300 + 72 * t + 2 * q) (mvb (V (100 + 2 * c)) (V (300 + 72 * t + 2 * q)) (mn (nI m) (mn (s6 (V (100 + 2 * c))) (300 - s6 (V (300 + 72 * t + 2 * q))))) 6)) I (1010 + c) (1100 + 100 * t + 10 + q) (hA.2.2.2.2.2.2.2.1 c hc).2 (hLt.2.2.2.2.2 q (by omega)).1.2 (by omega) (nI m)) (va_cwS 3 hts gL_act_X4_take rfl rfl rfl (by decide +kernel) ⟨Nat.le_of_ble_eq_true rfl, Nat.le_of_ble_eq_true rfl⟩) rfl hl.1 rfl (Nat.le_of_ble_eq_true rfl) dL_act_638 ⟨Nat.le_of_ble_eq_true rfl, Nat.le_of_ble_eq_true rfl⟩ (fun v_14 u_ H locs hp hM => ?_)
          obtain ⟨hv_, hu_⟩ := hp
          have hv_ := Eq.symm hv_
          have hu_ := Eq.symm hu_
          subst hv_
          subst hu_
          have eI : (tk2 I (1010 + c) (1100 + 100 * t + 10 + q) (I (1010 + c)) (I (1100 + 100 * t + 10 + q)) (mn (nI m) (mn (s6 (I (1010 + c))) (300 - s6 (I (1100 + 100 * t + 10 + q))))) 6) = (va_up (va_up I (1010 + c) (mva (V (100 + 2 * c)) (mn (nI m) (mn (s6 (V (100 + 2 * c))) (300 - s6 (V (300 + 72 * t + 2 * q))))) 6)) (1100 + 100 * t + 10 + q) (mvb (V (100 + 2 * c)) (V (300 + 72 * t + 2 * q)) (mn (nI m) (mn (s6 (V (100 + 2 * c))) (300 - s6 (V (300 + 72 * t + 2 * q))))) 6)) := by unfold tk2; rw [eq1, eq2]
          rw [eI] at hM
          clear eI
          refine W.eq (g2 := F0 mv _ ls (.int ((mn (nI m) (mn (s6 (V (100 + 2 * c))) (300 - s6 (V (300 + 72 * t + 2 * q)))))) :: .int ((mn (nI m) (mn (s6 (V (100 + 2 * c))) (300 - s6 (V (300 + 72 * t + 2 * q)))))) :: [])) (by rw [show (mn (nI m) (mn (s6 (I (1010 + c))) (300 - s6 (I (1100 + 100 * t + 10 + q)))) : Int32) = (mn (nI m) (mn (s6 (V (100 + 2 * c))) (300 - s6 (V (300 + 72 * t + 2 * q))))) from by rw [eq1, eq2]]) ?_
          refine lv_icmp_ne (tgt := 648) hx hb dL_act_641 (by decide) (fun c_15 => absurd (rfl) c_15) (fun c_15 => ?_)
          refine lv_iconst (v := 1) hx hb dL_act_644 (by decide) ?_
          refine lv_goto (tgt := 649) hx hb dL_act_645 (by decide) ?_
          rw [hQ]
          refine W.widen (show _ ≤ 10 from Nat.le_of_ble_eq_true rfl) (show _ ≤ 60 from Nat.le_of_ble_eq_true rfl) ?_
          exact fb_zret hx hb hr (by first | rfl | decide | assumption) hlocks hM (ActP.of (Ac.fill hI ht hq hc mv4 mv5 (s6_mv _ _ _) rfl rfl) (by omega)) dL_act_649
        · skip
          refine lv_aload_n hx hb dL_act_576 rfl (lv_at hl 2 rfl) ?_
          refine fb_get (r := 1000) hx hb hown hts hin4 hM (hA.1.1) (ce4 (hA.1.2)) rfl 3 (by decide) (hts (.fieldLink RL 60 "FeatherBedsLaw$Sim" "chambers" "[[I") (by decide +kernel)) (fun _ h9 => h9) (v := .ref (sa S 1009)) (congrArg (fun z => some (va_rf z)) (hA.2.1.2.2.1)) dL_act_577 ?_
          refine lv_iload hx hb dL_act_580 (lv_at hl 0 rfl) ?_
          refine fb_aaldA (r := 1009) hx hb hM (hA.2.2.2.2.1.1) (ce10 (hA.2.2.2.2.1.2.1)) 4 rfl (k := k) (nI_clamp (by omega)) (b := sa S (1010 + k)) ((hA.2.2.2.2.2.2.2.1 k (by omega)).1) (by rw [hA.2.2.2.2.1.2.2]; exact vp_in_nI (by omega) (by omega)) dL_act_582 ?_
          refine fb_callSi hx hb hml hown hts hM (As := [.ref (sa S (1010 + k))]) (rest := []) (c_X5_all D y l S V I (1010 + k) (hA.2.2.2.2.2.2.2.1 k (by omega)).2) (va_cwS 1 hts gL_act_X5_all rfl rfl rfl (by decide +kernel) ⟨Nat.le_of_ble_eq_true rfl, Nat.le_of_ble_eq_true rfl⟩) rfl hl.1 rfl (Nat.le_of_ble_eq_true rfl) dL_act_583 ⟨Nat.le_of_ble_eq_true rfl, Nat.le_of_ble_eq_true rfl⟩ (fun v_16 u_ H locs hp hM => ?_)
          obtain ⟨hv_, hu_⟩ := hp
          have hv_ := Eq.symm hv_
          have hu_ := Eq.symm hu_
          subst hv_
          subst hu_
          refine lv_aload_n hx hb dL_act_586 rfl (lv_at hl 2 rfl) ?_
          refine fb_get (r := 1000) hx hb hown hts hin4 hM (hA.1.1) (ce4 (hA.1.2)) rfl 3 (by decide) (hts (.fieldLink RL 60 "FeatherBedsLaw$Sim" "chambers" "[[I") (by decide +kernel)) (fun _ h9 => h9) (v := .ref (sa S 1009)) (congrArg (fun z => some (va_rf z)) (hA.2.1.2.2.1)) dL_act_587 ?_
          refine lv_iload hx hb dL_act_590 (lv_at hl 4 rfl) ?_
          refine fb_aaldA (r := 1009) hx hb hM (hA.2.2.2.2.1.1) (ce10 (hA.2.2.2.2.1.2.1)) 4 rfl (k := c) (nI_clamp (by omega)) (b := sa S (1010 + c)) ((hA.2.2.2.2.2.2.2.1 c (by omega)).1) (by rw [hA.2.2.2.2.1.2.2]; exact vp_in_nI (by omega) (by omega)) dL_act_592 ?_
          refine fb_callSi hx hb hml hown hts hM (As := [.ref (sa S (1010 + c))]) (rest := [.int (s6 (I (1010 + k)))]) (c_X5_all D y l S V I (1010 + c) (hA.2.2.2.2.2.2.2.1 c (by omega)).2) (va_cwS 1 hts gL_act_X5_all rfl rfl rfl (by decide +kernel) ⟨Nat.le_of_ble_eq_true rfl, Nat.le_of_ble_eq_true rfl⟩) rfl hl.1 rfl (Nat.le_of_ble_eq_true rfl) dL_act_593 ⟨Nat.le_of_ble_eq_true rfl, Nat.le_of_ble_eq_true rfl⟩ (fun v_17 u_ H locs hp hM => ?_)
          obtain ⟨hv_, hu_⟩ := hp
          have hv_ := Eq.symm hv_
          have hu_ := Eq.symm hu_
          subst hv_
          subst hu_
          refine lv_icmp_le (tgt := 603) hx hb dL_act_596 (by decide) (fun c_18 => ?_) (fun c_18 => ?_)
          · skip
            refine lv_iinc (v := nI (k + 1)) (lv' := [(14, .int (nI (k + 1))), (0, .ref (sa S 0)), (1, .ref (sa S 1000)), (2, .int x), (4, .int (nI c)), (5, .int (nI t)), (6, .ref (sa S (1100 + 100 * t))), (7, .int (nI q)), (8, .int (nI m))]) hx hb dL_act_603 hl (k := 0) rfl (nI_1 _) (by decide) rfl (fun ls hl => ?_)
            refine lv_goto (tgt := 559) hx hb dL_act_606 (by decide) ?_
            exact ih_559 (k + 1) c (by omega) (by omega) (by omega) _ _ hM ls (lv_sub hl [0, 1, 2, 3, 4, 5, 6, 7, 8] rfl)
          · skip
            refine lv_iload hx hb dL_act_599 (lv_at hl 0 rfl) ?_
            refine lv_istore (lv' := [(4, .int (nI k)), (14, .int (nI k)), (0, .ref (sa S 0)), (1, .ref (sa S 1000)), (2, .int x), (5, .int (nI t)), (6, .ref (sa S (1100 + 100 * t))), (7, .int (nI q)), (8, .int (nI m))]) hx hb dL_act_601 hl (by decide) rfl (fun ls hl => ?_)
            refine lv_iinc (v := nI (k + 1)) (lv' := [(14, .int (nI (k + 1))), (4, .int (nI k)), (0, .ref (sa S 0)), (1, .ref (sa S 1000)), (2, .int x), (5, .int (nI t)), (6, .ref (sa S (1100 + 100 * t))), (7, .int (nI q)), (8, .int (nI m))]) hx hb dL_act_603 hl (k := 1) rfl (nI_1 _) (by decide) rfl (fun ls hl => ?_)
            refine lv_goto (tgt := 559) hx hb dL_act_606 (by decide) ?_
            exact ih_559 (k + 1) k (by omega) (by omega) (by omega) _ _ hM ls (lv_sub hl [0, 2, 3, 4, 1, 5, 6, 7, 8] rfl)
  exact LP_559 _ 0 c (by omega) hc (Nat.lt_succ_self _) _ _ hM ls (lv_sub hl [0, 7, 8, 9, 5, 4, 3, 2, 1] rfl)
