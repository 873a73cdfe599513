abbrev rm_L_act : Room := { frames := 8, cells := 10, slots := 60, locals := 167 }
set_option maxHeartbeats 4000000 in
set_option maxRecDepth 100000 in
theorem c_L_act_0 (D : va_G) (y : Nat → ClassId) (l : Launch) (S : fb_Sh) (V I : fb_V) (a1 ns nt N F : Nat) (rho cf rf df : Nat → Nat) (hI : Iv a1 S V I ns nt rho cf rf df N F) (hn1 : 1 ≤ ns) (ht1 : 1 ≤ nt) (hN : N ≤ 600000) (x : Int32) (hk9 : blN (x >>> (8 &&& 31)) 9 = 0)  : CI D y l yL_act wsL_act rm_L_act [.ref (sa S 0), .ref (sa S 1000), .int x] (S, V, (sT V), I) (fun z u => ActP a1 S V I ns nt rho cf rf df N z u) 10 60 := by
  refine CI.of (cc := cL_act) (maxL := 15) (ret := (some .boolean)) (by decide) rfl (Nat.le_of_ble_eq_true rfl) ?_
  intro pv ev s mv below meth cv A hx hb hml hr hown hts hlocks hname hM ls hl
  have hown : s.vm.findClass RL = some mv.cls := hown
  have hl : lv_has ls 15 [(0, .ref (sa S 0)), (1, .ref (sa S 1000)), (2, .int x)] := hl
  have hin3 : ∀ x ∈ wsX30, x ∈ wsL_act := by decide +kernel
  have hin4 : ∀ x ∈ wsX40, x ∈ wsL_act := by decide +kernel
  have hin14 : ∀ x ∈ wsX50, x ∈ wsL_act := by decide +kernel
  obtain ⟨Q, hQ⟩ : ∃ Q, Q = MQ below (va_Qi (fun z u => ActP a1 S V I ns nt rho cf rf df N z u) (fun u t => fb_P D y A u t) A) (([.ref (sa S 0), .ref (sa S 1000), .int x] : List Value).toArray) s 10 60 A := ⟨_, rfl⟩
  rw [← hQ]
  obtain ⟨⟨hC, hA⟩, ⟨hRh, hFs⟩, hCF, ⟨hW, hSk, hCh, hTk, hTZ⟩, hns4, hnt3⟩ := id hI
  obtain ⟨w0, hw1, hw20, hw0, hw00⟩ := hW.1
  have hFs4 := hFs.1
  refine lv_iload_n hx hb dL_act_0 rfl (lv_at hl 2 rfl) ?_
  refine lv_aload_n hx hb dL_act_1 rfl (lv_at hl 1 rfl) ?_
  refine fb_get (r := 1000) hx hb hown hts hin4 hM (hA.1.1) (ce4 (hA.1.2)) rfl 0 (by decide) (hts (.fieldLink RL 32 "FeatherBedsLaw$Sim" "sacks" "[[I") (by decide +kernel)) (fun _ h9 => h9) (v := .ref (sa S (1020 + ns))) (congrArg (fun z => some (va_rf z)) (hA.2.1.1)) dL_act_2 ?_
  refine fb_alen (r := (1020 + ns)) hx hb hM (hA.2.2.1.1) (ce10 (hA.2.2.1.2.1)) 4 rfl (v := nI ns) (congrArg Int32.ofNat (hA.2.2.1.2.2)) dL_act_5 ?_
  refine fb_callSi hx hb hml hown hts hM (As := [.int x, .int (nI ns)]) (rest := []) (c_L_below D y l S V I x ns (by omega) (by omega)) (va_cwS 2 hts gL_act_L_below rfl rfl rfl (by decide +kernel) ⟨Nat.le_of_ble_eq_true rfl, Nat.le_of_ble_eq_true rfl⟩) rfl hl.1 rfl (Nat.le_of_ble_eq_true rfl) dL_act_6 ⟨Nat.le_of_ble_eq_true rfl, Nat.le_of_ble_eq_true rfl⟩ (fun v_1 u_ H locs hp hM => ?_)
  obtain ⟨hv_, hu_⟩ := hp
  have hv_ := Eq.symm hv_
  have hu_ := Eq.symm hu_
  subst hv_
  subst hu_
  obtain ⟨i, ei⟩ : ∃ i, i = blN x ns := ⟨_, rfl⟩
  have hi : i < ns := by rw [ei]; exact blN_lt _ (by omega)
  rw [← ei]
  have hri := hRh.1 i hi
  refine lv_istore_n (lv' := [(3, .int (nI i)), (0, .ref (sa S 0)), (1, .ref (sa S 1000)), (2, .int x)]) hx hb dL_act_9 rfl hl (by decide) rfl (fun ls hl => ?_)
  refine lv_iload_n hx hb dL_act_10 rfl (lv_at hl 3 rfl) ?_
  refine lv_iconst (v := 3) hx hb dL_act_11 (by decide) ?_
  refine lv_ishr hx hb dL_act_12 ?_
  refine lv_iconst (v := 5) hx hb dL_act_13 (by decide) ?_
  refine fb_callSi hx hb hml hown hts hM (As := [.int (x >>> (3 &&& 31)), .int 5]) (rest := []) (c_L_below D y l S V I (x >>> (3 &&& 31)) 5 (by omega) (by omega)) (va_cwS 2 hts gL_act_L_below rfl rfl rfl (by decide +kernel) ⟨Nat.le_of_ble_eq_true rfl, Nat.le_of_ble_eq_true rfl⟩) rfl hl.1 rfl (Nat.le_of_ble_eq_true rfl) dL_act_14 ⟨Nat.le_of_ble_eq_true rfl, Nat.le_of_ble_eq_true rfl⟩ (fun v_2 u_ H locs hp hM => ?_)
  obtain ⟨hv_, hu_⟩ := hp
  have hv_ := Eq.symm hv_
  have hu_ := Eq.symm hu_
  subst hv_
  subst hu_
  obtain ⟨c, ec⟩ : ∃ c, c = blN (x >>> (3 &&& 31)) 5 := ⟨_, rfl⟩
  have hc : c < 5 := by rw [ec]; exact blN_lt _ (by omega)
  rw [← ec]
  refine lv_istore (lv' := [(4, .int (nI c)), (3, .int (nI i)), (0, .ref (sa S 0)), (1, .ref (sa S 1000)), (2, .int x)]) hx hb dL_act_17 hl (by decide) rfl (fun ls hl => ?_)
  refine lv_iload_n hx hb dL_act_19 rfl (lv_at hl 4 rfl) ?_
  refine lv_iconst (v := 2) hx hb dL_act_20 (by decide) ?_
  refine lv_ishr hx hb dL_act_21 ?_
  refine lv_aload_n hx hb dL_act_22 rfl (lv_at hl 3 rfl) ?_
  refine fb_get (r := 1000) hx hb hown hts hin4 hM (hA.1.1) (ce4 (hA.1.2)) rfl 4 (by decide) (hts (.fieldLink RL 47 "FeatherBedsLaw$Sim" "ticks" "[LFeatherBedsLaw$Tick;") (by decide +kernel)) (fun _ h9 => h9) (v := .ref (sa S (1040 + nt))) (congrArg (fun z => some (va_rf z)) (hA.2.1.2.2.2)) dL_act_23 ?_
  refine fb_alen (r := (1040 + nt)) hx hb hM (hA.2.2.2.2.2.1.1) (ce13 (hA.2.2.2.2.2.1.2.1)) 6 rfl (v := nI nt) (congrArg Int32.ofNat (hA.2.2.2.2.2.1.2.2)) dL_act_26 ?_
  refine fb_callSi hx hb hml hown hts hM (As := [.int (x >>> (2 &&& 31)), .int (nI nt)]) (rest := []) (c_L_below D y l S V I (x >>> (2 &&& 31)) nt (by omega) (by omega)) (va_cwS 2 hts gL_act_L_below rfl rfl rfl (by decide +kernel) ⟨Nat.le_of_ble_eq_true rfl, Nat.le_of_ble_eq_true rfl⟩) rfl hl.1 rfl (Nat.le_of_ble_eq_true rfl) dL_act_27 ⟨Nat.le_of_ble_eq_true rfl, Nat.le_of_ble_eq_true rfl⟩ (fun v_3 u_ H locs hp hM => ?_)
  obtain ⟨hv_, hu_⟩ := hp
  have hv_ := Eq.symm hv_
  have hu_ := Eq.symm hu_
  subst hv_
  subst hu_
  obtain ⟨t, et⟩ : ∃ t, t = blN (x >>> (2 &&& 31)) nt := ⟨_, rfl⟩
  have ht : t < nt := by rw [et]; exact blN_lt _ (by omega)
  rw [← et]
  have htk := hTk t ht
  have hcr := htk.n36
  have hLt := (hA.2.2.2.2.2.2.2.2 t ht).2
  refine lv_istore (lv' := [(5, .int (nI t)), (4, .int (nI c)), (3, .int (nI i)), (0, .ref (sa S 0)), (1, .ref (sa S 1000)), (2, .int x)]) hx hb dL_act_30 hl (by decide) rfl (fun ls hl => ?_)
  refine lv_aload_n hx hb dL_act_32 rfl (lv_at hl 4 rfl) ?_
  refine fb_get (r := 1000) hx hb hown hts hin4 hM (hA.1.1) (ce4 (hA.1.2)) rfl 4 (by decide) (hts (.fieldLink RL 47 "FeatherBedsLaw$Sim" "ticks" "[LFeatherBedsLaw$Tick;") (by decide +kernel)) (fun _ h9 => h9) (v := .ref (sa S (1040 + nt))) (congrArg (fun z => some (va_rf z)) (hA.2.1.2.2.2)) dL_act_33 ?_
  refine lv_iload hx hb dL_act_36 (lv_at hl 0 rfl) ?_
  refine fb_aald (r := (1040 + nt)) hx hb hM (hA.2.2.2.2.2.1.1) (ce13 (hA.2.2.2.2.2.1.2.1)) 6 rfl (k := t) (nI_clamp (by omega)) (b := sa S (1100 + 100 * t)) ((hA.2.2.2.2.2.2.2.2 t (by omega)).1) (by rw [hA.2.2.2.2.2.1.2.2]; exact vp_in_nI (by omega) (by omega)) dL_act_38 ?_
  refine lv_astore (lv' := [(6, .ref (sa S (1100 + 100 * t))), (5, .int (nI t)), (4, .int (nI c)), (3, .int (nI i)), (0, .ref (sa S 0)), (1, .ref (sa S 1000)), (2, .int x)]) hx hb dL_act_39 hl (by decide) rfl (fun ls hl => ?_)
  refine lv_iload_n hx hb dL_act_41 rfl (lv_at hl 6 rfl) ?_
  refine lv_iconst (v := 4) hx hb dL_act_42 (by decide) ?_
  refine lv_ishr hx hb dL_act_43 ?_
  refine lv_aload hx hb dL_act_44 (lv_at hl 0 rfl) ?_
  refine fb_get (r := (1100 + 100 * t)) hx hb hown hts hin14 hM (hLt.1.1) (ce14 (hLt.1.2)) rfl 3 (by decide) (hts (.fieldLink RL 51 "FeatherBedsLaw$Tick" "squares" "[[I") (by decide +kernel)) (fun _ h9 => h9) (v := .ref (sa S ((1100 + 100 * t) + 9))) (congrArg (fun z => some (va_rf z)) (hLt.2.1)) dL_act_46 ?_
  refine fb_alen (r := ((1100 + 100 * t) + 9)) hx hb hM (hLt.2.2.2.1.1) (ce10 (hLt.2.2.2.1.2.1)) 4 rfl (v := nI (cf t * rf t)) (congrArg Int32.ofNat (hLt.2.2.2.1.2.2)) dL_act_49 ?_
  refine fb_callSi hx hb hml hown hts hM (As := [.int (x >>> (4 &&& 31)), .int (nI ((cf t * rf t)))]) (rest := []) (c_L_below D y l S V I (x >>> (4 &&& 31)) (cf t * rf t) (by omega) (by omega)) (va_cwS 2 hts gL_act_L_below rfl rfl rfl (by decide +kernel) ⟨Nat.le_of_ble_eq_true rfl, Nat.le_of_ble_eq_true rfl⟩) rfl hl.1 rfl (Nat.le_of_ble_eq_true rfl) dL_act_50 ⟨Nat.le_of_ble_eq_true rfl, Nat.le_of_ble_eq_true rfl⟩ (fun v_4 u_ H locs hp hM => ?_)
  obtain ⟨hv_, hu_⟩ := hp
  have hv_ := Eq.symm hv_
  have hu_ := Eq.symm hu_
  subst hv_
  subst hu_
  obtain ⟨q, eq⟩ : ∃ q, q = blN (x >>> (4 &&& 31)) (cf t * rf t) := ⟨_, rfl⟩
  have hq : q < (cf t * rf t) := by rw [eq]; exact blN_lt _ (by omega)
  rw [← eq]
  refine lv_istore (lv' := [(7, .int (nI q)), (6, .ref (sa S (1100 + 100 * t))), (5, .int (nI t)), (4, .int (nI c)), (3, .int (nI i)), (0, .ref (sa S 0)), (1, .ref (sa S 1000)), (2, .int x)]) hx hb dL_act_53 hl (by decide) rfl (fun ls hl => ?_)
  refine lv_iconst (v := 1) hx hb dL_act_55 (by decide) ?_
  refine lv_iload_n hx hb dL_act_56 rfl (lv_at hl 7 rfl) ?_
  refine lv_iconst (v := 5) hx hb dL_act_57 (by decide) ?_
  refine lv_ishr hx hb dL_act_58 ?_
  refine lv_sipush (v := 300) hx hb dL_act_59 (by decide) ?_
  refine fb_callSi hx hb hml hown hts hM (As := [.int (x >>> (5 &&& 31)), .int 300]) (rest := [.int 1]) (c_L_below D y l S V I (x >>> (5 &&& 31)) 300 (by omega) (by omega)) (va_cwS 2 hts gL_act_L_below rfl rfl rfl (by decide +kernel) ⟨Nat.le_of_ble_eq_true rfl, Nat.le_of_ble_eq_true rfl⟩) rfl hl.1 rfl (Nat.le_of_ble_eq_true rfl) dL_act_62 ⟨Nat.le_of_ble_eq_true rfl, Nat.le_of_ble_eq_true rfl⟩ (fun v_5 u_ H locs hp hM => ?_)
  obtain ⟨hv_, hu_⟩ := hp
  have hv_ := Eq.symm hv_
  have hu_ := Eq.symm hu_
  subst hv_
  subst hu_
  obtain ⟨m0, em0⟩ : ∃ m0, m0 = blN (x >>> (5 &&& 31)) 300 := ⟨_, rfl⟩
  have hm0 : m0 < 300 := by rw [em0]; exact blN_lt _ (by omega)
  rw [← em0]
  refine lv_iadd hx hb dL_act_65 ?_
  refine W.eq (g2 := F0 mv _ ls (.int (nI (1 + m0)) :: [])) (by rw [show (1 + (nI m0) : Int32) = nI (1 + m0) from nI_add 1 m0]) ?_
  obtain ⟨m, em⟩ : ∃ m, m = 1 + m0 := ⟨_, rfl⟩
  have hma : 1 ≤ m := by omega
  have hm : m ≤ 300 := by omega
  rw [← em]
  refine lv_istore (lv' := [(8, .int (nI m)), (7, .int (nI q)), (6, .ref (sa S (1100 + 100 * t))), (5, .int (nI t)), (4, .int (nI c)), (3, .int (nI i)), (0, .ref (sa S 0)), (1, .ref (sa S 1000)), (2, .int x)]) hx hb dL_act_66 hl (by decide) rfl (fun ls hl => ?_)
  refine lv_iload_n hx hb dL_act_68 rfl (lv_at hl 8 rfl) ?_
  refine lv_bipush (v := 8) hx hb dL_act_69 (by decide) ?_
  refine lv_ishr hx hb dL_act_71 ?_
  refine lv_bipush (v := 9) hx hb dL_act_72 (by decide) ?_
  refine fb_callSi hx hb hml hown hts hM (As := [.int (x >>> (8 &&& 31)), .int 9]) (rest := []) (c_L_below D y l S V I (x >>> (8 &&& 31)) 9 (by omega) (by omega)) (va_cwS 2 hts gL_act_L_below rfl rfl rfl (by decide +kernel) ⟨Nat.le_of_ble_eq_true rfl, Nat.le_of_ble_eq_true rfl⟩) rfl hl.1 rfl (Nat.le_of_ble_eq_true rfl) dL_act_74 ⟨Nat.le_of_ble_eq_true rfl, Nat.le_of_ble_eq_true rfl⟩ (fun v_6 u_ H locs hp hM => ?_)
  obtain ⟨hv_, hu_⟩ := hp
  have hv_ := Eq.symm hv_
  have hu_ := Eq.symm hu_
  subst hv_
  subst hu_
  refine W.eq (g2 := F0 mv _ ls (.int (nI 0) :: [])) (by rw [show (nI (blN (x >>> (8 &&& 31)) 9) : Int32) = nI 0 from congrArg nI hk9]) ?_
  refine lv_tableIn (off := 43) (tgt := 120) hx hb dL_act_77 (by decide) (by decide) rfl (by decide) ?_
  refine lv_aload_n hx hb dL_act_120 rfl (lv_at hl 6 rfl) ?_
  refine lv_iload_n hx hb dL_act_121 rfl (lv_at hl 5 rfl) ?_
  obtain ⟨hJs, hBk, dm, hd9, hd1, hd2⟩ := hSk i hi
  refine fb_callVi (r := 0) hx hb hml hown hts hM (hC.1.1) (ce3 (hC.1.2)) rfl (As := [.int (nI i)]) (rest := []) (c_X3_blow_ok D y l S V I a1 ns nt 4 10 hC cf rf df hCF i hi) (cwV 1 hts gL_act_X3_blow rfl rfl rfl (by decide +kernel) ⟨Nat.le_of_ble_eq_true rfl, Nat.le_of_ble_eq_true rfl⟩) rfl hl.1 rfl (Nat.le_of_ble_eq_true rfl) dL_act_122 ⟨Nat.le_of_ble_eq_true rfl, Nat.le_of_ble_eq_true rfl⟩ (fun v_7 u_ H locs hp hM => ?_)
  obtain ⟨hv_, hu_⟩ := hp
  have hv_ := Eq.symm hv_
  have hu_ := Eq.symm hu_
  subst hv_
  subst hu_
  refine lv_aload_n hx hb dL_act_125 rfl (lv_at hl 7 rfl) ?_
  refine lv_iload_n hx hb dL_act_126 rfl (lv_at hl 5 rfl) ?_
  have n0 : ∀ x9, x9 ≠ 0 → (va_up I 0 (upd (I 0) 6 (bly (V (200 + 2 * i)) (fun j => fl (I (10 + i) 1) (nI j) (I 0 4)) (I 0 6) 6))) x9 = I x9 := fun x9 h9 => va_up_ne _ _ h9
  refine fb_callVi (r := 1000) hx hb hml hown hts hM (hA.1.1) (ce4 (hA.1.2)) rfl (As := [.int (nI i)]) (rest := [.int (bls (V (200 + 2 * i)) (fun j => fl (I (10 + i) 1) (nI j) (I 0 4)) 6)]) (c_X4_blow D y l S (blV V i (V (200 + 2 * i)) (fun j => fl (I (10 + i) 1) (nI j) (I 0 4)) 6 0) (va_up I 0 (upd (I 0) 6 (bly (V (200 + 2 * i)) (fun j => fl (I (10 + i) 1) (nI j) (I 0 4)) (I 0 6) 6))) ns nt rho cf rf hA F hFs i hi dm (by rw [n0 1001 (by omega)]; exact hd2) hd9 w0 hw20 (by omega) (by rw [n0 1000 (by omega)]; exact hw00)) (cwV 1 hts gL_act_X4_blow rfl rfl rfl (by decide +kernel) ⟨Nat.le_of_ble_eq_true rfl, Nat.le_of_ble_eq_true rfl⟩) rfl hl.1 rfl (Nat.le_of_ble_eq_true rfl) dL_act_127 ⟨Nat.le_of_ble_eq_true rfl, Nat.le_of_ble_eq_true rfl⟩ (fun v_8 u_ H locs hp hM => ?_)
  obtain ⟨hv_, S3, hu_, hA3, hE3⟩ := hp
  have hu_ := hu_.symm
  subst hu_
  have hxr : (va_up I 0 (upd (I 0) 6 (bly (V (200 + 2 * i)) (fun j => fl (I (10 + i) 1) (nI j) (I 0 4)) (I 0 6) 6))) (rho i) = V (200 + 2 * i) := by rw [n0 (rho i) (by omega)]; exact hJs
  rw [hxr] at hv_ hM
  have hu6 : ∀ j, j < 6 → (fun j => fl (I (10 + i) 1) (nI j) (I 0 4)) j = (fun j => nI (cN w0 j dm)) j := fun j hj => by show fl (I (10 + i) 1) (nI j) (I 0 4) = nI (cN w0 j dm); rw [hd1, hw0]; exact fl_cN hw20 hj hd9
  have heq : bls (V (200 + 2 * i)) (fun j => fl (I (10 + i) 1) (nI j) (I 0 4)) 6 = v_8 := by rw [hv_, sgo_bls]; exact bls_cg (fun _ _ => rfl) hu6 6 (Nat.le_refl _)
  obtain ⟨J9, eJ9⟩ : ∃ J9, J9 = (va_up (rB (rB (va_up I 0 (upd (I 0) 6 (bly (V (200 + 2 * i)) (fun j => fl (I (10 + i) 1) (nI j) (I 0 4)) (I 0 6) 6))) (F + 1) 7 (gq (V (200 + 2 * i)) (fun j => nI (cN w0 j dm)) 6)) 1010 5 (chn (fun z9 => (va_up I 0 (upd (I 0) 6 (bly (V (200 + 2 * i)) (fun j => fl (I (10 + i) 1) (nI j) (I 0 4)) (I 0 6) 6))) (1010 + z9)) (gq (V (200 + 2 * i)) (fun j => nI (cN w0 j dm)) 6) 5 0)) 1000 (upd ((va_up I 0 (upd (I 0) 6 (bly (V (200 + 2 * i)) (fun j => fl (I (10 + i) 1) (nI j) (I 0 4)) (I 0 6) 6))) 1000) 6 ((va_up I 0 (upd (I 0) 6 (bly (V (200 + 2 * i)) (fun j => fl (I (10 + i) 1) (nI j) (I 0 4)) (I 0 6) 6))) 1000 6 + s6 ((gq (V (200 + 2 * i)) (fun j => nI (cN w0 j dm)) 6) 6)))) := ⟨_, rfl⟩
  rw [← eJ9] at hM
  have ka0 : sa S3 0 = sa S 0 := AA.ext hE3 (by omega)
  have ka1 : sa S3 1000 = sa S 1000 := AA.ext hE3 (by omega)
  have hB := hI.blow (S3 := S3) (J := J9) hi hd9 hw20 (x := V (200 + 2 * i)) (tt := (fun j => fl (I (10 + i) 1) (nI j) (I 0 4))) (uu := (fun j => nI (cN w0 j dm))) rfl (fun j hj => rfl) hu6 hA3 hE3 rfl (by rw [eJ9, va_up_ne _ _ (by omega), rB_out _ _ (by omega), rB_out _ _ (by omega), va_up_self]) (by rw [eJ9, va_up_self, n0 1000 (by omega)]; exact if_neg (by decide)) (by rw [eJ9, va_up_ne _ _ (by omega), rB_out _ _ (by omega), rB_at _ _ _ (by omega)]) (fun c hc => by rw [eJ9, va_up_ne _ _ (by omega), rB_at _ _ _ hc]; unfold chn; rw [if_pos hc]; exact congrArg (fun z => addn z _ 6) (n0 _ (by omega))) (fun y9 h1 h2 h3 h4 => by rw [eJ9, va_up_ne _ _ h2, rB_out _ _ (by omega), rB_out _ _ (by omega), n0 y9 h1])
  refine lv_icmp_ne (tgt := 137) hx hb dL_act_130 (by decide) (fun c_9 => absurd (heq) c_9) (fun c_9 => ?_)
  refine lv_iconst (v := 1) hx hb dL_act_133 (by decide) ?_
  refine lv_goto (tgt := 138) hx hb dL_act_134 (by decide) ?_
  rw [hQ]
  refine W.widen (show _ ≤ 10 from Nat.le_of_ble_eq_true rfl) (show _ ≤ 60 from Nat.le_of_ble_eq_true rfl) ?_
  exact fb_zret hx hb hr (by first | rfl | decide | assumption) hlocks hM (⟨rfl, S3, _, J9, _, _, 0, rfl, hB.1, ⟨ka0, ka1⟩, by omega, hB.2⟩) dL_act_138

set_option maxHeartbeats 4000000 in
set_option maxRecDepth 100000 in
theorem c_L_act_1 (D : va_G) (y : Nat → ClassId) (l : Launch) (S : fb_Sh) (V I : fb_V) (a1 ns nt N F : Nat) (rho cf rf df : Nat → Nat) (hI : Iv a1 S V I ns nt rho cf rf df N F) (hn1 : 1 ≤ ns) (ht1 : 1 ≤ nt) (hN : N ≤ 600000) (x : Int32) (hk9 : blN (x >>> (8 &&& 31)) 9 = 1)  : CI D y l yL_act wsL_act rm_L_act [.ref (sa S 0), .ref (sa S 1000), .int x] (S, V, (sT V), I) (fun z u => ActP a1 S V I ns nt rho cf rf df N z u) 10 60 := by
  refine CI.of (cc := cL_act) (maxL := 15) (ret := (some .boolean)) (by decide) rfl (Nat.le_of_ble_eq_true rfl) ?_
  intro pv ev s mv below meth cv A hx hb hml hr hown hts hlocks hname hM ls hl
  have hown : s.vm.findClass RL = some mv.cls := hown
  have hl : lv_has ls 15 [(0, .ref (sa S 0)), (1, .ref (sa S 1000)), (2, .int x)] := hl
  have hin3 : ∀ x ∈ wsX30, x ∈ wsL_act := by decide +kernel
  have hin4 : ∀ x ∈ wsX40, x ∈ wsL_act := by decide +kernel
  have hin14 : ∀ x ∈ wsX50, x ∈ wsL_act := by decide +kernel
  obtain ⟨Q, hQ⟩ : ∃ Q, Q = MQ below (va_Qi (fun z u => ActP a1 S V I ns nt rho cf rf df N z u) (fun u t => fb_P D y A u t) A) (([.ref (sa S 0), .ref (sa S 1000), .int x] : List Value).toArray) s 10 60 A := ⟨_, rfl⟩
  rw [← hQ]
  obtain ⟨⟨hC, hA⟩, ⟨hRh, hFs⟩, hCF, ⟨hW, hSk, hCh, hTk, hTZ⟩, hns4, hnt3⟩ := id hI
  obtain ⟨w0, hw1, hw20, hw0, hw00⟩ := hW.1
  have hFs4 := hFs.1
  refine lv_iload_n hx hb dL_act_0 rfl (lv_at hl 2 rfl) ?_
  refine lv_aload_n hx hb dL_act_1 rfl (lv_at hl 1 rfl) ?_
  refine fb_get (r := 1000) hx hb hown hts hin4 hM (hA.1.1) (ce4 (hA.1.2)) rfl 0 (by decide) (hts (.fieldLink RL 32 "FeatherBedsLaw$Sim" "sacks" "[[I") (by decide +kernel)) (fun _ h9 => h9) (v := .ref (sa S (1020 + ns))) (congrArg (fun z => some (va_rf z)) (hA.2.1.1)) dL_act_2 ?_
  refine fb_alen (r := (1020 + ns)) hx hb hM (hA.2.2.1.1) (ce10 (hA.2.2.1.2.1)) 4 rfl (v := nI ns) (congrArg Int32.ofNat (hA.2.2.1.2.2)) dL_act_5 ?_
  refine fb_callSi hx hb hml hown hts hM (As := [.int x, .int (nI ns)]) (rest := []) (c_L_below D y l S V I x ns (by omega) (by omega)) (va_cwS 2 hts gL_act_L_below rfl rfl rfl (by decide +kernel) ⟨Nat.le_of_ble_eq_true rfl, Nat.le_of_ble_eq_true rfl⟩) rfl hl.1 rfl (Nat.le_of_ble_eq_true rfl) dL_act_6 ⟨Nat.le_of_ble_eq_true rfl, Nat.le_of_ble_eq_true rfl⟩ (fun v_1 u_ H locs hp hM => ?_)
  obtain ⟨hv_, hu_⟩ := hp
  have hv_ := Eq.symm hv_
  have hu_ := Eq.symm hu_
  subst hv_
  subst hu_
  obtain ⟨i, ei⟩ : ∃ i, i = blN x ns := ⟨_, rfl⟩
  have hi : i < ns := by rw [ei]; exact blN_lt _ (by omega)
  rw [← ei]
  have hri := hRh.1 i hi
  refine lv_istore_n (lv' := [(3, .int (nI i)), (0, .ref (sa S 0)), (1, .ref (sa S 1000)), (2, .int x)]) hx hb dL_act_9 rfl hl (by decide) rfl (fun ls hl => ?_)
  refine lv_iload_n hx hb dL_act_10 rfl (lv_at hl 3 rfl) ?_
  refine lv_iconst (v := 3) hx hb dL_act_11 (by decide) ?_
  refine lv_ishr hx hb dL_act_12 ?_
  refine lv_iconst (v := 5) hx hb dL_act_13 (by decide) ?_
  refine fb_callSi hx hb hml hown hts hM (As := [.int (x >>> (3 &&& 31)), .int 5]) (rest := []) (c_L_below D y l S V I (x >>> (3 &&& 31)) 5 (by omega) (by omega)) (va_cwS 2 hts gL_act_L_below rfl rfl rfl (by decide +kernel) ⟨Nat.le_of_ble_eq_true rfl, Nat.le_of_ble_eq_true rfl⟩) rfl hl.1 rfl (Nat.le_of_ble_eq_true rfl) dL_act_14 ⟨Nat.le_of_ble_eq_true rfl, Nat.le_of_ble_eq_true rfl⟩ (fun v_2 u_ H locs hp hM => ?_)
  obtain ⟨hv_, hu_⟩ := hp
  have hv_ := Eq.symm hv_
  have hu_ := Eq.symm hu_
  subst hv_
  subst hu_
  obtain ⟨c, ec⟩ : ∃ c, c = blN (x >>> (3 &&& 31)) 5 := ⟨_, rfl⟩
  have hc : c < 5 := by rw [ec]; exact blN_lt _ (by omega)
  rw [← ec]
  refine lv_istore (lv' := [(4, .int (nI c)), (3, .int (nI i)), (0, .ref (sa S 0)), (1, .ref (sa S 1000)), (2, .int x)]) hx hb dL_act_17 hl (by decide) rfl (fun ls hl => ?_)
  refine lv_iload_n hx hb dL_act_19 rfl (lv_at hl 4 rfl) ?_
  refine lv_iconst (v := 2) hx hb dL_act_20 (by decide) ?_
  refine lv_ishr hx hb dL_act_21 ?_
  refine lv_aload_n hx hb dL_act_22 rfl (lv_at hl 3 rfl) ?_
  refine fb_get (r := 1000) hx hb hown hts hin4 hM (hA.1.1) (ce4 (hA.1.2)) rfl 4 (by decide) (hts (.fieldLink RL 47 "FeatherBedsLaw$Sim" "ticks" "[LFeatherBedsLaw$Tick;") (by decide +kernel)) (fun _ h9 => h9) (v := .ref (sa S (1040 + nt))) (congrArg (fun z => some (va_rf z)) (hA.2.1.2.2.2)) dL_act_23 ?_
  refine fb_alen (r := (1040 + nt)) hx hb hM (hA.2.2.2.2.2.1.1) (ce13 (hA.2.2.2.2.2.1.2.1)) 6 rfl (v := nI nt) (congrArg Int32.ofNat (hA.2.2.2.2.2.1.2.2)) dL_act_26 ?_
  refine fb_callSi hx hb hml hown hts hM (As := [.int (x >>> (2 &&& 31)), .int (nI nt)]) (rest := []) (c_L_below D y l S V I (x >>> (2 &&& 31)) nt (by omega) (by omega)) (va_cwS 2 hts gL_act_L_below rfl rfl rfl (by decide +kernel) ⟨Nat.le_of_ble_eq_true rfl, Nat.le_of_ble_eq_true rfl⟩) rfl hl.1 rfl (Nat.le_of_ble_eq_true rfl) dL_act_27 ⟨Nat.le_of_ble_eq_true rfl, Nat.le_of_ble_eq_true rfl⟩ (fun v_3 u_ H locs hp hM => ?_)
  obtain ⟨hv_, hu_⟩ := hp
  have hv_ := Eq.symm hv_
  have hu_ := Eq.symm hu_
  subst hv_
  subst hu_
  obtain ⟨t, et⟩ : ∃ t, t = blN (x >>> (2 &&& 31)) nt := ⟨_, rfl⟩
  have ht : t < nt := by rw [et]; exact blN_lt _ (by omega)
  rw [← et]
  have htk := hTk t ht
  have hcr := htk.n36
  have hLt := (hA.2.2.2.2.2.2.2.2 t ht).2
  refine lv_istore (lv' := [(5, .int (nI t)), (4, .int (nI c)), (3, .int (nI i)), (0, .ref (sa S 0)), (1, .ref (sa S 1000)), (2, .int x)]) hx hb dL_act_30 hl (by decide) rfl (fun ls hl => ?_)
  refine lv_aload_n hx hb dL_act_32 rfl (lv_at hl 4 rfl) ?_
  refine fb_get (r := 1000) hx hb hown hts hin4 hM (hA.1.1) (ce4 (hA.1.2)) rfl 4 (by decide) (hts (.fieldLink RL 47 "FeatherBedsLaw$Sim" "ticks" "[LFeatherBedsLaw$Tick;") (by decide +kernel)) (fun _ h9 => h9) (v := .ref (sa S (1040 + nt))) (congrArg (fun z => some (va_rf z)) (hA.2.1.2.2.2)) dL_act_33 ?_
  refine lv_iload hx hb dL_act_36 (lv_at hl 0 rfl) ?_
  refine fb_aald (r := (1040 + nt)) hx hb hM (hA.2.2.2.2.2.1.1) (ce13 (hA.2.2.2.2.2.1.2.1)) 6 rfl (k := t) (nI_clamp (by omega)) (b := sa S (1100 + 100 * t)) ((hA.2.2.2.2.2.2.2.2 t (by omega)).1) (by rw [hA.2.2.2.2.2.1.2.2]; exact vp_in_nI (by omega) (by omega)) dL_act_38 ?_
  refine lv_astore (lv' := [(6, .ref (sa S (1100 + 100 * t))), (5, .int (nI t)), (4, .int (nI c)), (3, .int (nI i)), (0, .ref (sa S 0)), (1, .ref (sa S 1000)), (2, .int x)]) hx hb dL_act_39 hl (by decide) rfl (fun ls hl => ?_)
  refine lv_iload_n hx hb dL_act_41 rfl (lv_at hl 6 rfl) ?_
  refine lv_iconst (v := 4) hx hb dL_act_42 (by decide) ?_
  refine lv_ishr hx hb dL_act_43 ?_
  refine lv_aload hx hb dL_act_44 (lv_at hl 0 rfl) ?_
  refine fb_get (r := (1100 + 100 * t)) hx hb hown hts hin14 hM (hLt.1.1) (ce14 (hLt.1.2)) rfl 3 (by decide) (hts (.fieldLink RL 51 "FeatherBedsLaw$Tick" "squares" "[[I") (by decide +kernel)) (fun _ h9 => h9) (v := .ref (sa S ((1100 + 100 * t) + 9))) (congrArg (fun z => some (va_rf z)) (hLt.2.1)) dL_act_46 ?_
  refine fb_alen (r := ((1100 + 100 * t) + 9)) hx hb hM (hLt.2.2.2.1.1) (ce10 (hLt.2.2.2.1.2.1)) 4 rfl (v := nI (cf t * rf t)) (congrArg Int32.ofNat (hLt.2.2.2.1.2.2)) dL_act_49 ?_
  refine fb_callSi hx hb hml hown hts hM (As := [.int (x >>> (4 &&& 31)), .int (nI ((cf t * rf t)))]) (rest := []) (c_L_below D y l S V I (x >>> (4 &&& 31)) (cf t * rf t) (by omega) (by omega)) (va_cwS 2 hts gL_act_L_below rfl rfl rfl (by decide +kernel) ⟨Nat.le_of_ble_eq_true rfl, Nat.le_of_ble_eq_true rfl⟩) rfl hl.1 rfl (Nat.le_of_ble_eq_true rfl) dL_act_50 ⟨Nat.le_of_ble_eq_true rfl, Nat.le_of_ble_eq_true rfl⟩ (fun v_4 u_ H locs hp hM => ?_)
  obtain ⟨hv_, hu_⟩ := hp
  have hv_ := Eq.symm hv_
  have hu_ := Eq.symm hu_
  subst hv_
  subst hu_
  obtain ⟨q, eq⟩ : ∃ q, q = blN (x >>> (4 &&& 31)) (cf t * rf t) := ⟨_, rfl⟩
  have hq : q < (cf t * rf t) := by rw [eq]; exact blN_lt _ (by omega)
  rw [← eq]
  refine lv_istore (lv' := [(7, .int (nI q)), (6, .ref (sa S (1100 + 100 * t))), (5, .int (nI t)), (4, .int (nI c)), (3, .int (nI i)), (0, .ref (sa S 0)), (1, .ref (sa S 1000)), (2, .int x)]) hx hb dL_act_53 hl (by decide) rfl (fun ls hl => ?_)
  refine lv_iconst (v := 1) hx hb dL_act_55 (by decide) ?_
  refine lv_iload_n hx hb dL_act_56 rfl (lv_at hl 7 rfl) ?_
  refine lv_iconst (v := 5) hx hb dL_act_57 (by decide) ?_
  refine lv_ishr hx hb dL_act_58 ?_
  refine lv_sipush (v := 300) hx hb dL_act_59 (by decide) ?_
  refine fb_callSi hx hb hml hown hts hM (As := [.int (x >>> (5 &&& 31)), .int 300]) (rest := [.int 1]) (c_L_below D y l S V I (x >>> (5 &&& 31)) 300 (by omega) (by omega)) (va_cwS 2 hts gL_act_L_below rfl rfl rfl (by decide +kernel) ⟨Nat.le_of_ble_eq_true rfl, Nat.le_of_ble_eq_true rfl⟩) rfl hl.1 rfl (Nat.le_of_ble_eq_true rfl) dL_act_62 ⟨Nat.le_of_ble_eq_true rfl, Nat.le_of_ble_eq_true rfl⟩ (fun v_5 u_ H locs hp hM => ?_)
  obtain ⟨hv_, hu_⟩ := hp
  have hv_ := Eq.symm hv_
  have hu_ := Eq.symm hu_
  subst hv_
  subst hu_
  obtain ⟨m0, em0⟩ : ∃ m0, m0 = blN (x >>> (5 &&& 31)) 300 := ⟨_, rfl⟩
  have hm0 : m0 < 300 := by rw [em0]; exact blN_lt _ (by omega)
  rw [← em0]
  refine lv_iadd hx hb dL_act_65 ?_
  refine W.eq (g2 := F0 mv _ ls (.int (nI (1 + m0)) :: [])) (by rw [show (1 + (nI m0) : Int32) = nI (1 + m0) from nI_add 1 m0]) ?_
  obtain ⟨m, em⟩ : ∃ m, m = 1 + m0 := ⟨_, rfl⟩
  have hma : 1 ≤ m := by omega
  have hm : m ≤ 300 := by omega
  rw [← em]
  refine lv_istore (lv' := [(8, .int (nI m)), (7, .int (nI q)), (6, .ref (sa S (1100 + 100 * t))), (5, .int (nI t)), (4, .int (nI c)), (3, .int (nI i)), (0, .ref (sa S 0)), (1, .ref (sa S 1000)), (2, .int x)]) hx hb dL_act_66 hl (by decide) rfl (fun ls hl => ?_)
  refine lv_iload_n hx hb dL_act_68 rfl (lv_at hl 8 rfl) ?_
  refine lv_bipush (v := 8) hx hb dL_act_69 (by decide) ?_
  refine lv_ishr hx hb dL_act_71 ?_
  refine lv_bipush (v := 9) hx hb dL_act_72 (by decide) ?_
  refine fb_callSi hx hb hml hown hts hM (As := [.int (x >>> (8 &&& 31)), .int 9]) (rest := []) (c_L_below D y l S V I (x >>> (8 &&& 31)) 9 (by omega) (by omega)) (va_cwS 2 hts gL_act_L_below rfl rfl rfl (by decide +kernel) ⟨Nat.le_of_ble_eq_true rfl, Nat.le_of_ble_eq_true rfl⟩) rfl hl.1 rfl (Nat.le_of_ble_eq_true rfl) dL_act_74 ⟨Nat.le_of_ble_eq_true rfl, Nat.le_of_ble_eq_true rfl⟩ (fun v_6 u_ H locs hp hM => ?_)
  obtain ⟨hv_, hu_⟩ := hp
  have hv_ := Eq.symm hv_
  have hu_ := Eq.symm hu_
  subst hv_
  subst hu_
  refine W.eq (g2 := F0 mv _ ls (.int (nI 1) :: [])) (by rw [show (nI (blN (x >>> (8 &&& 31)) 9) : Int32) = nI 1 from congrArg nI hk9]) ?_
  refine lv_tableIn (off := 62) (tgt := 139) hx hb dL_act_77 (by decide) (by decide) rfl (by decide) ?_
  refine lv_iconst (v := 0) hx hb dL_act_139 (by decide) ?_
  refine lv_istore (lv' := [(9, .int 0), (8, .int (nI m)), (7, .int (nI q)), (6, .ref (sa S (1100 + 100 * t))), (5, .int (nI t)), (4, .int (nI c)), (3, .int (nI i)), (0, .ref (sa S 0)), (1, .ref (sa S 1000)), (2, .int x)]) hx hb dL_act_140 hl (by decide) rfl (fun ls hl => ?_)
  refine lv_iconst (v := 0) hx hb dL_act_142 (by decide) ?_
  refine lv_istore (lv' := [(10, .int 0), (9, .int 0), (8, .int (nI m)), (7, .int (nI q)), (6, .ref (sa S (1100 + 100 * t))), (5, .int (nI t)), (4, .int (nI c)), (3, .int (nI i)), (0, .ref (sa S 0)), (1, .ref (sa S 1000)), (2, .int x)]) hx hb dL_act_143 hl (by decide) rfl (fun ls hl => ?_)
  have LP_145 : ∀ (n : Nat) (k : Nat) (hk : k ≤ 6), 6 - k < n → ∀ (H : Heap) (locs : List Loc), fb_M D y A s (S, V, (sT V), (swI I (1010 + c) (rho i) (V (100 + 2 * c)) (V (200 + 2 * i)) k)) H locs → ∀ ls, lv_has ls 15 [(10, .int (nI k)), (9, .int (sws (V (100 + 2 * c)) (V (200 + 2 * i)) k)), (0, .ref (sa S 0)), (1, .ref (sa S 1000)), (3, .int (nI i)), (4, .int (nI c))] → W pv l ev rm_L_act s mv ([.ref (sa S 0), .ref (sa S 1000), .int x] : List Value).toArray below meth cv H locs 0 0 Q (F0 mv 145 ls []) := by
    intro n_145
    induction n_145 with
    | zero => intro k hk hmu; exact absurd hmu (Nat.not_lt_zero _)
    | succ n_145 ih_145 =>
      intro k hk hmu H locs hM ls hl
      have hcr_ : 1010 + c ≠ rho i := by omega
      refine lv_iload hx hb dL_act_145 (lv_at hl 0 rfl) ?_
      refine lv_bipush (v := 6) hx hb dL_act_147 (by decide) ?_
      refine lv_icmp_ge (tgt := 222) hx hb dL_act_149 (by decide) (fun c_7 => ?_) (fun c_7 => ?_)
      · skip
        have e_k : k = 6 := by have := (nI_leI (a := 6) (b := k) (by omega) (by omega)).mp c_7; omega
        have e_k := Eq.symm e_k
        subst e_k
        refine lv_aload_n hx hb dL_act_222 rfl (lv_at hl 2 rfl) ?_
        refine lv_iload hx hb dL_act_223 (lv_at hl 5 rfl) ?_
        refine lv_iload_n hx hb dL_act_225 rfl (lv_at hl 4 rfl) ?_
        have hcf6 : CF (swI I (1010 + c) (rho i) (V (100 + 2 * c)) (V (200 + 2 * i)) 6) ns nt cf rf df := cf_same hCF (fun x9 h9 _ _ => by unfold swI; rw [va_up_ne _ _ (by omega), va_up_ne _ _ (by omega)]) (by omega)
        refine fb_callVi (r := 0) hx hb hml hown hts hM (hC.1.1) (ce3 (hC.1.2)) rfl (As := [.int (nI c), .int (nI i)]) (rest := []) (c_X3_sweep_ok D y l S V (swI I (1010 + c) (rho i) (V (100 + 2 * c)) (V (200 + 2 * i)) 6) a1 ns nt 4 10 hC cf rf df hcf6 c hc i hi) (cwV 2 hts gL_act_X3_sweep rfl rfl rfl (by decide +kernel) ⟨Nat.le_of_ble_eq_true rfl, Nat.le_of_ble_eq_true rfl⟩) rfl hl.1 rfl (Nat.le_of_ble_eq_true rfl) dL_act_226 ⟨Nat.le_of_ble_eq_true rfl, Nat.le_of_ble_eq_true rfl⟩ (fun v_8 u_ H locs hp hM => ?_)
        obtain ⟨hv_, hu_⟩ := hp
        have hv_ := Eq.symm hv_
        have hu_ := Eq.symm hu_
        subst hv_
        subst hu_
        refine lv_iload hx hb dL_act_229 (lv_at hl 1 rfl) ?_
        refine lv_icmp_ne (tgt := 238) hx hb dL_act_231 (by decide) (fun c_9 => absurd (rfl) c_9) (fun c_9 => ?_)
        refine lv_iconst (v := 1) hx hb dL_act_234 (by decide) ?_
        refine lv_goto (tgt := 239) hx hb dL_act_235 (by decide) ?_
        rw [hQ]
        refine W.widen (show _ ≤ 10 from Nat.le_of_ble_eq_true rfl) (show _ ≤ 60 from Nat.le_of_ble_eq_true rfl) ?_
        exact fb_zret hx hb hr (by first | rfl | decide | assumption) hlocks hM (ActP.of (Ac.sweep hI (by omega) hi hc rfl (swI_r _ _ _ _ _ _) (swI_c _ hcr_ _ _ _) (fun x9 h1 h2 => by unfold swI; rw [va_up_ne _ _ h1, va_up_ne _ _ h2])) (by omega)) dL_act_239
      · skip
        have hk6 : k < 6 := Nat.lt_of_not_le (fun z => c_7 (nI_le z (by omega)))
        refine lv_sipush (v := 500) hx hb dL_act_152 (by decide) ?_
        refine lv_aload_n hx hb dL_act_155 rfl (lv_at hl 3 rfl) ?_
        refine fb_get (r := 1000) hx hb hown hts hin4 hM (hA.1.1) (ce4 (hA.1.2)) rfl 0 (by decide) (hts (.fieldLink RL 32 "FeatherBedsLaw$Sim" "sacks" "[[I") (by decide +kernel)) (fun _ h9 => h9) (v := .ref (sa S (1020 + ns))) (congrArg (fun z => some (va_rf z)) (hA.2.1.1)) dL_act_156 ?_
        refine lv_iload_n hx hb dL_act_159 rfl (lv_at hl 4 rfl) ?_
        refine fb_aaldA (r := (1020 + ns)) hx hb hM (hA.2.2.1.1) (ce10 (hA.2.2.1.2.1)) 4 rfl (k := i) (nI_clamp (by omega)) (b := sa S (rho i)) ((hA.2.2.2.2.2.2.1 i (by omega)).1) (by rw [hA.2.2.1.2.2]; exact vp_in_nI (by omega) (by omega)) dL_act_160 ?_
        refine lv_iload hx hb dL_act_161 (lv_at hl 0 rfl) ?_
        refine fb_iald (r := (rho i)) hx hb hM (((hA.2.2.2.2.2.2.1 i (by omega)).2).1) (ce6 (((hA.2.2.2.2.2.2.1 i (by omega)).2).2.1)) (k := k) (nI_clamp (by omega)) (by rw [((hA.2.2.2.2.2.2.1 i (by omega)).2).2.2]; exact vp_in_nI (by omega) (by omega)) dL_act_163 ?_
        refine W.eq (g2 := F0 mv _ ls (.int ((V (200 + 2 * i)) k) :: .int 500 :: [])) (by rw [show ((swI I (1010 + c) (rho i) (V (100 + 2 * c)) (V (200 + 2 * i)) k) (rho i) k : Int32) = (V (200 + 2 * i)) k from by rw [swI_r]; exact swb_i _ _ _]) ?_
        refine lv_isub hx hb dL_act_164 ?_
        refine W.eq (g2 := F0 mv _ ls (.int (500 - (V (200 + 2 * i)) k) :: [])) (rfl) ?_
        refine lv_aload_n hx hb dL_act_165 rfl (lv_at hl 3 rfl) ?_
        refine fb_get (r := 1000) hx hb hown hts hin4 hM (hA.1.1) (ce4 (hA.1.2)) rfl 3 (by decide) (hts (.fieldLink RL 60 "FeatherBedsLaw$Sim" "chambers" "[[I") (by decide +kernel)) (fun _ h9 => h9) (v := .ref (sa S 1009)) (congrArg (fun z => some (va_rf z)) (hA.2.1.2.2.1)) dL_act_166 ?_
        refine lv_iload hx hb dL_act_169 (lv_at hl 5 rfl) ?_
        refine fb_aaldA (r := 1009) hx hb hM (hA.2.2.2.2.1.1) (ce10 (hA.2.2.2.2.1.2.1)) 4 rfl (k := c) (nI_clamp (by omega)) (b := sa S (1010 + c)) ((hA.2.2.2.2.2.2.2.1 c (by omega)).1) (by rw [hA.2.2.2.2.1.2.2]; exact vp_in_nI (by omega) (by omega)) dL_act_171 ?_
        refine lv_iload hx hb dL_act_172 (lv_at hl 0 rfl) ?_
        refine fb_iald (r := (1010 + c)) hx hb hM (((hA.2.2.2.2.2.2.2.1 c (by omega)).2).1) (ce6 (((hA.2.2.2.2.2.2.2.1 c (by omega)).2).2.1)) (k := k) (nI_clamp (by omega)) (by rw [((hA.2.2.2.2.2.2.2.1 c (by omega)).2).2.2]; exact vp_in_nI (by omega) (by omega)) dL_act_174 ?_
        refine W.eq (g2 := F0 mv _ ls (.int ((V (100 + 2 * c)) k) :: .int (500 - (V (200 + 2 * i)) k) :: [])) (by rw [show ((swI I (1010 + c) (rho i) (V (100 + 2 * c)) (V (200 + 2 * i)) k) (1010 + c) k : Int32) = (V (100 + 2 * c)) k from by rw [swI_c _ hcr_]; exact swa_i _ _ _]) ?_
        refine va_mmin hx hb (hml.trans hl.1.symm) hown (hts (.methodLink RL 63 Lib.Math.min.name) (by decide +kernel)) (hts (.static Lib.Math.min.name) (by decide +kernel)) (hts (.initialized "java/lang/Math") (by decide +kernel)) (hts (.code Lib.Math.min.name Lib.Math.min.code 2 (some .int)) (by decide +kernel)) (Nat.le_of_ble_eq_true rfl) (Nat.le_of_ble_eq_true rfl) (Nat.le_of_ble_eq_true rfl) (Nat.le_of_ble_eq_true rfl) dL_act_175 ?_
        refine W.eq (g2 := F0 mv _ ls (.int (swn (V (100 + 2 * c)) (V (200 + 2 * i)) k) :: [])) (by rw [show (if (V (100 + 2 * c)) k < 500 - (V (200 + 2 * i)) k then (V (100 + 2 * c)) k else 500 - (V (200 + 2 * i)) k : Int32) = swn (V (100 + 2 * c)) (V (200 + 2 * i)) k from mn_c _ _]) ?_
        refine lv_istore (lv' := [(11, .int (swn (V (100 + 2 * c)) (V (200 + 2 * i)) k)), (10, .int (nI k)), (9, .int (sws (V (100 + 2 * c)) (V (200 + 2 * i)) k)), (0, .ref (sa S 0)), (1, .ref (sa S 1000)), (3, .int (nI i)), (4, .int (nI c))]) hx hb dL_act_178 hl (by decide) rfl (fun ls hl => ?_)
        refine lv_aload_n hx hb dL_act_180 rfl (lv_at hl 4 rfl) ?_
        refine fb_get (r := 1000) hx hb hown hts hin4 hM (hA.1.1) (ce4 (hA.1.2)) rfl 0 (by decide) (hts (.fieldLink RL 32 "FeatherBedsLaw$Sim" "sacks" "[[I") (by decide +kernel)) (fun _ h9 => h9) (v := .ref (sa S (1020 + ns))) (congrArg (fun z => some (va_rf z)) (hA.2.1.1)) dL_act_181 ?_
        refine lv_iload_n hx hb dL_act_184 rfl (lv_at hl 5 rfl) ?_
        refine fb_aaldA (r := (1020 + ns)) hx hb hM (hA.2.2.1.1) (ce10 (hA.2.2.1.2.1)) 4 rfl (k := i) (nI_clamp (by omega)) (b := sa S (rho i)) ((hA.2.2.2.2.2.2.1 i (by omega)).1) (by rw [hA.2.2.1.2.2]; exact vp_in_nI (by omega) (by omega)) dL_act_185 ?_
        refine lv_iload hx hb dL_act_186 (lv_at hl 1 rfl) ?_
        refine lv_dup2_11 hx hb dL_act_188 rfl rfl ?_
        refine fb_iald (r := (rho i)) hx hb hM (((hA.2.2.2.2.2.2.1 i (by omega)).2).1) (ce6 (((hA.2.2.2.2.2.2.1 i (by omega)).2).2.1)) (k := k) (nI_clamp (by omega)) (by rw [((hA.2.2.2.2.2.2.1 i (by omega)).2).2.2]; exact vp_in_nI (by omega) (by omega)) dL_act_189 ?_
        refine W.eq (g2 := F0 mv _ ls (.int ((V (200 + 2 * i)) k) :: .int (nI k) :: .ref (sa S (rho i)) :: [])) (by rw [show ((swI I (1010 + c) (rho i) (V (100 + 2 * c)) (V (200 + 2 * i)) k) (rho i) k : Int32) = (V (200 + 2 * i)) k from by rw [swI_r]; exact swb_i _ _ _]) ?_
        refine lv_iload hx hb dL_act_190 (lv_at hl 0 rfl) ?_
        refine lv_iadd hx hb dL_act_192 ?_
        refine fb_iast (r := (rho i)) hx hb hM (((hA.2.2.2.2.2.2.1 i (by omega)).2).1) (ce6 (((hA.2.2.2.2.2.2.1 i (by omega)).2).2.1)) (k := k) (nI_clamp (by omega)) (by rw [((hA.2.2.2.2.2.2.1 i (by omega)).2).2.2]; exact vp_in_nI (by omega) (by omega)) dL_act_193 (up_I (j := k) (by rw [ce6 (S := S) (((hA.2.2.2.2.2.2.1 i (by omega)).2).2.1)]; simp [va_up])) (w' := (S, V, (sT V), (va_up (swI I (1010 + c) (rho i) (V (100 + 2 * c)) (V (200 + 2 * i)) k) (rho i) (upd ((swI I (1010 + c) (rho i) (V (100 + 2 * c)) (V (200 + 2 * i)) k) (rho i)) k (((V (200 + 2 * i)) k) + (swn (V (100 + 2 * c)) (V (200 + 2 * i)) k)))))) ⟨rfl, rfl, rfl⟩ (fun H locs hM => ?_)
        have eI : (va_up (swI I (1010 + c) (rho i) (V (100 + 2 * c)) (V (200 + 2 * i)) k) (rho i) (upd ((swI I (1010 + c) (rho i) (V (100 + 2 * c)) (V (200 + 2 * i)) k) (rho i)) k (((V (200 + 2 * i)) k) + (swn (V (100 + 2 * c)) (V (200 + 2 * i)) k)))) = (va_up (va_up I (1010 + c) (swa (V (100 + 2 * c)) (V (200 + 2 * i)) k)) (rho i) (swb (V (100 + 2 * c)) (V (200 + 2 * i)) (k + 1))) := by rw [swI_r, swI_s1]
        rw [eI] at hM
        clear eI
        refine lv_aload_n hx hb dL_act_194 rfl (lv_at hl 4 rfl) ?_
        refine fb_get (r := 1000) hx hb hown hts hin4 hM (hA.1.1) (ce4 (hA.1.2)) rfl 3 (by decide) (hts (.fieldLink RL 60 "FeatherBedsLaw$Sim" "chambers" "[[I") (by decide +kernel)) (fun _ h9 => h9) (v := .ref (sa S 1009)) (congrArg (fun z => some (va_rf z)) (hA.2.1.2.2.1)) dL_act_195 ?_
        refine lv_iload hx hb dL_act_198 (lv_at hl 6 rfl) ?_
        refine fb_aaldA (r := 1009) hx hb hM (hA.2.2.2.2.1.1) (ce10 (hA.2.2.2.2.1.2.1)) 4 rfl (k := c) (nI_clamp (by omega)) (b := sa S (1010 + c)) ((hA.2.2.2.2.2.2.2.1 c (by omega)).1) (by rw [hA.2.2.2.2.1.2.2]; exact vp_in_nI (by omega) (by omega)) dL_act_200 ?_
        refine lv_iload hx hb dL_act_201 (lv_at hl 1 rfl) ?_
        refine lv_dup2_11 hx hb dL_act_203 rfl rfl ?_
        refine fb_iald (r := (1010 + c)) hx hb hM (((hA.2.2.2.2.2.2.2.1 c (by omega)).2).1) (ce6 (((hA.2.2.2.2.2.2.2.1 c (by omega)).2).2.1)) (k := k) (nI_clamp (by omega)) (by rw [((hA.2.2.2.2.2.2.2.1 c (by omega)).2).2.2]; exact vp_in_nI (by omega) (by omega)) dL_act_204 ?_
        refine W.eq (g2 := F0 mv _ ls (.int ((V (100 + 2 * c)) k) :: .int (nI k) :: .ref (sa S (1010 + c)) :: [])) (by rw [show ((va_up (va_up I (1010 + c) (swa (V (100 + 2 * c)) (V (200 + 2 * i)) k)) (rho i) (swb (V (100 + 2 * c)) (V (200 + 2 * i)) (k + 1))) (1010 + c) k : Int32) = (V (100 + 2 * c)) k from by rw [va_up_ne _ _ hcr_, va_up_self]; exact swa_i _ _ _]) ?_
        refine lv_iload hx hb dL_act_205 (lv_at hl 0 rfl) ?_
        refine lv_isub hx hb dL_act_207 ?_
        refine fb_iast (r := (1010 + c)) hx hb hM (((hA.2.2.2.2.2.2.2.1 c (by omega)).2).1) (ce6 (((hA.2.2.2.2.2.2.2.1 c (by omega)).2).2.1)) (k := k) (nI_clamp (by omega)) (by rw [((hA.2.2.2.2.2.2.2.1 c (by omega)).2).2.2]; exact vp_in_nI (by omega) (by omega)) dL_act_208 (up_I (j := k) (by rw [ce6 (S := S) (((hA.2.2.2.2.2.2.2.1 c (by omega)).2).2.1)]; simp [va_up])) (w' := (S, V, (sT V), (va_up (va_up (va_up I (1010 + c) (swa (V (100 + 2 * c)) (V (200 + 2 * i)) k)) (rho i) (swb (V (100 + 2 * c)) (V (200 + 2 * i)) (k + 1))) (1010 + c) (upd ((va_up (va_up I (1010 + c) (swa (V (100 + 2 * c)) (V (200 + 2 * i)) k)) (rho i) (swb (V (100 + 2 * c)) (V (200 + 2 * i)) (k + 1))) (1010 + c)) k (((V (100 + 2 * c)) k) - (swn (V (100 + 2 * c)) (V (200 + 2 * i)) k)))))) ⟨rfl, rfl, rfl⟩ (fun H locs hM => ?_)
        have eI : (va_up (va_up (va_up I (1010 + c) (swa (V (100 + 2 * c)) (V (200 + 2 * i)) k)) (rho i) (swb (V (100 + 2 * c)) (V (200 + 2 * i)) (k + 1))) (1010 + c) (upd ((va_up (va_up I (1010 + c) (swa (V (100 + 2 * c)) (V (200 + 2 * i)) k)) (rho i) (swb (V (100 + 2 * c)) (V (200 + 2 * i)) (k + 1))) (1010 + c)) k (((V (100 + 2 * c)) k) - (swn (V (100 + 2 * c)) (V (200 + 2 * i)) k)))) = (swI I (1010 + c) (rho i) (V (100 + 2 * c)) (V (200 + 2 * i)) (k + 1)) := by rw [va_up_ne _ _ hcr_, va_up_self, swI_s2 _ hcr_]
        rw [eI] at hM
        clear eI
        refine lv_iload hx hb dL_act_209 (lv_at hl 2 rfl) ?_
        refine lv_iload hx hb dL_act_211 (lv_at hl 0 rfl) ?_
        refine lv_iadd hx hb dL_act_213 ?_
        refine W.eq (g2 := F0 mv _ ls (.int (sws (V (100 + 2 * c)) (V (200 + 2 * i)) (k + 1)) :: [])) (rfl) ?_
        refine lv_istore (lv' := [(9, .int (sws (V (100 + 2 * c)) (V (200 + 2 * i)) (k + 1))), (11, .int (swn (V (100 + 2 * c)) (V (200 + 2 * i)) k)), (10, .int (nI k)), (0, .ref (sa S 0)), (1, .ref (sa S 1000)), (3, .int (nI i)), (4, .int (nI c))]) hx hb dL_act_214 hl (by decide) rfl (fun ls hl => ?_)
        refine lv_iinc (v := nI (k + 1)) (lv' := [(10, .int (nI (k + 1))), (9, .int (sws (V (100 + 2 * c)) (V (200 + 2 * i)) (k + 1))), (11, .int (swn (V (100 + 2 * c)) (V (200 + 2 * i)) k)), (0, .ref (sa S 0)), (1, .ref (sa S 1000)), (3, .int (nI i)), (4, .int (nI c))]) hx hb dL_act_216 hl (k := 2) rfl (nI_1 _) (by decide) rfl (fun ls hl => ?_)
        refine lv_goto (tgt := 145) hx hb dL_act_219 (by decide) ?_
        exact ih_145 (k + 1) (by omega) (by omega) _ _ hM ls (lv_sub hl [0, 1, 3, 4, 5, 6] rfl)
  have hcr_ : 1010 + c ≠ rho i := by omega
  rw [show I = (swI I (1010 + c) (rho i) (V (100 + 2 * c)) (V (200 + 2 * i)) 0) from (swI_0 I (hCh c hc).1 (hSk i hi).1).symm] at hM
  exact LP_145 _ 0 (by omega) (Nat.lt_succ_self _) _ _ hM ls (lv_sub hl [0, 1, 8, 9, 7, 6] rfl)

set_option maxHeartbeats 4000000 in
set_option maxRecDepth 100000 in
theorem c_L_act_2 (D : va_G) (y : Nat → ClassId) (l : Launch) (S : fb_Sh) (V I : fb_V) (a1 ns nt N F : Nat) (rho cf rf df : Nat → Nat) (hI : Iv a1 S V I ns nt rho cf rf df N F) (hn1 : 1 ≤ ns) (ht1 : 1 ≤ nt) (hN : N ≤ 600000) (x : Int32) (hk9 : blN (x >>> (8 &&& 31)) 9 = 2)  : CI D y l yL_act wsL_act rm_L_act [.ref (sa S 0), .ref (sa S 1000), .int x] (S, V, (sT V), I) (fun z u => ActP a1 S V I ns nt rho cf rf df N z u) 10 60 := by
  refine CI.of (cc := cL_act) (maxL := 15) (ret := (some .boolean)) (by decide) rfl (Nat.le_of_ble_eq_true rfl) ?_
  intro pv ev s mv below meth cv A hx hb hml hr hown hts hlocks hname hM ls hl
  have hown : s.vm.findClass RL = some mv.cls := hown
  have hl : lv_has ls 15 [(0, .ref (sa S 0)), (1, .ref (sa S 1000)), (2, .int x)] := hl
  have hin3 : ∀ x ∈ wsX30, x ∈ wsL_act := by decide +kernel
  have hin4 : ∀ x ∈ wsX40, x ∈ wsL_act := by decide +kernel
  have hin14 : ∀ x ∈ wsX50, x ∈ wsL_act := by decide +kernel
  obtain ⟨Q, hQ⟩ : ∃ Q, Q = MQ below (va_Qi (fun z u => ActP a1 S V I ns nt rho cf rf df N z u) (fun u t => fb_P D y A u t) A) (([.ref (sa S 0), .ref (sa S 1000), .int x] : List Value).toArray) s 10 60 A := ⟨_, rfl⟩
  rw [← hQ]
  obtain ⟨⟨hC, hA⟩, ⟨hRh, hFs⟩, hCF, ⟨hW, hSk, hCh, hTk, hTZ⟩, hns4, hnt3⟩ := id hI
  obtain ⟨w0, hw1, hw20, hw0, hw00⟩ := hW.1
  have hFs4 := hFs.1
  refine lv_iload_n hx hb dL_act_0 rfl (lv_at hl 2 rfl) ?_
  refine lv_aload_n hx hb dL_act_1 rfl (lv_at hl 1 rfl) ?_
  refine fb_get (r := 1000) hx hb hown hts hin4 hM (hA.1.1) (ce4 (hA.1.2)) rfl 0 (by decide) (hts (.fieldLink RL 32 "FeatherBedsLaw$Sim" "sacks" "[[I") (by decide +kernel)) (fun _ h9 => h9) (v := .ref (sa S (1020 + ns))) (congrArg (fun z => some (va_rf z)) (hA.2.1.1)) dL_act_2 ?_
  refine fb_alen (r := (1020 + ns)) hx hb hM (hA.2.2.1.1) (ce10 (hA.2.2.1.2.1)) 4 rfl (v := nI ns) (congrArg Int32.ofNat (hA.2.2.1.2.2)) dL_act_5 ?_
  refine fb_callSi hx hb hml hown hts hM (As := [.int x, .int (nI ns)]) (rest := []) (c_L_below D y l S V I x ns (by omega) (by omega)) (va_cwS 2 hts gL_act_L_below rfl rfl rfl (by decide +kernel) ⟨Nat.le_of_ble_eq_true rfl, Nat.le_of_ble_eq_true rfl⟩) rfl hl.1 rfl (Nat.le_of_ble_eq_true rfl) dL_act_6 ⟨Nat.le_of_ble_eq_true rfl, Nat.le_of_ble_eq_true rfl⟩ (fun v_1 u_ H locs hp hM => ?_)
  obtain ⟨hv_, hu_⟩ := hp
  have hv_ := Eq.symm hv_
  have hu_ := Eq.symm hu_
  subst hv_
  subst hu_
  obtain ⟨i, ei⟩ : ∃ i, i = blN x ns := ⟨_, rfl⟩
  have hi : i < ns := by rw [ei]; exact blN_lt _ (by omega)
  rw [← ei]
  have hri := hRh.1 i hi
  refine lv_istore_n (lv' := [(3, .int (nI i)), (0, .ref (sa S 0)), (1, .ref (sa S 1000)), (2, .int x)]) hx hb dL_act_9 rfl hl (by decide) rfl (fun ls hl => ?_)
  refine lv_iload_n hx hb dL_act_10 rfl (lv_at hl 3 rfl) ?_
  refine lv_iconst (v := 3) hx hb dL_act_11 (by decide) ?_
  refine lv_ishr hx hb dL_act_12 ?_
  refine lv_iconst (v := 5) hx hb dL_act_13 (by decide) ?_
  refine fb_callSi hx hb hml hown hts hM (As := [.int (x >>> (3 &&& 31)), .int 5]) (rest := []) (c_L_below D y l S V I (x >>> (3 &&& 31)) 5 (by omega) (by omega)) (va_cwS 2 hts gL_act_L_below rfl rfl rfl (by decide +kernel) ⟨Nat.le_of_ble_eq_true rfl, Nat.le_of_ble_eq_true rfl⟩) rfl hl.1 rfl (Nat.le_of_ble_eq_true rfl) dL_act_14 ⟨Nat.le_of_ble_eq_true rfl, Nat.le_of_ble_eq_true rfl⟩ (fun v_2 u_ H locs hp hM => ?_)
  obtain ⟨hv_, hu_⟩ := hp
  have hv_ := Eq.symm hv_
  have hu_ := Eq.symm hu_
  subst hv_
  subst hu_
  obtain ⟨c, ec⟩ : ∃ c, c = blN (x >>> (3 &&& 31)) 5 := ⟨_, rfl⟩
  have hc : c < 5 := by rw [ec]; exact blN_lt _ (by omega)
  rw [← ec]
  refine lv_istore (lv' := [(4, .int (nI c)), (3, .int (nI i)), (0, .ref (sa S 0)), (1, .ref (sa S 1000)), (2, .int x)]) hx hb dL_act_17 hl (by decide) rfl (fun ls hl => ?_)
  refine lv_iload_n hx hb dL_act_19 rfl (lv_at hl 4 rfl) ?_
  refine lv_iconst (v := 2) hx hb dL_act_20 (by decide) ?_
  refine lv_ishr hx hb dL_act_21 ?_
  refine lv_aload_n hx hb dL_act_22 rfl (lv_at hl 3 rfl) ?_
  refine fb_get (r := 1000) hx hb hown hts hin4 hM (hA.1.1) (ce4 (hA.1.2)) rfl 4 (by decide) (hts (.fieldLink RL 47 "FeatherBedsLaw$Sim" "ticks" "[LFeatherBedsLaw$Tick;") (by decide +kernel)) (fun _ h9 => h9) (v := .ref (sa S (1040 + nt))) (congrArg (fun z => some (va_rf z)) (hA.2.1.2.2.2)) dL_act_23 ?_
  refine fb_alen (r := (1040 + nt)) hx hb hM (hA.2.2.2.2.2.1.1) (ce13 (hA.2.2.2.2.2.1.2.1)) 6 rfl (v := nI nt) (congrArg Int32.ofNat (hA.2.2.2.2.2.1.2.2)) dL_act_26 ?_
  refine fb_callSi hx hb hml hown hts hM (As := [.int (x >>> (2 &&& 31)), .int (nI nt)]) (rest := []) (c_L_below D y l S V I (x >>> (2 &&& 31)) nt (by omega) (by omega)) (va_cwS 2 hts gL_act_L_below rfl rfl rfl (by decide +kernel) ⟨Nat.le_of_ble_eq_true rfl, Nat.le_of_ble_eq_true rfl⟩) rfl hl.1 rfl (Nat.le_of_ble_eq_true rfl) dL_act_27 ⟨Nat.le_of_ble_eq_true rfl, Nat.le_of_ble_eq_true rfl⟩ (fun v_3 u_ H locs hp hM => ?_)
  obtain ⟨hv_, hu_⟩ := hp
  have hv_ := Eq.symm hv_
  have hu_ := Eq.symm hu_
  subst hv_
  subst hu_
  obtain ⟨t, et⟩ : ∃ t, t = blN (x >>> (2 &&& 31)) nt := ⟨_, rfl⟩
  have ht : t < nt := by rw [et]; exact blN_lt _ (by omega)
  rw [← et]
  have htk := hTk t ht
  have hcr := htk.n36
  have hLt := (hA.2.2.2.2.2.2.2.2 t ht).2
  refine lv_istore (lv' := [(5, .int (nI t)), (4, .int (nI c)), (3, .int (nI i)), (0, .ref (sa S 0)), (1, .ref (sa S 1000)), (2, .int x)]) hx hb dL_act_30 hl (by decide) rfl (fun ls hl => ?_)
  refine lv_aload_n hx hb dL_act_32 rfl (lv_at hl 4 rfl) ?_
  refine fb_get (r := 1000) hx hb hown hts hin4 hM (hA.1.1) (ce4 (hA.1.2)) rfl 4 (by decide) (hts (.fieldLink RL 47 "FeatherBedsLaw$Sim" "ticks" "[LFeatherBedsLaw$Tick;") (by decide +kernel)) (fun _ h9 => h9) (v := .ref (sa S (1040 + nt))) (congrArg (fun z => some (va_rf z)) (hA.2.1.2.2.2)) dL_act_33 ?_
  refine lv_iload hx hb dL_act_36 (lv_at hl 0 rfl) ?_
  refine fb_aald (r := (1040 + nt)) hx hb hM (hA.2.2.2.2.2.1.1) (ce13 (hA.2.2.2.2.2.1.2.1)) 6 rfl (k := t) (nI_clamp (by omega)) (b := sa S (1100 + 100 * t)) ((hA.2.2.2.2.2.2.2.2 t (by omega)).1) (by rw [hA.2.2.2.2.2.1.2.2]; exact vp_in_nI (by omega) (by omega)) dL_act_38 ?_
  refine lv_astore (lv' := [(6, .ref (sa S (1100 + 100 * t))), (5, .int (nI t)), (4, .int (nI c)), (3, .int (nI i)), (0, .ref (sa S 0)), (1, .ref (sa S 1000)), (2, .int x)]) hx hb dL_act_39 hl (by decide) rfl (fun ls hl => ?_)
  refine lv_iload_n hx hb dL_act_41 rfl (lv_at hl 6 rfl) ?_
  refine lv_iconst (v := 4) hx hb dL_act_42 (by decide) ?_
  refine lv_ishr hx hb dL_act_43 ?_
  refine lv_aload hx hb dL_act_44 (lv_at hl 0 rfl) ?_
  refine fb_get (r := (1100 + 100 * t)) hx hb hown hts hin14 hM (hLt.1.1) (ce14 (hLt.1.2)) rfl 3 (by decide) (hts (.fieldLink RL 51 "FeatherBedsLaw$Tick" "squares" "[[I") (by decide +kernel)) (fun _ h9 => h9) (v := .ref (sa S ((1100 + 100 * t) + 9))) (congrArg (fun z => some (va_rf z)) (hLt.2.1)) dL_act_46 ?_
  refine fb_alen (r := ((1100 + 100 * t) + 9)) hx hb hM (hLt.2.2.2.1.1) (ce10 (hLt.2.2.2.1.2.1)) 4 rfl (v := nI (cf t * rf t)) (congrArg Int32.ofNat (hLt.2.2.2.1.2.2)) dL_act_49 ?_
  refine fb_callSi hx hb hml hown hts hM (As := [.int (x >>> (4 &&& 31)), .int (nI ((cf t * rf t)))]) (rest := []) (c_L_below D y l S V I (x >>> (4 &&& 31)) (cf t * rf t) (by omega) (by omega)) (va_cwS 2 hts gL_act_L_below rfl rfl rfl (by decide +kernel) ⟨Nat.le_of_ble_eq_true rfl, Nat.le_of_ble_eq_true rfl⟩) rfl hl.1 rfl (Nat.le_of_ble_eq_true rfl) dL_act_50 ⟨Nat.le_of_ble_eq_true rfl, Nat.le_of_ble_eq_true rfl⟩ (fun v_4 u_ H locs hp hM => ?_)
  obtain ⟨hv_, hu_⟩ := hp
  have hv_ := Eq.symm hv_
  have hu_ := Eq.symm hu_
  subst hv_
  subst hu_
  obtain ⟨q, eq⟩ : ∃ q, q = blN (x >>> (4 &&& 31)) (cf t * rf t) := ⟨_, rfl⟩
  have hq : q < (cf t * rf t) := by rw [eq]; exact blN_lt _ (by omega)
  rw [← eq]
  refine lv_istore (lv' := [(7, .int (nI q)), (6, .ref (sa S (1100 + 100 * t))), (5, .int (nI t)), (4, .int (nI c)), (3, .int (nI i)), (0, .ref (sa S 0)), (1, .ref (sa S 1000)), (2, .int x)]) hx hb dL_act_53 hl (by decide) rfl (fun ls hl => ?_)
  refine lv_iconst (v := 1) hx hb dL_act_55 (by decide) ?_
  refine lv_iload_n hx hb dL_act_56 rfl (lv_at hl 7 rfl) ?_
  refine lv_iconst (v := 5) hx hb dL_act_57 (by decide) ?_
  refine lv_ishr hx hb dL_act_58 ?_
  refine lv_sipush (v := 300) hx hb dL_act_59 (by decide) ?_
  refine fb_callSi hx hb hml hown hts hM (As := [.int (x >>> (5 &&& 31)), .int 300]) (rest := [.int 1]) (c_L_below D y l S V I (x >>> (5 &&& 31)) 300 (by omega) (by omega)) (va_cwS 2 hts gL_act_L_below rfl rfl rfl (by decide +kernel) ⟨Nat.le_of_ble_eq_true rfl, Nat.le_of_ble_eq_true rfl⟩) rfl hl.1 rfl (Nat.le_of_ble_eq_true rfl) dL_act_62 ⟨Nat.le_of_ble_eq_true rfl, Nat.le_of_ble_eq_true rfl⟩ (fun v_5 u_ H locs hp hM => ?_)
  obtain ⟨hv_, hu_⟩ := hp
  have hv_ := Eq.symm hv_
  have hu_ := Eq.symm hu_
  subst hv_
  subst hu_
  obtain ⟨m0, em0⟩ : ∃ m0, m0 = blN (x >>> (5 &&& 31)) 300 := ⟨_, rfl⟩
  have hm0 : m0 < 300 := by rw [em0]; exact blN_lt _ (by omega)
  rw [← em0]
  refine lv_iadd hx hb dL_act_65 ?_
  refine W.eq (g2 := F0 mv _ ls (.int (nI (1 + m0)) :: [])) (by rw [show (1 + (nI m0) : Int32) = nI (1 + m0) from nI_add 1 m0]) ?_
  obtain ⟨m, em⟩ : ∃ m, m = 1 + m0 := ⟨_, rfl⟩
  have hma : 1 ≤ m := by omega
  have hm : m ≤ 300 := by omega
  rw [← em]
  refine lv_istore (lv' := [(8, .int (nI m)), (7, .int (nI q)), (6, .ref (sa S (1100 + 100 * t))), (5, .int (nI t)), (4, .int (nI c)), (3, .int (nI i)), (0, .ref (sa S 0)), (1, .ref (sa S 1000)), (2, .int x)]) hx hb dL_act_66 hl (by decide) rfl (fun ls hl => ?_)
  refine lv_iload_n hx hb dL_act_68 rfl (lv_at hl 8 rfl) ?_
  refine lv_bipush (v := 8) hx hb dL_act_69 (by decide) ?_
  refine lv_ishr hx hb dL_act_71 ?_
  refine lv_bipush (v := 9) hx hb dL_act_72 (by decide) ?_
  refine fb_callSi hx hb hml hown hts hM (As := [.int (x >>> (8 &&& 31)), .int 9]) (rest := []) (c_L_below D y l S V I (x >>> (8 &&& 31)) 9 (by omega) (by omega)) (va_cwS 2 hts gL_act_L_below rfl rfl rfl (by decide +kernel) ⟨Nat.le_of_ble_eq_true rfl, Nat.le_of_ble_eq_true rfl⟩) rfl hl.1 rfl (Nat.le_of_ble_eq_true rfl) dL_act_74 ⟨Nat.le_of_ble_eq_true rfl, Nat.le_of_ble_eq_true rfl⟩ (fun v_6 u_ H locs hp hM => ?_)
  obtain ⟨hv_, hu_⟩ := hp
  have hv_ := Eq.symm hv_
  have hu_ := Eq.symm hu_
  subst hv_
  subst hu_
  refine W.eq (g2 := F0 mv _ ls (.int (nI 2) :: [])) (by rw [show (nI (blN (x >>> (8 &&& 31)) 9) : Int32) = nI 2 from congrArg nI hk9]) ?_
  refine lv_tableIn (off := 163) (tgt := 240) hx hb dL_act_77 (by decide) (by decide) rfl (by decide) ?_
  refine lv_aload_n hx hb dL_act_240 rfl (lv_at hl 7 rfl) ?_
  refine fb_get (r := 1000) hx hb hown hts hin4 hM (hA.1.1) (ce4 (hA.1.2)) rfl 2 (by decide) (hts (.fieldLink RL 71 "FeatherBedsLaw$Sim" "wind" "I") (by decide +kernel)) (fun _ h9 => h9) (v := .int (nI w0)) (congrArg (fun z => some (Value.int z)) (hw00)) dL_act_241 ?_
  refine lv_istore (lv' := [(10, .int (nI w0)), (8, .int (nI m)), (7, .int (nI q)), (6, .ref (sa S (1100 + 100 * t))), (5, .int (nI t)), (4, .int (nI c)), (3, .int (nI i)), (0, .ref (sa S 0)), (1, .ref (sa S 1000)), (2, .int x)]) hx hb dL_act_244 hl (by decide) rfl (fun ls hl => ?_)
  refine lv_aload_n hx hb dL_act_246 rfl (lv_at hl 8 rfl) ?_
  refine lv_iconst (v := 1) hx hb dL_act_247 (by decide) ?_
  refine lv_iload_n hx hb dL_act_248 rfl (lv_at hl 9 rfl) ?_
  refine lv_iconst (v := 3) hx hb dL_act_249 (by decide) ?_
  refine lv_ishr hx hb dL_act_250 ?_
  refine lv_bipush (v := 20) hx hb dL_act_251 (by decide) ?_
  refine fb_callSi hx hb hml hown hts hM (As := [.int (x >>> (3 &&& 31)), .int 20]) (rest := [.int 1, .ref (sa S 1000)]) (c_L_below D y l S V I (x >>> (3 &&& 31)) 20 (by omega) (by omega)) (va_cwS 2 hts gL_act_L_below rfl rfl rfl (by decide +kernel) ⟨Nat.le_of_ble_eq_true rfl, Nat.le_of_ble_eq_true rfl⟩) rfl hl.1 rfl (Nat.le_of_ble_eq_true rfl) dL_act_253 ⟨Nat.le_of_ble_eq_true rfl, Nat.le_of_ble_eq_true rfl⟩ (fun v_7 u_ H locs hp hM => ?_)
  obtain ⟨hv_, hu_⟩ := hp
  have hv_ := Eq.symm hv_
  have hu_ := Eq.symm hu_
  subst hv_
  subst hu_
  obtain ⟨b0, eb0⟩ : ∃ b0, b0 = blN (x >>> (3 &&& 31)) 20 := ⟨_, rfl⟩
  have hb0 : b0 < 20 := by rw [eb0]; exact blN_lt _ (by omega)
  rw [← eb0]
  refine lv_iadd hx hb dL_act_256 ?_
  refine W.eq (g2 := F0 mv _ ls (.int (nI (1 + b0)) :: .ref (sa S 1000) :: [])) (by rw [show (1 + (nI b0) : Int32) = nI (1 + b0) from nI_add 1 b0]) ?_
  obtain ⟨w1, ew1⟩ : ∃ w1, w1 = 1 + b0 := ⟨_, rfl⟩
  have hwa : 1 ≤ w1 := by omega
  have hwb : w1 ≤ 20 := by omega
  rw [← ew1]
  refine fb_put (r := 1000) hx hb hown hts hin4 tyX4 tyX4_ok nmX4 hM (hA.1.1) (ce4 (hA.1.2)) rfl 2 (by decide) (hts (.fieldLink RL 71 "FeatherBedsLaw$Sim" "wind" "I") (by decide +kernel)) (fun _ h9 => h9) rfl (ty := .int) (by decide +kernel) rfl rfl (Nat.le_of_ble_eq_true rfl) dL_act_257 (up_I (j := 2) (v := nI w1) (by rw [ce4 (S := S) (hA.1.2)]; simp [va_up, upd])) (w' := (S, V, (sT V), (va_up I 1000 (upd (I 1000) 2 (nI w1))))) ⟨rfl, rfl, rfl⟩ (fun H locs hM => ?_)
  refine lv_aload_n hx hb dL_act_260 rfl (lv_at hl 7 rfl) ?_
  refine lv_aload_n hx hb dL_act_261 rfl (lv_at hl 8 rfl) ?_
  refine fb_get (r := 1000) hx hb hown hts hin4 hM (hA.1.1) (ce4 (hA.1.2)) rfl 2 (by decide) (hts (.fieldLink RL 71 "FeatherBedsLaw$Sim" "wind" "I") (by decide +kernel)) (fun _ h9 => h9) (v := .int (nI w1)) (congrArg (fun z => some (Value.int z)) (by rw [va_up_self]; exact if_pos rfl)) dL_act_262 ?_
  have hcf2 : CF (va_up I 1000 (upd (I 1000) 2 (nI w1))) ns nt cf rf df := cf_same hCF (fun x9 h9 _ _ => va_up_ne _ _ (by omega)) (by omega)
  refine fb_callVi (r := 0) hx hb hml hown hts hM (hC.1.1) (ce3 (hC.1.2)) rfl (As := [.int (nI w1)]) (rest := []) (c_X3_setWind_ok D y l S V (va_up I 1000 (upd (I 1000) 2 (nI w1))) a1 ns nt 4 10 hC cf rf df hcf2 w1 hwa hwb) (cwV 1 hts gL_act_X3_setWind rfl rfl rfl (by decide +kernel) ⟨Nat.le_of_ble_eq_true rfl, Nat.le_of_ble_eq_true rfl⟩) rfl hl.1 rfl (Nat.le_of_ble_eq_true rfl) dL_act_265 ⟨Nat.le_of_ble_eq_true rfl, Nat.le_of_ble_eq_true rfl⟩ (fun v_8 u_ H locs hp hM => ?_)
  obtain ⟨hv_, hu_⟩ := hp
  have hv_ := Eq.symm hv_
  have hu_ := Eq.symm hu_
  subst hv_
  subst hu_
  refine W.eq (g2 := F0 mv _ ls (.int (nI w0) :: [])) (by rw [show ((va_up I 1000 (upd (I 1000) 2 (nI w1))) 0 4 : Int32) = nI w0 from by rw [va_up_ne _ _ (by omega)]; exact hw0]) ?_
  refine lv_iload hx hb dL_act_268 (lv_at hl 0 rfl) ?_
  refine lv_icmp_ne (tgt := 277) hx hb dL_act_270 (by decide) (fun c_9 => absurd (rfl) c_9) (fun c_9 => ?_)
  refine lv_iconst (v := 1) hx hb dL_act_273 (by decide) ?_
  refine lv_goto (tgt := 278) hx hb dL_act_274 (by decide) ?_
  rw [hQ]
  refine W.widen (show _ ≤ 10 from Nat.le_of_ble_eq_true rfl) (show _ ≤ 60 from Nat.le_of_ble_eq_true rfl) ?_
  exact fb_zret hx hb hr (by first | rfl | decide | assumption) hlocks hM (ActP.of (Ac.wind hI hwa hwb (by rw [va_up_self, va_up_ne _ _ (by omega)]) (by rw [va_up_ne _ _ (by omega), va_up_self]) (fun x9 h1 h2 => by rw [va_up_ne _ _ h1, va_up_ne _ _ h2])) (by omega)) dL_act_278

set_option maxHeartbeats 4000000 in
set_option maxRecDepth 100000 in
theorem c_L_act_3 (D : va_G) (y : Nat → ClassId) (l : Launch) (S : fb_Sh) (V I : fb_V) (a1 ns nt N F : Nat) (rho cf rf df : Nat → Nat) (hI : Iv a1 S V I ns nt rho cf rf df N F) (hn1 : 1 ≤ ns) (ht1 : 1 ≤ nt) (hN : N ≤ 600000) (x : Int32) (hk9 : blN (x >>> (8 &&& 31)) 9 = 3)  : CI D y l yL_act wsL_act rm_L_act [.ref (sa S 0), .ref (sa S 1000), .int x] (S, V, (sT V), I) (fun z u => ActP a1 S V I ns nt rho cf rf df N z u) 10 60 := by
  refine CI.of (cc := cL_act) (maxL := 15) (ret := (some .boolean)) (by decide) rfl (Nat.le_of_ble_eq_true rfl) ?_
  intro pv ev s mv below meth cv A hx hb hml hr hown hts hlocks hname hM ls hl
  have hown : s.vm.findClass RL = some mv.cls := hown
  have hl : lv_has ls 15 [(0, .ref (sa S 0)), (1, .ref (sa S 1000)), (2, .int x)] := hl
  have hin3 : ∀ x ∈ wsX30, x ∈ wsL_act := by decide +kernel
  have hin4 : ∀ x ∈ wsX40, x ∈ wsL_act := by decide +kernel
  have hin14 : ∀ x ∈ wsX50, x ∈ wsL_act := by decide +kernel
  obtain ⟨Q, hQ⟩ : ∃ Q, Q = MQ below (va_Qi (fun z u => ActP a1 S V I ns nt rho cf rf df N z u) (fun u t => fb_P D y A u t) A) (([.ref (sa S 0), .ref (sa S 1000), .int x] : List Value).toArray) s 10 60 A := ⟨_, rfl⟩
  rw [← hQ]
  obtain ⟨⟨hC, hA⟩, ⟨hRh, hFs⟩, hCF, ⟨hW, hSk, hCh, hTk, hTZ⟩, hns4, hnt3⟩ := id hI
  obtain ⟨w0, hw1, hw20, hw0, hw00⟩ := hW.1
  have hFs4 := hFs.1
  refine lv_iload_n hx hb dL_act_0 rfl (lv_at hl 2 rfl) ?_
  refine lv_aload_n hx hb dL_act_1 rfl (lv_at hl 1 rfl) ?_
  refine fb_get (r := 1000) hx hb hown hts hin4 hM (hA.1.1) (ce4 (hA.1.2)) rfl 0 (by decide) (hts (.fieldLink RL 32 "FeatherBedsLaw$Sim" "sacks" "[[I") (by decide +kernel)) (fun _ h9 => h9) (v := .ref (sa S (1020 + ns))) (congrArg (fun z => some (va_rf z)) (hA.2.1.1)) dL_act_2 ?_
  refine fb_alen (r := (1020 + ns)) hx hb hM (hA.2.2.1.1) (ce10 (hA.2.2.1.2.1)) 4 rfl (v := nI ns) (congrArg Int32.ofNat (hA.2.2.1.2.2)) dL_act_5 ?_
  refine fb_callSi hx hb hml hown hts hM (As := [.int x, .int (nI ns)]) (rest := []) (c_L_below D y l S V I x ns (by omega) (by omega)) (va_cwS 2 hts gL_act_L_below rfl rfl rfl (by decide +kernel) ⟨Nat.le_of_ble_eq_true rfl, Nat.le_of_ble_eq_true rfl⟩) rfl hl.1 rfl (Nat.le_of_ble_eq_true rfl) dL_act_6 ⟨Nat.le_of_ble_eq_true rfl, Nat.le_of_ble_eq_true rfl⟩ (fun v_1 u_ H locs hp hM => ?_)
  obtain ⟨hv_, hu_⟩ := hp
  have hv_ := Eq.symm hv_
  have hu_ := Eq.symm hu_
  subst hv_
  subst hu_
  obtain ⟨i, ei⟩ : ∃ i, i = blN x ns := ⟨_, rfl⟩
  have hi : i < ns := by rw [ei]; exact blN_lt _ (by omega)
  rw [← ei]
  have hri := hRh.1 i hi
  refine lv_istore_n (lv' := [(3, .int (nI i)), (0, .ref (sa S 0)), (1, .ref (sa S 1000)), (2, .int x)]) hx hb dL_act_9 rfl hl (by decide) rfl (fun ls hl => ?_)
  refine lv_iload_n hx hb dL_act_10 rfl (lv_at hl 3 rfl) ?_
  refine lv_iconst (v := 3) hx hb dL_act_11 (by decide) ?_
  refine lv_ishr hx hb dL_act_12 ?_
  refine lv_iconst (v := 5) hx hb dL_act_13 (by decide) ?_
  refine fb_callSi hx hb hml hown hts hM (As := [.int (x >>> (3 &&& 31)), .int 5]) (rest := []) (c_L_below D y l S V I (x >>> (3 &&& 31)) 5 (by omega) (by omega)) (va_cwS 2 hts gL_act_L_below rfl rfl rfl (by decide +kernel) ⟨Nat.le_of_ble_eq_true rfl, Nat.le_of_ble_eq_true rfl⟩) rfl hl.1 rfl (Nat.le_of_ble_eq_true rfl) dL_act_14 ⟨Nat.le_of_ble_eq_true rfl, Nat.le_of_ble_eq_true rfl⟩ (fun v_2 u_ H locs hp hM => ?_)
  obtain ⟨hv_, hu_⟩ := hp
  have hv_ := Eq.symm hv_
  have hu_ := Eq.symm hu_
  subst hv_
  subst hu_
  obtain ⟨c, ec⟩ : ∃ c, c = blN (x >>> (3 &&& 31)) 5 := ⟨_, rfl⟩
  have hc : c < 5 := by rw [ec]; exact blN_lt _ (by omega)
  rw [← ec]
  refine lv_istore (lv' := [(4, .int (nI c)), (3, .int (nI i)), (0, .ref (sa S 0)), (1, .ref (sa S 1000)), (2, .int x)]) hx hb dL_act_17 hl (by decide) rfl (fun ls hl => ?_)
  refine lv_iload_n hx hb dL_act_19 rfl (lv_at hl 4 rfl) ?_
  refine lv_iconst (v := 2) hx hb dL_act_20 (by decide) ?_
  refine lv_ishr hx hb dL_act_21 ?_
  refine lv_aload_n hx hb dL_act_22 rfl (lv_at hl 3 rfl) ?_
  refine fb_get (r := 1000) hx hb hown hts hin4 hM (hA.1.1) (ce4 (hA.1.2)) rfl 4 (by decide) (hts (.fieldLink RL 47 "FeatherBedsLaw$Sim" "ticks" "[LFeatherBedsLaw$Tick;") (by decide +kernel)) (fun _ h9 => h9) (v := .ref (sa S (1040 + nt))) (congrArg (fun z => some (va_rf z)) (hA.2.1.2.2.2)) dL_act_23 ?_
  refine fb_alen (r := (1040 + nt)) hx hb hM (hA.2.2.2.2.2.1.1) (ce13 (hA.2.2.2.2.2.1.2.1)) 6 rfl (v := nI nt) (congrArg Int32.ofNat (hA.2.2.2.2.2.1.2.2)) dL_act_26 ?_
  refine fb_callSi hx hb hml hown hts hM (As := [.int (x >>> (2 &&& 31)), .int (nI nt)]) (rest := []) (c_L_below D y l S V I (x >>> (2 &&& 31)) nt (by omega) (by omega)) (va_cwS 2 hts gL_act_L_below rfl rfl rfl (by decide +kernel) ⟨Nat.le_of_ble_eq_true rfl, Nat.le_of_ble_eq_true rfl⟩) rfl hl.1 rfl (Nat.le_of_ble_eq_true rfl) dL_act_27 ⟨Nat.le_of_ble_eq_true rfl, Nat.le_of_ble_eq_true rfl⟩ (fun v_3 u_ H locs hp hM => ?_)
  obtain ⟨hv_, hu_⟩ := hp
  have hv_ := Eq.symm hv_
  have hu_ := Eq.symm hu_
  subst hv_
  subst hu_
  obtain ⟨t, et⟩ : ∃ t, t = blN (x >>> (2 &&& 31)) nt := ⟨_, rfl⟩
  have ht : t < nt := by rw [et]; exact blN_lt _ (by omega)
  rw [← et]
  have htk := hTk t ht
  have hcr := htk.n36
  have hLt := (hA.2.2.2.2.2.2.2.2 t ht).2
  refine lv_istore (lv' := [(5, .int (nI t)), (4, .int (nI c)), (3, .int (nI i)), (0, .ref (sa S 0)), (1, .ref (sa S 1000)), (2, .int x)]) hx hb dL_act_30 hl (by decide) rfl (fun ls hl => ?_)
  refine lv_aload_n hx hb dL_act_32 rfl (lv_at hl 4 rfl) ?_
  refine fb_get (r := 1000) hx hb hown hts hin4 hM (hA.1.1) (ce4 (hA.1.2)) rfl 4 (by decide) (hts (.fieldLink RL 47 "FeatherBedsLaw$Sim" "ticks" "[LFeatherBedsLaw$Tick;") (by decide +kernel)) (fun _ h9 => h9) (v := .ref (sa S (1040 + nt))) (congrArg (fun z => some (va_rf z)) (hA.2.1.2.2.2)) dL_act_33 ?_
  refine lv_iload hx hb dL_act_36 (lv_at hl 0 rfl) ?_
  refine fb_aald (r := (1040 + nt)) hx hb hM (hA.2.2.2.2.2.1.1) (ce13 (hA.2.2.2.2.2.1.2.1)) 6 rfl (k := t) (nI_clamp (by omega)) (b := sa S (1100 + 100 * t)) ((hA.2.2.2.2.2.2.2.2 t (by omega)).1) (by rw [hA.2.2.2.2.2.1.2.2]; exact vp_in_nI (by omega) (by omega)) dL_act_38 ?_
  refine lv_astore (lv' := [(6, .ref (sa S (1100 + 100 * t))), (5, .int (nI t)), (4, .int (nI c)), (3, .int (nI i)), (0, .ref (sa S 0)), (1, .ref (sa S 1000)), (2, .int x)]) hx hb dL_act_39 hl (by decide) rfl (fun ls hl => ?_)
  refine lv_iload_n hx hb dL_act_41 rfl (lv_at hl 6 rfl) ?_
  refine lv_iconst (v := 4) hx hb dL_act_42 (by decide) ?_
  refine lv_ishr hx hb dL_act_43 ?_
  refine lv_aload hx hb dL_act_44 (lv_at hl 0 rfl) ?_
  refine fb_get (r := (1100 + 100 * t)) hx hb hown hts hin14 hM (hLt.1.1) (ce14 (hLt.1.2)) rfl 3 (by decide) (hts (.fieldLink RL 51 "FeatherBedsLaw$Tick" "squares" "[[I") (by decide +kernel)) (fun _ h9 => h9) (v := .ref (sa S ((1100 + 100 * t) + 9))) (congrArg (fun z => some (va_rf z)) (hLt.2.1)) dL_act_46 ?_
  refine fb_alen (r := ((1100 + 100 * t) + 9)) hx hb hM (hLt.2.2.2.1.1) (ce10 (hLt.2.2.2.1.2.1)) 4 rfl (v := nI (cf t * rf t)) (congrArg Int32.ofNat (hLt.2.2.2.1.2.2)) dL_act_49 ?_
  refine fb_callSi hx hb hml hown hts hM (As := [.int (x >>> (4 &&& 31)), .int (nI ((cf t * rf t)))]) (rest := []) (c_L_below D y l S V I (x >>> (4 &&& 31)) (cf t * rf t) (by omega) (by omega)) (va_cwS 2 hts gL_act_L_below rfl rfl rfl (by decide +kernel) ⟨Nat.le_of_ble_eq_true rfl, Nat.le_of_ble_eq_true rfl⟩) rfl hl.1 rfl (Nat.le_of_ble_eq_true rfl) dL_act_50 ⟨Nat.le_of_ble_eq_true rfl, Nat.le_of_ble_eq_true rfl⟩ (fun v_4 u_ H locs hp hM => ?_)
  obtain ⟨hv_, hu_⟩ := hp
  have hv_ := Eq.symm hv_
  have hu_ := Eq.symm hu_
  subst hv_
  subst hu_
  obtain ⟨q, eq⟩ : ∃ q, q = blN (x >>> (4 &&& 31)) (cf t * rf t) := ⟨_, rfl⟩
  have hq : q < (cf t * rf t) := by rw [eq]; exact blN_lt _ (by omega)
  rw [← eq]
  refine lv_istore (lv' := [(7, .int (nI q)), (6, .ref (sa S (1100 + 100 * t))), (5, .int (nI t)), (4, .int (nI c)), (3, .int (nI i)), (0, .ref (sa S 0)), (1, .ref (sa S 1000)), (2, .int x)]) hx hb dL_act_53 hl (by decide) rfl (fun ls hl => ?_)
  refine lv_iconst (v := 1) hx hb dL_act_55 (by decide) ?_
  refine lv_iload_n hx hb dL_act_56 rfl (lv_at hl 7 rfl) ?_
  refine lv_iconst (v := 5) hx hb dL_act_57 (by decide) ?_
  refine lv_ishr hx hb dL_act_58 ?_
  refine lv_sipush (v := 300) hx hb dL_act_59 (by decide) ?_
  refine fb_callSi hx hb hml hown hts hM (As := [.int (x >>> (5 &&& 31)), .int 300]) (rest := [.int 1]) (c_L_below D y l S V I (x >>> (5 &&& 31)) 300 (by omega) (by omega)) (va_cwS 2 hts gL_act_L_below rfl rfl rfl (by decide +kernel) ⟨Nat.le_of_ble_eq_true rfl, Nat.le_of_ble_eq_true rfl⟩) rfl hl.1 rfl (Nat.le_of_ble_eq_true rfl) dL_act_62 ⟨Nat.le_of_ble_eq_true rfl, Nat.le_of_ble_eq_true rfl⟩ (fun v_5 u_ H locs hp hM => ?_)
  obtain ⟨hv_, hu_⟩ := hp
  have hv_ := Eq.symm hv_
  have hu_ := Eq.symm hu_
  subst hv_
  subst hu_
  obtain ⟨m0, em0⟩ : ∃ m0, m0 = blN (x >>> (5 &&& 31)) 300 := ⟨_, rfl⟩
  have hm0 : m0 < 300 := by rw [em0]; exact blN_lt _ (by omega)
  rw [← em0]
  refine lv_iadd hx hb dL_act_65 ?_
  refine W.eq (g2 := F0 mv _ ls (.int (nI (1 + m0)) :: [])) (by rw [show (1 + (nI m0) : Int32) = nI (1 + m0) from nI_add 1 m0]) ?_
  obtain ⟨m, em⟩ : ∃ m, m = 1 + m0 := ⟨_, rfl⟩
  have hma : 1 ≤ m := by omega
  have hm : m ≤ 300 := by omega
  rw [← em]
  refine lv_istore (lv' := [(8, .int (nI m)), (7, .int (nI q)), (6, .ref (sa S (1100 + 100 * t))), (5, .int (nI t)), (4, .int (nI c)), (3, .int (nI i)), (0, .ref (sa S 0)), (1, .ref (sa S 1000)), (2, .int x)]) hx hb dL_act_66 hl (by decide) rfl (fun ls hl => ?_)
  refine lv_iload_n hx hb dL_act_68 rfl (lv_at hl 8 rfl) ?_
  refine lv_bipush (v := 8) hx hb dL_act_69 (by decide) ?_
  refine lv_ishr hx hb dL_act_71 ?_
  refine lv_bipush (v := 9) hx hb dL_act_72 (by decide) ?_
  refine fb_callSi hx hb hml hown hts hM (As := [.int (x >>> (8 &&& 31)), .int 9]) (rest := []) (c_L_below D y l S V I (x >>> (8 &&& 31)) 9 (by omega) (by omega)) (va_cwS 2 hts gL_act_L_below rfl rfl rfl (by decide +kernel) ⟨Nat.le_of_ble_eq_true rfl, Nat.le_of_ble_eq_true rfl⟩) rfl hl.1 rfl (Nat.le_of_ble_eq_true rfl) dL_act_74 ⟨Nat.le_of_ble_eq_true rfl, Nat.le_of_ble_eq_true rfl⟩ (fun v_6 u_ H locs hp hM => ?_)
  obtain ⟨hv_, hu_⟩ := hp
  have hv_ := Eq.symm hv_
  have hu_ := Eq.symm hu_
  subst hv_
  subst hu_
  refine W.eq (g2 := F0 mv _ ls (.int (nI 3) :: [])) (by rw [show (nI (blN (x >>> (8 &&& 31)) 9) : Int32) = nI 3 from congrArg nI hk9]) ?_
  refine lv_tableIn (off := 202) (tgt := 279) hx hb dL_act_77 (by decide) (by decide) rfl (by decide) ?_
  obtain ⟨hJs, hBk, dm, hd9, hd1, hd2⟩ := hSk i hi
  refine lv_aload_n hx hb dL_act_279 rfl (lv_at hl 7 rfl) ?_
  refine fb_get (r := 1000) hx hb hown hts hin4 hM (hA.1.1) (ce4 (hA.1.2)) rfl 1 (by decide) (hts (.fieldLink RL 78 "FeatherBedsLaw$Sim" "damp" "[I") (by decide +kernel)) (fun _ h9 => h9) (v := .ref (sa S 1001)) (congrArg (fun z => some (va_rf z)) (hA.2.1.2.1)) dL_act_280 ?_
  refine lv_iload_n hx hb dL_act_283 rfl (lv_at hl 5 rfl) ?_
  refine lv_iconst (v := 0) hx hb dL_act_284 (by decide) ?_
  refine lv_aload_n hx hb dL_act_285 rfl (lv_at hl 7 rfl) ?_
  refine fb_get (r := 1000) hx hb hown hts hin4 hM (hA.1.1) (ce4 (hA.1.2)) rfl 1 (by decide) (hts (.fieldLink RL 78 "FeatherBedsLaw$Sim" "damp" "[I") (by decide +kernel)) (fun _ h9 => h9) (v := .ref (sa S 1001)) (congrArg (fun z => some (va_rf z)) (hA.2.1.2.1)) dL_act_286 ?_
  refine lv_iload_n hx hb dL_act_289 rfl (lv_at hl 5 rfl) ?_
  refine fb_iald (r := 1001) hx hb hM (hA.2.2.2.1.1) (ce6 (hA.2.2.2.1.2.1)) (k := i) (nI_clamp (by omega)) (by rw [hA.2.2.2.1.2.2]; exact vp_in_nI (by omega) (by omega)) dL_act_290 ?_
  refine W.eq (g2 := F0 mv _ ls (.int (nI dm) :: .int 0 :: .int (nI i) :: .ref (sa S 1001) :: [])) (by rw [show (I 1001 i : Int32) = nI dm from hd2]) ?_
  refine lv_iconst (v := 1) hx hb dL_act_291 (by decide) ?_
  refine lv_isub hx hb dL_act_292 ?_
  refine lv_iload_n hx hb dL_act_293 rfl (lv_at hl 8 rfl) ?_
  refine lv_iconst (v := 4) hx hb dL_act_294 (by decide) ?_
  refine lv_ishr hx hb dL_act_295 ?_
  refine lv_bipush (v := 9) hx hb dL_act_296 (by decide) ?_
  refine fb_callSi hx hb hml hown hts hM (As := [.int (x >>> (4 &&& 31)), .int 9]) (rest := [.int ((nI dm) - 1), .int 0, .int (nI i), .ref (sa S 1001)]) (c_L_below D y l S V I (x >>> (4 &&& 31)) 9 (by omega) (by omega)) (va_cwS 2 hts gL_act_L_below rfl rfl rfl (by decide +kernel) ⟨Nat.le_of_ble_eq_true rfl, Nat.le_of_ble_eq_true rfl⟩) rfl hl.1 rfl (Nat.le_of_ble_eq_true rfl) dL_act_298 ⟨Nat.le_of_ble_eq_true rfl, Nat.le_of_ble_eq_true rfl⟩ (fun v_7 u_ H locs hp hM => ?_)
  obtain ⟨hv_, hu_⟩ := hp
  have hv_ := Eq.symm hv_
  have hu_ := Eq.symm hu_
  subst hv_
  subst hu_
  obtain ⟨b0, eb0⟩ : ∃ b0, b0 = blN (x >>> (4 &&& 31)) 9 := ⟨_, rfl⟩
  have hb0 : b0 < 9 := by rw [eb0]; exact blN_lt _ (by omega)
  rw [← eb0]
  refine lv_isub hx hb dL_act_301 ?_
  refine va_mmax hx hb (hml.trans hl.1.symm) hown (hts (.methodLink RL 82 Lib.Math.max.name) (by decide +kernel)) (hts (.static Lib.Math.max.name) (by decide +kernel)) (hts (.initialized "java/lang/Math") (by decide +kernel)) (hts (.code Lib.Math.max.name Lib.Math.max.code 2 (some .int)) (by decide +kernel)) (Nat.le_of_ble_eq_true rfl) (Nat.le_of_ble_eq_true rfl) (Nat.le_of_ble_eq_true rfl) (Nat.le_of_ble_eq_true rfl) dL_act_302 ?_
  refine W.eq (g2 := F0 mv _ ls (.int (nI (dm - (1 + b0))) :: .int (nI i) :: .ref (sa S 1001) :: [])) (by rw [show (if 0 < ((nI dm) - 1) - (nI b0) then ((nI dm) - 1) - (nI b0) else 0 : Int32) = nI (dm - (1 + b0)) from dry25 hd9 hb0]) ?_
  refine fb_iast (r := 1001) hx hb hM (hA.2.2.2.1.1) (ce6 (hA.2.2.2.1.2.1)) (k := i) (nI_clamp (by omega)) (by rw [hA.2.2.2.1.2.2]; exact vp_in_nI (by omega) (by omega)) dL_act_305 (up_I (j := i) (by rw [ce6 (S := S) (hA.2.2.2.1.2.1)]; simp [va_up])) (w' := (S, V, (sT V), (va_up I 1001 (upd (I 1001) i (nI (dm - (1 + b0))))))) ⟨rfl, rfl, rfl⟩ (fun H locs hM => ?_)
  refine lv_aload_n hx hb dL_act_306 rfl (lv_at hl 6 rfl) ?_
  refine lv_iload_n hx hb dL_act_307 rfl (lv_at hl 5 rfl) ?_
  refine lv_iconst (v := 1) hx hb dL_act_308 (by decide) ?_
  refine lv_iload_n hx hb dL_act_309 rfl (lv_at hl 8 rfl) ?_
  refine lv_iconst (v := 4) hx hb dL_act_310 (by decide) ?_
  refine lv_ishr hx hb dL_act_311 ?_
  refine lv_bipush (v := 9) hx hb dL_act_312 (by decide) ?_
  refine fb_callSi hx hb hml hown hts hM (As := [.int (x >>> (4 &&& 31)), .int 9]) (rest := [.int 1, .int (nI i), .ref (sa S 0)]) (c_L_below D y l S V (va_up I 1001 (upd (I 1001) i (nI (dm - (1 + b0))))) (x >>> (4 &&& 31)) 9 (by omega) (by omega)) (va_cwS 2 hts gL_act_L_below rfl rfl rfl (by decide +kernel) ⟨Nat.le_of_ble_eq_true rfl, Nat.le_of_ble_eq_true rfl⟩) rfl hl.1 rfl (Nat.le_of_ble_eq_true rfl) dL_act_314 ⟨Nat.le_of_ble_eq_true rfl, Nat.le_of_ble_eq_true rfl⟩ (fun v_8 u_ H locs hp hM => ?_)
  obtain ⟨hv_, hu_⟩ := hp
  have hv_ := Eq.symm hv_
  have hu_ := Eq.symm hu_
  subst hv_
  subst hu_
  obtain ⟨b1, eb1⟩ : ∃ b1, b1 = blN (x >>> (4 &&& 31)) 9 := ⟨_, rfl⟩
  have hb1 : b1 < 9 := by rw [eb1]; exact blN_lt _ (by omega)
  rw [← eb1]
  refine lv_iadd hx hb dL_act_317 ?_
  refine W.eq (g2 := F0 mv _ ls (.int (nI (1 + b1)) :: .int (nI i) :: .ref (sa S 0) :: [])) (by rw [show (1 + (nI b1) : Int32) = nI (1 + b1) from nI_add 1 b1]) ?_
  have hcf3 : CF (va_up I 1001 (upd (I 1001) i (nI (dm - (1 + b0))))) ns nt cf rf df := cf_same hCF (fun x9 h9 _ _ => va_up_ne _ _ (by omega)) (by omega)
  refine fb_callVi (r := 0) hx hb hml hown hts hM (hC.1.1) (ce3 (hC.1.2)) rfl (As := [.int (nI i), .int (nI (1 + b1))]) (rest := []) (c_X3_dry_ok D y l S V (va_up I 1001 (upd (I 1001) i (nI (dm - (1 + b0))))) a1 ns nt 4 10 hC cf rf df hcf3 i hi (1 + b1) (by omega) (by omega)) (cwV 2 hts gL_act_X3_dry rfl rfl rfl (by decide +kernel) ⟨Nat.le_of_ble_eq_true rfl, Nat.le_of_ble_eq_true rfl⟩) rfl hl.1 rfl (Nat.le_of_ble_eq_true rfl) dL_act_318 ⟨Nat.le_of_ble_eq_true rfl, Nat.le_of_ble_eq_true rfl⟩ (fun v_9 u_ H locs hp hM => ?_)
  obtain ⟨hv_, hu_⟩ := hp
  have hv_ := Eq.symm hv_
  have hu_ := Eq.symm hu_
  subst hv_
  subst hu_
  have hd3 : (if 0 < ((va_up I 1001 (upd (I 1001) i (nI (dm - (1 + b0))))) (10 + i) 1) - nI (1 + b1) then ((va_up I 1001 (upd (I 1001) i (nI (dm - (1 + b0))))) (10 + i) 1) - nI (1 + b1) else 0) = nI (dm - (1 + b0)) := by rw [va_up_ne _ _ (show 10 + i ≠ 1001 by omega), hd1, eb1, ← eb0]; exact dry_nI hd9 (by omega)
  have eI : (va_up (va_up I 1001 (upd (I 1001) i (nI (dm - (1 + b0))))) (10 + i) (upd ((va_up I 1001 (upd (I 1001) i (nI (dm - (1 + b0))))) (10 + i)) 1 (if 0 < ((va_up I 1001 (upd (I 1001) i (nI (dm - (1 + b0))))) (10 + i) 1) - nI (1 + b1) then ((va_up I 1001 (upd (I 1001) i (nI (dm - (1 + b0))))) (10 + i) 1) - nI (1 + b1) else 0))) = (va_up (va_up I 1001 (upd (I 1001) i (nI (dm - (1 + b0))))) (10 + i) (upd ((va_up I 1001 (upd (I 1001) i (nI (dm - (1 + b0))))) (10 + i)) 1 (nI (dm - (1 + b0))))) := by rw [hd3]
  rw [eI] at hM
  clear eI
  refine W.eq (g2 := F0 mv _ ls (.int (nI (dm - (1 + b0))) :: [])) (by rw [show ((if 0 < ((va_up I 1001 (upd (I 1001) i (nI (dm - (1 + b0))))) (10 + i) 1) - nI (1 + b1) then ((va_up I 1001 (upd (I 1001) i (nI (dm - (1 + b0))))) (10 + i) 1) - nI (1 + b1) else 0) : Int32) = nI (dm - (1 + b0)) from hd3]) ?_
  refine lv_aload_n hx hb dL_act_321 rfl (lv_at hl 7 rfl) ?_
  refine fb_get (r := 1000) hx hb hown hts hin4 hM (hA.1.1) (ce4 (hA.1.2)) rfl 1 (by decide) (hts (.fieldLink RL 78 "FeatherBedsLaw$Sim" "damp" "[I") (by decide +kernel)) (fun _ h9 => h9) (v := .ref (sa S 1001)) (congrArg (fun z => some (va_rf z)) (hA.2.1.2.1)) dL_act_322 ?_
  refine lv_iload_n hx hb dL_act_325 rfl (lv_at hl 5 rfl) ?_
  refine fb_iald (r := 1001) hx hb hM (hA.2.2.2.1.1) (ce6 (hA.2.2.2.1.2.1)) (k := i) (nI_clamp (by omega)) (by rw [hA.2.2.2.1.2.2]; exact vp_in_nI (by omega) (by omega)) dL_act_326 ?_
  refine W.eq (g2 := F0 mv _ ls (.int (nI (dm - (1 + b0))) :: .int (nI (dm - (1 + b0))) :: [])) (by rw [show ((va_up (va_up I 1001 (upd (I 1001) i (nI (dm - (1 + b0))))) (10 + i) (upd ((va_up I 1001 (upd (I 1001) i (nI (dm - (1 + b0))))) (10 + i)) 1 (nI (dm - (1 + b0))))) 1001 i : Int32) = nI (dm - (1 + b0)) from by rw [va_up_ne _ _ (show 1001 ≠ 10 + i by omega), va_up_self]; exact if_pos rfl]) ?_
  refine lv_icmp_ne (tgt := 334) hx hb dL_act_327 (by decide) (fun c_10 => absurd (rfl) c_10) (fun c_10 => ?_)
  refine lv_iconst (v := 1) hx hb dL_act_330 (by decide) ?_
  refine lv_goto (tgt := 335) hx hb dL_act_331 (by decide) ?_
  rw [hQ]
  refine W.widen (show _ ≤ 10 from Nat.le_of_ble_eq_true rfl) (show _ ≤ 60 from Nat.le_of_ble_eq_true rfl) ?_
  exact fb_zret hx hb hr (by first | rfl | decide | assumption) hlocks hM (ActP.of (Ac.dry hI hi (D := dm - (1 + b0)) (by omega) (by rw [va_up_self, va_up_ne _ _ (by omega)]) (by rw [va_up_ne _ _ (by omega), va_up_self]) (fun x9 h1 h2 => by rw [va_up_ne _ _ h1, va_up_ne _ _ h2])) (by omega)) dL_act_335
