abbrev rm_X3_sew : Room := { frames := 7, cells := 3, slots := 18, locals := 140 }
set_option maxHeartbeats 4000000 in
set_option maxRecDepth 100000 in
theorem c_X3_sew_ok (D : va_G) (y : Nat → ClassId) (l : Launch) (S : fb_Sh) (V I : fb_V) (a1 ns nt es na : Nat) (hC : CpAt S a1 ns nt es na) (cf rf df : Nat → Nat) (hF : CF I ns nt cf rf df) (t : Nat) (ht : t < nt) (q : Nat) (hq : q < cf t * rf t) (k : Nat) (hk : k < 2) (hox : ofx (cf t) (cf t * rf t) q k = true) (b : Int32) : CI D y l yX3_sew wsX3_sew rm_X3_sew [.ref (sa S 0), .int (nI t), .int (nI q), .int (nI k), .int b] (S, V, (sT V), I) (fun z u => z = opc (cf t) (cf t * rf t) (upd (I (30 + 4 * t + 2)) (2 * q + k) (nb b)) (2 * (cf t * rf t)) ∧ u = (S, V, sT V, (va_up I (30 + 4 * t + 2) (upd (I (30 + 4 * t + 2)) (2 * q + k) (nb b))))) 3 18 := by
  refine CI.of (cc := cX3_sew) (maxL := 6) (ret := (some .int)) (by decide) rfl (Nat.le_of_ble_eq_true rfl) ?_
  intro pv ev s mv below meth cv A hx hb hml hr hown hts hlocks hname hM ls hl
  have hown : s.vm.findClass RX3 = some mv.cls := hown
  have hl : lv_has ls 6 [(0, .ref (sa S 0)), (1, .int (nI t)), (2, .int (nI q)), (3, .int (nI k)), (4, .int b)] := hl
  have hin3 : ∀ x ∈ wsX30, x ∈ wsX3_sew := by decide +kernel
  have hin2 : ∀ x ∈ wsX20, x ∈ wsX3_sew := by decide +kernel
  obtain ⟨Q, hQ⟩ : ∃ Q, Q = MQ below (va_Qi (fun z u => z = opc (cf t) (cf t * rf t) (upd (I (30 + 4 * t + 2)) (2 * q + k) (nb b)) (2 * (cf t * rf t)) ∧ u = (S, V, sT V, (va_up I (30 + 4 * t + 2) (upd (I (30 + 4 * t + 2)) (2 * q + k) (nb b))))) (fun u t => fb_P D y A u t) A) (([.ref (sa S 0), .int (nI t), .int (nI q), .int (nI k), .int b] : List Value).toArray) s 3 18 A := ⟨_, rfl⟩
  rw [← hQ]
  have hns : ns ≤ 12 := hF.2.2.1
  have hnt : nt ≤ 6 := hF.2.2.2.1
  have hfT := hF.2.2.2.2 t ht
  have hcr := hfT.le
  refine lv_aload_n hx hb dX3_sew_0 rfl (lv_at hl 0 rfl) ?_
  refine lv_iload_n hx hb dX3_sew_1 rfl (lv_at hl 1 rfl) ?_
  refine fb_callVr (r := 0) hx hb hml hown hts hM ((hC.1).1) (ce3 ((hC.1).2)) rfl (As := [.int (nI t)]) (rest := []) (c_X3_needTick D y l S V I a1 ns nt es na hC cf rf df hF t ht) (cwV 1 hts gX3_sew_X3_needTick rfl rfl rfl (by decide +kernel) ⟨Nat.le_of_ble_eq_true rfl, Nat.le_of_ble_eq_true rfl⟩) rfl hl.1 rfl (Nat.le_of_ble_eq_true rfl) dX3_sew_2 ⟨Nat.le_of_ble_eq_true rfl, Nat.le_of_ble_eq_true rfl⟩ (fun v_1 u_ H locs hp hM => ?_)
  obtain ⟨hv_, hu_⟩ := hp
  have hv_ := Eq.symm hv_
  have hu_ := Eq.symm hu_
  subst hv_
  subst hu_
  refine lv_astore (lv' := [(5, .ref (sa S (30 + 4 * t))), (0, .ref (sa S 0)), (1, .int (nI t)), (2, .int (nI q)), (3, .int (nI k)), (4, .int b)]) hx hb dX3_sew_5 hl (by decide) rfl (fun ls hl => ?_)
  refine lv_iload_n hx hb dX3_sew_7 rfl (lv_at hl 3 rfl) ?_
  refine lv_aload hx hb dX3_sew_8 (lv_at hl 0 rfl) ?_
  refine fb_getN (r := (30 + 4 * t)) hx hb hown hts hin2 hM (((hC.tk ht).1)) (ce2 (((hC.tk ht).2.1))) rfl 3 (by decide) (host := "FeatherBeds") (by decide +kernel) (fun _ h9 => h9) (v := .int (nI ((cf t * rf t)))) (congrArg (fun z => some (Value.int z)) ((hF.2.2.2.2 t ht).2.2.2.1)) dX3_sew_10 ?_
  refine fb_callSv hx hb hml hown hts hM (As := [.int (nI q), .int (nI ((cf t * rf t)))]) (rest := []) (c_X3_needIndex D y l S V I (nI q) (nI (cf t * rf t)) (nI_pos (by omega)) (nI_lt hq (by omega))) (va_cwS 2 hts gX3_sew_X3_needIndex rfl rfl rfl (by decide +kernel) ⟨Nat.le_of_ble_eq_true rfl, Nat.le_of_ble_eq_true rfl⟩) rfl hl.1 rfl (Nat.le_of_ble_eq_true rfl) dX3_sew_13 ⟨Nat.le_of_ble_eq_true rfl, Nat.le_of_ble_eq_true rfl⟩ (fun u_ H locs hp hM => ?_)
  have hp := Eq.symm hp
  subst hp
  refine lv_aload hx hb dX3_sew_16 (lv_at hl 0 rfl) ?_
  refine lv_iload_n hx hb dX3_sew_18 rfl (lv_at hl 3 rfl) ?_
  refine lv_iload_n hx hb dX3_sew_19 rfl (lv_at hl 4 rfl) ?_
  refine fb_callVi (r := (30 + 4 * t)) hx hb hml hown hts hM (((hC.tk ht).1)) (ce2 (((hC.tk ht).2.1))) rfl (As := [.int (nI q), .int (nI k)]) (rest := []) (c_X2_otherOfPair D y l S V I (30 + 4 * t) (300 + 72 * t) (cf t) (rf t) (df t) (hC.tk ht) (hF.2.2.2.2 t ht) q hq (nI k)) (cwV 2 hts gX3_sew_X2_otherOfPair rfl rfl rfl (by decide +kernel) ⟨Nat.le_of_ble_eq_true rfl, Nat.le_of_ble_eq_true rfl⟩) rfl hl.1 rfl (Nat.le_of_ble_eq_true rfl) dX3_sew_20 ⟨Nat.le_of_ble_eq_true rfl, Nat.le_of_ble_eq_true rfl⟩ (fun v_3 u_ H locs hp hM => ?_)
  obtain ⟨hv_, hu_⟩ := hp
  have hv_ := Eq.symm hv_
  have hu_ := Eq.symm hu_
  subst hv_
  subst hu_
  rw [show (oth (cf t) (cf t * rf t) q (nI k) : Int32) = nI (oft (cf t) q k) from by rw [oth_d hk]; exact if_pos hox]
  refine lv_if_ge (tgt := 36) hx hb dX3_sew_23 (by decide) (fun c_4 => ?_) (fun c_4 => absurd (Int32.not_lt.mp (nI_pos (by have := (oft_lt (n := cf t * rf t) rfl hfT.2.2.2.2.1 hq hox).1; omega))) c_4)
  refine lv_aload hx hb dX3_sew_36 (lv_at hl 0 rfl) ?_
  refine lv_iload_n hx hb dX3_sew_38 rfl (lv_at hl 3 rfl) ?_
  refine lv_iload_n hx hb dX3_sew_39 rfl (lv_at hl 4 rfl) ?_
  refine lv_iload hx hb dX3_sew_40 (lv_at hl 5 rfl) ?_
  refine fb_callVv (r := (30 + 4 * t)) hx hb hml hown hts hM (((hC.tk ht).1)) (ce2 (((hC.tk ht).2.1))) rfl (As := [.int (nI q), .int (nI k), .int b]) (rest := []) (c_X2_setSeam D y l S V I (30 + 4 * t) (300 + 72 * t) (hC.tk ht) q (by omega) k hk b) (cwV 3 hts gX3_sew_X2_setSeam rfl rfl rfl (by decide +kernel) ⟨Nat.le_of_ble_eq_true rfl, Nat.le_of_ble_eq_true rfl⟩) rfl hl.1 rfl (Nat.le_of_ble_eq_true rfl) dX3_sew_42 ⟨Nat.le_of_ble_eq_true rfl, Nat.le_of_ble_eq_true rfl⟩ (fun u_ H locs hp hM => ?_)
  have hp := Eq.symm hp
  subst hp
  have hM : fb_M D y A s (S, V, (sT V), (va_up I (30 + 4 * t + 2) (upd (I (30 + 4 * t + 2)) (2 * q + k) (nb b)))) H locs := hM
  refine lv_aload hx hb dX3_sew_45 (lv_at hl 0 rfl) ?_
  refine fb_callVi (r := (30 + 4 * t)) hx hb hml hown hts hM (((hC.tk ht).1)) (ce2 (((hC.tk ht).2.1))) rfl (As := []) (rest := []) (c_X2_openPairs D y l S V (va_up I (30 + 4 * t + 2) (upd (I (30 + 4 * t + 2)) (2 * q + k) (nb b))) (30 + 4 * t) (300 + 72 * t) (cf t) (rf t) (df t) (hC.tk ht) (hfT.up2 _)) (cwV 0 hts gX3_sew_X2_openPairs rfl rfl rfl (by decide +kernel) ⟨Nat.le_of_ble_eq_true rfl, Nat.le_of_ble_eq_true rfl⟩) rfl hl.1 rfl (Nat.le_of_ble_eq_true rfl) dX3_sew_47 ⟨Nat.le_of_ble_eq_true rfl, Nat.le_of_ble_eq_true rfl⟩ (fun v_6 u_ H locs hp hM => ?_)
  obtain ⟨hv_, hu_⟩ := hp
  have hv_ := Eq.symm hv_
  have hu_ := Eq.symm hu_
  subst hv_
  subst hu_
  rw [show (opc (cf t) (cf t * rf t) ((va_up I (30 + 4 * t + 2) (upd (I (30 + 4 * t + 2)) (2 * q + k) (nb b))) (30 + 4 * t + 2)) (2 * (cf t * rf t)) : Int32) = opc (cf t) (cf t * rf t) (upd (I (30 + 4 * t + 2)) (2 * q + k) (nb b)) (2 * (cf t * rf t)) from by rw [va_up_self]]
  rw [hQ]
  refine W.widen (show _ ≤ 3 from Nat.le_of_ble_eq_true rfl) (show _ ≤ 18 from Nat.le_of_ble_eq_true rfl) ?_
  exact fb_iret hx hb hr hlocks hM (⟨rfl, rfl⟩) dX3_sew_50

abbrev rm_X3_fill : Room := { frames := 7, cells := 4, slots := 24, locals := 140 }
set_option maxHeartbeats 4000000 in
set_option maxRecDepth 100000 in
theorem c_X3_fill_ok (D : va_G) (y : Nat → ClassId) (l : Launch) (S : fb_Sh) (V I : fb_V) (a1 ns nt es na : Nat) (hC : CpAt S a1 ns nt es na) (cf rf df : Nat → Nat) (hF : CF I ns nt cf rf df) (t : Nat) (ht : t < nt) (q : Nat) (hq : q < cf t * rf t) (c : Nat) (hc : c < 5) (m : Nat) (hma : 1 ≤ m) (hm : m ≤ 300)  : CI D y l yX3_fill wsX3_fill rm_X3_fill [.ref (sa S 0), .int (nI t), .int (nI q), .int (nI c), .int (nI m)] (S, V, (sT V), I) (fun x u => x = mvm (V (100 + 2 * c)) (mn (nI m) (300 - s6 (V (300 + 72 * t + 2 * q)))) 6 ∧ u = (S, (va_up (va_up V (100 + 2 * c) (mva (V (100 + 2 * c)) (mn (nI m) (300 - s6 (V (300 + 72 * t + 2 * q)))) 6)) (300 + 72 * t + 2 * q) (mvb (V (100 + 2 * c)) (V (300 + 72 * t + 2 * q)) (mn (nI m) (300 - s6 (V (300 + 72 * t + 2 * q)))) 6)), sT (va_up (va_up V (100 + 2 * c) (mva (V (100 + 2 * c)) (mn (nI m) (300 - s6 (V (300 + 72 * t + 2 * q)))) 6)) (300 + 72 * t + 2 * q) (mvb (V (100 + 2 * c)) (V (300 + 72 * t + 2 * q)) (mn (nI m) (300 - s6 (V (300 + 72 * t + 2 * q)))) 6)), I)) 4 24 := by
  refine CI.of (cc := cX3_fill) (maxL := 7) (ret := (some .int)) (by decide) rfl (Nat.le_of_ble_eq_true rfl) ?_
  intro pv ev s mv below meth cv A hx hb hml hr hown hts hlocks hname hM ls hl
  have hown : s.vm.findClass RX3 = some mv.cls := hown
  have hl : lv_has ls 7 [(0, .ref (sa S 0)), (1, .int (nI t)), (2, .int (nI q)), (3, .int (nI c)), (4, .int (nI m))] := hl
  have hin3 : ∀ x ∈ wsX30, x ∈ wsX3_fill := by decide +kernel
  have hin2 : ∀ x ∈ wsX20, x ∈ wsX3_fill := by decide +kernel
  have hin0 : ∀ x ∈ wsX00, x ∈ wsX3_fill := by decide +kernel
  obtain ⟨Q, hQ⟩ : ∃ Q, Q = MQ below (va_Qi (fun x u => x = mvm (V (100 + 2 * c)) (mn (nI m) (300 - s6 (V (300 + 72 * t + 2 * q)))) 6 ∧ u = (S, (va_up (va_up V (100 + 2 * c) (mva (V (100 + 2 * c)) (mn (nI m) (300 - s6 (V (300 + 72 * t + 2 * q)))) 6)) (300 + 72 * t + 2 * q) (mvb (V (100 + 2 * c)) (V (300 + 72 * t + 2 * q)) (mn (nI m) (300 - s6 (V (300 + 72 * t + 2 * q)))) 6)), sT (va_up (va_up V (100 + 2 * c) (mva (V (100 + 2 * c)) (mn (nI m) (300 - s6 (V (300 + 72 * t + 2 * q)))) 6)) (300 + 72 * t + 2 * q) (mvb (V (100 + 2 * c)) (V (300 + 72 * t + 2 * q)) (mn (nI m) (300 - s6 (V (300 + 72 * t + 2 * q)))) 6)), I)) (fun u t => fb_P D y A u t) A) (([.ref (sa S 0), .int (nI t), .int (nI q), .int (nI c), .int (nI m)] : List Value).toArray) s 4 24 A := ⟨_, rfl⟩
  rw [← hQ]
  have hns : ns ≤ 12 := hF.2.2.1
  have hnt : nt ≤ 6 := hF.2.2.2.1
  have hfT := hF.2.2.2.2 t ht
  have hcr := hfT.le
  refine lv_aload_n hx hb dX3_fill_0 rfl (lv_at hl 0 rfl) ?_
  refine lv_iload_n hx hb dX3_fill_1 rfl (lv_at hl 1 rfl) ?_
  refine fb_callVr (r := 0) hx hb hml hown hts hM ((hC.1).1) (ce3 ((hC.1).2)) rfl (As := [.int (nI t)]) (rest := []) (c_X3_needTick D y l S V I a1 ns nt es na hC cf rf df hF t ht) (cwV 1 hts gX3_fill_X3_needTick rfl rfl rfl (by decide +kernel) ⟨Nat.le_of_ble_eq_true rfl, Nat.le_of_ble_eq_true rfl⟩) rfl hl.1 rfl (Nat.le_of_ble_eq_true rfl) dX3_fill_2 ⟨Nat.le_of_ble_eq_true rfl, Nat.le_of_ble_eq_true rfl⟩ (fun v_1 u_ H locs hp hM => ?_)
  obtain ⟨hv_, hu_⟩ := hp
  have hv_ := Eq.symm hv_
  have hu_ := Eq.symm hu_
  subst hv_
  subst hu_
  refine lv_iload_n hx hb dX3_fill_5 rfl (lv_at hl 2 rfl) ?_
  refine fb_callSr hx hb hml hown hts hM (As := [.ref (sa S (30 + 4 * t)), .int (nI q)]) (rest := []) (c_X3_needSquare D y l S V I (30 + 4 * t) (300 + 72 * t) (cf t) (rf t) (df t) (hC.tk ht) (hF.2.2.2.2 t ht) q hq) (va_cwS 2 hts gX3_fill_X3_needSquare rfl rfl rfl (by decide +kernel) ⟨Nat.le_of_ble_eq_true rfl, Nat.le_of_ble_eq_true rfl⟩) rfl hl.1 rfl (Nat.le_of_ble_eq_true rfl) dX3_fill_6 ⟨Nat.le_of_ble_eq_true rfl, Nat.le_of_ble_eq_true rfl⟩ (fun v_2 u_ H locs hp hM => ?_)
  obtain ⟨hv_, hu_⟩ := hp
  have hv_ := Eq.symm hv_
  have hu_ := Eq.symm hu_
  subst hv_
  subst hu_
  refine lv_astore (lv' := [(5, .ref (sa S (300 + 72 * t + 2 * q))), (0, .ref (sa S 0)), (1, .int (nI t)), (2, .int (nI q)), (3, .int (nI c)), (4, .int (nI m))]) hx hb dX3_fill_9 hl (by decide) rfl (fun ls hl => ?_)
  refine lv_aload_n hx hb dX3_fill_11 rfl (lv_at hl 1 rfl) ?_
  refine lv_iload_n hx hb dX3_fill_12 rfl (lv_at hl 4 rfl) ?_
  refine fb_callVr (r := 0) hx hb hml hown hts hM ((hC.1).1) (ce3 ((hC.1).2)) rfl (As := [.int (nI c)]) (rest := []) (c_X3_needChamber D y l S V I a1 ns nt es na hC cf rf df hF c hc) (cwV 1 hts gX3_fill_X3_needChamber rfl rfl rfl (by decide +kernel) ⟨Nat.le_of_ble_eq_true rfl, Nat.le_of_ble_eq_true rfl⟩) rfl hl.1 rfl (Nat.le_of_ble_eq_true rfl) dX3_fill_13 ⟨Nat.le_of_ble_eq_true rfl, Nat.le_of_ble_eq_true rfl⟩ (fun v_3 u_ H locs hp hM => ?_)
  obtain ⟨hv_, hu_⟩ := hp
  have hv_ := Eq.symm hv_
  have hu_ := Eq.symm hu_
  subst hv_
  subst hu_
  refine lv_astore (lv' := [(6, .ref (sa S (100 + 2 * c))), (5, .ref (sa S (300 + 72 * t + 2 * q))), (0, .ref (sa S 0)), (1, .int (nI t)), (2, .int (nI q)), (3, .int (nI c)), (4, .int (nI m))]) hx hb dX3_fill_16 hl (by decide) rfl (fun ls hl => ?_)
  refine lv_iload hx hb dX3_fill_18 (lv_at hl 6 rfl) ?_
  refine lv_iconst (v := 1) hx hb dX3_fill_20 (by decide) ?_
  refine lv_sipush (v := 300) hx hb dX3_fill_21 (by decide) ?_
  refine fb_callSv hx hb hml hown hts hM (As := [.int (nI m), .int 1, .int 300]) (rest := []) (c_X3_needRange D y l S V I (nI m) 1 300 (nI_nlt (b := 1) hma (by omega)) (nI_nlt (a := 300) hm (by omega))) (va_cwS 3 hts gX3_fill_X3_needRange rfl rfl rfl (by decide +kernel) ⟨Nat.le_of_ble_eq_true rfl, Nat.le_of_ble_eq_true rfl⟩) rfl hl.1 rfl (Nat.le_of_ble_eq_true rfl) dX3_fill_24 ⟨Nat.le_of_ble_eq_true rfl, Nat.le_of_ble_eq_true rfl⟩ (fun u_ H locs hp hM => ?_)
  have hp := Eq.symm hp
  subst hp
  refine lv_aload hx hb dX3_fill_27 (lv_at hl 0 rfl) ?_
  refine lv_aload hx hb dX3_fill_29 (lv_at hl 1 rfl) ?_
  refine lv_iload hx hb dX3_fill_31 (lv_at hl 6 rfl) ?_
  refine fb_callSi hx hb hml hown hts hM (As := [.ref (sa S (100 + 2 * c)), .ref (sa S (300 + 72 * t + 2 * q)), .int (nI m)]) (rest := []) (c_X3_moveByHand D y l S V I (100 + 2 * c) (300 + 72 * t + 2 * q) (hC.hp hc) ((hC.tk ht).hp (show q < 36 by omega)) (by omega) (nI m)) (va_cwS 3 hts gX3_fill_X3_moveByHand rfl rfl rfl (by decide +kernel) ⟨Nat.le_of_ble_eq_true rfl, Nat.le_of_ble_eq_true rfl⟩) rfl hl.1 rfl (Nat.le_of_ble_eq_true rfl) dX3_fill_33 ⟨Nat.le_of_ble_eq_true rfl, Nat.le_of_ble_eq_true rfl⟩ (fun v_5 u_ H locs hp hM => ?_)
  obtain ⟨hv_, hu_⟩ := hp
  have hv_ := Eq.symm hv_
  have hu_ := Eq.symm hu_
  subst hv_
  subst hu_
  rw [hQ]
  refine W.widen (show _ ≤ 4 from Nat.le_of_ble_eq_true rfl) (show _ ≤ 24 from Nat.le_of_ble_eq_true rfl) ?_
  exact fb_iret hx hb hr hlocks hM (⟨rfl, rfl⟩) dX3_fill_36

abbrev rm_X3_shift : Room := { frames := 7, cells := 5, slots := 30, locals := 140 }
set_option maxHeartbeats 4000000 in
set_option maxRecDepth 100000 in
theorem c_X3_shift_ok (D : va_G) (y : Nat → ClassId) (l : Launch) (S : fb_Sh) (V I : fb_V) (a1 ns nt es na : Nat) (hC : CpAt S a1 ns nt es na) (cf rf df : Nat → Nat) (hF : CF I ns nt cf rf df) (t : Nat) (ht : t < nt) (f : Nat) (hf : f < cf t * rf t) (z : Nat) (hz : z < cf t * rf t) (hne : f ≠ z) (m : Nat) (hma : 1 ≤ m) (hm : m ≤ 300)  : CI D y l yX3_shift wsX3_shift rm_X3_shift [.ref (sa S 0), .int (nI t), .int (nI f), .int (nI z), .int (nI m)] (S, V, (sT V), I) (fun x u => x = mvm (V (300 + 72 * t + 2 * f)) (mn (nI m) (300 - s6 (V (300 + 72 * t + 2 * z)))) 6 ∧ u = (S, (va_up (va_up V (300 + 72 * t + 2 * f) (mva (V (300 + 72 * t + 2 * f)) (mn (nI m) (300 - s6 (V (300 + 72 * t + 2 * z)))) 6)) (300 + 72 * t + 2 * z) (mvb (V (300 + 72 * t + 2 * f)) (V (300 + 72 * t + 2 * z)) (mn (nI m) (300 - s6 (V (300 + 72 * t + 2 * z)))) 6)), sT (va_up (va_up V (300 + 72 * t + 2 * f) (mva (V (300 + 72 * t + 2 * f)) (mn (nI m) (300 - s6 (V (300 + 72 * t + 2 * z)))) 6)) (300 + 72 * t + 2 * z) (mvb (V (300 + 72 * t + 2 * f)) (V (300 + 72 * t + 2 * z)) (mn (nI m) (300 - s6 (V (300 + 72 * t + 2 * z)))) 6)), I)) 5 30 := by
  refine CI.of (cc := cX3_shift) (maxL := 8) (ret := (some .int)) (by decide) rfl (Nat.le_of_ble_eq_true rfl) ?_
  intro pv ev s mv below meth cv A hx hb hml hr hown hts hlocks hname hM ls hl
  have hown : s.vm.findClass RX3 = some mv.cls := hown
  have hl : lv_has ls 8 [(0, .ref (sa S 0)), (1, .int (nI t)), (2, .int (nI f)), (3, .int (nI z)), (4, .int (nI m))] := hl
  have hin3 : ∀ x ∈ wsX30, x ∈ wsX3_shift := by decide +kernel
  have hin2 : ∀ x ∈ wsX20, x ∈ wsX3_shift := by decide +kernel
  have hin0 : ∀ x ∈ wsX00, x ∈ wsX3_shift := by decide +kernel
  obtain ⟨Q, hQ⟩ : ∃ Q, Q = MQ below (va_Qi (fun x u => x = mvm (V (300 + 72 * t + 2 * f)) (mn (nI m) (300 - s6 (V (300 + 72 * t + 2 * z)))) 6 ∧ u = (S, (va_up (va_up V (300 + 72 * t + 2 * f) (mva (V (300 + 72 * t + 2 * f)) (mn (nI m) (300 - s6 (V (300 + 72 * t + 2 * z)))) 6)) (300 + 72 * t + 2 * z) (mvb (V (300 + 72 * t + 2 * f)) (V (300 + 72 * t + 2 * z)) (mn (nI m) (300 - s6 (V (300 + 72 * t + 2 * z)))) 6)), sT (va_up (va_up V (300 + 72 * t + 2 * f) (mva (V (300 + 72 * t + 2 * f)) (mn (nI m) (300 - s6 (V (300 + 72 * t + 2 * z)))) 6)) (300 + 72 * t + 2 * z) (mvb (V (300 + 72 * t + 2 * f)) (V (300 + 72 * t + 2 * z)) (mn (nI m) (300 - s6 (V (300 + 72 * t + 2 * z)))) 6)), I)) (fun u t => fb_P D y A u t) A) (([.ref (sa S 0), .int (nI t), .int (nI f), .int (nI z), .int (nI m)] : List Value).toArray) s 5 30 A := ⟨_, rfl⟩
  rw [← hQ]
  have hns : ns ≤ 12 := hF.2.2.1
  have hnt : nt ≤ 6 := hF.2.2.2.1
  have hfT := hF.2.2.2.2 t ht
  have hcr := hfT.le
  refine lv_aload_n hx hb dX3_shift_0 rfl (lv_at hl 0 rfl) ?_
  refine lv_iload_n hx hb dX3_shift_1 rfl (lv_at hl 1 rfl) ?_
  refine fb_callVr (r := 0) hx hb hml hown hts hM ((hC.1).1) (ce3 ((hC.1).2)) rfl (As := [.int (nI t)]) (rest := []) (c_X3_needTick D y l S V I a1 ns nt es na hC cf rf df hF t ht) (cwV 1 hts gX3_shift_X3_needTick rfl rfl rfl (by decide +kernel) ⟨Nat.le_of_ble_eq_true rfl, Nat.le_of_ble_eq_true rfl⟩) rfl hl.1 rfl (Nat.le_of_ble_eq_true rfl) dX3_shift_2 ⟨Nat.le_of_ble_eq_true rfl, Nat.le_of_ble_eq_true rfl⟩ (fun v_1 u_ H locs hp hM => ?_)
  obtain ⟨hv_, hu_⟩ := hp
  have hv_ := Eq.symm hv_
  have hu_ := Eq.symm hu_
  subst hv_
  subst hu_
  refine lv_astore (lv' := [(5, .ref (sa S (30 + 4 * t))), (0, .ref (sa S 0)), (1, .int (nI t)), (2, .int (nI f)), (3, .int (nI z)), (4, .int (nI m))]) hx hb dX3_shift_5 hl (by decide) rfl (fun ls hl => ?_)
  refine lv_aload hx hb dX3_shift_7 (lv_at hl 0 rfl) ?_
  refine lv_iload_n hx hb dX3_shift_9 rfl (lv_at hl 3 rfl) ?_
  refine fb_callSr hx hb hml hown hts hM (As := [.ref (sa S (30 + 4 * t)), .int (nI f)]) (rest := []) (c_X3_needSquare D y l S V I (30 + 4 * t) (300 + 72 * t) (cf t) (rf t) (df t) (hC.tk ht) (hF.2.2.2.2 t ht) f hf) (va_cwS 2 hts gX3_shift_X3_needSquare rfl rfl rfl (by decide +kernel) ⟨Nat.le_of_ble_eq_true rfl, Nat.le_of_ble_eq_true rfl⟩) rfl hl.1 rfl (Nat.le_of_ble_eq_true rfl) dX3_shift_10 ⟨Nat.le_of_ble_eq_true rfl, Nat.le_of_ble_eq_true rfl⟩ (fun v_2 u_ H locs hp hM => ?_)
  obtain ⟨hv_, hu_⟩ := hp
  have hv_ := Eq.symm hv_
  have hu_ := Eq.symm hu_
  subst hv_
  subst hu_
  refine lv_astore (lv' := [(6, .ref (sa S (300 + 72 * t + 2 * f))), (5, .ref (sa S (30 + 4 * t))), (0, .ref (sa S 0)), (1, .int (nI t)), (2, .int (nI f)), (3, .int (nI z)), (4, .int (nI m))]) hx hb dX3_shift_13 hl (by decide) rfl (fun ls hl => ?_)
  refine lv_aload hx hb dX3_shift_15 (lv_at hl 1 rfl) ?_
  refine lv_iload_n hx hb dX3_shift_17 rfl (lv_at hl 5 rfl) ?_
  refine fb_callSr hx hb hml hown hts hM (As := [.ref (sa S (30 + 4 * t)), .int (nI z)]) (rest := []) (c_X3_needSquare D y l S V I (30 + 4 * t) (300 + 72 * t) (cf t) (rf t) (df t) (hC.tk ht) (hF.2.2.2.2 t ht) z hz) (va_cwS 2 hts gX3_shift_X3_needSquare rfl rfl rfl (by decide +kernel) ⟨Nat.le_of_ble_eq_true rfl, Nat.le_of_ble_eq_true rfl⟩) rfl hl.1 rfl (Nat.le_of_ble_eq_true rfl) dX3_shift_18 ⟨Nat.le_of_ble_eq_true rfl, Nat.le_of_ble_eq_true rfl⟩ (fun v_3 u_ H locs hp hM => ?_)
  obtain ⟨hv_, hu_⟩ := hp
  have hv_ := Eq.symm hv_
  have hu_ := Eq.symm hu_
  subst hv_
  subst hu_
  refine lv_astore (lv' := [(7, .ref (sa S (300 + 72 * t + 2 * z))), (6, .ref (sa S (300 + 72 * t + 2 * f))), (5, .ref (sa S (30 + 4 * t))), (0, .ref (sa S 0)), (1, .int (nI t)), (2, .int (nI f)), (3, .int (nI z)), (4, .int (nI m))]) hx hb dX3_shift_21 hl (by decide) rfl (fun ls hl => ?_)
  refine lv_iload_n hx hb dX3_shift_23 rfl (lv_at hl 5 rfl) ?_
  refine lv_iload_n hx hb dX3_shift_24 rfl (lv_at hl 6 rfl) ?_
  refine lv_icmp_ne (tgt := 38) hx hb dX3_shift_25 (by decide) (fun c_4 => ?_) (fun c_4 => absurd c_4 (fun h => hne ((nI_eq (by omega) (by omega)).mp h)))
  refine lv_iload hx hb dX3_shift_38 (lv_at hl 7 rfl) ?_
  refine lv_iconst (v := 1) hx hb dX3_shift_40 (by decide) ?_
  refine lv_sipush (v := 300) hx hb dX3_shift_41 (by decide) ?_
  refine fb_callSv hx hb hml hown hts hM (As := [.int (nI m), .int 1, .int 300]) (rest := []) (c_X3_needRange D y l S V I (nI m) 1 300 (nI_nlt (b := 1) hma (by omega)) (nI_nlt (a := 300) hm (by omega))) (va_cwS 3 hts gX3_shift_X3_needRange rfl rfl rfl (by decide +kernel) ⟨Nat.le_of_ble_eq_true rfl, Nat.le_of_ble_eq_true rfl⟩) rfl hl.1 rfl (Nat.le_of_ble_eq_true rfl) dX3_shift_44 ⟨Nat.le_of_ble_eq_true rfl, Nat.le_of_ble_eq_true rfl⟩ (fun u_ H locs hp hM => ?_)
  have hp := Eq.symm hp
  subst hp
  refine lv_aload hx hb dX3_shift_47 (lv_at hl 1 rfl) ?_
  refine lv_aload hx hb dX3_shift_49 (lv_at hl 0 rfl) ?_
  refine lv_iload hx hb dX3_shift_51 (lv_at hl 7 rfl) ?_
  refine fb_callSi hx hb hml hown hts hM (As := [.ref (sa S (300 + 72 * t + 2 * f)), .ref (sa S (300 + 72 * t + 2 * z)), .int (nI m)]) (rest := []) (c_X3_moveByHand D y l S V I (300 + 72 * t + 2 * f) (300 + 72 * t + 2 * z) ((hC.tk ht).hp (show f < 36 by omega)) ((hC.tk ht).hp (show z < 36 by omega)) (by omega) (nI m)) (va_cwS 3 hts gX3_shift_X3_moveByHand rfl rfl rfl (by decide +kernel) ⟨Nat.le_of_ble_eq_true rfl, Nat.le_of_ble_eq_true rfl⟩) rfl hl.1 rfl (Nat.le_of_ble_eq_true rfl) dX3_shift_53 ⟨Nat.le_of_ble_eq_true rfl, Nat.le_of_ble_eq_true rfl⟩ (fun v_6 u_ H locs hp hM => ?_)
  obtain ⟨hv_, hu_⟩ := hp
  have hv_ := Eq.symm hv_
  have hu_ := Eq.symm hu_
  subst hv_
  subst hu_
  rw [hQ]
  refine W.widen (show _ ≤ 5 from Nat.le_of_ble_eq_true rfl) (show _ ≤ 30 from Nat.le_of_ble_eq_true rfl) ?_
  exact fb_iret hx hb hr hlocks hM (⟨rfl, rfl⟩) dX3_shift_56

abbrev rm_X3_pass : Room := { frames := 7, cells := 1, slots := 6, locals := 140 }
set_option maxHeartbeats 4000000 in
set_option maxRecDepth 100000 in
theorem c_X3_pass_ok (D : va_G) (y : Nat → ClassId) (l : Launch) (S : fb_Sh) (V I : fb_V) (a1 ns nt es na : Nat) (hC : CpAt S a1 ns nt es na) (cf rf df : Nat → Nat) (hF : CF I ns nt cf rf df) (z : Nat) (hza : 1 ≤ z) (hz : z ≤ 200) (hN : ∀ t, t < nt → NF (cf t) (cf t * rf t) (df t) (I (30 + 4 * t + 2)) (tv V (300 + 72 * t)) z) : CI D y l yX3_pass wsX3_pass rm_X3_pass [.ref (sa S 0), .int (nI z)] (S, V, (sT V), I) (fun v u => v = psL V I cf rf df z nt ∧ u = (S, (psV V I cf rf df z nt), sT (psV V I cf rf df z nt), (va_up I 0 (upd (upd (I 0) 5 (I 0 5 + nI z)) 7 (I 0 7 + psL V I cf rf df z nt))))) 1 6 := by
  refine CI.of (cc := cX3_pass) (maxL := 4) (ret := (some .int)) (by decide) rfl (Nat.le_of_ble_eq_true rfl) ?_
  intro pv ev s mv below meth cv A hx hb hml hr hown hts hlocks hname hM ls hl
  have hown : s.vm.findClass RX3 = some mv.cls := hown
  have hl : lv_has ls 4 [(0, .ref (sa S 0)), (1, .int (nI z))] := hl
  have hin3 : ∀ x ∈ wsX30, x ∈ wsX3_pass := by decide +kernel
  obtain ⟨Q, hQ⟩ : ∃ Q, Q = MQ below (va_Qi (fun v u => v = psL V I cf rf df z nt ∧ u = (S, (psV V I cf rf df z nt), sT (psV V I cf rf df z nt), (va_up I 0 (upd (upd (I 0) 5 (I 0 5 + nI z)) 7 (I 0 7 + psL V I cf rf df z nt))))) (fun u t => fb_P D y A u t) A) (([.ref (sa S 0), .int (nI z)] : List Value).toArray) s 1 6 A := ⟨_, rfl⟩
  rw [← hQ]
  have hns : ns ≤ 12 := hF.2.2.1
  have hnt : nt ≤ 6 := hF.2.2.2.1
  refine lv_iload_n hx hb dX3_pass_0 rfl (lv_at hl 1 rfl) ?_
  refine lv_iconst (v := 1) hx hb dX3_pass_1 (by decide) ?_
  refine lv_sipush (v := 200) hx hb dX3_pass_2 (by decide) ?_
  refine fb_callSv hx hb hml hown hts hM (As := [.int (nI z), .int 1, .int 200]) (rest := []) (c_X3_needRange D y l S V I (nI z) 1 200 (nI_nlt (b := 1) hza (by omega)) (nI_nlt (a := 200) hz (by omega))) (va_cwS 3 hts gX3_pass_X3_needRange rfl rfl rfl (by decide +kernel) ⟨Nat.le_of_ble_eq_true rfl, Nat.le_of_ble_eq_true rfl⟩) rfl hl.1 rfl (Nat.le_of_ble_eq_true rfl) dX3_pass_5 ⟨Nat.le_of_ble_eq_true rfl, Nat.le_of_ble_eq_true rfl⟩ (fun u_ H locs hp hM => ?_)
  have hp := Eq.symm hp
  subst hp
  refine lv_iconst (v := 0) hx hb dX3_pass_8 (by decide) ?_
  refine lv_istore_n (lv' := [(2, .int 0), (0, .ref (sa S 0)), (1, .int (nI z))]) hx hb dX3_pass_9 rfl hl (by decide) rfl (fun ls hl => ?_)
  refine lv_iconst (v := 0) hx hb dX3_pass_10 (by decide) ?_
  refine lv_istore_n (lv' := [(3, .int 0), (2, .int 0), (0, .ref (sa S 0)), (1, .int (nI z))]) hx hb dX3_pass_11 rfl hl (by decide) rfl (fun ls hl => ?_)
  have LP_12 : ∀ (n : Nat) (t : Nat) (ht : t ≤ nt), nt - t < n → ∀ (H : Heap) (locs : List Loc), fb_M D y A s (S, (psV V I cf rf df z t), (sT (psV V I cf rf df z t)), I) H locs → ∀ ls, lv_has ls 4 [(3, .int (nI t)), (2, .int (psL V I cf rf df z t)), (0, .ref (sa S 0)), (1, .int (nI z))] → W pv l ev rm_X3_pass s mv ([.ref (sa S 0), .int (nI z)] : List Value).toArray below meth cv H locs (0 + 1) (0 + 6) Q (F0 mv 12 ls []) := by
    intro n_12
    induction n_12 with
    | zero => intro t ht hmu; exact absurd hmu (Nat.not_lt_zero _)
    | succ n_12 ih_12 =>
      intro t ht hmu H locs hM ls hl
      refine lv_iload_n hx hb dX3_pass_12 rfl (lv_at hl 0 rfl) ?_
      refine lv_aload_n hx hb dX3_pass_13 rfl (lv_at hl 2 rfl) ?_
      refine fb_get (r := 0) hx hb hown hts hin3 hM ((hC.1).1) (ce3 ((hC.1).2)) rfl 1 (by decide) (hts (.fieldLink RX3 16 "FeatherBeds" "ticks" "Ljava/util/ArrayList;") (by decide +kernel)) (fun _ h9 => h9) (v := .ref (sa S 2)) (congrArg (fun z => some (va_rf z)) ((hC.2.1).2.1)) dX3_pass_14 ?_
      refine fb_callVi (r := 2) hx hb hml hown hts hM ((hC.2.2.2.1).1) (ce5 ((hC.2.2.2.1).2)) rfl (As := []) (rest := [.int (nI t)]) (c_Jx4a65c_size_8abf5 D y l S (psV V I cf rf df z t) I 2 (hC.2.2.2.1).1 (hC.2.2.2.1).2) (cwV 0 hts gX3_pass_Jx4a65c_size_8abf5 rfl rfl rfl (by decide +kernel) ⟨Nat.le_of_ble_eq_true rfl, Nat.le_of_ble_eq_true rfl⟩) rfl hl.1 rfl (Nat.le_of_ble_eq_true rfl) dX3_pass_17 ⟨Nat.le_of_ble_eq_true rfl, Nat.le_of_ble_eq_true rfl⟩ (fun v_2 u_ H locs hp hM => ?_)
      obtain ⟨hv_, hu_⟩ := hp
      have hv_ := Eq.symm hv_
      have hu_ := Eq.symm hu_
      subst hv_
      subst hu_
      rw [show (I 2 2 : Int32) = nI nt from hF.2.1]
      refine lv_icmp_ge (tgt := 47) hx hb dX3_pass_20 (by decide) (fun c_3 => ?_) (fun c_3 => ?_)
      · skip
        have e_t : t = nt := by have := (nI_leI (a := nt) (b := t) (by omega) (by omega)).mp c_3; omega
        have e_t := Eq.symm e_t
        subst e_t
        refine lv_aload_n hx hb dX3_pass_47 rfl (lv_at hl 2 rfl) ?_
        refine lv_dup hx hb dX3_pass_48 rfl ?_
        refine fb_get (r := 0) hx hb hown hts hin3 hM ((hC.1).1) (ce3 ((hC.1).2)) rfl 5 (by decide) (hts (.fieldLink RX3 161 "FeatherBeds" "nightsGone" "I") (by decide +kernel)) (fun _ h9 => h9) (v := .int (I 0 5)) rfl dX3_pass_49 ?_
        refine lv_iload_n hx hb dX3_pass_52 rfl (lv_at hl 3 rfl) ?_
        refine lv_iadd hx hb dX3_pass_53 ?_
        refine fb_put (r := 0) hx hb hown hts hin3 tyX3 tyX3_ok nmX3 hM ((hC.1).1) (ce3 ((hC.1).2)) rfl 5 (by decide) (hts (.fieldLink RX3 161 "FeatherBeds" "nightsGone" "I") (by decide +kernel)) (fun _ h9 => h9) rfl (ty := .int) (by decide +kernel) rfl rfl (Nat.le_of_ble_eq_true rfl) dX3_pass_54 (up_I (j := 5) (v := (I 0 5) + (nI z)) (by rw [ce3 (S := S) ((hC.1).2)]; simp [va_up, upd])) (w' := (S, (psV V I cf rf df z nt), (sT (psV V I cf rf df z nt)), (va_up I 0 (upd (I 0) 5 ((I 0 5) + (nI z)))))) ⟨rfl, rfl, rfl⟩ (fun H locs hM => ?_)
        refine lv_aload_n hx hb dX3_pass_57 rfl (lv_at hl 2 rfl) ?_
        refine lv_dup hx hb dX3_pass_58 rfl ?_
        refine fb_get (r := 0) hx hb hown hts hin3 hM ((hC.1).1) (ce3 ((hC.1).2)) rfl 7 (by decide) (hts (.fieldLink RX3 164 "FeatherBeds" "lostByPricking" "I") (by decide +kernel)) (fun _ h9 => h9) (v := .int ((va_up I 0 (upd (I 0) 5 ((I 0 5) + (nI z)))) 0 7)) rfl dX3_pass_59 ?_
        rw [show ((va_up I 0 (upd (I 0) 5 ((I 0 5) + (nI z)))) 0 7 : Int32) = I 0 7 from by rw [va_up_self]; simp [upd]]
        refine lv_iload_n hx hb dX3_pass_62 rfl (lv_at hl 1 rfl) ?_
        refine lv_iadd hx hb dX3_pass_63 ?_
        refine fb_put (r := 0) hx hb hown hts hin3 tyX3 tyX3_ok nmX3 hM ((hC.1).1) (ce3 ((hC.1).2)) rfl 7 (by decide) (hts (.fieldLink RX3 164 "FeatherBeds" "lostByPricking" "I") (by decide +kernel)) (fun _ h9 => h9) rfl (ty := .int) (by decide +kernel) rfl rfl (Nat.le_of_ble_eq_true rfl) dX3_pass_64 (up_I (j := 7) (v := (I 0 7) + (psL V I cf rf df z nt)) (by rw [ce3 (S := S) ((hC.1).2)]; simp [va_up, upd])) (w' := (S, (psV V I cf rf df z nt), (sT (psV V I cf rf df z nt)), (va_up (va_up I 0 (upd (I 0) 5 ((I 0 5) + (nI z)))) 0 (upd ((va_up I 0 (upd (I 0) 5 ((I 0 5) + (nI z)))) 0) 7 ((I 0 7) + (psL V I cf rf df z nt)))))) ⟨rfl, rfl, rfl⟩ (fun H locs hM => ?_)
        have eI : (va_up (va_up I 0 (upd (I 0) 5 ((I 0 5) + (nI z)))) 0 (upd ((va_up I 0 (upd (I 0) 5 ((I 0 5) + (nI z)))) 0) 7 ((I 0 7) + (psL V I cf rf df z nt)))) = (va_up I 0 (upd (upd (I 0) 5 (I 0 5 + nI z)) 7 (I 0 7 + psL V I cf rf df z nt))) := by rw [up_up, va_up_self]
        rw [eI] at hM
        clear eI
        refine lv_iload_n hx hb dX3_pass_67 rfl (lv_at hl 1 rfl) ?_
        rw [hQ]
        refine W.widen (show _ ≤ 1 from Nat.le_of_ble_eq_true rfl) (show _ ≤ 6 from Nat.le_of_ble_eq_true rfl) ?_
        exact fb_iret hx hb hr hlocks hM (⟨rfl, rfl⟩) dX3_pass_68
      · skip
        have htk : t < nt := Nat.lt_of_not_le (fun h => c_3 (nI_le h (by omega)))
        refine lv_iload_n hx hb dX3_pass_23 rfl (lv_at hl 1 rfl) ?_
        refine lv_aload_n hx hb dX3_pass_24 rfl (lv_at hl 2 rfl) ?_
        refine fb_get (r := 0) hx hb hown hts hin3 hM ((hC.1).1) (ce3 ((hC.1).2)) rfl 1 (by decide) (hts (.fieldLink RX3 16 "FeatherBeds" "ticks" "Ljava/util/ArrayList;") (by decide +kernel)) (fun _ h9 => h9) (v := .ref (sa S 2)) (congrArg (fun z => some (va_rf z)) ((hC.2.1).2.1)) dX3_pass_25 ?_
        refine lv_iload_n hx hb dX3_pass_28 rfl (lv_at hl 0 rfl) ?_
        refine fb_callVr (r := 2) hx hb hml hown hts hM ((hC.2.2.2.1).1) (ce5 ((hC.2.2.2.1).2)) rfl (As := [.int (nI t)]) (rest := [.int (psL V I cf rf df z t)]) (c_Jx4a65c_get_915e3 D y l S (psV V I cf rf df z t) I 2 5 10 (hC.l2 htk) nt t (30 + 4 * t) htk (by omega) (by omega) ((hC.2.2.2.2.2.2.2.2.2) t htk).1 hF.2.1) (cwV 1 hts gX3_pass_Jx4a65c_get_915e3 rfl rfl rfl (by decide +kernel) ⟨Nat.le_of_ble_eq_true rfl, Nat.le_of_ble_eq_true rfl⟩) rfl hl.1 rfl (Nat.le_of_ble_eq_true rfl) dX3_pass_29 ⟨Nat.le_of_ble_eq_true rfl, Nat.le_of_ble_eq_true rfl⟩ (fun v_4 u_ H locs hp hM => ?_)
        obtain ⟨hv_, hu_⟩ := hp
        have hv_ := Eq.symm hv_
        have hu_ := Eq.symm hu_
        subst hv_
        subst hu_
        refine fb_castS (q := (RX2, TX2, 7)) hx hb hown (hts (.classLink RX3 26 "FeatherBeds$Tick") (by decide +kernel)) hM (r := 30 + 4 * t) (hC.tk htk).1 (ce2 (hC.tk htk).2.1) rfl dX3_pass_32 ?_
        refine lv_iload_n hx hb dX3_pass_35 rfl (lv_at hl 3 rfl) ?_
        refine fb_callVi (r := (30 + 4 * t)) hx hb hml hown hts hM (((hC.tk htk).1)) (ce2 (((hC.tk htk).2.1))) rfl (As := [.int (nI z)]) (rest := [.int (psL V I cf rf df z t)]) (c_X2_sleep D y l S (psV V I cf rf df z t) I (30 + 4 * t) (300 + 72 * t) (cf t) (rf t) (df t) (hC.tk htk) (hF.2.2.2.2 t htk) (tv V (300 + 72 * t)) (fun q hq => psV_out V I cf rf df z t (Or.inr (by omega))) z (by omega) (hN t htk)) (cwV 1 hts gX3_pass_X2_sleep rfl rfl rfl (by decide +kernel) ⟨Nat.le_of_ble_eq_true rfl, Nat.le_of_ble_eq_true rfl⟩) rfl hl.1 rfl (Nat.le_of_ble_eq_true rfl) dX3_pass_36 ⟨Nat.le_of_ble_eq_true rfl, Nat.le_of_ble_eq_true rfl⟩ (fun v_5 u_ H locs hp hM => ?_)
        obtain ⟨hv_, hu_⟩ := hp
        have hv_ := Eq.symm hv_
        have hu_ := Eq.symm hu_
        subst hv_
        subst hu_
        have eV : (stv (psV V I cf rf df z t) (300 + 72 * t) (ngs (cf t) (cf t * rf t) (df t) (I (30 + 4 * t + 2)) (tv V (300 + 72 * t)) z)) = (psV V I cf rf df z (t + 1)) := rfl
        rw [eV] at hM
        clear eV
        refine lv_iadd hx hb dX3_pass_39 ?_
        refine lv_istore_n (lv' := [(2, .int ((psL V I cf rf df z t) + (ngl (cf t) (cf t * rf t) (df t) (I (30 + 4 * t + 2)) (tv V (300 + 72 * t)) z))), (3, .int (nI t)), (0, .ref (sa S 0)), (1, .int (nI z))]) hx hb dX3_pass_40 rfl hl (by decide) rfl (fun ls hl => ?_)
        refine lv_iinc (v := nI (t + 1)) (lv' := [(3, .int (nI (t + 1))), (2, .int ((psL V I cf rf df z t) + (ngl (cf t) (cf t * rf t) (df t) (I (30 + 4 * t + 2)) (tv V (300 + 72 * t)) z))), (0, .ref (sa S 0)), (1, .int (nI z))]) hx hb dX3_pass_41 hl (k := 1) rfl (nI_1 _) (by decide) rfl (fun ls hl => ?_)
        refine lv_goto (tgt := 12) hx hb dX3_pass_44 (by decide) ?_
        exact ih_12 (t + 1) (by omega) (by omega) _ _ hM ls (lv_sub hl [0, 1, 2, 3] rfl)
  exact LP_12 _ 0 (by omega) (Nat.lt_succ_self _) _ _ hM ls (lv_sub hl [0, 1, 2, 3] rfl)

abbrev rm_X3_foresee : Room := { frames := 7, cells := 3, slots := 18, locals := 140 }
set_option maxHeartbeats 4000000 in
set_option maxRecDepth 100000 in
theorem c_X3_foresee_ok0 (D : va_G) (y : Nat → ClassId) (l : Launch) (S : fb_Sh) (V I : fb_V) (a1 ns nt es na : Nat) (hC : CpAt S a1 ns nt es na) (cf rf df : Nat → Nat) (hF : CF I ns nt cf rf df) (t : Nat) (ht : t < nt) (z : Nat) (hza : 1 ≤ z) (hz : z ≤ 200) (hN : NF (cf t) (cf t * rf t) (df t) (trB I (30 + 4 * t)) (trX V (300 + 72 * t)) z) : CI D y l yX3_foresee wsX3_foresee rm_X3_foresee [.ref (sa S 0), .int (nI t), .int (nI z), .int 0] (S, V, (sT V), I) (fun v u => v = fsum (ngs (cf t) (cf t * rf t) (df t) (trB I (30 + 4 * t)) (trX V (300 + 72 * t)) z) 36 ∧ u = (S, (stv (trV V (300 + 72 * t)) 732 (ngs (cf t) (cf t * rf t) (df t) (trB I (30 + 4 * t)) (trX V (300 + 72 * t)) z)), sT (stv (trV V (300 + 72 * t)) 732 (ngs (cf t) (cf t * rf t) (df t) (trB I (30 + 4 * t)) (trX V (300 + 72 * t)) z)), (trI I (30 + 4 * t) (cf t) (rf t) (df t)))) 3 18 := by
  refine CI.of (cc := cX3_foresee) (maxL := 5) (ret := (some .int)) (by decide) rfl (Nat.le_of_ble_eq_true rfl) ?_
  intro pv ev s mv below meth cv A hx hb hml hr hown hts hlocks hname hM ls hl
  have hown : s.vm.findClass RX3 = some mv.cls := hown
  have hl : lv_has ls 5 [(0, .ref (sa S 0)), (1, .int (nI t)), (2, .int (nI z)), (3, .int 0)] := hl
  have hin3 : ∀ x ∈ wsX30, x ∈ wsX3_foresee := by decide +kernel
  obtain ⟨Q, hQ⟩ : ∃ Q, Q = MQ below (va_Qi (fun v u => v = fsum (ngs (cf t) (cf t * rf t) (df t) (trB I (30 + 4 * t)) (trX V (300 + 72 * t)) z) 36 ∧ u = (S, (stv (trV V (300 + 72 * t)) 732 (ngs (cf t) (cf t * rf t) (df t) (trB I (30 + 4 * t)) (trX V (300 + 72 * t)) z)), sT (stv (trV V (300 + 72 * t)) 732 (ngs (cf t) (cf t * rf t) (df t) (trB I (30 + 4 * t)) (trX V (300 + 72 * t)) z)), (trI I (30 + 4 * t) (cf t) (rf t) (df t)))) (fun u t => fb_P D y A u t) A) (([.ref (sa S 0), .int (nI t), .int (nI z), .int 0] : List Value).toArray) s 3 18 A := ⟨_, rfl⟩
  rw [← hQ]
  have hns : ns ≤ 12 := hF.2.2.1
  have hnt : nt ≤ 6 := hF.2.2.2.1
  have hfT := hF.2.2.2.2 t ht
  have hcr := hfT.le
  refine lv_aload_n hx hb dX3_foresee_0 rfl (lv_at hl 0 rfl) ?_
  refine lv_iload_n hx hb dX3_foresee_1 rfl (lv_at hl 1 rfl) ?_
  refine fb_callVr (r := 0) hx hb hml hown hts hM ((hC.1).1) (ce3 ((hC.1).2)) rfl (As := [.int (nI t)]) (rest := []) (c_X3_needTick D y l S V I a1 ns nt es na hC cf rf df hF t ht) (cwV 1 hts gX3_foresee_X3_needTick rfl rfl rfl (by decide +kernel) ⟨Nat.le_of_ble_eq_true rfl, Nat.le_of_ble_eq_true rfl⟩) rfl hl.1 rfl (Nat.le_of_ble_eq_true rfl) dX3_foresee_2 ⟨Nat.le_of_ble_eq_true rfl, Nat.le_of_ble_eq_true rfl⟩ (fun v_1 u_ H locs hp hM => ?_)
  obtain ⟨hv_, hu_⟩ := hp
  have hv_ := Eq.symm hv_
  have hu_ := Eq.symm hu_
  subst hv_
  subst hu_
  refine lv_astore (lv' := [(4, .ref (sa S (30 + 4 * t))), (0, .ref (sa S 0)), (1, .int (nI t)), (2, .int (nI z)), (3, .int 0)]) hx hb dX3_foresee_5 hl (by decide) rfl (fun ls hl => ?_)
  refine lv_iload_n hx hb dX3_foresee_7 rfl (lv_at hl 4 rfl) ?_
  refine lv_iconst (v := 3) hx hb dX3_foresee_8 (by decide) ?_
  refine fb_callSv hx hb hml hown hts hM (As := [.int 0, .int 3]) (rest := []) (c_X3_needIndex D y l S V I 0 3 (by decide) (by decide)) (va_cwS 2 hts gX3_foresee_X3_needIndex rfl rfl rfl (by decide +kernel) ⟨Nat.le_of_ble_eq_true rfl, Nat.le_of_ble_eq_true rfl⟩) rfl hl.1 rfl (Nat.le_of_ble_eq_true rfl) dX3_foresee_9 ⟨Nat.le_of_ble_eq_true rfl, Nat.le_of_ble_eq_true rfl⟩ (fun u_ H locs hp hM => ?_)
  have hp := Eq.symm hp
  subst hp
  refine lv_iload_n hx hb dX3_foresee_12 rfl (lv_at hl 3 rfl) ?_
  refine lv_iconst (v := 1) hx hb dX3_foresee_13 (by decide) ?_
  refine lv_sipush (v := 200) hx hb dX3_foresee_14 (by decide) ?_
  refine fb_callSv hx hb hml hown hts hM (As := [.int (nI z), .int 1, .int 200]) (rest := []) (c_X3_needRange D y l S V I (nI z) 1 200 (nI_nlt (b := 1) hza (by omega)) (nI_nlt (a := 200) hz (by omega))) (va_cwS 3 hts gX3_foresee_X3_needRange rfl rfl rfl (by decide +kernel) ⟨Nat.le_of_ble_eq_true rfl, Nat.le_of_ble_eq_true rfl⟩) rfl hl.1 rfl (Nat.le_of_ble_eq_true rfl) dX3_foresee_17 ⟨Nat.le_of_ble_eq_true rfl, Nat.le_of_ble_eq_true rfl⟩ (fun u_ H locs hp hM => ?_)
  have hp := Eq.symm hp
  subst hp
  refine lv_aload_n hx hb dX3_foresee_20 rfl (lv_at hl 1 rfl) ?_
  refine fb_get (r := 0) hx hb hown hts hin3 hM ((hC.1).1) (ce3 ((hC.1).2)) rfl 3 (by decide) (hts (.fieldLink RX3 31 "FeatherBeds" "trial" "LFeatherBeds$Tick;") (by decide +kernel)) (fun _ h9 => h9) (v := .ref (sa S 54)) (congrArg (fun z => some (va_rf z)) ((hC.2.1).2.2.2)) dX3_foresee_21 ?_
  refine lv_aload hx hb dX3_foresee_24 (lv_at hl 0 rfl) ?_
  refine fb_callVv (r := 54) hx hb hml hown hts hM ((hC.tr.1)) (ce2 ((hC.tr.2.1))) rfl (As := [.ref (sa S (30 + 4 * t))]) (rest := []) (c_X2_become D y l S V I 54 732 (30 + 4 * t) (300 + 72 * t) (cf t) (rf t) (df t) hC.tr (hC.tk ht) hfT (Or.inl (by omega)) (Or.inl (by omega))) (cwV 1 hts gX3_foresee_X2_become rfl rfl rfl (by decide +kernel) ⟨Nat.le_of_ble_eq_true rfl, Nat.le_of_ble_eq_true rfl⟩) rfl hl.1 rfl (Nat.le_of_ble_eq_true rfl) dX3_foresee_26 ⟨Nat.le_of_ble_eq_true rfl, Nat.le_of_ble_eq_true rfl⟩ (fun u_ H locs hp hM => ?_)
  have hp := Eq.symm hp
  subst hp
  have hM : fb_M D y A s (S, (trV V (300 + 72 * t)), (sT (trV V (300 + 72 * t))), (trI I (30 + 4 * t) (cf t) (rf t) (df t))) H locs := hM
  refine lv_aload_n hx hb dX3_foresee_29 rfl (lv_at hl 1 rfl) ?_
  refine fb_get (r := 0) hx hb hown hts hin3 hM ((hC.1).1) (ce3 ((hC.1).2)) rfl 3 (by decide) (hts (.fieldLink RX3 31 "FeatherBeds" "trial" "LFeatherBeds$Tick;") (by decide +kernel)) (fun _ h9 => h9) (v := .ref (sa S 54)) (congrArg (fun z => some (va_rf z)) ((hC.2.1).2.2.2)) dX3_foresee_30 ?_
  refine lv_iload_n hx hb dX3_foresee_33 rfl (lv_at hl 3 rfl) ?_
  refine fb_callVi (r := 54) hx hb hml hown hts hM ((hC.tr.1)) (ce2 ((hC.tr.2.1))) rfl (As := [.int (nI z)]) (rest := []) (c_X2_sleep D y l S (trV V (300 + 72 * t)) (trI I (30 + 4 * t) (cf t) (rf t) (df t)) 54 732 (cf t) (rf t) (df t) hC.tr (trI_F hfT) (trX V (300 + 72 * t)) (trX_at V _) z (by omega) (by rw [(show (trI I (30 + 4 * t) (cf t) (rf t) (df t)) (54 + 2) = (trB I (30 + 4 * t)) from trI_B I _ _ _ _)]; exact hN)) (cwV 1 hts gX3_foresee_X2_sleep rfl rfl rfl (by decide +kernel) ⟨Nat.le_of_ble_eq_true rfl, Nat.le_of_ble_eq_true rfl⟩) rfl hl.1 rfl (Nat.le_of_ble_eq_true rfl) dX3_foresee_34 ⟨Nat.le_of_ble_eq_true rfl, Nat.le_of_ble_eq_true rfl⟩ (fun v_5 u_ H locs hp hM => ?_)
  rw [(show (trI I (30 + 4 * t) (cf t) (rf t) (df t)) (54 + 2) = (trB I (30 + 4 * t)) from trI_B I _ _ _ _)] at hp
  obtain ⟨hv_, hu_⟩ := hp
  have hv_ := Eq.symm hv_
  have hu_ := Eq.symm hu_
  subst hv_
  subst hu_
  refine lv_pop hx hb dX3_foresee_37 rfl ?_
  refine lv_iload_n hx hb dX3_foresee_38 rfl (lv_at hl 4 rfl) ?_
  refine lv_lookup (off := 25) (tgt := 64) hx hb dX3_foresee_39 (by decide) (by decide) (by decide) ?_
  refine lv_aload_n hx hb dX3_foresee_64 rfl (lv_at hl 1 rfl) ?_
  refine fb_get (r := 0) hx hb hown hts hin3 hM ((hC.1).1) (ce3 ((hC.1).2)) rfl 3 (by decide) (hts (.fieldLink RX3 31 "FeatherBeds" "trial" "LFeatherBeds$Tick;") (by decide +kernel)) (fun _ h9 => h9) (v := .ref (sa S 54)) (congrArg (fun z => some (va_rf z)) ((hC.2.1).2.2.2)) dX3_foresee_65 ?_
  refine fb_callVi (r := 54) hx hb hml hown hts hM ((hC.tr.1)) (ce2 ((hC.tr.2.1))) rfl (As := []) (rest := []) (c_X2_feathers D y l S (stv (trV V (300 + 72 * t)) 732 (ngs (cf t) (cf t * rf t) (df t) (trB I (30 + 4 * t)) (trX V (300 + 72 * t)) z)) (trI I (30 + 4 * t) (cf t) (rf t) (df t)) 54 732 hC.tr (ngs (cf t) (cf t * rf t) (df t) (trB I (30 + 4 * t)) (trX V (300 + 72 * t)) z) (fun q9 hq9 => stv_at _ 732 _ hq9)) (cwV 0 hts gX3_foresee_X2_feathers rfl rfl rfl (by decide +kernel) ⟨Nat.le_of_ble_eq_true rfl, Nat.le_of_ble_eq_true rfl⟩) rfl hl.1 rfl (Nat.le_of_ble_eq_true rfl) dX3_foresee_68 ⟨Nat.le_of_ble_eq_true rfl, Nat.le_of_ble_eq_true rfl⟩ (fun v_6 u_ H locs hp hM => ?_)
  obtain ⟨hv_, hu_⟩ := hp
  have hv_ := Eq.symm hv_
  have hu_ := Eq.symm hu_
  subst hv_
  subst hu_
  rw [hQ]
  refine W.widen (show _ ≤ 3 from Nat.le_of_ble_eq_true rfl) (show _ ≤ 18 from Nat.le_of_ble_eq_true rfl) ?_
  exact fb_iret hx hb hr hlocks hM (⟨rfl, rfl⟩) dX3_foresee_71

set_option maxHeartbeats 4000000 in
set_option maxRecDepth 100000 in
theorem c_X3_foresee_ok1 (D : va_G) (y : Nat → ClassId) (l : Launch) (S : fb_Sh) (V I : fb_V) (a1 ns nt es na : Nat) (hC : CpAt S a1 ns nt es na) (cf rf df : Nat → Nat) (hF : CF I ns nt cf rf df) (t : Nat) (ht : t < nt) (z : Nat) (hza : 1 ≤ z) (hz : z ≤ 200) (hN : NF (cf t) (cf t * rf t) (df t) (trB I (30 + 4 * t)) (trX V (300 + 72 * t)) z) : CI D y l yX3_foresee wsX3_foresee rm_X3_foresee [.ref (sa S 0), .int (nI t), .int (nI z), .int 1] (S, V, (sT V), I) (fun v u => v = wm ((ngs (cf t) (cf t * rf t) (df t) (trB I (30 + 4 * t)) (trX V (300 + 72 * t)) z) (cld (ngs (cf t) (cf t * rf t) (df t) (trB I (30 + 4 * t)) (trX V (300 + 72 * t)) z) (cf t * rf t))) ∧ u = (S, (stv (trV V (300 + 72 * t)) 732 (ngs (cf t) (cf t * rf t) (df t) (trB I (30 + 4 * t)) (trX V (300 + 72 * t)) z)), sT (stv (trV V (300 + 72 * t)) 732 (ngs (cf t) (cf t * rf t) (df t) (trB I (30 + 4 * t)) (trX V (300 + 72 * t)) z)), (trI I (30 + 4 * t) (cf t) (rf t) (df t)))) 3 18 := by
  refine CI.of (cc := cX3_foresee) (maxL := 5) (ret := (some .int)) (by decide) rfl (Nat.le_of_ble_eq_true rfl) ?_
  intro pv ev s mv below meth cv A hx hb hml hr hown hts hlocks hname hM ls hl
  have hown : s.vm.findClass RX3 = some mv.cls := hown
  have hl : lv_has ls 5 [(0, .ref (sa S 0)), (1, .int (nI t)), (2, .int (nI z)), (3, .int 1)] := hl
  have hin3 : ∀ x ∈ wsX30, x ∈ wsX3_foresee := by decide +kernel
  obtain ⟨Q, hQ⟩ : ∃ Q, Q = MQ below (va_Qi (fun v u => v = wm ((ngs (cf t) (cf t * rf t) (df t) (trB I (30 + 4 * t)) (trX V (300 + 72 * t)) z) (cld (ngs (cf t) (cf t * rf t) (df t) (trB I (30 + 4 * t)) (trX V (300 + 72 * t)) z) (cf t * rf t))) ∧ u = (S, (stv (trV V (300 + 72 * t)) 732 (ngs (cf t) (cf t * rf t) (df t) (trB I (30 + 4 * t)) (trX V (300 + 72 * t)) z)), sT (stv (trV V (300 + 72 * t)) 732 (ngs (cf t) (cf t * rf t) (df t) (trB I (30 + 4 * t)) (trX V (300 + 72 * t)) z)), (trI I (30 + 4 * t) (cf t) (rf t) (df t)))) (fun u t => fb_P D y A u t) A) (([.ref (sa S 0), .int (nI t), .int (nI z), .int 1] : List Value).toArray) s 3 18 A := ⟨_, rfl⟩
  rw [← hQ]
  have hns : ns ≤ 12 := hF.2.2.1
  have hnt : nt ≤ 6 := hF.2.2.2.1
  have hfT := hF.2.2.2.2 t ht
  have hcr := hfT.le
  refine lv_aload_n hx hb dX3_foresee_0 rfl (lv_at hl 0 rfl) ?_
  refine lv_iload_n hx hb dX3_foresee_1 rfl (lv_at hl 1 rfl) ?_
  refine fb_callVr (r := 0) hx hb hml hown hts hM ((hC.1).1) (ce3 ((hC.1).2)) rfl (As := [.int (nI t)]) (rest := []) (c_X3_needTick D y l S V I a1 ns nt es na hC cf rf df hF t ht) (cwV 1 hts gX3_foresee_X3_needTick rfl rfl rfl (by decide +kernel) ⟨Nat.le_of_ble_eq_true rfl, Nat.le_of_ble_eq_true rfl⟩) rfl hl.1 rfl (Nat.le_of_ble_eq_true rfl) dX3_foresee_2 ⟨Nat.le_of_ble_eq_true rfl, Nat.le_of_ble_eq_true rfl⟩ (fun v_1 u_ H locs hp hM => ?_)
  obtain ⟨hv_, hu_⟩ := hp
  have hv_ := Eq.symm hv_
  have hu_ := Eq.symm hu_
  subst hv_
  subst hu_
  refine lv_astore (lv' := [(4, .ref (sa S (30 + 4 * t))), (0, .ref (sa S 0)), (1, .int (nI t)), (2, .int (nI z)), (3, .int 1)]) hx hb dX3_foresee_5 hl (by decide) rfl (fun ls hl => ?_)
  refine lv_iload_n hx hb dX3_foresee_7 rfl (lv_at hl 4 rfl) ?_
  refine lv_iconst (v := 3) hx hb dX3_foresee_8 (by decide) ?_
  refine fb_callSv hx hb hml hown hts hM (As := [.int 1, .int 3]) (rest := []) (c_X3_needIndex D y l S V I 1 3 (by decide) (by decide)) (va_cwS 2 hts gX3_foresee_X3_needIndex rfl rfl rfl (by decide +kernel) ⟨Nat.le_of_ble_eq_true rfl, Nat.le_of_ble_eq_true rfl⟩) rfl hl.1 rfl (Nat.le_of_ble_eq_true rfl) dX3_foresee_9 ⟨Nat.le_of_ble_eq_true rfl, Nat.le_of_ble_eq_true rfl⟩ (fun u_ H locs hp hM => ?_)
  have hp := Eq.symm hp
  subst hp
  refine lv_iload_n hx hb dX3_foresee_12 rfl (lv_at hl 3 rfl) ?_
  refine lv_iconst (v := 1) hx hb dX3_foresee_13 (by decide) ?_
  refine lv_sipush (v := 200) hx hb dX3_foresee_14 (by decide) ?_
  refine fb_callSv hx hb hml hown hts hM (As := [.int (nI z), .int 1, .int 200]) (rest := []) (c_X3_needRange D y l S V I (nI z) 1 200 (nI_nlt (b := 1) hza (by omega)) (nI_nlt (a := 200) hz (by omega))) (va_cwS 3 hts gX3_foresee_X3_needRange rfl rfl rfl (by decide +kernel) ⟨Nat.le_of_ble_eq_true rfl, Nat.le_of_ble_eq_true rfl⟩) rfl hl.1 rfl (Nat.le_of_ble_eq_true rfl) dX3_foresee_17 ⟨Nat.le_of_ble_eq_true rfl, Nat.le_of_ble_eq_true rfl⟩ (fun u_ H locs hp hM => ?_)
  have hp := Eq.symm hp
  subst hp
  refine lv_aload_n hx hb dX3_foresee_20 rfl (lv_at hl 1 rfl) ?_
  refine fb_get (r := 0) hx hb hown hts hin3 hM ((hC.1).1) (ce3 ((hC.1).2)) rfl 3 (by decide) (hts (.fieldLink RX3 31 "FeatherBeds" "trial" "LFeatherBeds$Tick;") (by decide +kernel)) (fun _ h9 => h9) (v := .ref (sa S 54)) (congrArg (fun z => some (va_rf z)) ((hC.2.1).2.2.2)) dX3_foresee_21 ?_
  refine lv_aload hx hb dX3_foresee_24 (lv_at hl 0 rfl) ?_
  refine fb_callVv (r := 54) hx hb hml hown hts hM ((hC.tr.1)) (ce2 ((hC.tr.2.1))) rfl (As := [.ref (sa S (30 + 4 * t))]) (rest := []) (c_X2_become D y l S V I 54 732 (30 + 4 * t) (300 + 72 * t) (cf t) (rf t) (df t) hC.tr (hC.tk ht) hfT (Or.inl (by omega)) (Or.inl (by omega))) (cwV 1 hts gX3_foresee_X2_become rfl rfl rfl (by decide +kernel) ⟨Nat.le_of_ble_eq_true rfl, Nat.le_of_ble_eq_true rfl⟩) rfl hl.1 rfl (Nat.le_of_ble_eq_true rfl) dX3_foresee_26 ⟨Nat.le_of_ble_eq_true rfl, Nat.le_of_ble_eq_true rfl⟩ (fun u_ H locs hp hM => ?_)
  have hp := Eq.symm hp
  subst hp
  have hM : fb_M D y A s (S, (trV V (300 + 72 * t)), (sT (trV V (300 + 72 * t))), (trI I (30 + 4 * t) (cf t) (rf t) (df t))) H locs := hM
  refine lv_aload_n hx hb dX3_foresee_29 rfl (lv_at hl 1 rfl) ?_
  refine fb_get (r := 0) hx hb hown hts hin3 hM ((hC.1).1) (ce3 ((hC.1).2)) rfl 3 (by decide) (hts (.fieldLink RX3 31 "FeatherBeds" "trial" "LFeatherBeds$Tick;") (by decide +kernel)) (fun _ h9 => h9) (v := .ref (sa S 54)) (congrArg (fun z => some (va_rf z)) ((hC.2.1).2.2.2)) dX3_foresee_30 ?_
  refine lv_iload_n hx hb dX3_foresee_33 rfl (lv_at hl 3 rfl) ?_
  refine fb_callVi (r := 54) hx hb hml hown hts hM ((hC.tr.1)) (ce2 ((hC.tr.2.1))) rfl (As := [.int (nI z)]) (rest := []) (c_X2_sleep D y l S (trV V (300 + 72 * t)) (trI I (30 + 4 * t) (cf t) (rf t) (df t)) 54 732 (cf t) (rf t) (df t) hC.tr (trI_F hfT) (trX V (300 + 72 * t)) (trX_at V _) z (by omega) (by rw [(show (trI I (30 + 4 * t) (cf t) (rf t) (df t)) (54 + 2) = (trB I (30 + 4 * t)) from trI_B I _ _ _ _)]; exact hN)) (cwV 1 hts gX3_foresee_X2_sleep rfl rfl rfl (by decide +kernel) ⟨Nat.le_of_ble_eq_true rfl, Nat.le_of_ble_eq_true rfl⟩) rfl hl.1 rfl (Nat.le_of_ble_eq_true rfl) dX3_foresee_34 ⟨Nat.le_of_ble_eq_true rfl, Nat.le_of_ble_eq_true rfl⟩ (fun v_5 u_ H locs hp hM => ?_)
  rw [(show (trI I (30 + 4 * t) (cf t) (rf t) (df t)) (54 + 2) = (trB I (30 + 4 * t)) from trI_B I _ _ _ _)] at hp
  obtain ⟨hv_, hu_⟩ := hp
  have hv_ := Eq.symm hv_
  have hu_ := Eq.symm hu_
  subst hv_
  subst hu_
  refine lv_pop hx hb dX3_foresee_37 rfl ?_
  refine lv_iload_n hx hb dX3_foresee_38 rfl (lv_at hl 4 rfl) ?_
  refine lv_lookup (off := 33) (tgt := 72) hx hb dX3_foresee_39 (by decide) (by decide) (by decide) ?_
  refine lv_aload_n hx hb dX3_foresee_72 rfl (lv_at hl 1 rfl) ?_
  refine fb_get (r := 0) hx hb hown hts hin3 hM ((hC.1).1) (ce3 ((hC.1).2)) rfl 3 (by decide) (hts (.fieldLink RX3 31 "FeatherBeds" "trial" "LFeatherBeds$Tick;") (by decide +kernel)) (fun _ h9 => h9) (v := .ref (sa S 54)) (congrArg (fun z => some (va_rf z)) ((hC.2.1).2.2.2)) dX3_foresee_73 ?_
  refine fb_callVi (r := 54) hx hb hml hown hts hM ((hC.tr.1)) (ce2 ((hC.tr.2.1))) rfl (As := []) (rest := []) (c_X2_coldestWarmth D y l S (stv (trV V (300 + 72 * t)) 732 (ngs (cf t) (cf t * rf t) (df t) (trB I (30 + 4 * t)) (trX V (300 + 72 * t)) z)) (trI I (30 + 4 * t) (cf t) (rf t) (df t)) 54 732 (cf t) (rf t) (df t) hC.tr (trI_F hfT) (ngs (cf t) (cf t * rf t) (df t) (trB I (30 + 4 * t)) (trX V (300 + 72 * t)) z) (fun q9 hq9 => stv_at _ 732 _ hq9)) (cwV 0 hts gX3_foresee_X2_coldestWarmth rfl rfl rfl (by decide +kernel) ⟨Nat.le_of_ble_eq_true rfl, Nat.le_of_ble_eq_true rfl⟩) rfl hl.1 rfl (Nat.le_of_ble_eq_true rfl) dX3_foresee_76 ⟨Nat.le_of_ble_eq_true rfl, Nat.le_of_ble_eq_true rfl⟩ (fun v_6 u_ H locs hp hM => ?_)
  obtain ⟨hv_, hu_⟩ := hp
  have hv_ := Eq.symm hv_
  have hu_ := Eq.symm hu_
  subst hv_
  subst hu_
  rw [hQ]
  refine W.widen (show _ ≤ 3 from Nat.le_of_ble_eq_true rfl) (show _ ≤ 18 from Nat.le_of_ble_eq_true rfl) ?_
  exact fb_iret hx hb hr hlocks hM (⟨rfl, rfl⟩) dX3_foresee_79

set_option maxHeartbeats 4000000 in
set_option maxRecDepth 100000 in
theorem c_X3_foresee_ok2 (D : va_G) (y : Nat → ClassId) (l : Launch) (S : fb_Sh) (V I : fb_V) (a1 ns nt es na : Nat) (hC : CpAt S a1 ns nt es na) (cf rf df : Nat → Nat) (hF : CF I ns nt cf rf df) (t : Nat) (ht : t < nt) (z : Nat) (hza : 1 ≤ z) (hz : z ≤ 200) (hN : NF (cf t) (cf t * rf t) (df t) (trB I (30 + 4 * t)) (trX V (300 + 72 * t)) z) : CI D y l yX3_foresee wsX3_foresee rm_X3_foresee [.ref (sa S 0), .int (nI t), .int (nI z), .int 2] (S, V, (sT V), I) (fun v u => v = nI (cld (ngs (cf t) (cf t * rf t) (df t) (trB I (30 + 4 * t)) (trX V (300 + 72 * t)) z) (cf t * rf t)) ∧ u = (S, (stv (trV V (300 + 72 * t)) 732 (ngs (cf t) (cf t * rf t) (df t) (trB I (30 + 4 * t)) (trX V (300 + 72 * t)) z)), sT (stv (trV V (300 + 72 * t)) 732 (ngs (cf t) (cf t * rf t) (df t) (trB I (30 + 4 * t)) (trX V (300 + 72 * t)) z)), (trI I (30 + 4 * t) (cf t) (rf t) (df t)))) 3 18 := by
  refine CI.of (cc := cX3_foresee) (maxL := 5) (ret := (some .int)) (by decide) rfl (Nat.le_of_ble_eq_true rfl) ?_
  intro pv ev s mv below meth cv A hx hb hml hr hown hts hlocks hname hM ls hl
  have hown : s.vm.findClass RX3 = some mv.cls := hown
  have hl : lv_has ls 5 [(0, .ref (sa S 0)), (1, .int (nI t)), (2, .int (nI z)), (3, .int 2)] := hl
  have hin3 : ∀ x ∈ wsX30, x ∈ wsX3_foresee := by decide +kernel
  obtain ⟨Q, hQ⟩ : ∃ Q, Q = MQ below (va_Qi (fun v u => v = nI (cld (ngs (cf t) (cf t * rf t) (df t) (trB I (30 + 4 * t)) (trX V (300 + 72 * t)) z) (cf t * rf t)) ∧ u = (S, (stv (trV V (300 + 72 * t)) 732 (ngs (cf t) (cf t * rf t) (df t) (trB I (30 + 4 * t)) (trX V (300 + 72 * t)) z)), sT (stv (trV V (300 + 72 * t)) 732 (ngs (cf t) (cf t * rf t) (df t) (trB I (30 + 4 * t)) (trX V (300 + 72 * t)) z)), (trI I (30 + 4 * t) (cf t) (rf t) (df t)))) (fun u t => fb_P D y A u t) A) (([.ref (sa S 0), .int (nI t), .int (nI z), .int 2] : List Value).toArray) s 3 18 A := ⟨_, rfl⟩
  rw [← hQ]
  have hns : ns ≤ 12 := hF.2.2.1
  have hnt : nt ≤ 6 := hF.2.2.2.1
  have hfT := hF.2.2.2.2 t ht
  have hcr := hfT.le
  refine lv_aload_n hx hb dX3_foresee_0 rfl (lv_at hl 0 rfl) ?_
  refine lv_iload_n hx hb dX3_foresee_1 rfl (lv_at hl 1 rfl) ?_
  refine fb_callVr (r := 0) hx hb hml hown hts hM ((hC.1).1) (ce3 ((hC.1).2)) rfl (As := [.int (nI t)]) (rest := []) (c_X3_needTick D y l S V I a1 ns nt es na hC cf rf df hF t ht) (cwV 1 hts gX3_foresee_X3_needTick rfl rfl rfl (by decide +kernel) ⟨Nat.le_of_ble_eq_true rfl, Nat.le_of_ble_eq_true rfl⟩) rfl hl.1 rfl (Nat.le_of_ble_eq_true rfl) dX3_foresee_2 ⟨Nat.le_of_ble_eq_true rfl, Nat.le_of_ble_eq_true rfl⟩ (fun v_1 u_ H locs hp hM => ?_)
  obtain ⟨hv_, hu_⟩ := hp
  have hv_ := Eq.symm hv_
  have hu_ := Eq.symm hu_
  subst hv_
  subst hu_
  refine lv_astore (lv' := [(4, .ref (sa S (30 + 4 * t))), (0, .ref (sa S 0)), (1, .int (nI t)), (2, .int (nI z)), (3, .int 2)]) hx hb dX3_foresee_5 hl (by decide) rfl (fun ls hl => ?_)
  refine lv_iload_n hx hb dX3_foresee_7 rfl (lv_at hl 4 rfl) ?_
  refine lv_iconst (v := 3) hx hb dX3_foresee_8 (by decide) ?_
  refine fb_callSv hx hb hml hown hts hM (As := [.int 2, .int 3]) (rest := []) (c_X3_needIndex D y l S V I 2 3 (by decide) (by decide)) (va_cwS 2 hts gX3_foresee_X3_needIndex rfl rfl rfl (by decide +kernel) ⟨Nat.le_of_ble_eq_true rfl, Nat.le_of_ble_eq_true rfl⟩) rfl hl.1 rfl (Nat.le_of_ble_eq_true rfl) dX3_foresee_9 ⟨Nat.le_of_ble_eq_true rfl, Nat.le_of_ble_eq_true rfl⟩ (fun u_ H locs hp hM => ?_)
  have hp := Eq.symm hp
  subst hp
  refine lv_iload_n hx hb dX3_foresee_12 rfl (lv_at hl 3 rfl) ?_
  refine lv_iconst (v := 1) hx hb dX3_foresee_13 (by decide) ?_
  refine lv_sipush (v := 200) hx hb dX3_foresee_14 (by decide) ?_
  refine fb_callSv hx hb hml hown hts hM (As := [.int (nI z), .int 1, .int 200]) (rest := []) (c_X3_needRange D y l S V I (nI z) 1 200 (nI_nlt (b := 1) hza (by omega)) (nI_nlt (a := 200) hz (by omega))) (va_cwS 3 hts gX3_foresee_X3_needRange rfl rfl rfl (by decide +kernel) ⟨Nat.le_of_ble_eq_true rfl, Nat.le_of_ble_eq_true rfl⟩) rfl hl.1 rfl (Nat.le_of_ble_eq_true rfl) dX3_foresee_17 ⟨Nat.le_of_ble_eq_true rfl, Nat.le_of_ble_eq_true rfl⟩ (fun u_ H locs hp hM => ?_)
  have hp := Eq.symm hp
  subst hp
  refine lv_aload_n hx hb dX3_foresee_20 rfl (lv_at hl 1 rfl) ?_
  refine fb_get (r := 0) hx hb hown hts hin3 hM ((hC.1).1) (ce3 ((hC.1).2)) rfl 3 (by decide) (hts (.fieldLink RX3 31 "FeatherBeds" "trial" "LFeatherBeds$Tick;") (by decide +kernel)) (fun _ h9 => h9) (v := .ref (sa S 54)) (congrArg (fun z => some (va_rf z)) ((hC.2.1).2.2.2)) dX3_foresee_21 ?_
  refine lv_aload hx hb dX3_foresee_24 (lv_at hl 0 rfl) ?_
  refine fb_callVv (r := 54) hx hb hml hown hts hM ((hC.tr.1)) (ce2 ((hC.tr.2.1))) rfl (As := [.ref (sa S (30 + 4 * t))]) (rest := []) (c_X2_become D y l S V I 54 732 (30 + 4 * t) (300 + 72 * t) (cf t) (rf t) (df t) hC.tr (hC.tk ht) hfT (Or.inl (by omega)) (Or.inl (by omega))) (cwV 1 hts gX3_foresee_X2_become rfl rfl rfl (by decide +kernel) ⟨Nat.le_of_ble_eq_true rfl, Nat.le_of_ble_eq_true rfl⟩) rfl hl.1 rfl (Nat.le_of_ble_eq_true rfl) dX3_foresee_26 ⟨Nat.le_of_ble_eq_true rfl, Nat.le_of_ble_eq_true rfl⟩ (fun u_ H locs hp hM => ?_)
  have hp := Eq.symm hp
  subst hp
  have hM : fb_M D y A s (S, (trV V (300 + 72 * t)), (sT (trV V (300 + 72 * t))), (trI I (30 + 4 * t) (cf t) (rf t) (df t))) H locs := hM
  refine lv_aload_n hx hb dX3_foresee_29 rfl (lv_at hl 1 rfl) ?_
  refine fb_get (r := 0) hx hb hown hts hin3 hM ((hC.1).1) (ce3 ((hC.1).2)) rfl 3 (by decide) (hts (.fieldLink RX3 31 "FeatherBeds" "trial" "LFeatherBeds$Tick;") (by decide +kernel)) (fun _ h9 => h9) (v := .ref (sa S 54)) (congrArg (fun z => some (va_rf z)) ((hC.2.1).2.2.2)) dX3_foresee_30 ?_
  refine lv_iload_n hx hb dX3_foresee_33 rfl (lv_at hl 3 rfl) ?_
  refine fb_callVi (r := 54) hx hb hml hown hts hM ((hC.tr.1)) (ce2 ((hC.tr.2.1))) rfl (As := [.int (nI z)]) (rest := []) (c_X2_sleep D y l S (trV V (300 + 72 * t)) (trI I (30 + 4 * t) (cf t) (rf t) (df t)) 54 732 (cf t) (rf t) (df t) hC.tr (trI_F hfT) (trX V (300 + 72 * t)) (trX_at V _) z (by omega) (by rw [(show (trI I (30 + 4 * t) (cf t) (rf t) (df t)) (54 + 2) = (trB I (30 + 4 * t)) from trI_B I _ _ _ _)]; exact hN)) (cwV 1 hts gX3_foresee_X2_sleep rfl rfl rfl (by decide +kernel) ⟨Nat.le_of_ble_eq_true rfl, Nat.le_of_ble_eq_true rfl⟩) rfl hl.1 rfl (Nat.le_of_ble_eq_true rfl) dX3_foresee_34 ⟨Nat.le_of_ble_eq_true rfl, Nat.le_of_ble_eq_true rfl⟩ (fun v_5 u_ H locs hp hM => ?_)
  rw [(show (trI I (30 + 4 * t) (cf t) (rf t) (df t)) (54 + 2) = (trB I (30 + 4 * t)) from trI_B I _ _ _ _)] at hp
  obtain ⟨hv_, hu_⟩ := hp
  have hv_ := Eq.symm hv_
  have hu_ := Eq.symm hu_
  subst hv_
  subst hu_
  refine lv_pop hx hb dX3_foresee_37 rfl ?_
  refine lv_iload_n hx hb dX3_foresee_38 rfl (lv_at hl 4 rfl) ?_
  refine lv_lookup (off := 41) (tgt := 80) hx hb dX3_foresee_39 (by decide) (by decide) (by decide) ?_
  refine lv_aload_n hx hb dX3_foresee_80 rfl (lv_at hl 1 rfl) ?_
  refine fb_get (r := 0) hx hb hown hts hin3 hM ((hC.1).1) (ce3 ((hC.1).2)) rfl 3 (by decide) (hts (.fieldLink RX3 31 "FeatherBeds" "trial" "LFeatherBeds$Tick;") (by decide +kernel)) (fun _ h9 => h9) (v := .ref (sa S 54)) (congrArg (fun z => some (va_rf z)) ((hC.2.1).2.2.2)) dX3_foresee_81 ?_
  refine fb_callVi (r := 54) hx hb hml hown hts hM ((hC.tr.1)) (ce2 ((hC.tr.2.1))) rfl (As := []) (rest := []) (c_X2_coldestSquare D y l S (stv (trV V (300 + 72 * t)) 732 (ngs (cf t) (cf t * rf t) (df t) (trB I (30 + 4 * t)) (trX V (300 + 72 * t)) z)) (trI I (30 + 4 * t) (cf t) (rf t) (df t)) 54 732 (cf t) (rf t) (df t) hC.tr (trI_F hfT) (ngs (cf t) (cf t * rf t) (df t) (trB I (30 + 4 * t)) (trX V (300 + 72 * t)) z) (fun q9 hq9 => stv_at _ 732 _ hq9)) (cwV 0 hts gX3_foresee_X2_coldestSquare rfl rfl rfl (by decide +kernel) ⟨Nat.le_of_ble_eq_true rfl, Nat.le_of_ble_eq_true rfl⟩) rfl hl.1 rfl (Nat.le_of_ble_eq_true rfl) dX3_foresee_84 ⟨Nat.le_of_ble_eq_true rfl, Nat.le_of_ble_eq_true rfl⟩ (fun v_6 u_ H locs hp hM => ?_)
  obtain ⟨hv_, hu_⟩ := hp
  have hv_ := Eq.symm hv_
  have hu_ := Eq.symm hu_
  subst hv_
  subst hu_
  rw [hQ]
  refine W.widen (show _ ≤ 3 from Nat.le_of_ble_eq_true rfl) (show _ ≤ 18 from Nat.le_of_ble_eq_true rfl) ?_
  exact fb_iret hx hb hr hlocks hM (⟨rfl, rfl⟩) dX3_foresee_87

abbrev rm_X3_lasts : Room := { frames := 7, cells := 2, slots := 12, locals := 140 }
set_option maxHeartbeats 4000000 in
set_option maxRecDepth 100000 in
theorem c_X3_lasts_ok (D : va_G) (y : Nat → ClassId) (l : Launch) (S : fb_Sh) (V I : fb_V) (a1 ns nt es na : Nat) (hC : CpAt S a1 ns nt es na) (cf rf df : Nat → Nat) (hF : CF I ns nt cf rf df) (t : Nat) (ht : t < nt) (w : Nat) (hwa : 0 ≤ w) (hw : w ≤ 900)  : CI D y l yX3_lasts wsX3_lasts rm_X3_lasts [.ref (sa S 0), .int (nI t), .int (nI w)] (S, V, (sT V), I) (fun v u => ∃ k Y, k ≤ 200 ∧ (∀ j, j < k → ¬ (wm ((ngs (cf t) (cf t * rf t) (df t) (trB I (30 + 4 * t)) (trX V (300 + 72 * t)) j) (cld (ngs (cf t) (cf t * rf t) (df t) (trB I (30 + 4 * t)) (trX V (300 + 72 * t)) j) (cf t * rf t)))) < nI w) ∧ (k < 200 → (wm ((ngs (cf t) (cf t * rf t) (df t) (trB I (30 + 4 * t)) (trX V (300 + 72 * t)) k) (cld (ngs (cf t) (cf t * rf t) (df t) (trB I (30 + 4 * t)) (trX V (300 + 72 * t)) k) (cf t * rf t)))) < nI w) ∧ v = (if (wm ((ngs (cf t) (cf t * rf t) (df t) (trB I (30 + 4 * t)) (trX V (300 + 72 * t)) k) (cld (ngs (cf t) (cf t * rf t) (df t) (trB I (30 + 4 * t)) (trX V (300 + 72 * t)) k) (cf t * rf t)))) < nI w then nI k else -1) ∧ (∃ z, Y = (ngs (cf t) (cf t * rf t) (df t) (trB I (30 + 4 * t)) (trX V (300 + 72 * t)) z)) ∧ u = (S, stv (trV V (300 + 72 * t)) 732 Y, sT (stv (trV V (300 + 72 * t)) 732 Y), (trI I (30 + 4 * t) (cf t) (rf t) (df t)))) 2 12 := by
  refine CI.of (cc := cX3_lasts) (maxL := 5) (ret := (some .int)) (by decide) rfl (Nat.le_of_ble_eq_true rfl) ?_
  intro pv ev s mv below meth cv A hx hb hml hr hown hts hlocks hname hM ls hl
  have hown : s.vm.findClass RX3 = some mv.cls := hown
  have hl : lv_has ls 5 [(0, .ref (sa S 0)), (1, .int (nI t)), (2, .int (nI w))] := hl
  have hin3 : ∀ x ∈ wsX30, x ∈ wsX3_lasts := by decide +kernel
  obtain ⟨Q, hQ⟩ : ∃ Q, Q = MQ below (va_Qi (fun v u => ∃ k Y, k ≤ 200 ∧ (∀ j, j < k → ¬ (wm ((ngs (cf t) (cf t * rf t) (df t) (trB I (30 + 4 * t)) (trX V (300 + 72 * t)) j) (cld (ngs (cf t) (cf t * rf t) (df t) (trB I (30 + 4 * t)) (trX V (300 + 72 * t)) j) (cf t * rf t)))) < nI w) ∧ (k < 200 → (wm ((ngs (cf t) (cf t * rf t) (df t) (trB I (30 + 4 * t)) (trX V (300 + 72 * t)) k) (cld (ngs (cf t) (cf t * rf t) (df t) (trB I (30 + 4 * t)) (trX V (300 + 72 * t)) k) (cf t * rf t)))) < nI w) ∧ v = (if (wm ((ngs (cf t) (cf t * rf t) (df t) (trB I (30 + 4 * t)) (trX V (300 + 72 * t)) k) (cld (ngs (cf t) (cf t * rf t) (df t) (trB I (30 + 4 * t)) (trX V (300 + 72 * t)) k) (cf t * rf t)))) < nI w then nI k else -1) ∧ (∃ z, Y = (ngs (cf t) (cf t * rf t) (df t) (trB I (30 + 4 * t)) (trX V (300 + 72 * t)) z)) ∧ u = (S, stv (trV V (300 + 72 * t)) 732 Y, sT (stv (trV V (300 + 72 * t)) 732 Y), (trI I (30 + 4 * t) (cf t) (rf t) (df t)))) (fun u t => fb_P D y A u t) A) (([.ref (sa S 0), .int (nI t), .int (nI w)] : List Value).toArray) s 2 12 A := ⟨_, rfl⟩
  rw [← hQ]
  have hns : ns ≤ 12 := hF.2.2.1
  have hnt : nt ≤ 6 := hF.2.2.2.1
  have hfT := hF.2.2.2.2 t ht
  have hcr := hfT.le
  refine lv_aload_n hx hb dX3_lasts_0 rfl (lv_at hl 0 rfl) ?_
  refine lv_iload_n hx hb dX3_lasts_1 rfl (lv_at hl 1 rfl) ?_
  refine fb_callVr (r := 0) hx hb hml hown hts hM ((hC.1).1) (ce3 ((hC.1).2)) rfl (As := [.int (nI t)]) (rest := []) (c_X3_needTick D y l S V I a1 ns nt es na hC cf rf df hF t ht) (cwV 1 hts gX3_lasts_X3_needTick rfl rfl rfl (by decide +kernel) ⟨Nat.le_of_ble_eq_true rfl, Nat.le_of_ble_eq_true rfl⟩) rfl hl.1 rfl (Nat.le_of_ble_eq_true rfl) dX3_lasts_2 ⟨Nat.le_of_ble_eq_true rfl, Nat.le_of_ble_eq_true rfl⟩ (fun v_1 u_ H locs hp hM => ?_)
  obtain ⟨hv_, hu_⟩ := hp
  have hv_ := Eq.symm hv_
  have hu_ := Eq.symm hu_
  subst hv_
  subst hu_
  refine lv_astore_n (lv' := [(3, .ref (sa S (30 + 4 * t))), (0, .ref (sa S 0)), (1, .int (nI t)), (2, .int (nI w))]) hx hb dX3_lasts_5 rfl hl (by decide) rfl (fun ls hl => ?_)
  refine lv_iload_n hx hb dX3_lasts_6 rfl (lv_at hl 3 rfl) ?_
  refine lv_iconst (v := 0) hx hb dX3_lasts_7 (by decide) ?_
  refine lv_sipush (v := 900) hx hb dX3_lasts_8 (by decide) ?_
  refine fb_callSv hx hb hml hown hts hM (As := [.int (nI w), .int 0, .int 900]) (rest := []) (c_X3_needRange D y l S V I (nI w) 0 900 (nI_nlt (b := 0) hwa (by omega)) (nI_nlt (a := 900) hw (by omega))) (va_cwS 3 hts gX3_lasts_X3_needRange rfl rfl rfl (by decide +kernel) ⟨Nat.le_of_ble_eq_true rfl, Nat.le_of_ble_eq_true rfl⟩) rfl hl.1 rfl (Nat.le_of_ble_eq_true rfl) dX3_lasts_11 ⟨Nat.le_of_ble_eq_true rfl, Nat.le_of_ble_eq_true rfl⟩ (fun u_ H locs hp hM => ?_)
  have hp := Eq.symm hp
  subst hp
  refine lv_aload_n hx hb dX3_lasts_14 rfl (lv_at hl 1 rfl) ?_
  refine fb_get (r := 0) hx hb hown hts hin3 hM ((hC.1).1) (ce3 ((hC.1).2)) rfl 3 (by decide) (hts (.fieldLink RX3 31 "FeatherBeds" "trial" "LFeatherBeds$Tick;") (by decide +kernel)) (fun _ h9 => h9) (v := .ref (sa S 54)) (congrArg (fun z => some (va_rf z)) ((hC.2.1).2.2.2)) dX3_lasts_15 ?_
  refine lv_aload_n hx hb dX3_lasts_18 rfl (lv_at hl 0 rfl) ?_
  refine fb_callVv (r := 54) hx hb hml hown hts hM ((hC.tr.1)) (ce2 ((hC.tr.2.1))) rfl (As := [.ref (sa S (30 + 4 * t))]) (rest := []) (c_X2_become D y l S V I 54 732 (30 + 4 * t) (300 + 72 * t) (cf t) (rf t) (df t) hC.tr (hC.tk ht) hfT (Or.inl (by omega)) (Or.inl (by omega))) (cwV 1 hts gX3_lasts_X2_become rfl rfl rfl (by decide +kernel) ⟨Nat.le_of_ble_eq_true rfl, Nat.le_of_ble_eq_true rfl⟩) rfl hl.1 rfl (Nat.le_of_ble_eq_true rfl) dX3_lasts_19 ⟨Nat.le_of_ble_eq_true rfl, Nat.le_of_ble_eq_true rfl⟩ (fun u_ H locs hp hM => ?_)
  have hp := Eq.symm hp
  subst hp
  have hM : fb_M D y A s (S, (trV V (300 + 72 * t)), (sT (trV V (300 + 72 * t))), (trI I (30 + 4 * t) (cf t) (rf t) (df t))) H locs := hM
  refine lv_iconst (v := 0) hx hb dX3_lasts_22 (by decide) ?_
  refine lv_istore (lv' := [(4, .int 0), (3, .ref (sa S (30 + 4 * t))), (0, .ref (sa S 0)), (1, .int (nI t)), (2, .int (nI w))]) hx hb dX3_lasts_23 hl (by decide) rfl (fun ls hl => ?_)
  have LP_25 : ∀ (n : Nat) (j9 : Nat) (hj9 : j9 ≤ 201) (hW : ∀ j, j < j9 → ¬ (wm ((ngs (cf t) (cf t * rf t) (df t) (trB I (30 + 4 * t)) (trX V (300 + 72 * t)) j) (cld (ngs (cf t) (cf t * rf t) (df t) (trB I (30 + 4 * t)) (trX V (300 + 72 * t)) j) (cf t * rf t)))) < nI w), 201 - j9 < n → ∀ (H : Heap) (locs : List Loc), fb_M D y A s (S, (stv (trV V (300 + 72 * t)) 732 (ngs (cf t) (cf t * rf t) (df t) (trB I (30 + 4 * t)) (trX V (300 + 72 * t)) j9)), (sT (stv (trV V (300 + 72 * t)) 732 (ngs (cf t) (cf t * rf t) (df t) (trB I (30 + 4 * t)) (trX V (300 + 72 * t)) j9))), (trI I (30 + 4 * t) (cf t) (rf t) (df t))) H locs → ∀ ls, lv_has ls 5 [(4, .int (nI j9)), (3, .ref (sa S (30 + 4 * t))), (0, .ref (sa S 0)), (1, .int (nI t)), (2, .int (nI w))] → W pv l ev rm_X3_lasts s mv ([.ref (sa S 0), .int (nI t), .int (nI w)] : List Value).toArray below meth cv H locs (0 + 1 + 1) (0 + 6 + 6) Q (F0 mv 25 ls []) := by
    intro n_25
    induction n_25 with
    | zero => intro j9 hj9 hW hmu; exact absurd hmu (Nat.not_lt_zero _)
    | succ n_25 ih_25 =>
      intro j9 hj9 hW hmu H locs hM ls hl
      refine lv_iload hx hb dX3_lasts_25 (lv_at hl 0 rfl) ?_
      refine lv_sipush (v := 200) hx hb dX3_lasts_27 (by decide) ?_
      refine lv_icmp_gt (tgt := 62) hx hb dX3_lasts_30 (by decide) (fun c_4 => ?_) (fun c_4 => ?_)
      · skip
        have e9 : j9 = 201 := by have := (nI_ltI (a := 200) (b := j9) (by omega) (by omega)).mp c_4; omega
        refine lv_iconst (v := (-1)) hx hb dX3_lasts_62 (by decide) ?_
        rw [hQ]
        refine W.widen (show _ ≤ 2 from Nat.le_of_ble_eq_true rfl) (show _ ≤ 12 from Nat.le_of_ble_eq_true rfl) ?_
        exact fb_iret hx hb hr hlocks hM (⟨200, _, Nat.le_refl _, fun j hj => hW j (by omega), fun h => absurd h (by decide), (if_neg (hW 200 (by omega))).symm, ⟨j9, rfl⟩, rfl⟩) dX3_lasts_63
      · skip
        have hjk : j9 ≤ 200 := Nat.le_of_not_lt (fun h => c_4 ((nI_ltI (a := 200) (b := j9) (by omega) (by omega)).mpr h))
        refine lv_aload_n hx hb dX3_lasts_33 rfl (lv_at hl 2 rfl) ?_
        refine fb_get (r := 0) hx hb hown hts hin3 hM ((hC.1).1) (ce3 ((hC.1).2)) rfl 3 (by decide) (hts (.fieldLink RX3 31 "FeatherBeds" "trial" "LFeatherBeds$Tick;") (by decide +kernel)) (fun _ h9 => h9) (v := .ref (sa S 54)) (congrArg (fun z => some (va_rf z)) ((hC.2.1).2.2.2)) dX3_lasts_34 ?_
        refine fb_callVi (r := 54) hx hb hml hown hts hM ((hC.tr.1)) (ce2 ((hC.tr.2.1))) rfl (As := []) (rest := []) (c_X2_coldestWarmth D y l S (stv (trV V (300 + 72 * t)) 732 (ngs (cf t) (cf t * rf t) (df t) (trB I (30 + 4 * t)) (trX V (300 + 72 * t)) j9)) (trI I (30 + 4 * t) (cf t) (rf t) (df t)) 54 732 (cf t) (rf t) (df t) hC.tr (trI_F hfT) (ngs (cf t) (cf t * rf t) (df t) (trB I (30 + 4 * t)) (trX V (300 + 72 * t)) j9) (fun q9 hq9 => stv_at _ 732 _ hq9)) (cwV 0 hts gX3_lasts_X2_coldestWarmth rfl rfl rfl (by decide +kernel) ⟨Nat.le_of_ble_eq_true rfl, Nat.le_of_ble_eq_true rfl⟩) rfl hl.1 rfl (Nat.le_of_ble_eq_true rfl) dX3_lasts_37 ⟨Nat.le_of_ble_eq_true rfl, Nat.le_of_ble_eq_true rfl⟩ (fun v_5 u_ H locs hp hM => ?_)
        obtain ⟨hv_, hu_⟩ := hp
        have hv_ := Eq.symm hv_
        have hu_ := Eq.symm hu_
        subst hv_
        subst hu_
        refine lv_iload_n hx hb dX3_lasts_40 rfl (lv_at hl 4 rfl) ?_
        refine lv_icmp_ge (tgt := 47) hx hb dX3_lasts_41 (by decide) (fun c_6 => ?_) (fun c_6 => ?_)
        · skip
          have c_brk := c_6
          refine lv_aload_n hx hb dX3_lasts_47 rfl (lv_at hl 2 rfl) ?_
          refine fb_get (r := 0) hx hb hown hts hin3 hM ((hC.1).1) (ce3 ((hC.1).2)) rfl 3 (by decide) (hts (.fieldLink RX3 31 "FeatherBeds" "trial" "LFeatherBeds$Tick;") (by decide +kernel)) (fun _ h9 => h9) (v := .ref (sa S 54)) (congrArg (fun z => some (va_rf z)) ((hC.2.1).2.2.2)) dX3_lasts_48 ?_
          refine lv_iconst (v := 1) hx hb dX3_lasts_51 (by decide) ?_
          refine fb_callVi (r := 54) hx hb hml hown hts hM ((hC.tr.1)) (ce2 ((hC.tr.2.1))) rfl (As := [.int 1]) (rest := []) (c_X2_sleep D y l S (stv (trV V (300 + 72 * t)) 732 (ngs (cf t) (cf t * rf t) (df t) (trB I (30 + 4 * t)) (trX V (300 + 72 * t)) j9)) (trI I (30 + 4 * t) (cf t) (rf t) (df t)) 54 732 (cf t) (rf t) (df t) hC.tr (trI_F hfT) (ngs (cf t) (cf t * rf t) (df t) (trB I (30 + 4 * t)) (trX V (300 + 72 * t)) j9) (fun q9 hq9 => stv_at _ 732 _ hq9) 1 (by decide) (fun i hi _ _ => by have e0 : i = 0 := (by omega); subst e0; exact ⟨rfl, fun _ _ => rfl⟩)) (cwV 1 hts gX3_lasts_X2_sleep rfl rfl rfl (by decide +kernel) ⟨Nat.le_of_ble_eq_true rfl, Nat.le_of_ble_eq_true rfl⟩) rfl hl.1 rfl (Nat.le_of_ble_eq_true rfl) dX3_lasts_52 ⟨Nat.le_of_ble_eq_true rfl, Nat.le_of_ble_eq_true rfl⟩ (fun v_7 u_ H locs hp hM => ?_)
          rw [(show (trI I (30 + 4 * t) (cf t) (rf t) (df t)) (54 + 2) = (trB I (30 + 4 * t)) from trI_B I _ _ _ _)] at hp
          obtain ⟨hv_, hu_⟩ := hp
          have hv_ := Eq.symm hv_
          have hu_ := Eq.symm hu_
          subst hv_
          subst hu_
          have eV : (stv (stv (trV V (300 + 72 * t)) 732 (ngs (cf t) (cf t * rf t) (df t) (trB I (30 + 4 * t)) (trX V (300 + 72 * t)) j9)) 732 (ngs (cf t) (cf t * rf t) (df t) (trB I (30 + 4 * t)) (ngs (cf t) (cf t * rf t) (df t) (trB I (30 + 4 * t)) (trX V (300 + 72 * t)) j9) 1)) = (stv (trV V (300 + 72 * t)) 732 (ngs (cf t) (cf t * rf t) (df t) (trB I (30 + 4 * t)) (trX V (300 + 72 * t)) (j9 + 1))) := (stv_stv _ _ _ _).trans rfl
          rw [eV] at hM
          clear eV
          refine lv_pop hx hb dX3_lasts_55 rfl ?_
          refine lv_iinc (v := nI (j9 + 1)) (lv' := [(4, .int (nI (j9 + 1))), (3, .ref (sa S (30 + 4 * t))), (0, .ref (sa S 0)), (1, .int (nI t)), (2, .int (nI w))]) hx hb dX3_lasts_56 hl (k := 0) rfl (nI_1 _) (by decide) rfl (fun ls hl => ?_)
          refine lv_goto (tgt := 25) hx hb dX3_lasts_59 (by decide) ?_
          exact ih_25 (j9 + 1) (by omega) (fun j hj => by rcases Nat.lt_or_ge j j9 with h | h; exact hW j h; rw [show j = j9 by omega]; exact Int32.not_lt.mpr c_brk) (by omega) _ _ hM ls (lv_sub hl [0, 1, 2, 3, 4] rfl)
        · skip
          have c_brk := Int32.not_le.mp c_6
          refine lv_iload hx hb dX3_lasts_44 (lv_at hl 0 rfl) ?_
          rw [hQ]
          refine W.widen (show _ ≤ 2 from Nat.le_of_ble_eq_true rfl) (show _ ≤ 12 from Nat.le_of_ble_eq_true rfl) ?_
          exact fb_iret hx hb hr hlocks hM (⟨j9, _, hjk, hW, fun _ => c_brk, (if_pos c_brk).symm, ⟨j9, rfl⟩, rfl⟩) dX3_lasts_46
  rw [show (trV V (300 + 72 * t)) = (stv (trV V (300 + 72 * t)) 732 (ngs (cf t) (cf t * rf t) (df t) (trB I (30 + 4 * t)) (trX V (300 + 72 * t)) 0)) from (stv_stv V 732 _ _).symm] at hM
  exact LP_25 _ 0 (by omega) (fun j hj => absurd hj (Nat.not_lt_zero _)) (Nat.lt_succ_self _) _ _ hM ls (lv_sub hl [0, 1, 2, 3, 4] rfl)
