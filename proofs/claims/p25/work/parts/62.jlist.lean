abbrev rm_J3_checkIndex_8e157 : Room := { frames := 0, cells := 0, slots := 0, locals := 0 }
set_option maxHeartbeats 4000000 in
set_option maxRecDepth 100000 in
theorem c_J3_checkIndex_8e157 (D : va_G) (y : Nat → ClassId) (l : Launch) (S : fb_Sh) (V I : fb_V) (i n : Nat) (hi : i < n) (hn : n < 2 ^ 31) : CI D y l yJ3_checkIndex_8e157 wsJ3_checkIndex_8e157 rm_J3_checkIndex_8e157 [.int (nI i), .int (nI n), .null] (S, V, (sT V), I) (fun z u => z = nI i ∧ u = (S, V, sT V, I)) 0 0 := by
  refine CI.of (cc := cJ3_checkIndex_8e157) (maxL := 3) (ret := (some .int)) (by decide) rfl (Nat.le_of_ble_eq_true rfl) ?_
  intro pv ev s mv below meth cv A hx hb hml hr hown hts hlocks hname hM ls hl
  have hown : s.vm.findClass RJ3 = some mv.cls := hown
  have hl : lv_has ls 3 [(0, .int (nI i)), (1, .int (nI n)), (2, .null)] := hl
  obtain ⟨Q, hQ⟩ : ∃ Q, Q = MQ below (va_Qi (fun z u => z = nI i ∧ u = (S, V, sT V, I)) (fun u t => fb_P D y A u t) A) (([.int (nI i), .int (nI n), .null] : List Value).toArray) s 0 0 A := ⟨_, rfl⟩
  rw [← hQ]
  refine lv_iload_n hx hb dJ3_checkIndex_8e157_0 rfl (lv_at hl 0 rfl) ?_
  refine lv_if_lt (tgt := 9) hx hb dJ3_checkIndex_8e157_1 (by decide) (fun c_1 => absurd c_1 (nI_pos (by omega))) (fun c_1 => ?_)
  refine lv_iload_n hx hb dJ3_checkIndex_8e157_4 rfl (lv_at hl 0 rfl) ?_
  refine lv_iload_n hx hb dJ3_checkIndex_8e157_5 rfl (lv_at hl 1 rfl) ?_
  refine lv_icmp_lt (tgt := 16) hx hb dJ3_checkIndex_8e157_6 (by decide) (fun c_2 => ?_) (fun c_2 => absurd (nI_lt hi hn) c_2)
  refine lv_iload_n hx hb dJ3_checkIndex_8e157_16 rfl (lv_at hl 0 rfl) ?_
  rw [hQ]
  exact fb_iret hx hb hr hlocks hM (⟨rfl, rfl⟩) dJ3_checkIndex_8e157_17

abbrev rm_J15_checkIndex_7cf53 : Room := { frames := 1, cells := 0, slots := 0, locals := 22 }
set_option maxHeartbeats 4000000 in
set_option maxRecDepth 100000 in
theorem c_J15_checkIndex_7cf53 (D : va_G) (y : Nat → ClassId) (l : Launch) (S : fb_Sh) (V I : fb_V) (i n : Nat) (hi : i < n) (hn : n < 2 ^ 31) : CI D y l yJ15_checkIndex_7cf53 wsJ15_checkIndex_7cf53 rm_J15_checkIndex_7cf53 [.int (nI i), .int (nI n)] (S, V, (sT V), I) (fun z u => z = nI i ∧ u = (S, V, sT V, I)) 0 0 := by
  refine CI.of (cc := cJ15_checkIndex_7cf53) (maxL := 2) (ret := (some .int)) (by decide) rfl (Nat.le_of_ble_eq_true rfl) ?_
  intro pv ev s mv below meth cv A hx hb hml hr hown hts hlocks hname hM ls hl
  have hown : s.vm.findClass RJ15 = some mv.cls := hown
  have hl : lv_has ls 2 [(0, .int (nI i)), (1, .int (nI n))] := hl
  obtain ⟨Q, hQ⟩ : ∃ Q, Q = MQ below (va_Qi (fun z u => z = nI i ∧ u = (S, V, sT V, I)) (fun u t => fb_P D y A u t) A) (([.int (nI i), .int (nI n)] : List Value).toArray) s 0 0 A := ⟨_, rfl⟩
  rw [← hQ]
  refine lv_iload_n hx hb dJ15_checkIndex_7cf53_0 rfl (lv_at hl 0 rfl) ?_
  refine lv_iload_n hx hb dJ15_checkIndex_7cf53_1 rfl (lv_at hl 1 rfl) ?_
  refine lv_null hx hb dJ15_checkIndex_7cf53_2 ?_
  refine fb_callSi hx hb hml hown hts hM (As := [.int (nI i), .int (nI n), .null]) (rest := []) (c_J3_checkIndex_8e157 D y l S V I i n hi hn) (va_cwS 3 hts gJ15_checkIndex_7cf53_J3_checkIndex_8e157 rfl rfl rfl (by decide +kernel) ⟨Nat.le_of_ble_eq_true rfl, Nat.le_of_ble_eq_true rfl⟩) rfl hl.1 rfl (Nat.le_of_ble_eq_true rfl) dJ15_checkIndex_7cf53_3 ⟨Nat.le_of_ble_eq_true rfl, Nat.le_of_ble_eq_true rfl⟩ (fun v_1 u H locs hp hM => ?_)
  obtain ⟨hv_, hu_⟩ := hp
  have hv_ := Eq.symm hv_
  have hu_ := Eq.symm hu_
  subst hv_
  subst hu_
  rw [hQ]
  exact fb_iret hx hb hr hlocks hM (⟨rfl, rfl⟩) dJ15_checkIndex_7cf53_6

abbrev rm_Jx4a65c_size_8abf5 : Room := { frames := 0, cells := 0, slots := 0, locals := 0 }
set_option maxHeartbeats 4000000 in
set_option maxRecDepth 100000 in
theorem c_Jx4a65c_size_8abf5 (D : va_G) (y : Nat → ClassId) (l : Launch) (S : fb_Sh) (V I : fb_V) (r : Nat) (h1 : r ∈ sR S) (h2 : sk S r = 5) : CI D y l yJx4a65c_size_8abf5 wsJx4a65c_size_8abf5 rm_Jx4a65c_size_8abf5 [.ref (sa S r)] (S, V, (sT V), I) (fun z u => z = I r 2 ∧ u = (S, V, sT V, I)) 0 0 := by
  refine CI.of (cc := cJx4a65c_size_8abf5) (maxL := 1) (ret := (some .int)) (by decide) rfl (Nat.le_of_ble_eq_true rfl) ?_
  intro pv ev s mv below meth cv A hx hb hml hr hown hts hlocks hname hM ls hl
  have hown : s.vm.findClass RJx4a65c = some mv.cls := hown
  have hl : lv_has ls 1 [(0, .ref (sa S r))] := hl
  have hin5 : ∀ x ∈ wsJx4a65c0, x ∈ wsJx4a65c_size_8abf5 := by decide +kernel
  obtain ⟨Q, hQ⟩ : ∃ Q, Q = MQ below (va_Qi (fun z u => z = I r 2 ∧ u = (S, V, sT V, I)) (fun u t => fb_P D y A u t) A) (([.ref (sa S r)] : List Value).toArray) s 0 0 A := ⟨_, rfl⟩
  rw [← hQ]
  refine lv_aload_n hx hb dJx4a65c_size_8abf5_0 rfl (lv_at hl 0 rfl) ?_
  refine fb_get (r := r) hx hb hown hts hin5 hM (h1) (ce5 (h2)) rfl 2 (by decide) (hts (.fieldLink RJx4a65c 48 "java/util/ArrayList" "size" "I") (by decide +kernel)) (fun _ h9 => h9) (v := .int (I r 2)) rfl dJx4a65c_size_8abf5_1 ?_
  rw [hQ]
  exact fb_iret hx hb hr hlocks hM (⟨rfl, rfl⟩) dJx4a65c_size_8abf5_4

abbrev rm_Jx4a65c_elementData_915e3 : Room := { frames := 0, cells := 0, slots := 0, locals := 0 }
set_option maxHeartbeats 4000000 in
set_option maxRecDepth 100000 in
theorem c_Jx4a65c_elementData_915e3 (D : va_G) (y : Nat → ClassId) (l : Launch) (S : fb_Sh) (V I : fb_V) (r e na : Nat) (hL : LsAt S r e na) (i x : Nat) (hi : i < na) (hna : na < 2 ^ 31) (hx_ : PA S e i x) : CR D y l yJx4a65c_elementData_915e3 wsJx4a65c_elementData_915e3 rm_Jx4a65c_elementData_915e3 [.ref (sa S r), .int (nI i)] (S, V, (sT V), I) (fun a u => a = sa S x ∧ u = (S, V, sT V, I)) 0 0 := by
  refine CR.of (cc := cJx4a65c_elementData_915e3) (maxL := 2) (ret := (some (.object "java/lang/Object"))) (by decide) rfl (Nat.le_of_ble_eq_true rfl) ?_
  intro pv ev s mv below meth cv A hx hb hml hr hown hts hlocks hname hM ls hl
  have hown : s.vm.findClass RJx4a65c = some mv.cls := hown
  have hl : lv_has ls 2 [(0, .ref (sa S r)), (1, .int (nI i))] := hl
  have hin5 : ∀ x ∈ wsJx4a65c0, x ∈ wsJx4a65c_elementData_915e3 := by decide +kernel
  obtain ⟨Q, hQ⟩ : ∃ Q, Q = MQ below (va_Qr (fun _ : fb_W => True) (fun u a t9 => (fun a u => a = sa S x ∧ u = (S, V, sT V, I)) a u ∧ fb_P D y A u t9) A) (([.ref (sa S r), .int (nI i)] : List Value).toArray) s 0 0 A := ⟨_, rfl⟩
  rw [← hQ]
  refine lv_aload_n hx hb dJx4a65c_elementData_915e3_0 rfl (lv_at hl 0 rfl) ?_
  refine fb_get (r := r) hx hb hown hts hin5 hM (hL.1.1) (ce5 (hL.1.2)) rfl 1 (by decide) (hts (.fieldLink RJx4a65c 9 "java/util/ArrayList" "elementData" "[Ljava/lang/Object;") (by decide +kernel)) (fun _ h9 => h9) (v := .ref (sa S e)) (congrArg (fun z => some (va_rf z)) (hL.2.1)) dJx4a65c_elementData_915e3_1 ?_
  refine lv_iload_n hx hb dJx4a65c_elementData_915e3_4 rfl (lv_at hl 1 rfl) ?_
  refine fb_aald (r := e) hx hb hM (hL.2.2.1) (ce9 (hL.2.2.2.1)) 3 rfl (k := i) (nI_clamp (by omega)) (b := sa S x) (hx_) (by rw [hL.2.2.2.2]; exact vp_in_nI (by omega) (by omega)) dJx4a65c_elementData_915e3_5 ?_
  rw [hQ]
  exact fb_aret hx hb hr (Or.inl ⟨_, rfl⟩) hlocks hM (⟨rfl, rfl⟩) dJx4a65c_elementData_915e3_6

abbrev rm_Jx4a65c_get_915e3 : Room := { frames := 2, cells := 0, slots := 0, locals := 43 }
set_option maxHeartbeats 4000000 in
set_option maxRecDepth 100000 in
theorem c_Jx4a65c_get_915e3 (D : va_G) (y : Nat → ClassId) (l : Launch) (S : fb_Sh) (V I : fb_V) (r e na : Nat) (hL : LsAt S r e na) (n i x : Nat) (hi : i < n) (hn : n ≤ na) (hna : na < 2 ^ 31) (hx_ : PA S e i x) (hz : I r 2 = nI n) : CR D y l yJx4a65c_get_915e3 wsJx4a65c_get_915e3 rm_Jx4a65c_get_915e3 [.ref (sa S r), .int (nI i)] (S, V, (sT V), I) (fun a u => a = sa S x ∧ u = (S, V, sT V, I)) 0 0 := by
  refine CR.of (cc := cJx4a65c_get_915e3) (maxL := 2) (ret := (some (.object "java/lang/Object"))) (by decide) rfl (Nat.le_of_ble_eq_true rfl) ?_
  intro pv ev s mv below meth cv A hx hb hml hr hown hts hlocks hname hM ls hl
  have hown : s.vm.findClass RJx4a65c = some mv.cls := hown
  have hl : lv_has ls 2 [(0, .ref (sa S r)), (1, .int (nI i))] := hl
  have hin5 : ∀ x ∈ wsJx4a65c0, x ∈ wsJx4a65c_get_915e3 := by decide +kernel
  obtain ⟨Q, hQ⟩ : ∃ Q, Q = MQ below (va_Qr (fun _ : fb_W => True) (fun u a t9 => (fun a u => a = sa S x ∧ u = (S, V, sT V, I)) a u ∧ fb_P D y A u t9) A) (([.ref (sa S r), .int (nI i)] : List Value).toArray) s 0 0 A := ⟨_, rfl⟩
  rw [← hQ]
  refine lv_iload_n hx hb dJx4a65c_get_915e3_0 rfl (lv_at hl 1 rfl) ?_
  refine lv_aload_n hx hb dJx4a65c_get_915e3_1 rfl (lv_at hl 0 rfl) ?_
  refine fb_get (r := r) hx hb hown hts hin5 hM (hL.1.1) (ce5 (hL.1.2)) rfl 2 (by decide) (hts (.fieldLink RJx4a65c 48 "java/util/ArrayList" "size" "I") (by decide +kernel)) (fun _ h9 => h9) (v := .int (nI n)) (congrArg (fun z => some (Value.int z)) (hz)) dJx4a65c_get_915e3_2 ?_
  refine fb_callSi hx hb hml hown hts hM (As := [.int (nI i), .int (nI n)]) (rest := []) (c_J15_checkIndex_7cf53 D y l S V I i n hi (by omega)) (va_cwS 2 hts gJx4a65c_get_915e3_J15_checkIndex_7cf53 rfl rfl rfl (by decide +kernel) ⟨Nat.le_of_ble_eq_true rfl, Nat.le_of_ble_eq_true rfl⟩) rfl hl.1 rfl (Nat.le_of_ble_eq_true rfl) dJx4a65c_get_915e3_5 ⟨Nat.le_of_ble_eq_true rfl, Nat.le_of_ble_eq_true rfl⟩ (fun v_1 u H locs hp hM => ?_)
  obtain ⟨hv_, hu_⟩ := hp
  have hv_ := Eq.symm hv_
  have hu_ := Eq.symm hu_
  subst hv_
  subst hu_
  refine lv_pop hx hb dJx4a65c_get_915e3_8 rfl ?_
  refine lv_aload_n hx hb dJx4a65c_get_915e3_9 rfl (lv_at hl 0 rfl) ?_
  refine lv_iload_n hx hb dJx4a65c_get_915e3_10 rfl (lv_at hl 1 rfl) ?_
  refine fb_callVr (r := r) hx hb hml hown hts hM (hL.1.1) (ce5 (hL.1.2)) rfl (As := [.int (nI i)]) (rest := []) (c_Jx4a65c_elementData_915e3 D y l S V I r e na hL i x (by omega) hna hx_) (cwV 1 hts gJx4a65c_get_915e3_Jx4a65c_elementData_915e3 rfl rfl rfl (by decide +kernel) ⟨Nat.le_of_ble_eq_true rfl, Nat.le_of_ble_eq_true rfl⟩) rfl hl.1 rfl (Nat.le_of_ble_eq_true rfl) dJx4a65c_get_915e3_11 ⟨Nat.le_of_ble_eq_true rfl, Nat.le_of_ble_eq_true rfl⟩ (fun v_2 u H locs hp hM => ?_)
  obtain ⟨hv_, hu_⟩ := hp
  have hv_ := Eq.symm hv_
  have hu_ := Eq.symm hu_
  subst hv_
  subst hu_
  rw [hQ]
  exact fb_aret hx hb hr (Or.inl ⟨_, rfl⟩) hlocks hM (⟨rfl, rfl⟩) dJx4a65c_get_915e3_14

abbrev rm_Jxa1e45_init_da8c8 : Room := { frames := 1, cells := 0, slots := 0, locals := 20 }
set_option maxHeartbeats 4000000 in
set_option maxRecDepth 100000 in
theorem c_Jxa1e45_init_da8c8 (D : va_G) (y : Nat → ClassId) (l : Launch) (S : fb_Sh) (V I : fb_V) (a : Nat) : CV D y l yJxa1e45_init_da8c8 wsJxa1e45_init_da8c8 rm_Jxa1e45_init_da8c8 [.ref a] (S, V, (sT V), I) (fun u => u = (S, V, sT V, I)) 0 0 := by
  refine CV.of (cc := cJxa1e45_init_da8c8) (maxL := 1) (ret := none) (by decide) rfl (Nat.le_of_ble_eq_true rfl) ?_
  intro pv ev s mv below meth cv A hx hb hml hr hown hts hlocks hname hM ls hl
  have hown : s.vm.findClass RJxa1e45 = some mv.cls := hown
  have hl : lv_has ls 1 [(0, .ref a)] := hl
  obtain ⟨Q, hQ⟩ : ∃ Q, Q = MQ below (va_Qv (fun u => u = (S, V, sT V, I)) (fun u t => fb_P D y A u t) A) (([.ref a] : List Value).toArray) s 0 0 A := ⟨_, rfl⟩
  rw [← hQ]
  refine lv_aload_n hx hb dJxa1e45_init_da8c8_0 rfl (lv_at hl 0 rfl) ?_
  refine W.objInit hx hb hown (hts (.methodLink RJxa1e45 1 objectInit) (by decide +kernel)) (hts (.instanceMethod objectInit) (by decide +kernel)) (hts (.code objectInit ⟨#[0xb1]⟩ 1 none) (by decide +kernel)) rfl (by rw [hml]; exact hl.1) rfl dJxa1e45_init_da8c8_1 (Nat.le_of_ble_eq_true rfl) (Nat.le_of_ble_eq_true rfl) ?_
  refine W.eq (g2 := F0 mv 4 ls []) rfl ?_
  rw [hQ]
  exact fb_vret hx hb hr hlocks hM (rfl) dJxa1e45_init_da8c8_4

abbrev rm_Jxc12de_init_da8c8 : Room := { frames := 2, cells := 0, slots := 0, locals := 40 }
set_option maxHeartbeats 4000000 in
set_option maxRecDepth 100000 in
theorem c_Jxc12de_init_da8c8 (D : va_G) (y : Nat → ClassId) (l : Launch) (S : fb_Sh) (V I : fb_V) (r : Nat) (h1 : r ∈ sR S) (h2 : sk S r = 5) : CV D y l yJxc12de_init_da8c8 wsJxc12de_init_da8c8 rm_Jxc12de_init_da8c8 [.ref (sa S r)] (S, V, (sT V), I) (fun u => u = (S, V, sT V, va_up I r (upd (I r) 0 0))) 0 0 := by
  refine CV.of (cc := cJxc12de_init_da8c8) (maxL := 1) (ret := none) (by decide) rfl (Nat.le_of_ble_eq_true rfl) ?_
  intro pv ev s mv below meth cv A hx hb hml hr hown hts hlocks hname hM ls hl
  have hown : s.vm.findClass RJxc12de = some mv.cls := hown
  have hl : lv_has ls 1 [(0, .ref (sa S r))] := hl
  have hin5 : ∀ x ∈ wsJx4a65c0, x ∈ wsJxc12de_init_da8c8 := by decide +kernel
  obtain ⟨Q, hQ⟩ : ∃ Q, Q = MQ below (va_Qv (fun u => u = (S, V, sT V, va_up I r (upd (I r) 0 0))) (fun u t => fb_P D y A u t) A) (([.ref (sa S r)] : List Value).toArray) s 0 0 A := ⟨_, rfl⟩
  rw [← hQ]
  refine lv_aload_n hx hb dJxc12de_init_da8c8_0 rfl (lv_at hl 0 rfl) ?_
  refine fb_callIv hx hb hml hown hts hM (As := []) (rest := []) (c_Jxa1e45_init_da8c8 D y l S V I (sa S r)) (cwI 0 hts gJxc12de_init_da8c8_Jxa1e45_init_da8c8 rfl rfl rfl (hts (.initialized RJxa1e45) (by decide +kernel)) (hts (.methodLink RJxc12de 1 yJxa1e45_init_da8c8) (by decide +kernel)) (hts (.instanceMethod yJxa1e45_init_da8c8) (by decide +kernel)) rfl (by decide +kernel) ⟨Nat.le_of_ble_eq_true rfl, Nat.le_of_ble_eq_true rfl⟩) rfl hl.1 rfl (Nat.le_of_ble_eq_true rfl) dJxc12de_init_da8c8_1 ⟨Nat.le_of_ble_eq_true rfl, Nat.le_of_ble_eq_true rfl⟩ (fun u H locs hp hM => ?_)
  have hp := Eq.symm hp
  subst hp
  refine lv_aload_n hx hb dJxc12de_init_da8c8_4 rfl (lv_at hl 0 rfl) ?_
  refine lv_iconst (v := 0) hx hb dJxc12de_init_da8c8_5 (by decide) ?_
  refine fb_put5 hx hb hown hts hin5 hM (r := r) (h1) (h2) (hts (.fieldLink RJxc12de 7 "java/util/AbstractList" "modCount" "I") (by decide +kernel)) (fun _ h => h) dJxc12de_init_da8c8_6 (fun H locs hM => ?_)
  rw [hQ]
  exact fb_vret hx hb hr hlocks hM (rfl) dJxc12de_init_da8c8_9

abbrev rm_Jx4a65c_init_da8c8 : Room := { frames := 3, cells := 0, slots := 0, locals := 60 }
set_option maxHeartbeats 4000000 in
set_option maxRecDepth 100000 in
theorem c_Jx4a65c_init_da8c8 (a0 : Nat × Nat) (D : va_G) (y : Nat → ClassId) (l : Launch) (S : fb_Sh) (V I : fb_V) (r : Nat) (h1 : r ∈ sR S) (h2 : sk S r = 5) : CVE a0 D y l yJx4a65c_init_da8c8 wsJx4a65c_init_da8c8 rm_Jx4a65c_init_da8c8 [.ref (sa S r)] (S, V, (sT V), I) (fun u => u = (fb_setp S r 1 (some a0.1), V, sT V, (va_up I r (upd (I r) 0 0)))) 0 0 := by
  refine CVE.of (cc := cJx4a65c_init_da8c8) (maxL := 1) (ret := none) (by decide) rfl (Nat.le_of_ble_eq_true rfl) ?_
  intro pv ev s mv below meth cv A hx hb hml hr hown hts hlocks hname hM hE ls hl
  have hown : s.vm.findClass RJx4a65c = some mv.cls := hown
  have hl : lv_has ls 1 [(0, .ref (sa S r))] := hl
  have hin5 : ∀ x ∈ wsJx4a65c0, x ∈ wsJx4a65c_init_da8c8 := by decide +kernel
  obtain ⟨Q, hQ⟩ : ∃ Q, Q = MQ below (va_Qv (fun u => u = (fb_setp S r 1 (some a0.1), V, sT V, (va_up I r (upd (I r) 0 0)))) (fun u t => fb_P D y A u t) A) (([.ref (sa S r)] : List Value).toArray) s 0 0 A := ⟨_, rfl⟩
  rw [← hQ]
  refine lv_aload_n hx hb dJx4a65c_init_da8c8_0 rfl (lv_at hl 0 rfl) ?_
  refine fb_callIv hx hb hml hown hts hM (As := []) (rest := []) (c_Jxc12de_init_da8c8 D y l S V I r h1 h2) (cwI 0 hts gJx4a65c_init_da8c8_Jxc12de_init_da8c8 rfl rfl rfl (hts (.initialized RJxc12de) (by decide +kernel)) (hts (.methodLink RJx4a65c 1 yJxc12de_init_da8c8) (by decide +kernel)) (hts (.instanceMethod yJxc12de_init_da8c8) (by decide +kernel)) rfl (by decide +kernel) ⟨Nat.le_of_ble_eq_true rfl, Nat.le_of_ble_eq_true rfl⟩) rfl hl.1 rfl (Nat.le_of_ble_eq_true rfl) dJx4a65c_init_da8c8_1 ⟨Nat.le_of_ble_eq_true rfl, Nat.le_of_ble_eq_true rfl⟩ (fun u H locs hp hM => ?_)
  have hp := Eq.symm hp
  subst hp
  refine lv_aload_n hx hb dJx4a65c_init_da8c8_4 rfl (lv_at hl 0 rfl) ?_
  refine fb_geta0 hx hb hown (hts (.fieldLink RJx4a65c 39 "java/util/ArrayList" "DEFAULTCAPACITY_EMPTY_ELEMENTDATA" "[Ljava/lang/Object;") (by decide +kernel)) hM hE dJx4a65c_init_da8c8_5 ?_
  refine fb_put (r := r) hx hb hown hts hin5 tyJx4a65c tyJx4a65c_ok nmJx4a65c hM (h1) (ce5 (h2)) rfl 1 (by decide) (hts (.fieldLink RJx4a65c 9 "java/util/ArrayList" "elementData" "[Ljava/lang/Object;") (by decide +kernel)) (fun _ h9 => h9) rfl (ty := tyJx4a65c 1) (by decide +kernel) rfl rfl (Nat.le_of_ble_eq_true rfl) dJx4a65c_init_da8c8_8 (upk_5_1 (v := some a0.1) (h2)) (w' := ((fb_setp S r 1 (some a0.1)), V, (sT V), (va_up I r (upd (I r) 0 0)))) ⟨rfl, rfl, rfl⟩ (fun H locs hM => ?_)
  rw [hQ]
  exact fb_vret hx hb hr hlocks hM (rfl) dJx4a65c_init_da8c8_11

abbrev rm_J8_newLength_cabcc : Room := { frames := 1, cells := 0, slots := 0, locals := 24 }
set_option maxHeartbeats 4000000 in
set_option maxRecDepth 100000 in
theorem c_J8_newLength_cabcc (D : va_G) (y : Nat → ClassId) (l : Launch) (S : fb_Sh) (V I : fb_V)  : CI D y l yJ8_newLength_cabcc wsJ8_newLength_cabcc rm_J8_newLength_cabcc [.int 10, .int 1, .int 5] (S, V, (sT V), I) (fun z u => z = 15 ∧ u = (S, V, sT V, I)) 0 0 := by
  refine CI.of (cc := cJ8_newLength_cabcc) (maxL := 4) (ret := (some .int)) (by decide) rfl (Nat.le_of_ble_eq_true rfl) ?_
  intro pv ev s mv below meth cv A hx hb hml hr hown hts hlocks hname hM ls hl
  have hown : s.vm.findClass RJ8 = some mv.cls := hown
  have hl : lv_has ls 4 [(0, .int 10), (1, .int 1), (2, .int 5)] := hl
  obtain ⟨Q, hQ⟩ : ∃ Q, Q = MQ below (va_Qi (fun z u => z = 15 ∧ u = (S, V, sT V, I)) (fun u t => fb_P D y A u t) A) (([.int 10, .int 1, .int 5] : List Value).toArray) s 0 0 A := ⟨_, rfl⟩
  rw [← hQ]
  refine lv_iload_n hx hb dJ8_newLength_cabcc_0 rfl (lv_at hl 0 rfl) ?_
  refine lv_iload_n hx hb dJ8_newLength_cabcc_1 rfl (lv_at hl 1 rfl) ?_
  refine lv_iload_n hx hb dJ8_newLength_cabcc_2 rfl (lv_at hl 2 rfl) ?_
  refine va_mmax hx hb (hml.trans hl.1.symm) hown (hts (.methodLink RJ8 194 Lib.Math.max.name) (by decide +kernel)) (hts (.static Lib.Math.max.name) (by decide +kernel)) (hts (.initialized "java/lang/Math") (by decide +kernel)) (hts (.code Lib.Math.max.name Lib.Math.max.code 2 (some .int)) (by decide +kernel)) (Nat.le_of_ble_eq_true rfl) (Nat.le_of_ble_eq_true rfl) (Nat.le_of_ble_eq_true rfl) (Nat.le_of_ble_eq_true rfl) dJ8_newLength_cabcc_3 ?_
  refine lv_iadd hx hb dJ8_newLength_cabcc_6 ?_
  refine W.eq (g2 := F0 mv _ ls (.int (15) :: [])) (by first | rfl | rw [show (10 + (if 1 < 5 then 5 else 1) : Int32) = 15 from by decide]) ?_
  refine lv_istore_n (lv' := [(3, .int 15), (0, .int 10), (1, .int 1), (2, .int 5)]) hx hb dJ8_newLength_cabcc_7 rfl hl (by decide) rfl (fun ls hl => ?_)
  refine lv_iconst (v := 0) hx hb dJ8_newLength_cabcc_8 (by decide) ?_
  refine lv_iload_n hx hb dJ8_newLength_cabcc_9 rfl (lv_at hl 0 rfl) ?_
  refine lv_icmp_ge (tgt := 21) hx hb dJ8_newLength_cabcc_10 (by decide) (fun c_1 => absurd c_1 (by decide)) (fun c_1 => ?_)
  refine lv_iload_n hx hb dJ8_newLength_cabcc_13 rfl (lv_at hl 0 rfl) ?_
  refine lv_ldc (v := 2147483639) hx hb hown (hts (.constant RJ8 200 2147483639) (by decide +kernel)) dJ8_newLength_cabcc_14 ?_
  refine lv_icmp_gt (tgt := 21) hx hb dJ8_newLength_cabcc_16 (by decide) (fun c_2 => absurd c_2 (by decide)) (fun c_2 => ?_)
  refine lv_iload_n hx hb dJ8_newLength_cabcc_19 rfl (lv_at hl 0 rfl) ?_
  rw [hQ]
  exact fb_iret hx hb hr hlocks hM (⟨rfl, rfl⟩) dJ8_newLength_cabcc_20

abbrev rm_J7_copyOf_6403c : Room := { frames := 1, cells := 1, slots := 15, locals := 60 }
set_option maxHeartbeats 4000000 in
set_option maxRecDepth 100000 in
theorem c_J7_copyOf_6403c (a0 : Nat × Nat) (D : va_G) (y : Nat → ClassId) (l : Launch) (S : fb_Sh) (V I : fb_V) (e e2 : Nat) (hR : RA S e 9 10) (he2 : e2 ∉ sR S) (hel : ∀ i, i < 10 → ∃ x, x ∈ sR S ∧ sk S x = 1 ∧ sp S e i = some (sa S x)) : CRE a0 D y l yJ7_copyOf_6403c wsJ7_copyOf_6403c rm_J7_copyOf_6403c [.ref (sa S e), .int 15, .ref a0.2] (S, V, (sT V), I) (fun a u => ∃ q, a = q ∧ u = ((fb_setps (fb_new S e2 q 9 15) e2 (va_cpy (sp S e) (fun _ => none) 0 0 10)), V, sT V, I)) 1 15 := by
  refine CRE.of (cc := cJ7_copyOf_6403c) (maxL := 4) (ret := (some (.array (.object "java/lang/Object")))) (by decide) rfl (Nat.le_of_ble_eq_true rfl) ?_
  intro pv ev s mv below meth cv A hx hb hml hr hown hts hlocks hname hM hE ls hl
  have hown : s.vm.findClass RJ7 = some mv.cls := hown
  have hl : lv_has ls 4 [(0, .ref (sa S e)), (1, .int 15), (2, .ref a0.2)] := hl
  obtain ⟨Q, hQ⟩ : ∃ Q, Q = MQ below (va_Qr (fun _ : fb_W => True) (fun u a t9 => (fun a u => ∃ q, a = q ∧ u = ((fb_setps (fb_new S e2 q 9 15) e2 (va_cpy (sp S e) (fun _ => none) 0 0 10)), V, sT V, I)) a u ∧ fb_P D y A u t9) A) (([.ref (sa S e), .int 15, .ref a0.2] : List Value).toArray) s 1 15 A := ⟨_, rfl⟩
  rw [← hQ]
  refine lv_aload_n hx hb dJ7_copyOf_6403c_0 rfl (lv_at hl 2 rfl) ?_
  refine va_ldcM hx hb hown (hts (.classLink RJ7 110 "[Ljava/lang/Object;") (by decide +kernel)) hE.1.2.2.2.2.1 dJ7_copyOf_6403c_1 ?_
  refine lv_acmp_ne (rx := some a0.2) (ry := some a0.2) (tgt := 13) hx hb dJ7_copyOf_6403c_3 (by decide) (fun h => absurd rfl h) (fun _ => ?_)
  refine lv_iload_n hx hb dJ7_copyOf_6403c_6 rfl (lv_at hl 1 rfl) ?_
  refine fb_mka9 hx hb hown (hts (.classLink RJ7 2 "java/lang/Object") (by decide +kernel)) hM (n := 15) (by decide) (by decide) (Nat.le_of_ble_eq_true rfl) (Nat.le_of_ble_eq_true rfl) (Nat.le_of_ble_eq_true rfl) dJ7_copyOf_6403c_7 e2 he2 (fun q H hM => ?_)
  have e1 : Ext (fun x => x = e2) S (fb_new S e2 q 9 15) := Ext.new _ _ _ _ rfl
  have f1 := RA.new S e2 q 9 15
  have f2 := nw_a S e2 q 9 15
  have f3 := nw_p S e2 q 9 15
  obtain ⟨S1, eS1⟩ : ∃ S1, S1 = fb_new S e2 q 9 15 := ⟨_, rfl⟩
  rw [← eS1] at hM
  rw [← eS1] at e1 f1 f2 f3
  have ne : e ≠ e2 := ne_in hR.1 he2
  have k1 : sa S1 e = sa S e := AA.ext e1 ne
  have hR1 := hR.ext e1 ne
  have hp1 : sp S1 e = sp S e := (e1 e ne).2.2.2.2
  refine W.eq (g2 := F0 mv 10 ls [.ref (sa S1 e2)]) (by rw [f2]) ?_
  rw [← k1] at hl
  refine lv_goto (tgt := 24) hx hb dJ7_copyOf_6403c_10 (by decide) ?_
  refine lv_astore_n (lv' := [(3, .ref (sa S1 e2)), (0, .ref (sa S1 e)), (1, .int 15), (2, .ref a0.2)]) hx hb dJ7_copyOf_6403c_24 rfl hl (by decide) rfl (fun ls hl => ?_)
  refine lv_aload_n hx hb dJ7_copyOf_6403c_25 rfl (lv_at hl 1 rfl) ?_
  refine lv_iconst (v := 0) hx hb dJ7_copyOf_6403c_26 (by decide) ?_
  refine lv_aload_n hx hb dJ7_copyOf_6403c_27 rfl (lv_at hl 0 rfl) ?_
  refine lv_iconst (v := 0) hx hb dJ7_copyOf_6403c_28 (by decide) ?_
  refine lv_aload_n hx hb dJ7_copyOf_6403c_29 rfl (lv_at hl 1 rfl) ?_
  refine fb_alen (r := e) hx hb hM (hR1.1) (ce9 (hR1.2.1)) 3 rfl (v := nI 10) (congrArg Int32.ofNat (hR1.2.2)) dJ7_copyOf_6403c_30 ?_
  refine lv_iload_n hx hb dJ7_copyOf_6403c_31 rfl (lv_at hl 2 rfl) ?_
  refine va_mmin hx hb (hml.trans hl.1.symm) hown (hts (.methodLink RJ7 304 Lib.Math.min.name) (by decide +kernel)) (hts (.static Lib.Math.min.name) (by decide +kernel)) (hts (.initialized "java/lang/Math") (by decide +kernel)) (hts (.code Lib.Math.min.name Lib.Math.min.code 2 (some .int)) (by decide +kernel)) (Nat.le_of_ble_eq_true rfl) (Nat.le_of_ble_eq_true rfl) (Nat.le_of_ble_eq_true rfl) (Nat.le_of_ble_eq_true rfl) dJ7_copyOf_6403c_32 ?_
  refine W.eq (g2 := F0 mv _ ls (.int (10) :: .int 0 :: .ref (sa S1 e2) :: .int 0 :: .ref (sa S1 e) :: [])) (by first | rfl | rw [show (if 15 < nI 10 then 15 else nI 10 : Int32) = 10 from by decide]) ?_
  refine fb_copyq hx hb (hml.trans hl.1.symm) hown (hts (.methodLink RJ7 150 arraycopyName) (by decide +kernel)) (hts (.native arraycopyName) (by decide +kernel)) (hts (.static arraycopyName) (by decide +kernel)) (hts (.initialized "java/lang/System") (by decide +kernel)) hM hE hR1 f1 (n := 10) (by decide) (by decide) (fun i hi => by obtain ⟨x, x1, x2, x3⟩ := hel i hi; exact ⟨x, (e1 x (ne_in x1 he2)).1.mpr x1, (e1 x (ne_in x1 he2)).2.2.1.trans x2, by rw [hp1, x3, AA.ext e1 (ne_in x1 he2)]⟩) (by decide) (by decide) (Nat.le_of_ble_eq_true rfl) (Nat.le_of_ble_eq_true rfl) dJ7_copyOf_6403c_35 (fun H locs hM => ?_)
  refine lv_aload_n hx hb dJ7_copyOf_6403c_38 rfl (lv_at hl 0 rfl) ?_
  rw [hQ]
  refine W.widen (show _ ≤ 1 from Nat.le_of_ble_eq_true rfl) (show _ ≤ 15 from Nat.le_of_ble_eq_true rfl) ?_
  exact fb_aret hx hb hr (Or.inr ⟨_, rfl⟩) hlocks hM (⟨q, f2, by rw [hp1, f3, eS1]⟩) dJ7_copyOf_6403c_39

abbrev rm_J7_copyOf_1904c : Room := { frames := 2, cells := 1, slots := 15, locals := 83 }
set_option maxHeartbeats 4000000 in
set_option maxRecDepth 100000 in
theorem c_J7_copyOf_1904c (a0 : Nat × Nat) (D : va_G) (y : Nat → ClassId) (l : Launch) (S : fb_Sh) (V I : fb_V) (e e2 : Nat) (hR : RA S e 9 10) (he2 : e2 ∉ sR S) (hel : ∀ i, i < 10 → ∃ x, x ∈ sR S ∧ sk S x = 1 ∧ sp S e i = some (sa S x)) : CRE a0 D y l yJ7_copyOf_1904c wsJ7_copyOf_1904c rm_J7_copyOf_1904c [.ref (sa S e), .int 15] (S, V, (sT V), I) (fun a u => ∃ q, a = q ∧ u = ((fb_setps (fb_new S e2 q 9 15) e2 (va_cpy (sp S e) (fun _ => none) 0 0 10)), V, sT V, I)) 1 15 := by
  refine CRE.of (cc := cJ7_copyOf_1904c) (maxL := 2) (ret := (some (.array (.object "java/lang/Object")))) (by decide) rfl (Nat.le_of_ble_eq_true rfl) ?_
  intro pv ev s mv below meth cv A hx hb hml hr hown hts hlocks hname hM hE ls hl
  have hown : s.vm.findClass RJ7 = some mv.cls := hown
  have hl : lv_has ls 2 [(0, .ref (sa S e)), (1, .int 15)] := hl
  obtain ⟨Q, hQ⟩ : ∃ Q, Q = MQ below (va_Qr (fun _ : fb_W => True) (fun u a t9 => (fun a u => ∃ q, a = q ∧ u = ((fb_setps (fb_new S e2 q 9 15) e2 (va_cpy (sp S e) (fun _ => none) 0 0 10)), V, sT V, I)) a u ∧ fb_P D y A u t9) A) (([.ref (sa S e), .int 15] : List Value).toArray) s 1 15 A := ⟨_, rfl⟩
  rw [← hQ]
  refine lv_aload_n hx hb dJ7_copyOf_1904c_0 rfl (lv_at hl 0 rfl) ?_
  refine lv_iload_n hx hb dJ7_copyOf_1904c_1 rfl (lv_at hl 1 rfl) ?_
  refine lv_aload_n hx hb dJ7_copyOf_1904c_2 rfl (lv_at hl 0 rfl) ?_
  refine va_getC (C := "[Ljava/lang/Object;") hx hb (hml.trans hl.1.symm) hown (hts (.methodLink RJ7 86 ⟨"java/lang/Object", "getClass", "()Ljava/lang/Class;"⟩) (by decide +kernel)) (va_Dc.use hE.1.2.2.2.2.2.1) (hts (.selects "[Ljava/lang/Object;" ⟨"java/lang/Object", "getClass", "()Ljava/lang/Class;"⟩ ⟨"java/lang/Object", "getClass", "()Ljava/lang/Class;"⟩) (by decide +kernel)) (hts (.instanceMethod ⟨"java/lang/Object", "getClass", "()Ljava/lang/Class;"⟩) (by decide +kernel)) (hts (.native ⟨"java/lang/Object", "getClass", "()Ljava/lang/Class;"⟩) (by decide +kernel)) hE.1.2.2.2.2.1 (fb_clsO hM hR) (Nat.le_of_ble_eq_true rfl) (Nat.le_of_ble_eq_true rfl) dJ7_copyOf_1904c_3 ?_
  refine fb_callESr hx hb hml hown hts hM hE (As := [.ref (sa S e), .int 15, .ref a0.2]) (rest := []) (c_J7_copyOf_6403c a0 D y l S V I e e2 hR he2 hel) (va_cwS 3 hts gJ7_copyOf_1904c_J7_copyOf_6403c rfl rfl rfl (by decide +kernel) ⟨Nat.le_of_ble_eq_true rfl, Nat.le_of_ble_eq_true rfl⟩) rfl hl.1 rfl (Nat.le_of_ble_eq_true rfl) dJ7_copyOf_1904c_6 ⟨Nat.le_of_ble_eq_true rfl, Nat.le_of_ble_eq_true rfl⟩ (fun v_1 u H locs hp hM => ?_)
  obtain ⟨q, hv_, hu_⟩ := hp
  have hu_ := Eq.symm hu_
  have hv_ := Eq.symm hv_
  subst hu_
  subst hv_
  rw [hQ]
  refine W.widen (show _ ≤ 1 from Nat.le_of_ble_eq_true rfl) (show _ ≤ 15 from Nat.le_of_ble_eq_true rfl) ?_
  exact fb_aret hx hb hr (Or.inr ⟨_, rfl⟩) hlocks hM (⟨q, rfl, rfl⟩) dJ7_copyOf_1904c_9

abbrev rm_Jx4a65c_grow_92f84 : Room := { frames := 3, cells := 1, slots := 15, locals := 104 }
set_option maxHeartbeats 4000000 in
set_option maxRecDepth 100000 in
theorem c_Jx4a65c_grow_92f84_0 (a0 : Nat × Nat) (D : va_G) (y : Nat → ClassId) (l : Launch) (S : fb_Sh) (V I : fb_V) (r e : Nat) (h1 : r ∈ sR S) (h2 : sk S r = 5) (hp : sp S r 1 = some a0.1) (he : e ∉ sR S) : CRE a0 D y l yJx4a65c_grow_92f84 wsJx4a65c_grow_92f84 rm_Jx4a65c_grow_92f84 [.ref (sa S r), .int 1] (S, V, (sT V), I) (fun a u => ∃ q, a = q ∧ u = ((fb_setp (fb_new S e q 9 10) r 1 (some q)), V, sT V, I)) 1 15 := by
  refine CRE.of (cc := cJx4a65c_grow_92f84) (maxL := 4) (ret := (some (.array (.object "java/lang/Object")))) (by decide) rfl (Nat.le_of_ble_eq_true rfl) ?_
  intro pv ev s mv below meth cv A hx hb hml hr hown hts hlocks hname hM hE ls hl
  have hown : s.vm.findClass RJx4a65c = some mv.cls := hown
  have hl : lv_has ls 4 [(0, .ref (sa S r)), (1, .int 1)] := hl
  have hin5 : ∀ x ∈ wsJx4a65c0, x ∈ wsJx4a65c_grow_92f84 := by decide +kernel
  obtain ⟨Q, hQ⟩ : ∃ Q, Q = MQ below (va_Qr (fun _ : fb_W => True) (fun u a t9 => (fun a u => ∃ q, a = q ∧ u = ((fb_setp (fb_new S e q 9 10) r 1 (some q)), V, sT V, I)) a u ∧ fb_P D y A u t9) A) (([.ref (sa S r), .int 1] : List Value).toArray) s 1 15 A := ⟨_, rfl⟩
  rw [← hQ]
  refine lv_aload_n hx hb dJx4a65c_grow_92f84_0 rfl (lv_at hl 0 rfl) ?_
  refine fb_get (r := r) hx hb hown hts hin5 hM (h1) (ce5 (h2)) rfl 1 (by decide) (hts (.fieldLink RJx4a65c 9 "java/util/ArrayList" "elementData" "[Ljava/lang/Object;") (by decide +kernel)) (fun _ h9 => h9) (v := .ref a0.1) (congrArg (fun z => some (va_rf z)) (hp)) dJx4a65c_grow_92f84_1 ?_
  refine fb_lena0 hx hb hM hE dJx4a65c_grow_92f84_4 ?_
  refine lv_istore_n (lv' := [(2, .int 0), (0, .ref (sa S r)), (1, .int 1)]) hx hb dJx4a65c_grow_92f84_5 rfl hl (by decide) rfl (fun ls hl => ?_)
  refine lv_iload_n hx hb dJx4a65c_grow_92f84_6 rfl (lv_at hl 0 rfl) ?_
  refine lv_if_gt (tgt := 20) hx hb dJx4a65c_grow_92f84_7 (by decide) (fun c_1 => absurd c_1 (by decide)) (fun c_1 => ?_)
  refine lv_aload_n hx hb dJx4a65c_grow_92f84_10 rfl (lv_at hl 1 rfl) ?_
  refine fb_get (r := r) hx hb hown hts hin5 hM (h1) (ce5 (h2)) rfl 1 (by decide) (hts (.fieldLink RJx4a65c 9 "java/util/ArrayList" "elementData" "[Ljava/lang/Object;") (by decide +kernel)) (fun _ h9 => h9) (v := .ref a0.1) (congrArg (fun z => some (va_rf z)) (hp)) dJx4a65c_grow_92f84_11 ?_
  refine fb_geta0 hx hb hown (hts (.fieldLink RJx4a65c 39 "java/util/ArrayList" "DEFAULTCAPACITY_EMPTY_ELEMENTDATA" "[Ljava/lang/Object;") (by decide +kernel)) hM hE dJx4a65c_grow_92f84_14 ?_
  refine lv_acmp_eq (rx := some a0.1) (ry := some a0.1) (tgt := 45) hx hb dJx4a65c_grow_92f84_17 (by decide) (fun _ => ?_) (fun h => absurd rfl h)
  refine lv_aload_n hx hb dJx4a65c_grow_92f84_45 rfl (lv_at hl 1 rfl) ?_
  refine lv_bipush (v := 10) hx hb dJx4a65c_grow_92f84_46 (by decide) ?_
  refine lv_iload_n hx hb dJx4a65c_grow_92f84_48 rfl (lv_at hl 2 rfl) ?_
  refine va_mmax hx hb (hml.trans hl.1.symm) hown (hts (.methodLink RJx4a65c 79 Lib.Math.max.name) (by decide +kernel)) (hts (.static Lib.Math.max.name) (by decide +kernel)) (hts (.initialized "java/lang/Math") (by decide +kernel)) (hts (.code Lib.Math.max.name Lib.Math.max.code 2 (some .int)) (by decide +kernel)) (Nat.le_of_ble_eq_true rfl) (Nat.le_of_ble_eq_true rfl) (Nat.le_of_ble_eq_true rfl) (Nat.le_of_ble_eq_true rfl) dJx4a65c_grow_92f84_49 ?_
  refine W.eq (g2 := F0 mv _ ls (.int (10) :: .ref (sa S r) :: [])) (by first | rfl | rw [show (if 10 < 1 then 1 else 10 : Int32) = 10 from by decide]) ?_
  refine fb_mka9 hx hb hown (hts (.classLink RJx4a65c 7 "java/lang/Object") (by decide +kernel)) hM (n := 10) (by decide) (by decide) (Nat.le_of_ble_eq_true rfl) (Nat.le_of_ble_eq_true rfl) (Nat.le_of_ble_eq_true rfl) dJx4a65c_grow_92f84_52 e he (fun q H hM => ?_)
  have ne : r ≠ e := ne_in h1 he
  obtain ⟨r1, r2, r3⟩ := RA.ext (r := r) (k := 5) (n := sn S r) (Ext.new (P := fun x => x = e) S q 9 10 rfl) ne ⟨h1, h2, rfl⟩
  refine W.eq (g2 := F0 mv 55 ls [.ref q, .ref (sa (fb_new S e q 9 10) r)]) (by rw [nw_ane S q 9 10 ne]) ?_
  refine lv_dup_x1 hx hb dJx4a65c_grow_92f84_55 rfl rfl ?_
  refine fb_put (r := r) hx hb hown hts hin5 tyJx4a65c tyJx4a65c_ok nmJx4a65c hM (r1) (ce5 (r2)) rfl 1 (by decide) (hts (.fieldLink RJx4a65c 9 "java/util/ArrayList" "elementData" "[Ljava/lang/Object;") (by decide +kernel)) (fun _ h9 => h9) rfl (ty := tyJx4a65c 1) (by decide +kernel) rfl rfl (Nat.le_of_ble_eq_true rfl) dJx4a65c_grow_92f84_56 (upk_5_1 (v := some q) (r2)) (w' := ((fb_setp (fb_new S e q 9 10) r 1 (some q)), V, (sT V), I)) ⟨rfl, rfl, rfl⟩ (fun H locs hM => ?_)
  rw [hQ]
  refine W.widen (show _ ≤ 1 from Nat.le_of_ble_eq_true rfl) (show _ ≤ 15 from Nat.le_of_ble_eq_true rfl) ?_
  exact fb_aret hx hb hr (Or.inr ⟨_, rfl⟩) hlocks hM (⟨q, rfl, rfl⟩) dJx4a65c_grow_92f84_59

set_option maxHeartbeats 4000000 in
set_option maxRecDepth 100000 in
theorem c_Jx4a65c_grow_92f84_g (a0 : Nat × Nat) (D : va_G) (y : Nat → ClassId) (l : Launch) (S : fb_Sh) (V I : fb_V) (r e e2 : Nat) (hL : LsAt S r e 10) (he2 : e2 ∉ sR S) (hel : ∀ i, i < 10 → ∃ x, x ∈ sR S ∧ sk S x = 1 ∧ sp S e i = some (sa S x)) : CRE a0 D y l yJx4a65c_grow_92f84 wsJx4a65c_grow_92f84 rm_Jx4a65c_grow_92f84 [.ref (sa S r), .int 11] (S, V, (sT V), I) (fun a u => ∃ q, a = q ∧ u = ((fb_setp (fb_setps (fb_new S e2 q 9 15) e2 (va_cpy (sp S e) (fun _ => none) 0 0 10)) r 1 (some q)), V, sT V, I)) 1 15 := by
  refine CRE.of (cc := cJx4a65c_grow_92f84) (maxL := 4) (ret := (some (.array (.object "java/lang/Object")))) (by decide) rfl (Nat.le_of_ble_eq_true rfl) ?_
  intro pv ev s mv below meth cv A hx hb hml hr hown hts hlocks hname hM hE ls hl
  have hown : s.vm.findClass RJx4a65c = some mv.cls := hown
  have hl : lv_has ls 4 [(0, .ref (sa S r)), (1, .int 11)] := hl
  have hin5 : ∀ x ∈ wsJx4a65c0, x ∈ wsJx4a65c_grow_92f84 := by decide +kernel
  obtain ⟨Q, hQ⟩ : ∃ Q, Q = MQ below (va_Qr (fun _ : fb_W => True) (fun u a t9 => (fun a u => ∃ q, a = q ∧ u = ((fb_setp (fb_setps (fb_new S e2 q 9 15) e2 (va_cpy (sp S e) (fun _ => none) 0 0 10)) r 1 (some q)), V, sT V, I)) a u ∧ fb_P D y A u t9) A) (([.ref (sa S r), .int 11] : List Value).toArray) s 1 15 A := ⟨_, rfl⟩
  rw [← hQ]
  refine lv_aload_n hx hb dJx4a65c_grow_92f84_0 rfl (lv_at hl 0 rfl) ?_
  refine fb_get (r := r) hx hb hown hts hin5 hM (hL.1.1) (ce5 (hL.1.2)) rfl 1 (by decide) (hts (.fieldLink RJx4a65c 9 "java/util/ArrayList" "elementData" "[Ljava/lang/Object;") (by decide +kernel)) (fun _ h9 => h9) (v := .ref (sa S e)) (congrArg (fun z => some (va_rf z)) (hL.2.1)) dJx4a65c_grow_92f84_1 ?_
  refine fb_alen (r := e) hx hb hM (hL.2.2.1) (ce9 (hL.2.2.2.1)) 3 rfl (v := nI 10) (congrArg Int32.ofNat (hL.2.2.2.2)) dJx4a65c_grow_92f84_4 ?_
  refine lv_istore_n (lv' := [(2, .int (nI 10)), (0, .ref (sa S r)), (1, .int 11)]) hx hb dJx4a65c_grow_92f84_5 rfl hl (by decide) rfl (fun ls hl => ?_)
  refine lv_iload_n hx hb dJx4a65c_grow_92f84_6 rfl (lv_at hl 0 rfl) ?_
  refine lv_if_gt (tgt := 20) hx hb dJx4a65c_grow_92f84_7 (by decide) (fun c_1 => ?_) (fun c_1 => absurd (by decide) c_1)
  refine lv_iload_n hx hb dJx4a65c_grow_92f84_20 rfl (lv_at hl 0 rfl) ?_
  refine lv_iload_n hx hb dJx4a65c_grow_92f84_21 rfl (lv_at hl 2 rfl) ?_
  refine lv_iload_n hx hb dJx4a65c_grow_92f84_22 rfl (lv_at hl 0 rfl) ?_
  refine lv_isub hx hb dJx4a65c_grow_92f84_23 ?_
  refine W.eq (g2 := F0 mv _ ls (.int (1) :: .int (nI 10) :: [])) (by first | rfl | rw [show (11 - (nI 10) : Int32) = 1 from by decide]) ?_
  refine lv_iload_n hx hb dJx4a65c_grow_92f84_24 rfl (lv_at hl 0 rfl) ?_
  refine lv_iconst (v := 1) hx hb dJx4a65c_grow_92f84_25 (by decide) ?_
  refine lv_ishr hx hb dJx4a65c_grow_92f84_26 ?_
  refine W.eq (g2 := F0 mv _ ls (.int (5) :: .int 1 :: .int (nI 10) :: [])) (by first | rfl | rw [show ((nI 10) >>> (1 &&& 31) : Int32) = 5 from by decide]) ?_
  refine W.eq (g2 := F0 mv 27 ls [.int 5, .int 1, .int 10]) rfl ?_
  refine fb_callSi hx hb hml hown hts hM (As := [.int 10, .int 1, .int 5]) (rest := []) (c_J8_newLength_cabcc D y l S V I) (va_cwS 3 hts gJx4a65c_grow_92f84_J8_newLength_cabcc rfl rfl rfl (by decide +kernel) ⟨Nat.le_of_ble_eq_true rfl, Nat.le_of_ble_eq_true rfl⟩) rfl hl.1 rfl (Nat.le_of_ble_eq_true rfl) dJx4a65c_grow_92f84_27 ⟨Nat.le_of_ble_eq_true rfl, Nat.le_of_ble_eq_true rfl⟩ (fun v_2 u H locs hp hM => ?_)
  obtain ⟨hv_, hu_⟩ := hp
  have hv_ := Eq.symm hv_
  have hu_ := Eq.symm hu_
  subst hv_
  subst hu_
  refine lv_istore_n (lv' := [(3, .int 15), (2, .int (nI 10)), (0, .ref (sa S r)), (1, .int 11)]) hx hb dJx4a65c_grow_92f84_30 rfl hl (by decide) rfl (fun ls hl => ?_)
  refine lv_aload_n hx hb dJx4a65c_grow_92f84_31 rfl (lv_at hl 2 rfl) ?_
  refine lv_aload_n hx hb dJx4a65c_grow_92f84_32 rfl (lv_at hl 2 rfl) ?_
  refine fb_get (r := r) hx hb hown hts hin5 hM (hL.1.1) (ce5 (hL.1.2)) rfl 1 (by decide) (hts (.fieldLink RJx4a65c 9 "java/util/ArrayList" "elementData" "[Ljava/lang/Object;") (by decide +kernel)) (fun _ h9 => h9) (v := .ref (sa S e)) (congrArg (fun z => some (va_rf z)) (hL.2.1)) dJx4a65c_grow_92f84_33 ?_
  refine lv_iload_n hx hb dJx4a65c_grow_92f84_36 rfl (lv_at hl 0 rfl) ?_
  refine fb_callESr hx hb hml hown hts hM hE (As := [.ref (sa S e), .int 15]) (rest := [.ref (sa S r)]) (c_J7_copyOf_1904c a0 D y l S V I e e2 hL.2.2 he2 hel) (va_cwS 2 hts gJx4a65c_grow_92f84_J7_copyOf_1904c rfl rfl rfl (by decide +kernel) ⟨Nat.le_of_ble_eq_true rfl, Nat.le_of_ble_eq_true rfl⟩) rfl hl.1 rfl (Nat.le_of_ble_eq_true rfl) dJx4a65c_grow_92f84_37 ⟨Nat.le_of_ble_eq_true rfl, Nat.le_of_ble_eq_true rfl⟩ (fun v_3 u H locs hp hM => ?_)
  obtain ⟨q, hv_, hu_⟩ := hp
  have hu_ := Eq.symm hu_
  have hv_ := Eq.symm hv_
  subst hu_
  subst hv_
  have ne : r ≠ e2 := ne_in hL.1.1 he2
  have k1 : sa (fb_setps (fb_new S e2 q 9 15) e2 (va_cpy (sp S e) (fun _ => none) 0 0 10)) r = sa S r := nw_ane S q 9 15 ne
  obtain ⟨r1, r2, r3⟩ := RA.ext (r := r) (k := 5) (n := sn S r) (Ext.new (P := fun x => x = e2) S q 9 15 rfl) ne ⟨hL.1.1, hL.1.2, rfl⟩
  refine W.eq (g2 := F0 mv 40 ls [.ref q, .ref (sa (fb_setps (fb_new S e2 q 9 15) e2 (va_cpy (sp S e) (fun _ => none) 0 0 10)) r)]) (by rw [k1]) ?_
  refine lv_dup_x1 hx hb dJx4a65c_grow_92f84_40 rfl rfl ?_
  refine fb_put (r := r) hx hb hown hts hin5 tyJx4a65c tyJx4a65c_ok nmJx4a65c hM (r1) (ce5 (r2)) rfl 1 (by decide) (hts (.fieldLink RJx4a65c 9 "java/util/ArrayList" "elementData" "[Ljava/lang/Object;") (by decide +kernel)) (fun _ h9 => h9) rfl (ty := tyJx4a65c 1) (by decide +kernel) rfl rfl (Nat.le_of_ble_eq_true rfl) dJx4a65c_grow_92f84_41 (upk_5_1 (v := some q) (r2)) (w' := ((fb_setp (fb_setps (fb_new S e2 q 9 15) e2 (va_cpy (sp S e) (fun _ => none) 0 0 10)) r 1 (some q)), V, (sT V), I)) ⟨rfl, rfl, rfl⟩ (fun H locs hM => ?_)
  rw [hQ]
  refine W.widen (show _ ≤ 1 from Nat.le_of_ble_eq_true rfl) (show _ ≤ 15 from Nat.le_of_ble_eq_true rfl) ?_
  exact fb_aret hx hb hr (Or.inr ⟨_, rfl⟩) hlocks hM (⟨q, rfl, rfl⟩) dJx4a65c_grow_92f84_44

abbrev rm_Jx4a65c_grow_d5877 : Room := { frames := 4, cells := 1, slots := 15, locals := 127 }
set_option maxHeartbeats 4000000 in
set_option maxRecDepth 100000 in
theorem c_Jx4a65c_grow_d5877_0 (a0 : Nat × Nat) (D : va_G) (y : Nat → ClassId) (l : Launch) (S : fb_Sh) (V I : fb_V) (r e : Nat) (h1 : r ∈ sR S) (h2 : sk S r = 5) (hp : sp S r 1 = some a0.1) (he : e ∉ sR S) (hz : I r 2 = nI 0) : CRE a0 D y l yJx4a65c_grow_d5877 wsJx4a65c_grow_d5877 rm_Jx4a65c_grow_d5877 [.ref (sa S r)] (S, V, (sT V), I) (fun a u => ∃ q, a = q ∧ u = ((fb_setp (fb_new S e q 9 10) r 1 (some q)), V, sT V, I)) 1 15 := by
  refine CRE.of (cc := cJx4a65c_grow_d5877) (maxL := 1) (ret := (some (.array (.object "java/lang/Object")))) (by decide) rfl (Nat.le_of_ble_eq_true rfl) ?_
  intro pv ev s mv below meth cv A hx hb hml hr hown hts hlocks hname hM hE ls hl
  have hown : s.vm.findClass RJx4a65c = some mv.cls := hown
  have hl : lv_has ls 1 [(0, .ref (sa S r))] := hl
  have hin5 : ∀ x ∈ wsJx4a65c0, x ∈ wsJx4a65c_grow_d5877 := by decide +kernel
  obtain ⟨Q, hQ⟩ : ∃ Q, Q = MQ below (va_Qr (fun _ : fb_W => True) (fun u a t9 => (fun a u => ∃ q, a = q ∧ u = ((fb_setp (fb_new S e q 9 10) r 1 (some q)), V, sT V, I)) a u ∧ fb_P D y A u t9) A) (([.ref (sa S r)] : List Value).toArray) s 1 15 A := ⟨_, rfl⟩
  rw [← hQ]
  refine lv_aload_n hx hb dJx4a65c_grow_d5877_0 rfl (lv_at hl 0 rfl) ?_
  refine lv_aload_n hx hb dJx4a65c_grow_d5877_1 rfl (lv_at hl 0 rfl) ?_
  refine fb_get (r := r) hx hb hown hts hin5 hM (h1) (ce5 (h2)) rfl 2 (by decide) (hts (.fieldLink RJx4a65c 48 "java/util/ArrayList" "size" "I") (by decide +kernel)) (fun _ h9 => h9) (v := .int (nI 0)) (congrArg (fun z => some (Value.int z)) (hz)) dJx4a65c_grow_d5877_2 ?_
  refine lv_iconst (v := 1) hx hb dJx4a65c_grow_d5877_5 (by decide) ?_
  refine lv_iadd hx hb dJx4a65c_grow_d5877_6 ?_
  refine W.eq (g2 := F0 mv _ ls (.int (1) :: .ref (sa S r) :: [])) (by first | rfl | rw [show ((nI 0) + 1 : Int32) = 1 from by decide]) ?_
  refine fb_callEVr (r := r) hx hb hml hown hts hM hE (h1) (ce5 (h2)) rfl (As := [.int 1]) (rest := []) (c_Jx4a65c_grow_92f84_0 a0 D y l S V I r e h1 h2 hp he) (cwV 1 hts gJx4a65c_grow_d5877_Jx4a65c_grow_92f84 rfl rfl rfl (by decide +kernel) ⟨Nat.le_of_ble_eq_true rfl, Nat.le_of_ble_eq_true rfl⟩) rfl hl.1 rfl (Nat.le_of_ble_eq_true rfl) dJx4a65c_grow_d5877_7 ⟨Nat.le_of_ble_eq_true rfl, Nat.le_of_ble_eq_true rfl⟩ (fun v_1 u H locs hp hM => ?_)
  obtain ⟨q, hv_, hu_⟩ := hp
  have hu_ := Eq.symm hu_
  have hv_ := Eq.symm hv_
  subst hu_
  subst hv_
  rw [hQ]
  refine W.widen (show _ ≤ 1 from Nat.le_of_ble_eq_true rfl) (show _ ≤ 15 from Nat.le_of_ble_eq_true rfl) ?_
  exact fb_aret hx hb hr (Or.inr ⟨_, rfl⟩) hlocks hM (⟨q, rfl, rfl⟩) dJx4a65c_grow_d5877_10

set_option maxHeartbeats 4000000 in
set_option maxRecDepth 100000 in
theorem c_Jx4a65c_grow_d5877_g (a0 : Nat × Nat) (D : va_G) (y : Nat → ClassId) (l : Launch) (S : fb_Sh) (V I : fb_V) (r e e2 : Nat) (hL : LsAt S r e 10) (he2 : e2 ∉ sR S) (hel : ∀ i, i < 10 → ∃ x, x ∈ sR S ∧ sk S x = 1 ∧ sp S e i = some (sa S x)) (hz : I r 2 = nI 10) : CRE a0 D y l yJx4a65c_grow_d5877 wsJx4a65c_grow_d5877 rm_Jx4a65c_grow_d5877 [.ref (sa S r)] (S, V, (sT V), I) (fun a u => ∃ q, a = q ∧ u = ((fb_setp (fb_setps (fb_new S e2 q 9 15) e2 (va_cpy (sp S e) (fun _ => none) 0 0 10)) r 1 (some q)), V, sT V, I)) 1 15 := by
  refine CRE.of (cc := cJx4a65c_grow_d5877) (maxL := 1) (ret := (some (.array (.object "java/lang/Object")))) (by decide) rfl (Nat.le_of_ble_eq_true rfl) ?_
  intro pv ev s mv below meth cv A hx hb hml hr hown hts hlocks hname hM hE ls hl
  have hown : s.vm.findClass RJx4a65c = some mv.cls := hown
  have hl : lv_has ls 1 [(0, .ref (sa S r))] := hl
  have hin5 : ∀ x ∈ wsJx4a65c0, x ∈ wsJx4a65c_grow_d5877 := by decide +kernel
  obtain ⟨Q, hQ⟩ : ∃ Q, Q = MQ below (va_Qr (fun _ : fb_W => True) (fun u a t9 => (fun a u => ∃ q, a = q ∧ u = ((fb_setp (fb_setps (fb_new S e2 q 9 15) e2 (va_cpy (sp S e) (fun _ => none) 0 0 10)) r 1 (some q)), V, sT V, I)) a u ∧ fb_P D y A u t9) A) (([.ref (sa S r)] : List Value).toArray) s 1 15 A := ⟨_, rfl⟩
  rw [← hQ]
  refine lv_aload_n hx hb dJx4a65c_grow_d5877_0 rfl (lv_at hl 0 rfl) ?_
  refine lv_aload_n hx hb dJx4a65c_grow_d5877_1 rfl (lv_at hl 0 rfl) ?_
  refine fb_get (r := r) hx hb hown hts hin5 hM (hL.1.1) (ce5 (hL.1.2)) rfl 2 (by decide) (hts (.fieldLink RJx4a65c 48 "java/util/ArrayList" "size" "I") (by decide +kernel)) (fun _ h9 => h9) (v := .int (nI 10)) (congrArg (fun z => some (Value.int z)) (hz)) dJx4a65c_grow_d5877_2 ?_
  refine lv_iconst (v := 1) hx hb dJx4a65c_grow_d5877_5 (by decide) ?_
  refine lv_iadd hx hb dJx4a65c_grow_d5877_6 ?_
  refine W.eq (g2 := F0 mv _ ls (.int (11) :: .ref (sa S r) :: [])) (by first | rfl | rw [show ((nI 10) + 1 : Int32) = 11 from by decide]) ?_
  refine fb_callEVr (r := r) hx hb hml hown hts hM hE (hL.1.1) (ce5 (hL.1.2)) rfl (As := [.int 11]) (rest := []) (c_Jx4a65c_grow_92f84_g a0 D y l S V I r e e2 hL he2 hel) (cwV 1 hts gJx4a65c_grow_d5877_Jx4a65c_grow_92f84 rfl rfl rfl (by decide +kernel) ⟨Nat.le_of_ble_eq_true rfl, Nat.le_of_ble_eq_true rfl⟩) rfl hl.1 rfl (Nat.le_of_ble_eq_true rfl) dJx4a65c_grow_d5877_7 ⟨Nat.le_of_ble_eq_true rfl, Nat.le_of_ble_eq_true rfl⟩ (fun v_1 u H locs hp hM => ?_)
  obtain ⟨q, hv_, hu_⟩ := hp
  have hu_ := Eq.symm hu_
  have hv_ := Eq.symm hv_
  subst hu_
  subst hv_
  rw [hQ]
  refine W.widen (show _ ≤ 1 from Nat.le_of_ble_eq_true rfl) (show _ ≤ 15 from Nat.le_of_ble_eq_true rfl) ?_
  exact fb_aret hx hb hr (Or.inr ⟨_, rfl⟩) hlocks hM (⟨q, rfl, rfl⟩) dJx4a65c_grow_d5877_10
