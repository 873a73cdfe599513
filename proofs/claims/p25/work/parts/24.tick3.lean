abbrev rm_X2_tells : Room := { frames := 5, cells := 0, slots := 0, locals := 109 }
set_option maxHeartbeats 4000000 in
set_option maxRecDepth 100000 in
theorem c_X2_tells_0 (D : va_G) (y : Nat → ClassId) (l : Launch) (S : fb_Sh) (V I : fb_V) (t b c r d : Nat) (ht : TickAt S t b) (hf : TF I t c r d) (X : fb_V) (hX : ∀ q, q < 36 → V (b + 2 * q) = X q) : CI D y l yX2_tells wsX2_tells rm_X2_tells [.ref (sa S t), .int 0] (S, V, (sT V), I) (fun z u => z = nI c ∧ u = (S, V, sT V, I)) 0 0 := by
  refine CI.of (cc := cX2_tells) (maxL := 2) (ret := (some .int)) (by decide) rfl (Nat.le_of_ble_eq_true rfl) ?_
  intro pv ev s mv below meth cv A hx hb hml hr hown hts hlocks hname hM ls hl
  have hown : s.vm.findClass RX2 = some mv.cls := hown
  have hl : lv_has ls 2 [(0, .ref (sa S t)), (1, .int 0)] := hl
  have hin2 : ∀ x ∈ wsX20, x ∈ wsX2_tells := by decide +kernel
  obtain ⟨Q, hQ⟩ : ∃ Q, Q = MQ below (va_Qi (fun z u => z = nI c ∧ u = (S, V, sT V, I)) (fun u t => fb_P D y A u t) A) (([.ref (sa S t), .int 0] : List Value).toArray) s 0 0 A := ⟨_, rfl⟩
  rw [← hQ]
  have hn := hf.le
  have hc1 : 1 ≤ c := hf.2.2.2.2.1
  have hc6 : c ≤ 6 := hf.2.2.2.2.2.1
  refine lv_iload_n hx hb dX2_tells_0 rfl (lv_at hl 1 rfl) ?_
  refine lv_tableIn (off := 47) (tgt := 48) hx hb dX2_tells_1 (by decide) (by decide) rfl (by decide) ?_
  refine lv_aload_n hx hb dX2_tells_48 rfl (lv_at hl 0 rfl) ?_
  refine fb_get (r := t) hx hb hown hts hin2 hM ((ht.1)) (ce2 ((ht.2.1))) rfl 0 (by decide) (hts (.fieldLink RX2 9 "FeatherBeds$Tick" "columns" "I") (by decide +kernel)) (fun _ h9 => h9) (v := .int (nI c)) (congrArg (fun z => some (Value.int z)) (hf.1)) dX2_tells_49 ?_
  rw [hQ]
  exact fb_iret hx hb hr hlocks hM (⟨rfl, rfl⟩) dX2_tells_52

set_option maxHeartbeats 4000000 in
set_option maxRecDepth 100000 in
theorem c_X2_tells_1 (D : va_G) (y : Nat → ClassId) (l : Launch) (S : fb_Sh) (V I : fb_V) (t b c r d : Nat) (ht : TickAt S t b) (hf : TF I t c r d) (X : fb_V) (hX : ∀ q, q < 36 → V (b + 2 * q) = X q) : CI D y l yX2_tells wsX2_tells rm_X2_tells [.ref (sa S t), .int 1] (S, V, (sT V), I) (fun z u => z = nI r ∧ u = (S, V, sT V, I)) 0 0 := by
  refine CI.of (cc := cX2_tells) (maxL := 2) (ret := (some .int)) (by decide) rfl (Nat.le_of_ble_eq_true rfl) ?_
  intro pv ev s mv below meth cv A hx hb hml hr hown hts hlocks hname hM ls hl
  have hown : s.vm.findClass RX2 = some mv.cls := hown
  have hl : lv_has ls 2 [(0, .ref (sa S t)), (1, .int 1)] := hl
  have hin2 : ∀ x ∈ wsX20, x ∈ wsX2_tells := by decide +kernel
  obtain ⟨Q, hQ⟩ : ∃ Q, Q = MQ below (va_Qi (fun z u => z = nI r ∧ u = (S, V, sT V, I)) (fun u t => fb_P D y A u t) A) (([.ref (sa S t), .int 1] : List Value).toArray) s 0 0 A := ⟨_, rfl⟩
  rw [← hQ]
  have hn := hf.le
  have hc1 : 1 ≤ c := hf.2.2.2.2.1
  have hc6 : c ≤ 6 := hf.2.2.2.2.2.1
  refine lv_iload_n hx hb dX2_tells_0 rfl (lv_at hl 1 rfl) ?_
  refine lv_tableIn (off := 52) (tgt := 53) hx hb dX2_tells_1 (by decide) (by decide) rfl (by decide) ?_
  refine lv_aload_n hx hb dX2_tells_53 rfl (lv_at hl 0 rfl) ?_
  refine fb_get (r := t) hx hb hown hts hin2 hM ((ht.1)) (ce2 ((ht.2.1))) rfl 1 (by decide) (hts (.fieldLink RX2 15 "FeatherBeds$Tick" "rows" "I") (by decide +kernel)) (fun _ h9 => h9) (v := .int (nI r)) (congrArg (fun z => some (Value.int z)) (hf.2.1)) dX2_tells_54 ?_
  rw [hQ]
  exact fb_iret hx hb hr hlocks hM (⟨rfl, rfl⟩) dX2_tells_57

set_option maxHeartbeats 4000000 in
set_option maxRecDepth 100000 in
theorem c_X2_tells_2 (D : va_G) (y : Nat → ClassId) (l : Launch) (S : fb_Sh) (V I : fb_V) (t b c r d : Nat) (ht : TickAt S t b) (hf : TF I t c r d) (X : fb_V) (hX : ∀ q, q < 36 → V (b + 2 * q) = X q) : CI D y l yX2_tells wsX2_tells rm_X2_tells [.ref (sa S t), .int 2] (S, V, (sT V), I) (fun z u => z = nI d ∧ u = (S, V, sT V, I)) 0 0 := by
  refine CI.of (cc := cX2_tells) (maxL := 2) (ret := (some .int)) (by decide) rfl (Nat.le_of_ble_eq_true rfl) ?_
  intro pv ev s mv below meth cv A hx hb hml hr hown hts hlocks hname hM ls hl
  have hown : s.vm.findClass RX2 = some mv.cls := hown
  have hl : lv_has ls 2 [(0, .ref (sa S t)), (1, .int 2)] := hl
  have hin2 : ∀ x ∈ wsX20, x ∈ wsX2_tells := by decide +kernel
  obtain ⟨Q, hQ⟩ : ∃ Q, Q = MQ below (va_Qi (fun z u => z = nI d ∧ u = (S, V, sT V, I)) (fun u t => fb_P D y A u t) A) (([.ref (sa S t), .int 2] : List Value).toArray) s 0 0 A := ⟨_, rfl⟩
  rw [← hQ]
  have hn := hf.le
  have hc1 : 1 ≤ c := hf.2.2.2.2.1
  have hc6 : c ≤ 6 := hf.2.2.2.2.2.1
  refine lv_iload_n hx hb dX2_tells_0 rfl (lv_at hl 1 rfl) ?_
  refine lv_tableIn (off := 57) (tgt := 58) hx hb dX2_tells_1 (by decide) (by decide) rfl (by decide) ?_
  refine lv_aload_n hx hb dX2_tells_58 rfl (lv_at hl 0 rfl) ?_
  refine fb_get (r := t) hx hb hown hts hin2 hM ((ht.1)) (ce2 ((ht.2.1))) rfl 2 (by decide) (hts (.fieldLink RX2 18 "FeatherBeds$Tick" "density" "I") (by decide +kernel)) (fun _ h9 => h9) (v := .int (nI d)) (congrArg (fun z => some (Value.int z)) (hf.2.2.1)) dX2_tells_59 ?_
  rw [hQ]
  exact fb_iret hx hb hr hlocks hM (⟨rfl, rfl⟩) dX2_tells_62

set_option maxHeartbeats 4000000 in
set_option maxRecDepth 100000 in
theorem c_X2_tells_3 (D : va_G) (y : Nat → ClassId) (l : Launch) (S : fb_Sh) (V I : fb_V) (t b c r d : Nat) (ht : TickAt S t b) (hf : TF I t c r d) (X : fb_V) (hX : ∀ q, q < 36 → V (b + 2 * q) = X q) : CI D y l yX2_tells wsX2_tells rm_X2_tells [.ref (sa S t), .int 3] (S, V, (sT V), I) (fun z u => z = fsum X 36 ∧ u = (S, V, sT V, I)) 0 0 := by
  refine CI.of (cc := cX2_tells) (maxL := 2) (ret := (some .int)) (by decide) rfl (Nat.le_of_ble_eq_true rfl) ?_
  intro pv ev s mv below meth cv A hx hb hml hr hown hts hlocks hname hM ls hl
  have hown : s.vm.findClass RX2 = some mv.cls := hown
  have hl : lv_has ls 2 [(0, .ref (sa S t)), (1, .int 3)] := hl
  have hin2 : ∀ x ∈ wsX20, x ∈ wsX2_tells := by decide +kernel
  obtain ⟨Q, hQ⟩ : ∃ Q, Q = MQ below (va_Qi (fun z u => z = fsum X 36 ∧ u = (S, V, sT V, I)) (fun u t => fb_P D y A u t) A) (([.ref (sa S t), .int 3] : List Value).toArray) s 0 0 A := ⟨_, rfl⟩
  rw [← hQ]
  have hn := hf.le
  have hc1 : 1 ≤ c := hf.2.2.2.2.1
  have hc6 : c ≤ 6 := hf.2.2.2.2.2.1
  refine lv_iload_n hx hb dX2_tells_0 rfl (lv_at hl 1 rfl) ?_
  refine lv_tableIn (off := 62) (tgt := 63) hx hb dX2_tells_1 (by decide) (by decide) rfl (by decide) ?_
  refine lv_aload_n hx hb dX2_tells_63 rfl (lv_at hl 0 rfl) ?_
  refine fb_callVi (r := t) hx hb hml hown hts hM ((ht.1)) (ce2 ((ht.2.1))) rfl (As := []) (rest := []) (c_X2_feathers D y l S V I t b ht X hX) (cwV 0 hts gX2_tells_X2_feathers rfl rfl rfl (by decide +kernel) ⟨Nat.le_of_ble_eq_true rfl, Nat.le_of_ble_eq_true rfl⟩) rfl hl.1 rfl (Nat.le_of_ble_eq_true rfl) dX2_tells_64 ⟨Nat.le_of_ble_eq_true rfl, Nat.le_of_ble_eq_true rfl⟩ (fun v_1 u H locs hp hM => ?_)
  obtain ⟨hv, hu⟩ := hp
  have hv := Eq.symm hv
  have hu := Eq.symm hu
  subst hv
  subst hu
  rw [hQ]
  exact fb_iret hx hb hr hlocks hM (⟨rfl, rfl⟩) dX2_tells_67

set_option maxHeartbeats 4000000 in
set_option maxRecDepth 100000 in
theorem c_X2_tells_4 (D : va_G) (y : Nat → ClassId) (l : Launch) (S : fb_Sh) (V I : fb_V) (t b c r d : Nat) (ht : TickAt S t b) (hf : TF I t c r d) (X : fb_V) (hX : ∀ q, q < 36 → V (b + 2 * q) = X q) : CI D y l yX2_tells wsX2_tells rm_X2_tells [.ref (sa S t), .int 4] (S, V, (sT V), I) (fun z u => z = wsm X 36 ∧ u = (S, V, sT V, I)) 0 0 := by
  refine CI.of (cc := cX2_tells) (maxL := 2) (ret := (some .int)) (by decide) rfl (Nat.le_of_ble_eq_true rfl) ?_
  intro pv ev s mv below meth cv A hx hb hml hr hown hts hlocks hname hM ls hl
  have hown : s.vm.findClass RX2 = some mv.cls := hown
  have hl : lv_has ls 2 [(0, .ref (sa S t)), (1, .int 4)] := hl
  have hin2 : ∀ x ∈ wsX20, x ∈ wsX2_tells := by decide +kernel
  obtain ⟨Q, hQ⟩ : ∃ Q, Q = MQ below (va_Qi (fun z u => z = wsm X 36 ∧ u = (S, V, sT V, I)) (fun u t => fb_P D y A u t) A) (([.ref (sa S t), .int 4] : List Value).toArray) s 0 0 A := ⟨_, rfl⟩
  rw [← hQ]
  have hn := hf.le
  have hc1 : 1 ≤ c := hf.2.2.2.2.1
  have hc6 : c ≤ 6 := hf.2.2.2.2.2.1
  refine lv_iload_n hx hb dX2_tells_0 rfl (lv_at hl 1 rfl) ?_
  refine lv_tableIn (off := 67) (tgt := 68) hx hb dX2_tells_1 (by decide) (by decide) rfl (by decide) ?_
  refine lv_aload_n hx hb dX2_tells_68 rfl (lv_at hl 0 rfl) ?_
  refine fb_callVi (r := t) hx hb hml hown hts hM ((ht.1)) (ce2 ((ht.2.1))) rfl (As := []) (rest := []) (c_X2_warmthInAll D y l S V I t b ht X hX) (cwV 0 hts gX2_tells_X2_warmthInAll rfl rfl rfl (by decide +kernel) ⟨Nat.le_of_ble_eq_true rfl, Nat.le_of_ble_eq_true rfl⟩) rfl hl.1 rfl (Nat.le_of_ble_eq_true rfl) dX2_tells_69 ⟨Nat.le_of_ble_eq_true rfl, Nat.le_of_ble_eq_true rfl⟩ (fun v_1 u H locs hp hM => ?_)
  obtain ⟨hv, hu⟩ := hp
  have hv := Eq.symm hv
  have hu := Eq.symm hu
  subst hv
  subst hu
  rw [hQ]
  exact fb_iret hx hb hr hlocks hM (⟨rfl, rfl⟩) dX2_tells_72

set_option maxHeartbeats 4000000 in
set_option maxRecDepth 100000 in
theorem c_X2_tells_5 (D : va_G) (y : Nat → ClassId) (l : Launch) (S : fb_Sh) (V I : fb_V) (t b c r d : Nat) (ht : TickAt S t b) (hf : TF I t c r d) (X : fb_V) (hX : ∀ q, q < 36 → V (b + 2 * q) = X q) : CI D y l yX2_tells wsX2_tells rm_X2_tells [.ref (sa S t), .int 5] (S, V, (sT V), I) (fun z u => z = wm (X (cld X (c * r))) ∧ u = (S, V, sT V, I)) 0 0 := by
  refine CI.of (cc := cX2_tells) (maxL := 2) (ret := (some .int)) (by decide) rfl (Nat.le_of_ble_eq_true rfl) ?_
  intro pv ev s mv below meth cv A hx hb hml hr hown hts hlocks hname hM ls hl
  have hown : s.vm.findClass RX2 = some mv.cls := hown
  have hl : lv_has ls 2 [(0, .ref (sa S t)), (1, .int 5)] := hl
  have hin2 : ∀ x ∈ wsX20, x ∈ wsX2_tells := by decide +kernel
  obtain ⟨Q, hQ⟩ : ∃ Q, Q = MQ below (va_Qi (fun z u => z = wm (X (cld X (c * r))) ∧ u = (S, V, sT V, I)) (fun u t => fb_P D y A u t) A) (([.ref (sa S t), .int 5] : List Value).toArray) s 0 0 A := ⟨_, rfl⟩
  rw [← hQ]
  have hn := hf.le
  have hc1 : 1 ≤ c := hf.2.2.2.2.1
  have hc6 : c ≤ 6 := hf.2.2.2.2.2.1
  refine lv_iload_n hx hb dX2_tells_0 rfl (lv_at hl 1 rfl) ?_
  refine lv_tableIn (off := 72) (tgt := 73) hx hb dX2_tells_1 (by decide) (by decide) rfl (by decide) ?_
  refine lv_aload_n hx hb dX2_tells_73 rfl (lv_at hl 0 rfl) ?_
  refine fb_callVi (r := t) hx hb hml hown hts hM ((ht.1)) (ce2 ((ht.2.1))) rfl (As := []) (rest := []) (c_X2_coldestWarmth D y l S V I t b c r d ht hf X hX) (cwV 0 hts gX2_tells_X2_coldestWarmth rfl rfl rfl (by decide +kernel) ⟨Nat.le_of_ble_eq_true rfl, Nat.le_of_ble_eq_true rfl⟩) rfl hl.1 rfl (Nat.le_of_ble_eq_true rfl) dX2_tells_74 ⟨Nat.le_of_ble_eq_true rfl, Nat.le_of_ble_eq_true rfl⟩ (fun v_1 u H locs hp hM => ?_)
  obtain ⟨hv, hu⟩ := hp
  have hv := Eq.symm hv
  have hu := Eq.symm hu
  subst hv
  subst hu
  rw [hQ]
  exact fb_iret hx hb hr hlocks hM (⟨rfl, rfl⟩) dX2_tells_77

set_option maxHeartbeats 4000000 in
set_option maxRecDepth 100000 in
theorem c_X2_tells_6 (D : va_G) (y : Nat → ClassId) (l : Launch) (S : fb_Sh) (V I : fb_V) (t b c r d : Nat) (ht : TickAt S t b) (hf : TF I t c r d) (X : fb_V) (hX : ∀ q, q < 36 → V (b + 2 * q) = X q) : CI D y l yX2_tells wsX2_tells rm_X2_tells [.ref (sa S t), .int 6] (S, V, (sT V), I) (fun z u => z = nI (cld X (c * r)) ∧ u = (S, V, sT V, I)) 0 0 := by
  refine CI.of (cc := cX2_tells) (maxL := 2) (ret := (some .int)) (by decide) rfl (Nat.le_of_ble_eq_true rfl) ?_
  intro pv ev s mv below meth cv A hx hb hml hr hown hts hlocks hname hM ls hl
  have hown : s.vm.findClass RX2 = some mv.cls := hown
  have hl : lv_has ls 2 [(0, .ref (sa S t)), (1, .int 6)] := hl
  have hin2 : ∀ x ∈ wsX20, x ∈ wsX2_tells := by decide +kernel
  obtain ⟨Q, hQ⟩ : ∃ Q, Q = MQ below (va_Qi (fun z u => z = nI (cld X (c * r)) ∧ u = (S, V, sT V, I)) (fun u t => fb_P D y A u t) A) (([.ref (sa S t), .int 6] : List Value).toArray) s 0 0 A := ⟨_, rfl⟩
  rw [← hQ]
  have hn := hf.le
  have hc1 : 1 ≤ c := hf.2.2.2.2.1
  have hc6 : c ≤ 6 := hf.2.2.2.2.2.1
  refine lv_iload_n hx hb dX2_tells_0 rfl (lv_at hl 1 rfl) ?_
  refine lv_tableIn (off := 77) (tgt := 78) hx hb dX2_tells_1 (by decide) (by decide) rfl (by decide) ?_
  refine lv_aload_n hx hb dX2_tells_78 rfl (lv_at hl 0 rfl) ?_
  refine fb_callVi (r := t) hx hb hml hown hts hM ((ht.1)) (ce2 ((ht.2.1))) rfl (As := []) (rest := []) (c_X2_coldestSquare D y l S V I t b c r d ht hf X hX) (cwV 0 hts gX2_tells_X2_coldestSquare rfl rfl rfl (by decide +kernel) ⟨Nat.le_of_ble_eq_true rfl, Nat.le_of_ble_eq_true rfl⟩) rfl hl.1 rfl (Nat.le_of_ble_eq_true rfl) dX2_tells_79 ⟨Nat.le_of_ble_eq_true rfl, Nat.le_of_ble_eq_true rfl⟩ (fun v_1 u H locs hp hM => ?_)
  obtain ⟨hv, hu⟩ := hp
  have hv := Eq.symm hv
  have hu := Eq.symm hu
  subst hv
  subst hu
  rw [hQ]
  exact fb_iret hx hb hr hlocks hM (⟨rfl, rfl⟩) dX2_tells_82

set_option maxHeartbeats 4000000 in
set_option maxRecDepth 100000 in
theorem c_X2_tells_7 (D : va_G) (y : Nat → ClassId) (l : Launch) (S : fb_Sh) (V I : fb_V) (t b c r d : Nat) (ht : TickAt S t b) (hf : TF I t c r d) (X : fb_V) (hX : ∀ q, q < 36 → V (b + 2 * q) = X q) : CI D y l yX2_tells wsX2_tells rm_X2_tells [.ref (sa S t), .int 7] (S, V, (sT V), I) (fun z u => z = opc c (c * r) (I (t + 2)) (2 * (c * r)) ∧ u = (S, V, sT V, I)) 0 0 := by
  refine CI.of (cc := cX2_tells) (maxL := 2) (ret := (some .int)) (by decide) rfl (Nat.le_of_ble_eq_true rfl) ?_
  intro pv ev s mv below meth cv A hx hb hml hr hown hts hlocks hname hM ls hl
  have hown : s.vm.findClass RX2 = some mv.cls := hown
  have hl : lv_has ls 2 [(0, .ref (sa S t)), (1, .int 7)] := hl
  have hin2 : ∀ x ∈ wsX20, x ∈ wsX2_tells := by decide +kernel
  obtain ⟨Q, hQ⟩ : ∃ Q, Q = MQ below (va_Qi (fun z u => z = opc c (c * r) (I (t + 2)) (2 * (c * r)) ∧ u = (S, V, sT V, I)) (fun u t => fb_P D y A u t) A) (([.ref (sa S t), .int 7] : List Value).toArray) s 0 0 A := ⟨_, rfl⟩
  rw [← hQ]
  have hn := hf.le
  have hc1 : 1 ≤ c := hf.2.2.2.2.1
  have hc6 : c ≤ 6 := hf.2.2.2.2.2.1
  refine lv_iload_n hx hb dX2_tells_0 rfl (lv_at hl 1 rfl) ?_
  refine lv_tableIn (off := 82) (tgt := 83) hx hb dX2_tells_1 (by decide) (by decide) rfl (by decide) ?_
  refine lv_aload_n hx hb dX2_tells_83 rfl (lv_at hl 0 rfl) ?_
  refine fb_callVi (r := t) hx hb hml hown hts hM ((ht.1)) (ce2 ((ht.2.1))) rfl (As := []) (rest := []) (c_X2_openPairs D y l S V I t b c r d ht hf) (cwV 0 hts gX2_tells_X2_openPairs rfl rfl rfl (by decide +kernel) ⟨Nat.le_of_ble_eq_true rfl, Nat.le_of_ble_eq_true rfl⟩) rfl hl.1 rfl (Nat.le_of_ble_eq_true rfl) dX2_tells_84 ⟨Nat.le_of_ble_eq_true rfl, Nat.le_of_ble_eq_true rfl⟩ (fun v_1 u H locs hp hM => ?_)
  obtain ⟨hv, hu⟩ := hp
  have hv := Eq.symm hv
  have hu := Eq.symm hu
  subst hv
  subst hu
  rw [hQ]
  exact fb_iret hx hb hr hlocks hM (⟨rfl, rfl⟩) dX2_tells_87

set_option maxHeartbeats 4000000 in
set_option maxRecDepth 100000 in
theorem c_X2_tells_8 (D : va_G) (y : Nat → ClassId) (l : Launch) (S : fb_Sh) (V I : fb_V) (t b c r d : Nat) (ht : TickAt S t b) (hf : TF I t c r d) (X : fb_V) (hX : ∀ q, q < 36 → V (b + 2 * q) = X q) : CI D y l yX2_tells wsX2_tells rm_X2_tells [.ref (sa S t), .int 8] (S, V, (sT V), I) (fun z u => z = (prt c (c * r) (I (t + 2)) (cpn 36 (fun j9 => nI j9) (I (t + 3))) (2 * (c * r))).2 ∧ u = (S, V, sT V, (va_up I (t + 3) (prt c (c * r) (I (t + 2)) (cpn 36 (fun j9 => nI j9) (I (t + 3))) (2 * (c * r))).1))) 0 0 := by
  refine CI.of (cc := cX2_tells) (maxL := 2) (ret := (some .int)) (by decide) rfl (Nat.le_of_ble_eq_true rfl) ?_
  intro pv ev s mv below meth cv A hx hb hml hr hown hts hlocks hname hM ls hl
  have hown : s.vm.findClass RX2 = some mv.cls := hown
  have hl : lv_has ls 2 [(0, .ref (sa S t)), (1, .int 8)] := hl
  have hin2 : ∀ x ∈ wsX20, x ∈ wsX2_tells := by decide +kernel
  obtain ⟨Q, hQ⟩ : ∃ Q, Q = MQ below (va_Qi (fun z u => z = (prt c (c * r) (I (t + 2)) (cpn 36 (fun j9 => nI j9) (I (t + 3))) (2 * (c * r))).2 ∧ u = (S, V, sT V, (va_up I (t + 3) (prt c (c * r) (I (t + 2)) (cpn 36 (fun j9 => nI j9) (I (t + 3))) (2 * (c * r))).1))) (fun u t => fb_P D y A u t) A) (([.ref (sa S t), .int 8] : List Value).toArray) s 0 0 A := ⟨_, rfl⟩
  rw [← hQ]
  have hn := hf.le
  have hc1 : 1 ≤ c := hf.2.2.2.2.1
  have hc6 : c ≤ 6 := hf.2.2.2.2.2.1
  refine lv_iload_n hx hb dX2_tells_0 rfl (lv_at hl 1 rfl) ?_
  refine lv_tableOut (tgt := 88) hx hb dX2_tells_1 (by decide) (by decide) ?_
  refine lv_aload_n hx hb dX2_tells_88 rfl (lv_at hl 0 rfl) ?_
  refine fb_callVi (r := t) hx hb hml hown hts hM ((ht.1)) (ce2 ((ht.2.1))) rfl (As := []) (rest := []) (c_X2_parts D y l S V I t b c r d ht hf) (cwV 0 hts gX2_tells_X2_parts rfl rfl rfl (by decide +kernel) ⟨Nat.le_of_ble_eq_true rfl, Nat.le_of_ble_eq_true rfl⟩) rfl hl.1 rfl (Nat.le_of_ble_eq_true rfl) dX2_tells_89 ⟨Nat.le_of_ble_eq_true rfl, Nat.le_of_ble_eq_true rfl⟩ (fun v_1 u H locs hp hM => ?_)
  obtain ⟨hv, hu⟩ := hp
  have hv := Eq.symm hv
  have hu := Eq.symm hu
  subst hv
  subst hu
  rw [hQ]
  exact fb_iret hx hb hr hlocks hM (⟨rfl, rfl⟩) dX2_tells_92

abbrev rm_X2_squareTells : Room := { frames := 2, cells := 0, slots := 0, locals := 46 }
set_option maxHeartbeats 4000000 in
set_option maxRecDepth 100000 in
theorem c_X2_squareTells_0 (D : va_G) (y : Nat → ClassId) (l : Launch) (S : fb_Sh) (V I : fb_V) (t b c r d : Nat) (ht : TickAt S t b) (hf : TF I t c r d) (X : fb_V) (hX : ∀ q, q < 36 → V (b + 2 * q) = X q) (q : Nat) (hq : q < c * r) : CI D y l yX2_squareTells wsX2_squareTells rm_X2_squareTells [.ref (sa S t), .int (nI q), .int 0] (S, V, (sT V), I) (fun z u => z = X q 0 ∧ u = (S, V, sT V, I)) 0 0 := by
  refine CI.of (cc := cX2_squareTells) (maxL := 3) (ret := (some .int)) (by decide) rfl (Nat.le_of_ble_eq_true rfl) ?_
  intro pv ev s mv below meth cv A hx hb hml hr hown hts hlocks hname hM ls hl
  have hown : s.vm.findClass RX2 = some mv.cls := hown
  have hl : lv_has ls 3 [(0, .ref (sa S t)), (1, .int (nI q)), (2, .int 0)] := hl
  have hin2 : ∀ x ∈ wsX20, x ∈ wsX2_squareTells := by decide +kernel
  have hin0 : ∀ x ∈ wsX00, x ∈ wsX2_squareTells := by decide +kernel
  obtain ⟨Q, hQ⟩ : ∃ Q, Q = MQ below (va_Qi (fun z u => z = X q 0 ∧ u = (S, V, sT V, I)) (fun u t => fb_P D y A u t) A) (([.ref (sa S t), .int (nI q), .int 0] : List Value).toArray) s 0 0 A := ⟨_, rfl⟩
  rw [← hQ]
  have hn := hf.le
  have hc1 : 1 ≤ c := hf.2.2.2.2.1
  have hc6 : c ≤ 6 := hf.2.2.2.2.2.1
  have hq36 : q < 36 := by omega
  refine lv_iload_n hx hb dX2_squareTells_0 rfl (lv_at hl 1 rfl) ?_
  refine lv_if_lt (tgt := 13) hx hb dX2_squareTells_1 (by decide) (fun c_1 => absurd c_1 (nI_pos (by omega))) (fun c_1 => ?_)
  refine lv_iload_n hx hb dX2_squareTells_4 rfl (lv_at hl 1 rfl) ?_
  refine lv_aload_n hx hb dX2_squareTells_5 rfl (lv_at hl 0 rfl) ?_
  refine fb_get (r := t) hx hb hown hts hin2 hM ((ht.1)) (ce2 ((ht.2.1))) rfl 4 (by decide) (hts (.fieldLink RX2 26 "FeatherBeds$Tick" "heaps" "[LFeatherBeds$Heap;") (by decide +kernel)) (fun _ h9 => h9) (v := .ref (sa S (t + 1))) (congrArg (fun z => some (va_rf z)) ((ht.2.2.1))) dX2_squareTells_6 ?_
  refine fb_alen (r := (t + 1)) hx hb hM ((ht.2.2.2.2.2.1)) (ce8 ((ht.2.2.2.2.2.2.1))) 2 rfl (v := nI 36) (congrArg Int32.ofNat ((ht.2.2.2.2.2.2.2.1))) dX2_squareTells_9 ?_
  refine lv_icmp_lt (tgt := 15) hx hb dX2_squareTells_10 (by decide) (fun c_2 => ?_) (fun c_2 => absurd (nI_lt hq36 (by omega)) c_2)
  refine lv_iload_n hx hb dX2_squareTells_15 rfl (lv_at hl 2 rfl) ?_
  refine lv_bipush (v := 6) hx hb dX2_squareTells_16 (by decide) ?_
  refine lv_icmp_ge (tgt := 32) hx hb dX2_squareTells_18 (by decide) (fun c_3 => absurd c_3 (by decide)) (fun c_3 => ?_)
  refine lv_aload_n hx hb dX2_squareTells_21 rfl (lv_at hl 0 rfl) ?_
  refine fb_get (r := t) hx hb hown hts hin2 hM ((ht.1)) (ce2 ((ht.2.1))) rfl 4 (by decide) (hts (.fieldLink RX2 26 "FeatherBeds$Tick" "heaps" "[LFeatherBeds$Heap;") (by decide +kernel)) (fun _ h9 => h9) (v := .ref (sa S (t + 1))) (congrArg (fun z => some (va_rf z)) ((ht.2.2.1))) dX2_squareTells_22 ?_
  refine lv_iload_n hx hb dX2_squareTells_25 rfl (lv_at hl 1 rfl) ?_
  refine fb_aald (r := (t + 1)) hx hb hM ((ht.2.2.2.2.2.1)) (ce8 ((ht.2.2.2.2.2.2.1))) 2 rfl (k := q) (nI_clamp (by omega)) (b := sa S (b + 2 * q)) (((ht.2.2.2.2.2.2.2.2.2.2.2.2.2.2) q (by omega)).1) (by rw [(ht.2.2.2.2.2.2.2.1)]; exact vp_in_nI (by omega) (by omega)) dX2_squareTells_26 ?_
  refine lv_iload_n hx hb dX2_squareTells_27 rfl (lv_at hl 2 rfl) ?_
  refine fb_callVi (r := (b + 2 * q)) hx hb hml hown hts hM ((((ht.2.2.2.2.2.2.2.2.2.2.2.2.2.2) q (by omega)).2).1) (ce0 ((((ht.2.2.2.2.2.2.2.2.2.2.2.2.2.2) q (by omega)).2).2.1)) rfl (As := [.int 0]) (rest := []) (c_X0_of D y l S V I (b + 2 * q) (ht.hp hq36) 0) (cwV 1 hts gX2_squareTells_X0_of rfl rfl rfl (by decide +kernel) ⟨Nat.le_of_ble_eq_true rfl, Nat.le_of_ble_eq_true rfl⟩) rfl hl.1 rfl (Nat.le_of_ble_eq_true rfl) dX2_squareTells_28 ⟨Nat.le_of_ble_eq_true rfl, Nat.le_of_ble_eq_true rfl⟩ (fun v_4 u H locs hp hM => ?_)
  obtain ⟨hv, hu⟩ := hp
  have hv := Eq.symm hv
  have hu := Eq.symm hu
  subst hv
  subst hu
  rw [show (of6 (V (b + 2 * q)) 0 : Int32) = X q 0 from (of6_n (V (b + 2 * q)) (k := 0) (by decide)).trans (congrFun (hX q hq36) 0)]
  rw [hQ]
  exact fb_iret hx hb hr hlocks hM (⟨rfl, rfl⟩) dX2_squareTells_31

set_option maxHeartbeats 4000000 in
set_option maxRecDepth 100000 in
theorem c_X2_squareTells_1 (D : va_G) (y : Nat → ClassId) (l : Launch) (S : fb_Sh) (V I : fb_V) (t b c r d : Nat) (ht : TickAt S t b) (hf : TF I t c r d) (X : fb_V) (hX : ∀ q, q < 36 → V (b + 2 * q) = X q) (q : Nat) (hq : q < c * r) : CI D y l yX2_squareTells wsX2_squareTells rm_X2_squareTells [.ref (sa S t), .int (nI q), .int 1] (S, V, (sT V), I) (fun z u => z = X q 1 ∧ u = (S, V, sT V, I)) 0 0 := by
  refine CI.of (cc := cX2_squareTells) (maxL := 3) (ret := (some .int)) (by decide) rfl (Nat.le_of_ble_eq_true rfl) ?_
  intro pv ev s mv below meth cv A hx hb hml hr hown hts hlocks hname hM ls hl
  have hown : s.vm.findClass RX2 = some mv.cls := hown
  have hl : lv_has ls 3 [(0, .ref (sa S t)), (1, .int (nI q)), (2, .int 1)] := hl
  have hin2 : ∀ x ∈ wsX20, x ∈ wsX2_squareTells := by decide +kernel
  have hin0 : ∀ x ∈ wsX00, x ∈ wsX2_squareTells := by decide +kernel
  obtain ⟨Q, hQ⟩ : ∃ Q, Q = MQ below (va_Qi (fun z u => z = X q 1 ∧ u = (S, V, sT V, I)) (fun u t => fb_P D y A u t) A) (([.ref (sa S t), .int (nI q), .int 1] : List Value).toArray) s 0 0 A := ⟨_, rfl⟩
  rw [← hQ]
  have hn := hf.le
  have hc1 : 1 ≤ c := hf.2.2.2.2.1
  have hc6 : c ≤ 6 := hf.2.2.2.2.2.1
  have hq36 : q < 36 := by omega
  refine lv_iload_n hx hb dX2_squareTells_0 rfl (lv_at hl 1 rfl) ?_
  refine lv_if_lt (tgt := 13) hx hb dX2_squareTells_1 (by decide) (fun c_1 => absurd c_1 (nI_pos (by omega))) (fun c_1 => ?_)
  refine lv_iload_n hx hb dX2_squareTells_4 rfl (lv_at hl 1 rfl) ?_
  refine lv_aload_n hx hb dX2_squareTells_5 rfl (lv_at hl 0 rfl) ?_
  refine fb_get (r := t) hx hb hown hts hin2 hM ((ht.1)) (ce2 ((ht.2.1))) rfl 4 (by decide) (hts (.fieldLink RX2 26 "FeatherBeds$Tick" "heaps" "[LFeatherBeds$Heap;") (by decide +kernel)) (fun _ h9 => h9) (v := .ref (sa S (t + 1))) (congrArg (fun z => some (va_rf z)) ((ht.2.2.1))) dX2_squareTells_6 ?_
  refine fb_alen (r := (t + 1)) hx hb hM ((ht.2.2.2.2.2.1)) (ce8 ((ht.2.2.2.2.2.2.1))) 2 rfl (v := nI 36) (congrArg Int32.ofNat ((ht.2.2.2.2.2.2.2.1))) dX2_squareTells_9 ?_
  refine lv_icmp_lt (tgt := 15) hx hb dX2_squareTells_10 (by decide) (fun c_2 => ?_) (fun c_2 => absurd (nI_lt hq36 (by omega)) c_2)
  refine lv_iload_n hx hb dX2_squareTells_15 rfl (lv_at hl 2 rfl) ?_
  refine lv_bipush (v := 6) hx hb dX2_squareTells_16 (by decide) ?_
  refine lv_icmp_ge (tgt := 32) hx hb dX2_squareTells_18 (by decide) (fun c_3 => absurd c_3 (by decide)) (fun c_3 => ?_)
  refine lv_aload_n hx hb dX2_squareTells_21 rfl (lv_at hl 0 rfl) ?_
  refine fb_get (r := t) hx hb hown hts hin2 hM ((ht.1)) (ce2 ((ht.2.1))) rfl 4 (by decide) (hts (.fieldLink RX2 26 "FeatherBeds$Tick" "heaps" "[LFeatherBeds$Heap;") (by decide +kernel)) (fun _ h9 => h9) (v := .ref (sa S (t + 1))) (congrArg (fun z => some (va_rf z)) ((ht.2.2.1))) dX2_squareTells_22 ?_
  refine lv_iload_n hx hb dX2_squareTells_25 rfl (lv_at hl 1 rfl) ?_
  refine fb_aald (r := (t + 1)) hx hb hM ((ht.2.2.2.2.2.1)) (ce8 ((ht.2.2.2.2.2.2.1))) 2 rfl (k := q) (nI_clamp (by omega)) (b := sa S (b + 2 * q)) (((ht.2.2.2.2.2.2.2.2.2.2.2.2.2.2) q (by omega)).1) (by rw [(ht.2.2.2.2.2.2.2.1)]; exact vp_in_nI (by omega) (by omega)) dX2_squareTells_26 ?_
  refine lv_iload_n hx hb dX2_squareTells_27 rfl (lv_at hl 2 rfl) ?_
  refine fb_callVi (r := (b + 2 * q)) hx hb hml hown hts hM ((((ht.2.2.2.2.2.2.2.2.2.2.2.2.2.2) q (by omega)).2).1) (ce0 ((((ht.2.2.2.2.2.2.2.2.2.2.2.2.2.2) q (by omega)).2).2.1)) rfl (As := [.int 1]) (rest := []) (c_X0_of D y l S V I (b + 2 * q) (ht.hp hq36) 1) (cwV 1 hts gX2_squareTells_X0_of rfl rfl rfl (by decide +kernel) ⟨Nat.le_of_ble_eq_true rfl, Nat.le_of_ble_eq_true rfl⟩) rfl hl.1 rfl (Nat.le_of_ble_eq_true rfl) dX2_squareTells_28 ⟨Nat.le_of_ble_eq_true rfl, Nat.le_of_ble_eq_true rfl⟩ (fun v_4 u H locs hp hM => ?_)
  obtain ⟨hv, hu⟩ := hp
  have hv := Eq.symm hv
  have hu := Eq.symm hu
  subst hv
  subst hu
  rw [show (of6 (V (b + 2 * q)) 1 : Int32) = X q 1 from (of6_n (V (b + 2 * q)) (k := 1) (by decide)).trans (congrFun (hX q hq36) 1)]
  rw [hQ]
  exact fb_iret hx hb hr hlocks hM (⟨rfl, rfl⟩) dX2_squareTells_31

set_option maxHeartbeats 4000000 in
set_option maxRecDepth 100000 in
theorem c_X2_squareTells_2 (D : va_G) (y : Nat → ClassId) (l : Launch) (S : fb_Sh) (V I : fb_V) (t b c r d : Nat) (ht : TickAt S t b) (hf : TF I t c r d) (X : fb_V) (hX : ∀ q, q < 36 → V (b + 2 * q) = X q) (q : Nat) (hq : q < c * r) : CI D y l yX2_squareTells wsX2_squareTells rm_X2_squareTells [.ref (sa S t), .int (nI q), .int 2] (S, V, (sT V), I) (fun z u => z = X q 2 ∧ u = (S, V, sT V, I)) 0 0 := by
  refine CI.of (cc := cX2_squareTells) (maxL := 3) (ret := (some .int)) (by decide) rfl (Nat.le_of_ble_eq_true rfl) ?_
  intro pv ev s mv below meth cv A hx hb hml hr hown hts hlocks hname hM ls hl
  have hown : s.vm.findClass RX2 = some mv.cls := hown
  have hl : lv_has ls 3 [(0, .ref (sa S t)), (1, .int (nI q)), (2, .int 2)] := hl
  have hin2 : ∀ x ∈ wsX20, x ∈ wsX2_squareTells := by decide +kernel
  have hin0 : ∀ x ∈ wsX00, x ∈ wsX2_squareTells := by decide +kernel
  obtain ⟨Q, hQ⟩ : ∃ Q, Q = MQ below (va_Qi (fun z u => z = X q 2 ∧ u = (S, V, sT V, I)) (fun u t => fb_P D y A u t) A) (([.ref (sa S t), .int (nI q), .int 2] : List Value).toArray) s 0 0 A := ⟨_, rfl⟩
  rw [← hQ]
  have hn := hf.le
  have hc1 : 1 ≤ c := hf.2.2.2.2.1
  have hc6 : c ≤ 6 := hf.2.2.2.2.2.1
  have hq36 : q < 36 := by omega
  refine lv_iload_n hx hb dX2_squareTells_0 rfl (lv_at hl 1 rfl) ?_
  refine lv_if_lt (tgt := 13) hx hb dX2_squareTells_1 (by decide) (fun c_1 => absurd c_1 (nI_pos (by omega))) (fun c_1 => ?_)
  refine lv_iload_n hx hb dX2_squareTells_4 rfl (lv_at hl 1 rfl) ?_
  refine lv_aload_n hx hb dX2_squareTells_5 rfl (lv_at hl 0 rfl) ?_
  refine fb_get (r := t) hx hb hown hts hin2 hM ((ht.1)) (ce2 ((ht.2.1))) rfl 4 (by decide) (hts (.fieldLink RX2 26 "FeatherBeds$Tick" "heaps" "[LFeatherBeds$Heap;") (by decide +kernel)) (fun _ h9 => h9) (v := .ref (sa S (t + 1))) (congrArg (fun z => some (va_rf z)) ((ht.2.2.1))) dX2_squareTells_6 ?_
  refine fb_alen (r := (t + 1)) hx hb hM ((ht.2.2.2.2.2.1)) (ce8 ((ht.2.2.2.2.2.2.1))) 2 rfl (v := nI 36) (congrArg Int32.ofNat ((ht.2.2.2.2.2.2.2.1))) dX2_squareTells_9 ?_
  refine lv_icmp_lt (tgt := 15) hx hb dX2_squareTells_10 (by decide) (fun c_2 => ?_) (fun c_2 => absurd (nI_lt hq36 (by omega)) c_2)
  refine lv_iload_n hx hb dX2_squareTells_15 rfl (lv_at hl 2 rfl) ?_
  refine lv_bipush (v := 6) hx hb dX2_squareTells_16 (by decide) ?_
  refine lv_icmp_ge (tgt := 32) hx hb dX2_squareTells_18 (by decide) (fun c_3 => absurd c_3 (by decide)) (fun c_3 => ?_)
  refine lv_aload_n hx hb dX2_squareTells_21 rfl (lv_at hl 0 rfl) ?_
  refine fb_get (r := t) hx hb hown hts hin2 hM ((ht.1)) (ce2 ((ht.2.1))) rfl 4 (by decide) (hts (.fieldLink RX2 26 "FeatherBeds$Tick" "heaps" "[LFeatherBeds$Heap;") (by decide +kernel)) (fun _ h9 => h9) (v := .ref (sa S (t + 1))) (congrArg (fun z => some (va_rf z)) ((ht.2.2.1))) dX2_squareTells_22 ?_
  refine lv_iload_n hx hb dX2_squareTells_25 rfl (lv_at hl 1 rfl) ?_
  refine fb_aald (r := (t + 1)) hx hb hM ((ht.2.2.2.2.2.1)) (ce8 ((ht.2.2.2.2.2.2.1))) 2 rfl (k := q) (nI_clamp (by omega)) (b := sa S (b + 2 * q)) (((ht.2.2.2.2.2.2.2.2.2.2.2.2.2.2) q (by omega)).1) (by rw [(ht.2.2.2.2.2.2.2.1)]; exact vp_in_nI (by omega) (by omega)) dX2_squareTells_26 ?_
  refine lv_iload_n hx hb dX2_squareTells_27 rfl (lv_at hl 2 rfl) ?_
  refine fb_callVi (r := (b + 2 * q)) hx hb hml hown hts hM ((((ht.2.2.2.2.2.2.2.2.2.2.2.2.2.2) q (by omega)).2).1) (ce0 ((((ht.2.2.2.2.2.2.2.2.2.2.2.2.2.2) q (by omega)).2).2.1)) rfl (As := [.int 2]) (rest := []) (c_X0_of D y l S V I (b + 2 * q) (ht.hp hq36) 2) (cwV 1 hts gX2_squareTells_X0_of rfl rfl rfl (by decide +kernel) ⟨Nat.le_of_ble_eq_true rfl, Nat.le_of_ble_eq_true rfl⟩) rfl hl.1 rfl (Nat.le_of_ble_eq_true rfl) dX2_squareTells_28 ⟨Nat.le_of_ble_eq_true rfl, Nat.le_of_ble_eq_true rfl⟩ (fun v_4 u H locs hp hM => ?_)
  obtain ⟨hv, hu⟩ := hp
  have hv := Eq.symm hv
  have hu := Eq.symm hu
  subst hv
  subst hu
  rw [show (of6 (V (b + 2 * q)) 2 : Int32) = X q 2 from (of6_n (V (b + 2 * q)) (k := 2) (by decide)).trans (congrFun (hX q hq36) 2)]
  rw [hQ]
  exact fb_iret hx hb hr hlocks hM (⟨rfl, rfl⟩) dX2_squareTells_31

set_option maxHeartbeats 4000000 in
set_option maxRecDepth 100000 in
theorem c_X2_squareTells_3 (D : va_G) (y : Nat → ClassId) (l : Launch) (S : fb_Sh) (V I : fb_V) (t b c r d : Nat) (ht : TickAt S t b) (hf : TF I t c r d) (X : fb_V) (hX : ∀ q, q < 36 → V (b + 2 * q) = X q) (q : Nat) (hq : q < c * r) : CI D y l yX2_squareTells wsX2_squareTells rm_X2_squareTells [.ref (sa S t), .int (nI q), .int 3] (S, V, (sT V), I) (fun z u => z = X q 3 ∧ u = (S, V, sT V, I)) 0 0 := by
  refine CI.of (cc := cX2_squareTells) (maxL := 3) (ret := (some .int)) (by decide) rfl (Nat.le_of_ble_eq_true rfl) ?_
  intro pv ev s mv below meth cv A hx hb hml hr hown hts hlocks hname hM ls hl
  have hown : s.vm.findClass RX2 = some mv.cls := hown
  have hl : lv_has ls 3 [(0, .ref (sa S t)), (1, .int (nI q)), (2, .int 3)] := hl
  have hin2 : ∀ x ∈ wsX20, x ∈ wsX2_squareTells := by decide +kernel
  have hin0 : ∀ x ∈ wsX00, x ∈ wsX2_squareTells := by decide +kernel
  obtain ⟨Q, hQ⟩ : ∃ Q, Q = MQ below (va_Qi (fun z u => z = X q 3 ∧ u = (S, V, sT V, I)) (fun u t => fb_P D y A u t) A) (([.ref (sa S t), .int (nI q), .int 3] : List Value).toArray) s 0 0 A := ⟨_, rfl⟩
  rw [← hQ]
  have hn := hf.le
  have hc1 : 1 ≤ c := hf.2.2.2.2.1
  have hc6 : c ≤ 6 := hf.2.2.2.2.2.1
  have hq36 : q < 36 := by omega
  refine lv_iload_n hx hb dX2_squareTells_0 rfl (lv_at hl 1 rfl) ?_
  refine lv_if_lt (tgt := 13) hx hb dX2_squareTells_1 (by decide) (fun c_1 => absurd c_1 (nI_pos (by omega))) (fun c_1 => ?_)
  refine lv_iload_n hx hb dX2_squareTells_4 rfl (lv_at hl 1 rfl) ?_
  refine lv_aload_n hx hb dX2_squareTells_5 rfl (lv_at hl 0 rfl) ?_
  refine fb_get (r := t) hx hb hown hts hin2 hM ((ht.1)) (ce2 ((ht.2.1))) rfl 4 (by decide) (hts (.fieldLink RX2 26 "FeatherBeds$Tick" "heaps" "[LFeatherBeds$Heap;") (by decide +kernel)) (fun _ h9 => h9) (v := .ref (sa S (t + 1))) (congrArg (fun z => some (va_rf z)) ((ht.2.2.1))) dX2_squareTells_6 ?_
  refine fb_alen (r := (t + 1)) hx hb hM ((ht.2.2.2.2.2.1)) (ce8 ((ht.2.2.2.2.2.2.1))) 2 rfl (v := nI 36) (congrArg Int32.ofNat ((ht.2.2.2.2.2.2.2.1))) dX2_squareTells_9 ?_
  refine lv_icmp_lt (tgt := 15) hx hb dX2_squareTells_10 (by decide) (fun c_2 => ?_) (fun c_2 => absurd (nI_lt hq36 (by omega)) c_2)
  refine lv_iload_n hx hb dX2_squareTells_15 rfl (lv_at hl 2 rfl) ?_
  refine lv_bipush (v := 6) hx hb dX2_squareTells_16 (by decide) ?_
  refine lv_icmp_ge (tgt := 32) hx hb dX2_squareTells_18 (by decide) (fun c_3 => absurd c_3 (by decide)) (fun c_3 => ?_)
  refine lv_aload_n hx hb dX2_squareTells_21 rfl (lv_at hl 0 rfl) ?_
  refine fb_get (r := t) hx hb hown hts hin2 hM ((ht.1)) (ce2 ((ht.2.1))) rfl 4 (by decide) (hts (.fieldLink RX2 26 "FeatherBeds$Tick" "heaps" "[LFeatherBeds$Heap;") (by decide +kernel)) (fun _ h9 => h9) (v := .ref (sa S (t + 1))) (congrArg (fun z => some (va_rf z)) ((ht.2.2.1))) dX2_squareTells_22 ?_
  refine lv_iload_n hx hb dX2_squareTells_25 rfl (lv_at hl 1 rfl) ?_
  refine fb_aald (r := (t + 1)) hx hb hM ((ht.2.2.2.2.2.1)) (ce8 ((ht.2.2.2.2.2.2.1))) 2 rfl (k := q) (nI_clamp (by omega)) (b := sa S (b + 2 * q)) (((ht.2.2.2.2.2.2.2.2.2.2.2.2.2.2) q (by omega)).1) (by rw [(ht.2.2.2.2.2.2.2.1)]; exact vp_in_nI (by omega) (by omega)) dX2_squareTells_26 ?_
  refine lv_iload_n hx hb dX2_squareTells_27 rfl (lv_at hl 2 rfl) ?_
  refine fb_callVi (r := (b + 2 * q)) hx hb hml hown hts hM ((((ht.2.2.2.2.2.2.2.2.2.2.2.2.2.2) q (by omega)).2).1) (ce0 ((((ht.2.2.2.2.2.2.2.2.2.2.2.2.2.2) q (by omega)).2).2.1)) rfl (As := [.int 3]) (rest := []) (c_X0_of D y l S V I (b + 2 * q) (ht.hp hq36) 3) (cwV 1 hts gX2_squareTells_X0_of rfl rfl rfl (by decide +kernel) ⟨Nat.le_of_ble_eq_true rfl, Nat.le_of_ble_eq_true rfl⟩) rfl hl.1 rfl (Nat.le_of_ble_eq_true rfl) dX2_squareTells_28 ⟨Nat.le_of_ble_eq_true rfl, Nat.le_of_ble_eq_true rfl⟩ (fun v_4 u H locs hp hM => ?_)
  obtain ⟨hv, hu⟩ := hp
  have hv := Eq.symm hv
  have hu := Eq.symm hu
  subst hv
  subst hu
  rw [show (of6 (V (b + 2 * q)) 3 : Int32) = X q 3 from (of6_n (V (b + 2 * q)) (k := 3) (by decide)).trans (congrFun (hX q hq36) 3)]
  rw [hQ]
  exact fb_iret hx hb hr hlocks hM (⟨rfl, rfl⟩) dX2_squareTells_31

set_option maxHeartbeats 4000000 in
set_option maxRecDepth 100000 in
theorem c_X2_squareTells_4 (D : va_G) (y : Nat → ClassId) (l : Launch) (S : fb_Sh) (V I : fb_V) (t b c r d : Nat) (ht : TickAt S t b) (hf : TF I t c r d) (X : fb_V) (hX : ∀ q, q < 36 → V (b + 2 * q) = X q) (q : Nat) (hq : q < c * r) : CI D y l yX2_squareTells wsX2_squareTells rm_X2_squareTells [.ref (sa S t), .int (nI q), .int 4] (S, V, (sT V), I) (fun z u => z = X q 4 ∧ u = (S, V, sT V, I)) 0 0 := by
  refine CI.of (cc := cX2_squareTells) (maxL := 3) (ret := (some .int)) (by decide) rfl (Nat.le_of_ble_eq_true rfl) ?_
  intro pv ev s mv below meth cv A hx hb hml hr hown hts hlocks hname hM ls hl
  have hown : s.vm.findClass RX2 = some mv.cls := hown
  have hl : lv_has ls 3 [(0, .ref (sa S t)), (1, .int (nI q)), (2, .int 4)] := hl
  have hin2 : ∀ x ∈ wsX20, x ∈ wsX2_squareTells := by decide +kernel
  have hin0 : ∀ x ∈ wsX00, x ∈ wsX2_squareTells := by decide +kernel
  obtain ⟨Q, hQ⟩ : ∃ Q, Q = MQ below (va_Qi (fun z u => z = X q 4 ∧ u = (S, V, sT V, I)) (fun u t => fb_P D y A u t) A) (([.ref (sa S t), .int (nI q), .int 4] : List Value).toArray) s 0 0 A := ⟨_, rfl⟩
  rw [← hQ]
  have hn := hf.le
  have hc1 : 1 ≤ c := hf.2.2.2.2.1
  have hc6 : c ≤ 6 := hf.2.2.2.2.2.1
  have hq36 : q < 36 := by omega
  refine lv_iload_n hx hb dX2_squareTells_0 rfl (lv_at hl 1 rfl) ?_
  refine lv_if_lt (tgt := 13) hx hb dX2_squareTells_1 (by decide) (fun c_1 => absurd c_1 (nI_pos (by omega))) (fun c_1 => ?_)
  refine lv_iload_n hx hb dX2_squareTells_4 rfl (lv_at hl 1 rfl) ?_
  refine lv_aload_n hx hb dX2_squareTells_5 rfl (lv_at hl 0 rfl) ?_
  refine fb_get (r := t) hx hb hown hts hin2 hM ((ht.1)) (ce2 ((ht.2.1))) rfl 4 (by decide) (hts (.fieldLink RX2 26 "FeatherBeds$Tick" "heaps" "[LFeatherBeds$Heap;") (by decide +kernel)) (fun _ h9 => h9) (v := .ref (sa S (t + 1))) (congrArg (fun z => some (va_rf z)) ((ht.2.2.1))) dX2_squareTells_6 ?_
  refine fb_alen (r := (t + 1)) hx hb hM ((ht.2.2.2.2.2.1)) (ce8 ((ht.2.2.2.2.2.2.1))) 2 rfl (v := nI 36) (congrArg Int32.ofNat ((ht.2.2.2.2.2.2.2.1))) dX2_squareTells_9 ?_
  refine lv_icmp_lt (tgt := 15) hx hb dX2_squareTells_10 (by decide) (fun c_2 => ?_) (fun c_2 => absurd (nI_lt hq36 (by omega)) c_2)
  refine lv_iload_n hx hb dX2_squareTells_15 rfl (lv_at hl 2 rfl) ?_
  refine lv_bipush (v := 6) hx hb dX2_squareTells_16 (by decide) ?_
  refine lv_icmp_ge (tgt := 32) hx hb dX2_squareTells_18 (by decide) (fun c_3 => absurd c_3 (by decide)) (fun c_3 => ?_)
  refine lv_aload_n hx hb dX2_squareTells_21 rfl (lv_at hl 0 rfl) ?_
  refine fb_get (r := t) hx hb hown hts hin2 hM ((ht.1)) (ce2 ((ht.2.1))) rfl 4 (by decide) (hts (.fieldLink RX2 26 "FeatherBeds$Tick" "heaps" "[LFeatherBeds$Heap;") (by decide +kernel)) (fun _ h9 => h9) (v := .ref (sa S (t + 1))) (congrArg (fun z => some (va_rf z)) ((ht.2.2.1))) dX2_squareTells_22 ?_
  refine lv_iload_n hx hb dX2_squareTells_25 rfl (lv_at hl 1 rfl) ?_
  refine fb_aald (r := (t + 1)) hx hb hM ((ht.2.2.2.2.2.1)) (ce8 ((ht.2.2.2.2.2.2.1))) 2 rfl (k := q) (nI_clamp (by omega)) (b := sa S (b + 2 * q)) (((ht.2.2.2.2.2.2.2.2.2.2.2.2.2.2) q (by omega)).1) (by rw [(ht.2.2.2.2.2.2.2.1)]; exact vp_in_nI (by omega) (by omega)) dX2_squareTells_26 ?_
  refine lv_iload_n hx hb dX2_squareTells_27 rfl (lv_at hl 2 rfl) ?_
  refine fb_callVi (r := (b + 2 * q)) hx hb hml hown hts hM ((((ht.2.2.2.2.2.2.2.2.2.2.2.2.2.2) q (by omega)).2).1) (ce0 ((((ht.2.2.2.2.2.2.2.2.2.2.2.2.2.2) q (by omega)).2).2.1)) rfl (As := [.int 4]) (rest := []) (c_X0_of D y l S V I (b + 2 * q) (ht.hp hq36) 4) (cwV 1 hts gX2_squareTells_X0_of rfl rfl rfl (by decide +kernel) ⟨Nat.le_of_ble_eq_true rfl, Nat.le_of_ble_eq_true rfl⟩) rfl hl.1 rfl (Nat.le_of_ble_eq_true rfl) dX2_squareTells_28 ⟨Nat.le_of_ble_eq_true rfl, Nat.le_of_ble_eq_true rfl⟩ (fun v_4 u H locs hp hM => ?_)
  obtain ⟨hv, hu⟩ := hp
  have hv := Eq.symm hv
  have hu := Eq.symm hu
  subst hv
  subst hu
  rw [show (of6 (V (b + 2 * q)) 4 : Int32) = X q 4 from (of6_n (V (b + 2 * q)) (k := 4) (by decide)).trans (congrFun (hX q hq36) 4)]
  rw [hQ]
  exact fb_iret hx hb hr hlocks hM (⟨rfl, rfl⟩) dX2_squareTells_31

set_option maxHeartbeats 4000000 in
set_option maxRecDepth 100000 in
theorem c_X2_squareTells_5 (D : va_G) (y : Nat → ClassId) (l : Launch) (S : fb_Sh) (V I : fb_V) (t b c r d : Nat) (ht : TickAt S t b) (hf : TF I t c r d) (X : fb_V) (hX : ∀ q, q < 36 → V (b + 2 * q) = X q) (q : Nat) (hq : q < c * r) : CI D y l yX2_squareTells wsX2_squareTells rm_X2_squareTells [.ref (sa S t), .int (nI q), .int 5] (S, V, (sT V), I) (fun z u => z = X q 5 ∧ u = (S, V, sT V, I)) 0 0 := by
  refine CI.of (cc := cX2_squareTells) (maxL := 3) (ret := (some .int)) (by decide) rfl (Nat.le_of_ble_eq_true rfl) ?_
  intro pv ev s mv below meth cv A hx hb hml hr hown hts hlocks hname hM ls hl
  have hown : s.vm.findClass RX2 = some mv.cls := hown
  have hl : lv_has ls 3 [(0, .ref (sa S t)), (1, .int (nI q)), (2, .int 5)] := hl
  have hin2 : ∀ x ∈ wsX20, x ∈ wsX2_squareTells := by decide +kernel
  have hin0 : ∀ x ∈ wsX00, x ∈ wsX2_squareTells := by decide +kernel
  obtain ⟨Q, hQ⟩ : ∃ Q, Q = MQ below (va_Qi (fun z u => z = X q 5 ∧ u = (S, V, sT V, I)) (fun u t => fb_P D y A u t) A) (([.ref (sa S t), .int (nI q), .int 5] : List Value).toArray) s 0 0 A := ⟨_, rfl⟩
  rw [← hQ]
  have hn := hf.le
  have hc1 : 1 ≤ c := hf.2.2.2.2.1
  have hc6 : c ≤ 6 := hf.2.2.2.2.2.1
  have hq36 : q < 36 := by omega
  refine lv_iload_n hx hb dX2_squareTells_0 rfl (lv_at hl 1 rfl) ?_
  refine lv_if_lt (tgt := 13) hx hb dX2_squareTells_1 (by decide) (fun c_1 => absurd c_1 (nI_pos (by omega))) (fun c_1 => ?_)
  refine lv_iload_n hx hb dX2_squareTells_4 rfl (lv_at hl 1 rfl) ?_
  refine lv_aload_n hx hb dX2_squareTells_5 rfl (lv_at hl 0 rfl) ?_
  refine fb_get (r := t) hx hb hown hts hin2 hM ((ht.1)) (ce2 ((ht.2.1))) rfl 4 (by decide) (hts (.fieldLink RX2 26 "FeatherBeds$Tick" "heaps" "[LFeatherBeds$Heap;") (by decide +kernel)) (fun _ h9 => h9) (v := .ref (sa S (t + 1))) (congrArg (fun z => some (va_rf z)) ((ht.2.2.1))) dX2_squareTells_6 ?_
  refine fb_alen (r := (t + 1)) hx hb hM ((ht.2.2.2.2.2.1)) (ce8 ((ht.2.2.2.2.2.2.1))) 2 rfl (v := nI 36) (congrArg Int32.ofNat ((ht.2.2.2.2.2.2.2.1))) dX2_squareTells_9 ?_
  refine lv_icmp_lt (tgt := 15) hx hb dX2_squareTells_10 (by decide) (fun c_2 => ?_) (fun c_2 => absurd (nI_lt hq36 (by omega)) c_2)
  refine lv_iload_n hx hb dX2_squareTells_15 rfl (lv_at hl 2 rfl) ?_
  refine lv_bipush (v := 6) hx hb dX2_squareTells_16 (by decide) ?_
  refine lv_icmp_ge (tgt := 32) hx hb dX2_squareTells_18 (by decide) (fun c_3 => absurd c_3 (by decide)) (fun c_3 => ?_)
  refine lv_aload_n hx hb dX2_squareTells_21 rfl (lv_at hl 0 rfl) ?_
  refine fb_get (r := t) hx hb hown hts hin2 hM ((ht.1)) (ce2 ((ht.2.1))) rfl 4 (by decide) (hts (.fieldLink RX2 26 "FeatherBeds$Tick" "heaps" "[LFeatherBeds$Heap;") (by decide +kernel)) (fun _ h9 => h9) (v := .ref (sa S (t + 1))) (congrArg (fun z => some (va_rf z)) ((ht.2.2.1))) dX2_squareTells_22 ?_
  refine lv_iload_n hx hb dX2_squareTells_25 rfl (lv_at hl 1 rfl) ?_
  refine fb_aald (r := (t + 1)) hx hb hM ((ht.2.2.2.2.2.1)) (ce8 ((ht.2.2.2.2.2.2.1))) 2 rfl (k := q) (nI_clamp (by omega)) (b := sa S (b + 2 * q)) (((ht.2.2.2.2.2.2.2.2.2.2.2.2.2.2) q (by omega)).1) (by rw [(ht.2.2.2.2.2.2.2.1)]; exact vp_in_nI (by omega) (by omega)) dX2_squareTells_26 ?_
  refine lv_iload_n hx hb dX2_squareTells_27 rfl (lv_at hl 2 rfl) ?_
  refine fb_callVi (r := (b + 2 * q)) hx hb hml hown hts hM ((((ht.2.2.2.2.2.2.2.2.2.2.2.2.2.2) q (by omega)).2).1) (ce0 ((((ht.2.2.2.2.2.2.2.2.2.2.2.2.2.2) q (by omega)).2).2.1)) rfl (As := [.int 5]) (rest := []) (c_X0_of D y l S V I (b + 2 * q) (ht.hp hq36) 5) (cwV 1 hts gX2_squareTells_X0_of rfl rfl rfl (by decide +kernel) ⟨Nat.le_of_ble_eq_true rfl, Nat.le_of_ble_eq_true rfl⟩) rfl hl.1 rfl (Nat.le_of_ble_eq_true rfl) dX2_squareTells_28 ⟨Nat.le_of_ble_eq_true rfl, Nat.le_of_ble_eq_true rfl⟩ (fun v_4 u H locs hp hM => ?_)
  obtain ⟨hv, hu⟩ := hp
  have hv := Eq.symm hv
  have hu := Eq.symm hu
  subst hv
  subst hu
  rw [show (of6 (V (b + 2 * q)) 5 : Int32) = X q 5 from (of6_n (V (b + 2 * q)) (k := 5) (by decide)).trans (congrFun (hX q hq36) 5)]
  rw [hQ]
  exact fb_iret hx hb hr hlocks hM (⟨rfl, rfl⟩) dX2_squareTells_31

set_option maxHeartbeats 4000000 in
set_option maxRecDepth 100000 in
theorem c_X2_squareTells_6 (D : va_G) (y : Nat → ClassId) (l : Launch) (S : fb_Sh) (V I : fb_V) (t b c r d : Nat) (ht : TickAt S t b) (hf : TF I t c r d) (X : fb_V) (hX : ∀ q, q < 36 → V (b + 2 * q) = X q) (q : Nat) (hq : q < c * r) : CI D y l yX2_squareTells wsX2_squareTells rm_X2_squareTells [.ref (sa S t), .int (nI q), .int 6] (S, V, (sT V), I) (fun z u => z = s6 (X q) ∧ u = (S, V, sT V, I)) 0 0 := by
  refine CI.of (cc := cX2_squareTells) (maxL := 3) (ret := (some .int)) (by decide) rfl (Nat.le_of_ble_eq_true rfl) ?_
  intro pv ev s mv below meth cv A hx hb hml hr hown hts hlocks hname hM ls hl
  have hown : s.vm.findClass RX2 = some mv.cls := hown
  have hl : lv_has ls 3 [(0, .ref (sa S t)), (1, .int (nI q)), (2, .int 6)] := hl
  have hin2 : ∀ x ∈ wsX20, x ∈ wsX2_squareTells := by decide +kernel
  have hin0 : ∀ x ∈ wsX00, x ∈ wsX2_squareTells := by decide +kernel
  obtain ⟨Q, hQ⟩ : ∃ Q, Q = MQ below (va_Qi (fun z u => z = s6 (X q) ∧ u = (S, V, sT V, I)) (fun u t => fb_P D y A u t) A) (([.ref (sa S t), .int (nI q), .int 6] : List Value).toArray) s 0 0 A := ⟨_, rfl⟩
  rw [← hQ]
  have hn := hf.le
  have hc1 : 1 ≤ c := hf.2.2.2.2.1
  have hc6 : c ≤ 6 := hf.2.2.2.2.2.1
  have hq36 : q < 36 := by omega
  refine lv_iload_n hx hb dX2_squareTells_0 rfl (lv_at hl 1 rfl) ?_
  refine lv_if_lt (tgt := 13) hx hb dX2_squareTells_1 (by decide) (fun c_1 => absurd c_1 (nI_pos (by omega))) (fun c_1 => ?_)
  refine lv_iload_n hx hb dX2_squareTells_4 rfl (lv_at hl 1 rfl) ?_
  refine lv_aload_n hx hb dX2_squareTells_5 rfl (lv_at hl 0 rfl) ?_
  refine fb_get (r := t) hx hb hown hts hin2 hM ((ht.1)) (ce2 ((ht.2.1))) rfl 4 (by decide) (hts (.fieldLink RX2 26 "FeatherBeds$Tick" "heaps" "[LFeatherBeds$Heap;") (by decide +kernel)) (fun _ h9 => h9) (v := .ref (sa S (t + 1))) (congrArg (fun z => some (va_rf z)) ((ht.2.2.1))) dX2_squareTells_6 ?_
  refine fb_alen (r := (t + 1)) hx hb hM ((ht.2.2.2.2.2.1)) (ce8 ((ht.2.2.2.2.2.2.1))) 2 rfl (v := nI 36) (congrArg Int32.ofNat ((ht.2.2.2.2.2.2.2.1))) dX2_squareTells_9 ?_
  refine lv_icmp_lt (tgt := 15) hx hb dX2_squareTells_10 (by decide) (fun c_2 => ?_) (fun c_2 => absurd (nI_lt hq36 (by omega)) c_2)
  refine lv_iload_n hx hb dX2_squareTells_15 rfl (lv_at hl 2 rfl) ?_
  refine lv_bipush (v := 6) hx hb dX2_squareTells_16 (by decide) ?_
  refine lv_icmp_ge (tgt := 32) hx hb dX2_squareTells_18 (by decide) (fun c_3 => ?_) (fun c_3 => absurd (by decide) c_3)
  refine lv_iload_n hx hb dX2_squareTells_32 rfl (lv_at hl 2 rfl) ?_
  refine lv_tableIn (off := 27) (tgt := 60) hx hb dX2_squareTells_33 (by decide) (by decide) rfl (by decide) ?_
  refine lv_aload_n hx hb dX2_squareTells_60 rfl (lv_at hl 0 rfl) ?_
  refine fb_get (r := t) hx hb hown hts hin2 hM ((ht.1)) (ce2 ((ht.2.1))) rfl 4 (by decide) (hts (.fieldLink RX2 26 "FeatherBeds$Tick" "heaps" "[LFeatherBeds$Heap;") (by decide +kernel)) (fun _ h9 => h9) (v := .ref (sa S (t + 1))) (congrArg (fun z => some (va_rf z)) ((ht.2.2.1))) dX2_squareTells_61 ?_
  refine lv_iload_n hx hb dX2_squareTells_64 rfl (lv_at hl 1 rfl) ?_
  refine fb_aald (r := (t + 1)) hx hb hM ((ht.2.2.2.2.2.1)) (ce8 ((ht.2.2.2.2.2.2.1))) 2 rfl (k := q) (nI_clamp (by omega)) (b := sa S (b + 2 * q)) (((ht.2.2.2.2.2.2.2.2.2.2.2.2.2.2) q (by omega)).1) (by rw [(ht.2.2.2.2.2.2.2.1)]; exact vp_in_nI (by omega) (by omega)) dX2_squareTells_65 ?_
  refine fb_getN (r := (b + 2 * q)) hx hb hown hts hin0 hM ((((ht.2.2.2.2.2.2.2.2.2.2.2.2.2.2) q (by omega)).2).1) (ce0 ((((ht.2.2.2.2.2.2.2.2.2.2.2.2.2.2) q (by omega)).2).2.1)) rfl 1 (by decide) (host := "FeatherBeds") (by decide +kernel) (fun _ h9 => h9) (v := .int ((sT V) (b + 2 * q))) rfl dX2_squareTells_66 ?_
  rw [hQ]
  exact fb_iret hx hb hr hlocks hM (⟨congrArg s6 (hX q hq36), rfl⟩) dX2_squareTells_69

set_option maxHeartbeats 4000000 in
set_option maxRecDepth 100000 in
theorem c_X2_squareTells_7 (D : va_G) (y : Nat → ClassId) (l : Launch) (S : fb_Sh) (V I : fb_V) (t b c r d : Nat) (ht : TickAt S t b) (hf : TF I t c r d) (X : fb_V) (hX : ∀ q, q < 36 → V (b + 2 * q) = X q) (q : Nat) (hq : q < c * r) : CI D y l yX2_squareTells wsX2_squareTells rm_X2_squareTells [.ref (sa S t), .int (nI q), .int 7] (S, V, (sT V), I) (fun z u => z = wm (X q) ∧ u = (S, V, sT V, I)) 0 0 := by
  refine CI.of (cc := cX2_squareTells) (maxL := 3) (ret := (some .int)) (by decide) rfl (Nat.le_of_ble_eq_true rfl) ?_
  intro pv ev s mv below meth cv A hx hb hml hr hown hts hlocks hname hM ls hl
  have hown : s.vm.findClass RX2 = some mv.cls := hown
  have hl : lv_has ls 3 [(0, .ref (sa S t)), (1, .int (nI q)), (2, .int 7)] := hl
  have hin2 : ∀ x ∈ wsX20, x ∈ wsX2_squareTells := by decide +kernel
  have hin0 : ∀ x ∈ wsX00, x ∈ wsX2_squareTells := by decide +kernel
  obtain ⟨Q, hQ⟩ : ∃ Q, Q = MQ below (va_Qi (fun z u => z = wm (X q) ∧ u = (S, V, sT V, I)) (fun u t => fb_P D y A u t) A) (([.ref (sa S t), .int (nI q), .int 7] : List Value).toArray) s 0 0 A := ⟨_, rfl⟩
  rw [← hQ]
  have hn := hf.le
  have hc1 : 1 ≤ c := hf.2.2.2.2.1
  have hc6 : c ≤ 6 := hf.2.2.2.2.2.1
  have hq36 : q < 36 := by omega
  refine lv_iload_n hx hb dX2_squareTells_0 rfl (lv_at hl 1 rfl) ?_
  refine lv_if_lt (tgt := 13) hx hb dX2_squareTells_1 (by decide) (fun c_1 => absurd c_1 (nI_pos (by omega))) (fun c_1 => ?_)
  refine lv_iload_n hx hb dX2_squareTells_4 rfl (lv_at hl 1 rfl) ?_
  refine lv_aload_n hx hb dX2_squareTells_5 rfl (lv_at hl 0 rfl) ?_
  refine fb_get (r := t) hx hb hown hts hin2 hM ((ht.1)) (ce2 ((ht.2.1))) rfl 4 (by decide) (hts (.fieldLink RX2 26 "FeatherBeds$Tick" "heaps" "[LFeatherBeds$Heap;") (by decide +kernel)) (fun _ h9 => h9) (v := .ref (sa S (t + 1))) (congrArg (fun z => some (va_rf z)) ((ht.2.2.1))) dX2_squareTells_6 ?_
  refine fb_alen (r := (t + 1)) hx hb hM ((ht.2.2.2.2.2.1)) (ce8 ((ht.2.2.2.2.2.2.1))) 2 rfl (v := nI 36) (congrArg Int32.ofNat ((ht.2.2.2.2.2.2.2.1))) dX2_squareTells_9 ?_
  refine lv_icmp_lt (tgt := 15) hx hb dX2_squareTells_10 (by decide) (fun c_2 => ?_) (fun c_2 => absurd (nI_lt hq36 (by omega)) c_2)
  refine lv_iload_n hx hb dX2_squareTells_15 rfl (lv_at hl 2 rfl) ?_
  refine lv_bipush (v := 6) hx hb dX2_squareTells_16 (by decide) ?_
  refine lv_icmp_ge (tgt := 32) hx hb dX2_squareTells_18 (by decide) (fun c_3 => ?_) (fun c_3 => absurd (by decide) c_3)
  refine lv_iload_n hx hb dX2_squareTells_32 rfl (lv_at hl 2 rfl) ?_
  refine lv_tableIn (off := 37) (tgt := 70) hx hb dX2_squareTells_33 (by decide) (by decide) rfl (by decide) ?_
  refine lv_aload_n hx hb dX2_squareTells_70 rfl (lv_at hl 0 rfl) ?_
  refine fb_get (r := t) hx hb hown hts hin2 hM ((ht.1)) (ce2 ((ht.2.1))) rfl 4 (by decide) (hts (.fieldLink RX2 26 "FeatherBeds$Tick" "heaps" "[LFeatherBeds$Heap;") (by decide +kernel)) (fun _ h9 => h9) (v := .ref (sa S (t + 1))) (congrArg (fun z => some (va_rf z)) ((ht.2.2.1))) dX2_squareTells_71 ?_
  refine lv_iload_n hx hb dX2_squareTells_74 rfl (lv_at hl 1 rfl) ?_
  refine fb_aald (r := (t + 1)) hx hb hM ((ht.2.2.2.2.2.1)) (ce8 ((ht.2.2.2.2.2.2.1))) 2 rfl (k := q) (nI_clamp (by omega)) (b := sa S (b + 2 * q)) (((ht.2.2.2.2.2.2.2.2.2.2.2.2.2.2) q (by omega)).1) (by rw [(ht.2.2.2.2.2.2.2.1)]; exact vp_in_nI (by omega) (by omega)) dX2_squareTells_75 ?_
  refine fb_callVi (r := (b + 2 * q)) hx hb hml hown hts hM ((((ht.2.2.2.2.2.2.2.2.2.2.2.2.2.2) q (by omega)).2).1) (ce0 ((((ht.2.2.2.2.2.2.2.2.2.2.2.2.2.2) q (by omega)).2).2.1)) rfl (As := []) (rest := []) (c_X0_warmth D y l S V I (b + 2 * q) (ht.hp hq36)) (cwV 0 hts gX2_squareTells_X0_warmth rfl rfl rfl (by decide +kernel) ⟨Nat.le_of_ble_eq_true rfl, Nat.le_of_ble_eq_true rfl⟩) rfl hl.1 rfl (Nat.le_of_ble_eq_true rfl) dX2_squareTells_76 ⟨Nat.le_of_ble_eq_true rfl, Nat.le_of_ble_eq_true rfl⟩ (fun v_4 u H locs hp hM => ?_)
  obtain ⟨hv, hu⟩ := hp
  have hv := Eq.symm hv
  have hu := Eq.symm hu
  subst hv
  subst hu
  rw [hQ]
  exact fb_iret hx hb hr hlocks hM (⟨congrArg wm (hX q hq36), rfl⟩) dX2_squareTells_79

set_option maxHeartbeats 4000000 in
set_option maxRecDepth 100000 in
theorem c_X2_squareTells_8 (D : va_G) (y : Nat → ClassId) (l : Launch) (S : fb_Sh) (V I : fb_V) (t b c r d : Nat) (ht : TickAt S t b) (hf : TF I t c r d) (X : fb_V) (hX : ∀ q, q < 36 → V (b + 2 * q) = X q) (q : Nat) (hq : q < c * r) : CI D y l yX2_squareTells wsX2_squareTells rm_X2_squareTells [.ref (sa S t), .int (nI q), .int 8] (S, V, (sT V), I) (fun z u => z = ob c (c * r) (I (t + 2)) q 0 ∧ u = (S, V, sT V, I)) 0 0 := by
  refine CI.of (cc := cX2_squareTells) (maxL := 3) (ret := (some .int)) (by decide) rfl (Nat.le_of_ble_eq_true rfl) ?_
  intro pv ev s mv below meth cv A hx hb hml hr hown hts hlocks hname hM ls hl
  have hown : s.vm.findClass RX2 = some mv.cls := hown
  have hl : lv_has ls 3 [(0, .ref (sa S t)), (1, .int (nI q)), (2, .int 8)] := hl
  have hin2 : ∀ x ∈ wsX20, x ∈ wsX2_squareTells := by decide +kernel
  have hin0 : ∀ x ∈ wsX00, x ∈ wsX2_squareTells := by decide +kernel
  obtain ⟨Q, hQ⟩ : ∃ Q, Q = MQ below (va_Qi (fun z u => z = ob c (c * r) (I (t + 2)) q 0 ∧ u = (S, V, sT V, I)) (fun u t => fb_P D y A u t) A) (([.ref (sa S t), .int (nI q), .int 8] : List Value).toArray) s 0 0 A := ⟨_, rfl⟩
  rw [← hQ]
  have hn := hf.le
  have hc1 : 1 ≤ c := hf.2.2.2.2.1
  have hc6 : c ≤ 6 := hf.2.2.2.2.2.1
  have hq36 : q < 36 := by omega
  refine lv_iload_n hx hb dX2_squareTells_0 rfl (lv_at hl 1 rfl) ?_
  refine lv_if_lt (tgt := 13) hx hb dX2_squareTells_1 (by decide) (fun c_1 => absurd c_1 (nI_pos (by omega))) (fun c_1 => ?_)
  refine lv_iload_n hx hb dX2_squareTells_4 rfl (lv_at hl 1 rfl) ?_
  refine lv_aload_n hx hb dX2_squareTells_5 rfl (lv_at hl 0 rfl) ?_
  refine fb_get (r := t) hx hb hown hts hin2 hM ((ht.1)) (ce2 ((ht.2.1))) rfl 4 (by decide) (hts (.fieldLink RX2 26 "FeatherBeds$Tick" "heaps" "[LFeatherBeds$Heap;") (by decide +kernel)) (fun _ h9 => h9) (v := .ref (sa S (t + 1))) (congrArg (fun z => some (va_rf z)) ((ht.2.2.1))) dX2_squareTells_6 ?_
  refine fb_alen (r := (t + 1)) hx hb hM ((ht.2.2.2.2.2.1)) (ce8 ((ht.2.2.2.2.2.2.1))) 2 rfl (v := nI 36) (congrArg Int32.ofNat ((ht.2.2.2.2.2.2.2.1))) dX2_squareTells_9 ?_
  refine lv_icmp_lt (tgt := 15) hx hb dX2_squareTells_10 (by decide) (fun c_2 => ?_) (fun c_2 => absurd (nI_lt hq36 (by omega)) c_2)
  refine lv_iload_n hx hb dX2_squareTells_15 rfl (lv_at hl 2 rfl) ?_
  refine lv_bipush (v := 6) hx hb dX2_squareTells_16 (by decide) ?_
  refine lv_icmp_ge (tgt := 32) hx hb dX2_squareTells_18 (by decide) (fun c_3 => ?_) (fun c_3 => absurd (by decide) c_3)
  refine lv_iload_n hx hb dX2_squareTells_32 rfl (lv_at hl 2 rfl) ?_
  refine lv_tableIn (off := 47) (tgt := 80) hx hb dX2_squareTells_33 (by decide) (by decide) rfl (by decide) ?_
  refine lv_aload_n hx hb dX2_squareTells_80 rfl (lv_at hl 0 rfl) ?_
  refine lv_iload_n hx hb dX2_squareTells_81 rfl (lv_at hl 1 rfl) ?_
  refine lv_iconst (v := 0) hx hb dX2_squareTells_82 (by decide) ?_
  refine fb_callVi (r := t) hx hb hml hown hts hM ((ht.1)) (ce2 ((ht.2.1))) rfl (As := [.int (nI q), .int 0]) (rest := []) (c_X2_isOpen D y l S V I t b c r d ht hf q hq 0 (by decide)) (cwV 2 hts gX2_squareTells_X2_isOpen rfl rfl rfl (by decide +kernel) ⟨Nat.le_of_ble_eq_true rfl, Nat.le_of_ble_eq_true rfl⟩) rfl hl.1 rfl (Nat.le_of_ble_eq_true rfl) dX2_squareTells_83 ⟨Nat.le_of_ble_eq_true rfl, Nat.le_of_ble_eq_true rfl⟩ (fun v_4 u H locs hp hM => ?_)
  obtain ⟨hv, hu⟩ := hp
  have hv := Eq.symm hv
  have hu := Eq.symm hu
  subst hv
  subst hu
  refine lv_if_eq (tgt := 93) hx hb dX2_squareTells_86 (by decide) (fun c_5 => ?_) (fun c_5 => ?_)
  · skip
    have hob := c_5
    refine lv_iconst (v := 0) hx hb dX2_squareTells_93 (by decide) ?_
    rw [hQ]
    exact fb_iret hx hb hr hlocks hM (⟨by unfold ob; first | exact (if_neg (by rw [ob_0 hob]; decide)).symm | exact (if_pos (ob_1 hob)).symm, rfl⟩) dX2_squareTells_94
  · skip
    have hob := c_5
    refine lv_iconst (v := 1) hx hb dX2_squareTells_89 (by decide) ?_
    refine lv_goto (tgt := 94) hx hb dX2_squareTells_90 (by decide) ?_
    rw [hQ]
    exact fb_iret hx hb hr hlocks hM (⟨by unfold ob; first | exact (if_neg (by rw [ob_0 hob]; decide)).symm | exact (if_pos (ob_1 hob)).symm, rfl⟩) dX2_squareTells_94

set_option maxHeartbeats 4000000 in
set_option maxRecDepth 100000 in
theorem c_X2_squareTells_9 (D : va_G) (y : Nat → ClassId) (l : Launch) (S : fb_Sh) (V I : fb_V) (t b c r d : Nat) (ht : TickAt S t b) (hf : TF I t c r d) (X : fb_V) (hX : ∀ q, q < 36 → V (b + 2 * q) = X q) (q : Nat) (hq : q < c * r) : CI D y l yX2_squareTells wsX2_squareTells rm_X2_squareTells [.ref (sa S t), .int (nI q), .int 9] (S, V, (sT V), I) (fun z u => z = ob c (c * r) (I (t + 2)) q 1 ∧ u = (S, V, sT V, I)) 0 0 := by
  refine CI.of (cc := cX2_squareTells) (maxL := 3) (ret := (some .int)) (by decide) rfl (Nat.le_of_ble_eq_true rfl) ?_
  intro pv ev s mv below meth cv A hx hb hml hr hown hts hlocks hname hM ls hl
  have hown : s.vm.findClass RX2 = some mv.cls := hown
  have hl : lv_has ls 3 [(0, .ref (sa S t)), (1, .int (nI q)), (2, .int 9)] := hl
  have hin2 : ∀ x ∈ wsX20, x ∈ wsX2_squareTells := by decide +kernel
  have hin0 : ∀ x ∈ wsX00, x ∈ wsX2_squareTells := by decide +kernel
  obtain ⟨Q, hQ⟩ : ∃ Q, Q = MQ below (va_Qi (fun z u => z = ob c (c * r) (I (t + 2)) q 1 ∧ u = (S, V, sT V, I)) (fun u t => fb_P D y A u t) A) (([.ref (sa S t), .int (nI q), .int 9] : List Value).toArray) s 0 0 A := ⟨_, rfl⟩
  rw [← hQ]
  have hn := hf.le
  have hc1 : 1 ≤ c := hf.2.2.2.2.1
  have hc6 : c ≤ 6 := hf.2.2.2.2.2.1
  have hq36 : q < 36 := by omega
  refine lv_iload_n hx hb dX2_squareTells_0 rfl (lv_at hl 1 rfl) ?_
  refine lv_if_lt (tgt := 13) hx hb dX2_squareTells_1 (by decide) (fun c_1 => absurd c_1 (nI_pos (by omega))) (fun c_1 => ?_)
  refine lv_iload_n hx hb dX2_squareTells_4 rfl (lv_at hl 1 rfl) ?_
  refine lv_aload_n hx hb dX2_squareTells_5 rfl (lv_at hl 0 rfl) ?_
  refine fb_get (r := t) hx hb hown hts hin2 hM ((ht.1)) (ce2 ((ht.2.1))) rfl 4 (by decide) (hts (.fieldLink RX2 26 "FeatherBeds$Tick" "heaps" "[LFeatherBeds$Heap;") (by decide +kernel)) (fun _ h9 => h9) (v := .ref (sa S (t + 1))) (congrArg (fun z => some (va_rf z)) ((ht.2.2.1))) dX2_squareTells_6 ?_
  refine fb_alen (r := (t + 1)) hx hb hM ((ht.2.2.2.2.2.1)) (ce8 ((ht.2.2.2.2.2.2.1))) 2 rfl (v := nI 36) (congrArg Int32.ofNat ((ht.2.2.2.2.2.2.2.1))) dX2_squareTells_9 ?_
  refine lv_icmp_lt (tgt := 15) hx hb dX2_squareTells_10 (by decide) (fun c_2 => ?_) (fun c_2 => absurd (nI_lt hq36 (by omega)) c_2)
  refine lv_iload_n hx hb dX2_squareTells_15 rfl (lv_at hl 2 rfl) ?_
  refine lv_bipush (v := 6) hx hb dX2_squareTells_16 (by decide) ?_
  refine lv_icmp_ge (tgt := 32) hx hb dX2_squareTells_18 (by decide) (fun c_3 => ?_) (fun c_3 => absurd (by decide) c_3)
  refine lv_iload_n hx hb dX2_squareTells_32 rfl (lv_at hl 2 rfl) ?_
  refine lv_tableOut (tgt := 95) hx hb dX2_squareTells_33 (by decide) (by decide) ?_
  refine lv_aload_n hx hb dX2_squareTells_95 rfl (lv_at hl 0 rfl) ?_
  refine lv_iload_n hx hb dX2_squareTells_96 rfl (lv_at hl 1 rfl) ?_
  refine lv_iconst (v := 1) hx hb dX2_squareTells_97 (by decide) ?_
  refine fb_callVi (r := t) hx hb hml hown hts hM ((ht.1)) (ce2 ((ht.2.1))) rfl (As := [.int (nI q), .int 1]) (rest := []) (c_X2_isOpen D y l S V I t b c r d ht hf q hq 1 (by decide)) (cwV 2 hts gX2_squareTells_X2_isOpen rfl rfl rfl (by decide +kernel) ⟨Nat.le_of_ble_eq_true rfl, Nat.le_of_ble_eq_true rfl⟩) rfl hl.1 rfl (Nat.le_of_ble_eq_true rfl) dX2_squareTells_98 ⟨Nat.le_of_ble_eq_true rfl, Nat.le_of_ble_eq_true rfl⟩ (fun v_4 u H locs hp hM => ?_)
  obtain ⟨hv, hu⟩ := hp
  have hv := Eq.symm hv
  have hu := Eq.symm hu
  subst hv
  subst hu
  refine lv_if_eq (tgt := 108) hx hb dX2_squareTells_101 (by decide) (fun c_5 => ?_) (fun c_5 => ?_)
  · skip
    have hob := c_5
    refine lv_iconst (v := 0) hx hb dX2_squareTells_108 (by decide) ?_
    rw [hQ]
    exact fb_iret hx hb hr hlocks hM (⟨by unfold ob; first | exact (if_neg (by rw [ob_0 hob]; decide)).symm | exact (if_pos (ob_1 hob)).symm, rfl⟩) dX2_squareTells_109
  · skip
    have hob := c_5
    refine lv_iconst (v := 1) hx hb dX2_squareTells_104 (by decide) ?_
    refine lv_goto (tgt := 109) hx hb dX2_squareTells_105 (by decide) ?_
    rw [hQ]
    exact fb_iret hx hb hr hlocks hM (⟨by unfold ob; first | exact (if_neg (by rw [ob_0 hob]; decide)).symm | exact (if_pos (ob_1 hob)).symm, rfl⟩) dX2_squareTells_109
