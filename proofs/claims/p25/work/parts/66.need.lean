abbrev rm_X3_needRange : Room := { frames := 6, cells := 1, slots := 6, locals := 100 }
set_option maxHeartbeats 4000000 in
set_option maxRecDepth 100000 in
theorem c_X3_needRange (D : va_G) (y : Nat → ClassId) (l : Launch) (S : fb_Sh) (V I : fb_V) (p0 p1 p2 : Int32) (h1 : ¬ p0 < p1) (h2 : ¬ p2 < p0) : CV D y l yX3_needRange wsX3_needRange rm_X3_needRange [.int p0, .int p1, .int p2] (S, V, (sT V), I) (fun u => u = (S, V, sT V, I)) 1 6 := by
  refine CV.of (cc := cX3_needRange) (maxL := 3) (ret := none) (by decide) rfl (Nat.le_of_ble_eq_true rfl) ?_
  intro pv ev s mv below meth cv A hx hb hml hr hown hts hlocks hname hM ls hl
  have hown : s.vm.findClass RX3 = some mv.cls := hown
  have hl : lv_has ls 3 [(0, .int p0), (1, .int p1), (2, .int p2)] := hl
  obtain ⟨Q, hQ⟩ : ∃ Q, Q = MQ below (va_Qv (fun u => u = (S, V, sT V, I)) (fun u t => fb_P D y A u t) A) (([.int p0, .int p1, .int p2] : List Value).toArray) s 1 6 A := ⟨_, rfl⟩
  rw [← hQ]
  refine lv_iload_n hx hb dX3_needRange_0 rfl (lv_at hl 0 rfl) ?_
  refine lv_iload_n hx hb dX3_needRange_1 rfl (lv_at hl 1 rfl) ?_
  refine lv_icmp_lt (tgt := 10) hx hb dX3_needRange_2 (by decide) (fun c_1 => absurd c_1 (h1)) (fun c_1 => ?_)
  refine lv_iload_n hx hb dX3_needRange_5 rfl (lv_at hl 0 rfl) ?_
  refine lv_iload_n hx hb dX3_needRange_6 rfl (lv_at hl 2 rfl) ?_
  refine lv_icmp_le (tgt := 20) hx hb dX3_needRange_7 (by decide) (fun c_2 => ?_) (fun c_2 => absurd (Int32.not_lt.mp h2) c_2)
  rw [hQ]
  refine W.widen (show _ ≤ 1 from Nat.le_of_ble_eq_true rfl) (show _ ≤ 6 from Nat.le_of_ble_eq_true rfl) ?_
  exact fb_vret hx hb hr hlocks hM (rfl) dX3_needRange_20

abbrev rm_X3_needIndex : Room := { frames := 6, cells := 1, slots := 6, locals := 100 }
set_option maxHeartbeats 4000000 in
set_option maxRecDepth 100000 in
theorem c_X3_needIndex (D : va_G) (y : Nat → ClassId) (l : Launch) (S : fb_Sh) (V I : fb_V) (p0 p1 : Int32) (h1 : ¬ p0 < 0) (h2 : p0 < p1) : CV D y l yX3_needIndex wsX3_needIndex rm_X3_needIndex [.int p0, .int p1] (S, V, (sT V), I) (fun u => u = (S, V, sT V, I)) 1 6 := by
  refine CV.of (cc := cX3_needIndex) (maxL := 2) (ret := none) (by decide) rfl (Nat.le_of_ble_eq_true rfl) ?_
  intro pv ev s mv below meth cv A hx hb hml hr hown hts hlocks hname hM ls hl
  have hown : s.vm.findClass RX3 = some mv.cls := hown
  have hl : lv_has ls 2 [(0, .int p0), (1, .int p1)] := hl
  obtain ⟨Q, hQ⟩ : ∃ Q, Q = MQ below (va_Qv (fun u => u = (S, V, sT V, I)) (fun u t => fb_P D y A u t) A) (([.int p0, .int p1] : List Value).toArray) s 1 6 A := ⟨_, rfl⟩
  rw [← hQ]
  refine lv_iload_n hx hb dX3_needIndex_0 rfl (lv_at hl 0 rfl) ?_
  refine lv_if_lt (tgt := 9) hx hb dX3_needIndex_1 (by decide) (fun c_1 => absurd c_1 (h1)) (fun c_1 => ?_)
  refine lv_iload_n hx hb dX3_needIndex_4 rfl (lv_at hl 0 rfl) ?_
  refine lv_iload_n hx hb dX3_needIndex_5 rfl (lv_at hl 1 rfl) ?_
  refine lv_icmp_lt (tgt := 19) hx hb dX3_needIndex_6 (by decide) (fun c_2 => ?_) (fun c_2 => absurd (h2) c_2)
  rw [hQ]
  refine W.widen (show _ ≤ 1 from Nat.le_of_ble_eq_true rfl) (show _ ≤ 6 from Nat.le_of_ble_eq_true rfl) ?_
  exact fb_vret hx hb hr hlocks hM (rfl) dX3_needIndex_19

abbrev rm_X3_needSack : Room := { frames := 6, cells := 1, slots := 6, locals := 100 }
set_option maxHeartbeats 4000000 in
set_option maxRecDepth 100000 in
theorem c_X3_needSack (D : va_G) (y : Nat → ClassId) (l : Launch) (S : fb_Sh) (V I : fb_V) (a1 ns nt es na : Nat) (hC : CpAt S a1 ns nt es na) (cf rf df : Nat → Nat) (hF : CF I ns nt cf rf df) (i : Nat) (hi : i < ns) : CR D y l yX3_needSack wsX3_needSack rm_X3_needSack [.ref (sa S 0), .int (nI i)] (S, V, (sT V), I) (fun a u => a = sa S (10 + i) ∧ u = (S, V, sT V, I)) 1 6 := by
  refine CR.of (cc := cX3_needSack) (maxL := 2) (ret := (some (.object "FeatherBeds$Sack"))) (by decide) rfl (Nat.le_of_ble_eq_true rfl) ?_
  intro pv ev s mv below meth cv A hx hb hml hr hown hts hlocks hname hM ls hl
  have hown : s.vm.findClass RX3 = some mv.cls := hown
  have hl : lv_has ls 2 [(0, .ref (sa S 0)), (1, .int (nI i))] := hl
  have hin3 : ∀ x ∈ wsX30, x ∈ wsX3_needSack := by decide +kernel
  obtain ⟨Q, hQ⟩ : ∃ Q, Q = MQ below (va_Qr (fun _ : fb_W => True) (fun u a t9 => (fun a u => a = sa S (10 + i) ∧ u = (S, V, sT V, I)) a u ∧ fb_P D y A u t9) A) (([.ref (sa S 0), .int (nI i)] : List Value).toArray) s 1 6 A := ⟨_, rfl⟩
  rw [← hQ]
  have hns : ns ≤ 12 := hF.2.2.1
  have hnt : nt ≤ 6 := hF.2.2.2.1
  refine lv_iload_n hx hb dX3_needSack_0 rfl (lv_at hl 1 rfl) ?_
  refine lv_if_lt (tgt := 15) hx hb dX3_needSack_1 (by decide) (fun c_1 => absurd c_1 (nI_pos (by omega))) (fun c_1 => ?_)
  refine lv_iload_n hx hb dX3_needSack_4 rfl (lv_at hl 1 rfl) ?_
  refine lv_aload_n hx hb dX3_needSack_5 rfl (lv_at hl 0 rfl) ?_
  refine fb_get (r := 0) hx hb hown hts hin3 hM ((hC.1).1) (ce3 ((hC.1).2)) rfl 0 (by decide) (hts (.fieldLink RX3 12 "FeatherBeds" "sacks" "Ljava/util/ArrayList;") (by decide +kernel)) (fun _ h9 => h9) (v := .ref (sa S 1)) (congrArg (fun z => some (va_rf z)) ((hC.2.1).1)) dX3_needSack_6 ?_
  refine fb_callVi (r := 1) hx hb hml hown hts hM ((hC.2.2.1).1) (ce5 ((hC.2.2.1).2)) rfl (As := []) (rest := [.int (nI i)]) (c_Jx4a65c_size_8abf5 D y l S V I 1 (hC.2.2.1).1 (hC.2.2.1).2) (cwV 0 hts gX3_needSack_Jx4a65c_size_8abf5 rfl rfl rfl (by decide +kernel) ⟨Nat.le_of_ble_eq_true rfl, Nat.le_of_ble_eq_true rfl⟩) rfl hl.1 rfl (Nat.le_of_ble_eq_true rfl) dX3_needSack_9 ⟨Nat.le_of_ble_eq_true rfl, Nat.le_of_ble_eq_true rfl⟩ (fun v_2 u H locs hp hM => ?_)
  obtain ⟨hv_, hu_⟩ := hp
  have hv_ := Eq.symm hv_
  have hu_ := Eq.symm hu_
  subst hv_
  subst hu_
  rw [show (I 1 2 : Int32) = nI ns from hF.1]
  refine lv_icmp_lt (tgt := 25) hx hb dX3_needSack_12 (by decide) (fun c_3 => ?_) (fun c_3 => absurd (nI_lt hi (by omega)) c_3)
  refine lv_aload_n hx hb dX3_needSack_25 rfl (lv_at hl 0 rfl) ?_
  refine fb_get (r := 0) hx hb hown hts hin3 hM ((hC.1).1) (ce3 ((hC.1).2)) rfl 0 (by decide) (hts (.fieldLink RX3 12 "FeatherBeds" "sacks" "Ljava/util/ArrayList;") (by decide +kernel)) (fun _ h9 => h9) (v := .ref (sa S 1)) (congrArg (fun z => some (va_rf z)) ((hC.2.1).1)) dX3_needSack_26 ?_
  refine lv_iload_n hx hb dX3_needSack_29 rfl (lv_at hl 1 rfl) ?_
  refine fb_callVr (r := 1) hx hb hml hown hts hM ((hC.2.2.1).1) (ce5 ((hC.2.2.1).2)) rfl (As := [.int (nI i)]) (rest := []) (c_Jx4a65c_get_915e3 D y l S V I 1 es na (hC.l1 hi).1 ns i (10 + i) hi (hC.l1 hi).2.1 (hC.l1 hi).2.2 ((hC.2.2.2.2.2.2.2.1) i hi).1 hF.1) (cwV 1 hts gX3_needSack_Jx4a65c_get_915e3 rfl rfl rfl (by decide +kernel) ⟨Nat.le_of_ble_eq_true rfl, Nat.le_of_ble_eq_true rfl⟩) rfl hl.1 rfl (Nat.le_of_ble_eq_true rfl) dX3_needSack_30 ⟨Nat.le_of_ble_eq_true rfl, Nat.le_of_ble_eq_true rfl⟩ (fun v_4 u H locs hp hM => ?_)
  obtain ⟨hv_, hu_⟩ := hp
  have hv_ := Eq.symm hv_
  have hu_ := Eq.symm hu_
  subst hv_
  subst hu_
  refine fb_castS (q := (RX1, TX1, 2)) hx hb hown (hts (.classLink RX3 53 "FeatherBeds$Sack") (by decide +kernel)) hM (r := 10 + i) (hC.sk hi).1 (ce1 (hC.sk hi).2.1) rfl dX3_needSack_33 ?_
  rw [hQ]
  refine W.widen (show _ ≤ 1 from Nat.le_of_ble_eq_true rfl) (show _ ≤ 6 from Nat.le_of_ble_eq_true rfl) ?_
  exact fb_aret hx hb hr (Or.inl ⟨_, rfl⟩) hlocks hM (⟨rfl, rfl⟩) dX3_needSack_36

abbrev rm_X3_needTick : Room := { frames := 6, cells := 1, slots := 6, locals := 100 }
set_option maxHeartbeats 4000000 in
set_option maxRecDepth 100000 in
theorem c_X3_needTick (D : va_G) (y : Nat → ClassId) (l : Launch) (S : fb_Sh) (V I : fb_V) (a1 ns nt es na : Nat) (hC : CpAt S a1 ns nt es na) (cf rf df : Nat → Nat) (hF : CF I ns nt cf rf df) (t : Nat) (ht : t < nt) : CR D y l yX3_needTick wsX3_needTick rm_X3_needTick [.ref (sa S 0), .int (nI t)] (S, V, (sT V), I) (fun a u => a = sa S (30 + 4 * t) ∧ u = (S, V, sT V, I)) 1 6 := by
  refine CR.of (cc := cX3_needTick) (maxL := 2) (ret := (some (.object "FeatherBeds$Tick"))) (by decide) rfl (Nat.le_of_ble_eq_true rfl) ?_
  intro pv ev s mv below meth cv A hx hb hml hr hown hts hlocks hname hM ls hl
  have hown : s.vm.findClass RX3 = some mv.cls := hown
  have hl : lv_has ls 2 [(0, .ref (sa S 0)), (1, .int (nI t))] := hl
  have hin3 : ∀ x ∈ wsX30, x ∈ wsX3_needTick := by decide +kernel
  obtain ⟨Q, hQ⟩ : ∃ Q, Q = MQ below (va_Qr (fun _ : fb_W => True) (fun u a t9 => (fun a u => a = sa S (30 + 4 * t) ∧ u = (S, V, sT V, I)) a u ∧ fb_P D y A u t9) A) (([.ref (sa S 0), .int (nI t)] : List Value).toArray) s 1 6 A := ⟨_, rfl⟩
  rw [← hQ]
  have hns : ns ≤ 12 := hF.2.2.1
  have hnt : nt ≤ 6 := hF.2.2.2.1
  refine lv_iload_n hx hb dX3_needTick_0 rfl (lv_at hl 1 rfl) ?_
  refine lv_if_lt (tgt := 15) hx hb dX3_needTick_1 (by decide) (fun c_1 => absurd c_1 (nI_pos (by omega))) (fun c_1 => ?_)
  refine lv_iload_n hx hb dX3_needTick_4 rfl (lv_at hl 1 rfl) ?_
  refine lv_aload_n hx hb dX3_needTick_5 rfl (lv_at hl 0 rfl) ?_
  refine fb_get (r := 0) hx hb hown hts hin3 hM ((hC.1).1) (ce3 ((hC.1).2)) rfl 1 (by decide) (hts (.fieldLink RX3 16 "FeatherBeds" "ticks" "Ljava/util/ArrayList;") (by decide +kernel)) (fun _ h9 => h9) (v := .ref (sa S 2)) (congrArg (fun z => some (va_rf z)) ((hC.2.1).2.1)) dX3_needTick_6 ?_
  refine fb_callVi (r := 2) hx hb hml hown hts hM ((hC.2.2.2.1).1) (ce5 ((hC.2.2.2.1).2)) rfl (As := []) (rest := [.int (nI t)]) (c_Jx4a65c_size_8abf5 D y l S V I 2 (hC.2.2.2.1).1 (hC.2.2.2.1).2) (cwV 0 hts gX3_needTick_Jx4a65c_size_8abf5 rfl rfl rfl (by decide +kernel) ⟨Nat.le_of_ble_eq_true rfl, Nat.le_of_ble_eq_true rfl⟩) rfl hl.1 rfl (Nat.le_of_ble_eq_true rfl) dX3_needTick_9 ⟨Nat.le_of_ble_eq_true rfl, Nat.le_of_ble_eq_true rfl⟩ (fun v_2 u H locs hp hM => ?_)
  obtain ⟨hv_, hu_⟩ := hp
  have hv_ := Eq.symm hv_
  have hu_ := Eq.symm hu_
  subst hv_
  subst hu_
  rw [show (I 2 2 : Int32) = nI nt from hF.2.1]
  refine lv_icmp_lt (tgt := 25) hx hb dX3_needTick_12 (by decide) (fun c_3 => ?_) (fun c_3 => absurd (nI_lt ht (by omega)) c_3)
  refine lv_aload_n hx hb dX3_needTick_25 rfl (lv_at hl 0 rfl) ?_
  refine fb_get (r := 0) hx hb hown hts hin3 hM ((hC.1).1) (ce3 ((hC.1).2)) rfl 1 (by decide) (hts (.fieldLink RX3 16 "FeatherBeds" "ticks" "Ljava/util/ArrayList;") (by decide +kernel)) (fun _ h9 => h9) (v := .ref (sa S 2)) (congrArg (fun z => some (va_rf z)) ((hC.2.1).2.1)) dX3_needTick_26 ?_
  refine lv_iload_n hx hb dX3_needTick_29 rfl (lv_at hl 1 rfl) ?_
  refine fb_callVr (r := 2) hx hb hml hown hts hM ((hC.2.2.2.1).1) (ce5 ((hC.2.2.2.1).2)) rfl (As := [.int (nI t)]) (rest := []) (c_Jx4a65c_get_915e3 D y l S V I 2 5 10 (hC.l2 ht) nt t (30 + 4 * t) ht (by omega) (by omega) ((hC.2.2.2.2.2.2.2.2.2) t ht).1 hF.2.1) (cwV 1 hts gX3_needTick_Jx4a65c_get_915e3 rfl rfl rfl (by decide +kernel) ⟨Nat.le_of_ble_eq_true rfl, Nat.le_of_ble_eq_true rfl⟩) rfl hl.1 rfl (Nat.le_of_ble_eq_true rfl) dX3_needTick_30 ⟨Nat.le_of_ble_eq_true rfl, Nat.le_of_ble_eq_true rfl⟩ (fun v_4 u H locs hp hM => ?_)
  obtain ⟨hv_, hu_⟩ := hp
  have hv_ := Eq.symm hv_
  have hu_ := Eq.symm hu_
  subst hv_
  subst hu_
  refine fb_castS (q := (RX2, TX2, 7)) hx hb hown (hts (.classLink RX3 26 "FeatherBeds$Tick") (by decide +kernel)) hM (r := 30 + 4 * t) (hC.tk ht).1 (ce2 (hC.tk ht).2.1) rfl dX3_needTick_33 ?_
  rw [hQ]
  refine W.widen (show _ ≤ 1 from Nat.le_of_ble_eq_true rfl) (show _ ≤ 6 from Nat.le_of_ble_eq_true rfl) ?_
  exact fb_aret hx hb hr (Or.inl ⟨_, rfl⟩) hlocks hM (⟨rfl, rfl⟩) dX3_needTick_36

abbrev rm_X3_needChamber : Room := { frames := 6, cells := 1, slots := 6, locals := 100 }
set_option maxHeartbeats 4000000 in
set_option maxRecDepth 100000 in
theorem c_X3_needChamber (D : va_G) (y : Nat → ClassId) (l : Launch) (S : fb_Sh) (V I : fb_V) (a1 ns nt es na : Nat) (hC : CpAt S a1 ns nt es na) (cf rf df : Nat → Nat) (hF : CF I ns nt cf rf df) (q : Nat) (hq : q < 5) : CR D y l yX3_needChamber wsX3_needChamber rm_X3_needChamber [.ref (sa S 0), .int (nI q)] (S, V, (sT V), I) (fun a u => a = sa S (100 + 2 * q) ∧ u = (S, V, sT V, I)) 1 6 := by
  refine CR.of (cc := cX3_needChamber) (maxL := 2) (ret := (some (.object "FeatherBeds$Heap"))) (by decide) rfl (Nat.le_of_ble_eq_true rfl) ?_
  intro pv ev s mv below meth cv A hx hb hml hr hown hts hlocks hname hM ls hl
  have hown : s.vm.findClass RX3 = some mv.cls := hown
  have hl : lv_has ls 2 [(0, .ref (sa S 0)), (1, .int (nI q))] := hl
  have hin3 : ∀ x ∈ wsX30, x ∈ wsX3_needChamber := by decide +kernel
  obtain ⟨Q, hQ⟩ : ∃ Q, Q = MQ below (va_Qr (fun _ : fb_W => True) (fun u a t9 => (fun a u => a = sa S (100 + 2 * q) ∧ u = (S, V, sT V, I)) a u ∧ fb_P D y A u t9) A) (([.ref (sa S 0), .int (nI q)] : List Value).toArray) s 1 6 A := ⟨_, rfl⟩
  rw [← hQ]
  have hns : ns ≤ 12 := hF.2.2.1
  have hnt : nt ≤ 6 := hF.2.2.2.1
  refine lv_iload_n hx hb dX3_needChamber_0 rfl (lv_at hl 1 rfl) ?_
  refine lv_if_lt (tgt := 13) hx hb dX3_needChamber_1 (by decide) (fun c_1 => absurd c_1 (nI_pos (by omega))) (fun c_1 => ?_)
  refine lv_iload_n hx hb dX3_needChamber_4 rfl (lv_at hl 1 rfl) ?_
  refine lv_aload_n hx hb dX3_needChamber_5 rfl (lv_at hl 0 rfl) ?_
  refine fb_get (r := 0) hx hb hown hts hin3 hM ((hC.1).1) (ce3 ((hC.1).2)) rfl 2 (by decide) (hts (.fieldLink RX3 21 "FeatherBeds" "chambers" "[LFeatherBeds$Heap;") (by decide +kernel)) (fun _ h9 => h9) (v := .ref (sa S 3)) (congrArg (fun z => some (va_rf z)) ((hC.2.1).2.2.1)) dX3_needChamber_6 ?_
  refine fb_alen (r := 3) hx hb hM ((hC.2.2.2.2.1).1.1) (ce8 ((hC.2.2.2.2.1).1.2.1)) 2 rfl (v := nI 5) (congrArg Int32.ofNat ((hC.2.2.2.2.1).1.2.2)) dX3_needChamber_9 ?_
  refine lv_icmp_lt (tgt := 23) hx hb dX3_needChamber_10 (by decide) (fun c_2 => ?_) (fun c_2 => absurd (nI_lt (b := 5) hq (by omega)) c_2)
  refine lv_aload_n hx hb dX3_needChamber_23 rfl (lv_at hl 0 rfl) ?_
  refine fb_get (r := 0) hx hb hown hts hin3 hM ((hC.1).1) (ce3 ((hC.1).2)) rfl 2 (by decide) (hts (.fieldLink RX3 21 "FeatherBeds" "chambers" "[LFeatherBeds$Heap;") (by decide +kernel)) (fun _ h9 => h9) (v := .ref (sa S 3)) (congrArg (fun z => some (va_rf z)) ((hC.2.1).2.2.1)) dX3_needChamber_24 ?_
  refine lv_iload_n hx hb dX3_needChamber_27 rfl (lv_at hl 1 rfl) ?_
  refine fb_aald (r := 3) hx hb hM ((hC.2.2.2.2.1).1.1) (ce8 ((hC.2.2.2.2.1).1.2.1)) 2 rfl (k := q) (nI_clamp (by omega)) (b := sa S (100 + 2 * q)) (((hC.2.2.2.2.1).2 q (by omega)).1) (by rw [(hC.2.2.2.2.1).1.2.2]; exact vp_in_nI (by omega) (by omega)) dX3_needChamber_28 ?_
  rw [hQ]
  refine W.widen (show _ ≤ 1 from Nat.le_of_ble_eq_true rfl) (show _ ≤ 6 from Nat.le_of_ble_eq_true rfl) ?_
  exact fb_aret hx hb hr (Or.inl ⟨_, rfl⟩) hlocks hM (⟨rfl, rfl⟩) dX3_needChamber_29

abbrev rm_X3_needSquare : Room := { frames := 6, cells := 1, slots := 6, locals := 100 }
set_option maxHeartbeats 4000000 in
set_option maxRecDepth 100000 in
theorem c_X3_needSquare (D : va_G) (y : Nat → ClassId) (l : Launch) (S : fb_Sh) (V I : fb_V) (t b c r d : Nat) (ht : TickAt S t b) (hf : TF I t c r d) (q : Nat) (hq : q < c * r) : CR D y l yX3_needSquare wsX3_needSquare rm_X3_needSquare [.ref (sa S t), .int (nI q)] (S, V, (sT V), I) (fun a u => a = sa S (b + 2 * q) ∧ u = (S, V, sT V, I)) 1 6 := by
  refine CR.of (cc := cX3_needSquare) (maxL := 2) (ret := (some (.object "FeatherBeds$Heap"))) (by decide) rfl (Nat.le_of_ble_eq_true rfl) ?_
  intro pv ev s mv below meth cv A hx hb hml hr hown hts hlocks hname hM ls hl
  have hown : s.vm.findClass RX3 = some mv.cls := hown
  have hl : lv_has ls 2 [(0, .ref (sa S t)), (1, .int (nI q))] := hl
  have hin2 : ∀ x ∈ wsX20, x ∈ wsX3_needSquare := by decide +kernel
  obtain ⟨Q, hQ⟩ : ∃ Q, Q = MQ below (va_Qr (fun _ : fb_W => True) (fun u a t9 => (fun a u => a = sa S (b + 2 * q) ∧ u = (S, V, sT V, I)) a u ∧ fb_P D y A u t9) A) (([.ref (sa S t), .int (nI q)] : List Value).toArray) s 1 6 A := ⟨_, rfl⟩
  rw [← hQ]
  have hn := hf.le
  refine lv_iload_n hx hb dX3_needSquare_0 rfl (lv_at hl 1 rfl) ?_
  refine lv_if_lt (tgt := 21) hx hb dX3_needSquare_1 (by decide) (fun c_1 => absurd c_1 (nI_pos (by omega))) (fun c_1 => ?_)
  refine lv_iload_n hx hb dX3_needSquare_4 rfl (lv_at hl 1 rfl) ?_
  refine lv_aload_n hx hb dX3_needSquare_5 rfl (lv_at hl 0 rfl) ?_
  refine fb_getN (r := t) hx hb hown hts hin2 hM ((ht.1)) (ce2 ((ht.2.1))) rfl 3 (by decide) (host := "FeatherBeds") (by decide +kernel) (fun _ h9 => h9) (v := .int (nI ((c * r)))) (congrArg (fun z => some (Value.int z)) (hf.2.2.2.1)) dX3_needSquare_6 ?_
  refine lv_icmp_ge (tgt := 21) hx hb dX3_needSquare_9 (by decide) (fun c_2 => absurd c_2 (nI_ge hq (by omega))) (fun c_2 => ?_)
  refine lv_iload_n hx hb dX3_needSquare_12 rfl (lv_at hl 1 rfl) ?_
  refine lv_aload_n hx hb dX3_needSquare_13 rfl (lv_at hl 0 rfl) ?_
  refine fb_getN (r := t) hx hb hown hts hin2 hM ((ht.1)) (ce2 ((ht.2.1))) rfl 4 (by decide) (host := "FeatherBeds") (by decide +kernel) (fun _ h9 => h9) (v := .ref (sa S (t + 1))) (congrArg (fun z => some (va_rf z)) ((ht.2.2.1))) dX3_needSquare_14 ?_
  refine fb_alen (r := (t + 1)) hx hb hM ((ht.2.2.2.2.2.1)) (ce8 ((ht.2.2.2.2.2.2.1))) 2 rfl (v := nI 36) (congrArg Int32.ofNat ((ht.2.2.2.2.2.2.2.1))) dX3_needSquare_17 ?_
  refine lv_icmp_lt (tgt := 31) hx hb dX3_needSquare_18 (by decide) (fun c_3 => ?_) (fun c_3 => absurd (nI_lt (b := 36) (by omega) (by omega)) c_3)
  refine lv_aload_n hx hb dX3_needSquare_31 rfl (lv_at hl 0 rfl) ?_
  refine fb_getN (r := t) hx hb hown hts hin2 hM ((ht.1)) (ce2 ((ht.2.1))) rfl 4 (by decide) (host := "FeatherBeds") (by decide +kernel) (fun _ h9 => h9) (v := .ref (sa S (t + 1))) (congrArg (fun z => some (va_rf z)) ((ht.2.2.1))) dX3_needSquare_32 ?_
  refine lv_iload_n hx hb dX3_needSquare_35 rfl (lv_at hl 1 rfl) ?_
  refine fb_aald (r := (t + 1)) hx hb hM ((ht.2.2.2.2.2.1)) (ce8 ((ht.2.2.2.2.2.2.1))) 2 rfl (k := q) (nI_clamp (by omega)) (b := sa S (b + 2 * q)) (((ht.2.2.2.2.2.2.2.2.2.2.2.2.2.2) q (by omega)).1) (by rw [(ht.2.2.2.2.2.2.2.1)]; exact vp_in_nI (by omega) (by omega)) dX3_needSquare_36 ?_
  rw [hQ]
  refine W.widen (show _ ≤ 1 from Nat.le_of_ble_eq_true rfl) (show _ ≤ 6 from Nat.le_of_ble_eq_true rfl) ?_
  exact fb_aret hx hb hr (Or.inl ⟨_, rfl⟩) hlocks hM (⟨rfl, rfl⟩) dX3_needSquare_37
