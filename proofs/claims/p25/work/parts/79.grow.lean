abbrev rm_X3_addSack : Room := { frames := 7, cells := 5, slots := 32, locals := 191 }
set_option maxHeartbeats 4000000 in
set_option maxRecDepth 100000 in
theorem c_X3_addSack_n (a0 : Nat × Nat) (D : va_G) (y : Nat → ClassId) (l : Launch) (S : fb_Sh) (V I : fb_V) (ns nt es na : Nat) (hC : CpAt S a0.1 ns nt es na) (cf rf df : Nat → Nat) (hF : CF I ns nt cf rf df) (d : Nat) (hda : 0 ≤ d) (hd : d ≤ 9) (hlt : ns < 12) (hes : es = 4 ∨ es = 6) (hn1 : 10 + ns ∉ sR S) (hn2 : 200 + 2 * ns ∉ sR S) (hn3 : 200 + 2 * ns + 1 ∉ sR S) (hpos : 0 < ns) (hlna : ns < na) : CIE a0 D y l yX3_addSack wsX3_addSack rm_X3_addSack [.ref (sa S 0), .int (nI d)] (S, V, (sT V), I) (fun z u => z = nI ns ∧ ∃ S2, u = (S2, (va_up V (200 + 2 * ns) (fun _ => 0)), sT (va_up V (200 + 2 * ns) (fun _ => 0)), (va_up (va_up I (10 + ns) (upd (fun _ => 0) 1 (nI d))) 1 (upd (upd (I 1) 0 (I 1 0 + 1)) 2 (nI (ns + 1))))) ∧ CpAt S2 a0.1 (ns + 1) nt es na ∧ Ext (fun x => x = 10 + ns ∨ x = 200 + 2 * ns ∨ x = 200 + 2 * ns + 1 ∨ x = 1 ∨ x = es) S S2) 5 32 := by
  refine CIE.of (cc := cX3_addSack) (maxL := 2) (ret := (some .int)) (by decide) rfl (Nat.le_of_ble_eq_true rfl) ?_
  intro pv ev s mv below meth cv A hx hb hml hr hown hts hlocks hname hM hE ls hl
  have hown : s.vm.findClass RX3 = some mv.cls := hown
  have hl : lv_has ls 2 [(0, .ref (sa S 0)), (1, .int (nI d))] := hl
  have hin3 : ∀ x ∈ wsX30, x ∈ wsX3_addSack := by decide +kernel
  have hin1 : ∀ x ∈ wsX10, x ∈ wsX3_addSack := by decide +kernel
  obtain ⟨Q, hQ⟩ : ∃ Q, Q = MQ below (va_Qi (fun z u => z = nI ns ∧ ∃ S2, u = (S2, (va_up V (200 + 2 * ns) (fun _ => 0)), sT (va_up V (200 + 2 * ns) (fun _ => 0)), (va_up (va_up I (10 + ns) (upd (fun _ => 0) 1 (nI d))) 1 (upd (upd (I 1) 0 (I 1 0 + 1)) 2 (nI (ns + 1))))) ∧ CpAt S2 a0.1 (ns + 1) nt es na ∧ Ext (fun x => x = 10 + ns ∨ x = 200 + 2 * ns ∨ x = 200 + 2 * ns + 1 ∨ x = 1 ∨ x = es) S S2) (fun u t => fb_P D y A u t) A) (([.ref (sa S 0), .int (nI d)] : List Value).toArray) s 5 32 A := ⟨_, rfl⟩
  rw [← hQ]
  have hns : ns ≤ 12 := hF.2.2.1
  have hnt : nt ≤ 6 := hF.2.2.2.1
  have hlna2 : na ≤ 15 := by rcases (hC.2.2.2.2.2.2.1) with h | h; omega; exact h.2.2.2
  refine lv_iload_n hx hb dX3_addSack_0 rfl (lv_at hl 1 rfl) ?_
  refine lv_iconst (v := 0) hx hb dX3_addSack_1 (by decide) ?_
  refine lv_bipush (v := 9) hx hb dX3_addSack_2 (by decide) ?_
  refine fb_callSv hx hb hml hown hts hM (As := [.int (nI d), .int 0, .int 9]) (rest := []) (c_X3_needRange D y l S V I (nI d) 0 9 (nI_nlt (b := 0) hda (by omega)) (nI_nlt (a := 9) hd (by omega))) (va_cwS 3 hts gX3_addSack_X3_needRange rfl rfl rfl (by decide +kernel) ⟨Nat.le_of_ble_eq_true rfl, Nat.le_of_ble_eq_true rfl⟩) rfl hl.1 rfl (Nat.le_of_ble_eq_true rfl) dX3_addSack_4 ⟨Nat.le_of_ble_eq_true rfl, Nat.le_of_ble_eq_true rfl⟩ (fun u_ H locs hp hM => ?_)
  have hp := Eq.symm hp
  subst hp
  refine lv_aload_n hx hb dX3_addSack_7 rfl (lv_at hl 0 rfl) ?_
  refine fb_get (r := 0) hx hb hown hts hin3 hM ((hC.1).1) (ce3 ((hC.1).2)) rfl 0 (by decide) (hts (.fieldLink RX3 12 "FeatherBeds" "sacks" "Ljava/util/ArrayList;") (by decide +kernel)) (fun _ h9 => h9) (v := .ref (sa S 1)) (congrArg (fun z => some (va_rf z)) ((hC.2.1).1)) dX3_addSack_8 ?_
  refine fb_callVi (r := 1) hx hb hml hown hts hM ((hC.2.2.1).1) (ce5 ((hC.2.2.1).2)) rfl (As := []) (rest := []) (c_Jx4a65c_size_8abf5 D y l S V I 1 (hC.2.2.1).1 (hC.2.2.1).2) (cwV 0 hts gX3_addSack_Jx4a65c_size_8abf5 rfl rfl rfl (by decide +kernel) ⟨Nat.le_of_ble_eq_true rfl, Nat.le_of_ble_eq_true rfl⟩) rfl hl.1 rfl (Nat.le_of_ble_eq_true rfl) dX3_addSack_11 ⟨Nat.le_of_ble_eq_true rfl, Nat.le_of_ble_eq_true rfl⟩ (fun v_2 u_ H locs hp hM => ?_)
  obtain ⟨hv_, hu_⟩ := hp
  have hv_ := Eq.symm hv_
  have hu_ := Eq.symm hu_
  subst hv_
  subst hu_
  rw [show (I 1 2 : Int32) = nI ns from hF.1]
  refine lv_bipush (v := 12) hx hb dX3_addSack_14 (by decide) ?_
  refine lv_icmp_lt (tgt := 29) hx hb dX3_addSack_16 (by decide) (fun c_3 => ?_) (fun c_3 => absurd (nI_lt hlt (by omega)) c_3)
  refine lv_aload_n hx hb dX3_addSack_29 rfl (lv_at hl 0 rfl) ?_
  refine fb_get (r := 0) hx hb hown hts hin3 hM ((hC.1).1) (ce3 ((hC.1).2)) rfl 0 (by decide) (hts (.fieldLink RX3 12 "FeatherBeds" "sacks" "Ljava/util/ArrayList;") (by decide +kernel)) (fun _ h9 => h9) (v := .ref (sa S 1)) (congrArg (fun z => some (va_rf z)) ((hC.2.1).1)) dX3_addSack_30 ?_
  refine fb_mko1 hx hb hown hts hin1 (hts (.classLink RX3 53 RX1) (by decide +kernel)) (hts (.instantiable RX1 2) (by decide +kernel)) (hts (.initialized RX1) (by decide +kernel)) hM (Nat.le_of_ble_eq_true rfl) (Nat.le_of_ble_eq_true rfl) dX3_addSack_33 (10 + ns) hn1 (fun q9 H hM => ?_)
  refine lv_dup hx hb dX3_addSack_36 rfl ?_
  refine lv_iload_n hx hb dX3_addSack_37 rfl (lv_at hl 1 rfl) ?_
  refine fb_callIv hx hb hml hown hts hM (As := [.int (nI d)]) (rest := [.ref q9, .ref (sa S 1)]) (c_X1_init D y l (fb_new S (10 + ns) q9 1 0) V (va_up I (10 + ns) (fun _ => 0)) (10 + ns) (200 + 2 * ns) q9 (nw_a _ _ _ _ _) (nw_r _ _ _ _ _) (nw_k _ _ _ _ _) (nw_n S q9 1 0 hn2 (by omega)) (nw_n S q9 1 0 hn3 (by omega)) (nI d)) (cwI 1 hts gX3_addSack_X1_init rfl rfl rfl (hts (.initialized RX1) (by decide +kernel)) (hts (.methodLink RX3 55 yX1_init) (by decide +kernel)) (hts (.instanceMethod yX1_init) (by decide +kernel)) rfl (by decide +kernel) ⟨Nat.le_of_ble_eq_true rfl, Nat.le_of_ble_eq_true rfl⟩) rfl hl.1 rfl (Nat.le_of_ble_eq_true rfl) dX3_addSack_38 ⟨Nat.le_of_ble_eq_true rfl, Nat.le_of_ble_eq_true rfl⟩ (fun u_ H locs hp hM => ?_)
  obtain ⟨q1, q2, hp⟩ := hp
  have hp := Eq.symm hp
  subst hp
  have hM : fb_M D y A s ((mkS S (10 + ns) (200 + 2 * ns) q9 q1 q2), (va_up V (200 + 2 * ns) (fun _ => 0)), (sT (va_up V (200 + 2 * ns) (fun _ => 0))), (va_up (va_up I (10 + ns) (fun _ => 0)) (10 + ns) (upd ((va_up I (10 + ns) (fun _ => 0)) (10 + ns)) 1 (nI d)))) H locs := hM
  have eI : (va_up (va_up I (10 + ns) (fun _ => 0)) (10 + ns) (upd ((va_up I (10 + ns) (fun _ => 0)) (10 + ns)) 1 (nI d))) = (va_up I (10 + ns) (upd (fun _ => 0) 1 (nI d))) := by rw [up_up, va_up_self]
  rw [eI] at hM
  clear eI
  obtain ⟨m1, m2, m3⟩ := mkS_ok S (r := 10 + ns) (h := 200 + 2 * ns) q9 q1 q2 (by omega) (by omega)
  obtain ⟨S2, eS2⟩ : ∃ S2, S2 = (mkS S (10 + ns) (200 + 2 * ns) q9 q1 q2) := ⟨_, rfl⟩
  rw [← eS2] at hM m1 m2 m3
  have hC2 : CpAt S2 a0.1 ns nt es na := hC.ext m3 (fun x hx => ⟨by omega, by omega, by omega, by omega, by omega, fun i9 h9 => by omega, fun t9 h9 => by omega⟩)
  have k1 : sa S2 1 = sa S 1 := AA.ext m3 (by omega)
  have k0 : sa S2 0 = sa S 0 := AA.ext m3 (by omega)
  refine W.eq (g2 := F0 mv 41 ls [.ref (sa S2 (10 + ns)), .ref (sa S2 1)]) (by rw [m2, k1]) ?_
  rw [← k0] at hl
  have hz : (va_up I (10 + ns) (upd (fun _ => 0) 1 (nI d))) 1 2 = nI ns := by rw [va_up_ne _ _ (show (1 : Nat) ≠ 10 + ns by omega)]; exact hF.1
  refine fb_callEVi (r := 1) hx hb hml hown hts hM hE ((hC2.2.2.1).1) (ce5 ((hC2.2.2.1).2)) rfl (As := [.ref (sa S2 (10 + ns))]) (rest := []) (c_Jx4a65c_add_9ea2d_n1 a0 D y l S2 (va_up V (200 + 2 * ns) (fun _ => 0)) (va_up I (10 + ns) (upd (fun _ => 0) 1 (nI d))) 1 es na (hC2.l1 (i := 0) hpos).1 ns hlna (by omega) hz (10 + ns) m1.1 m1.2.1) (cwV 1 hts gX3_addSack_Jx4a65c_add_9ea2d rfl rfl rfl (by decide +kernel) ⟨Nat.le_of_ble_eq_true rfl, Nat.le_of_ble_eq_true rfl⟩) rfl hl.1 rfl (Nat.le_of_ble_eq_true rfl) dX3_addSack_41 ⟨Nat.le_of_ble_eq_true rfl, Nat.le_of_ble_eq_true rfl⟩ (fun v_5 u_ H locs hp hM => ?_)
  obtain ⟨hv_, S3, hu_, hL3, hk3⟩ := hp
  have hv_ := Eq.symm hv_
  have hu_ := Eq.symm hu_
  subst hv_
  subst hu_
  have eI : (va_up (va_up I (10 + ns) (upd (fun _ => 0) 1 (nI d))) 1 (upd (upd ((va_up I (10 + ns) (upd (fun _ => 0) 1 (nI d))) 1) 0 ((va_up I (10 + ns) (upd (fun _ => 0) 1 (nI d))) 1 0 + 1)) 2 (nI (ns + 1)))) = (va_up (va_up I (10 + ns) (upd (fun _ => 0) 1 (nI d))) 1 (upd (upd (I 1) 0 (I 1 0 + 1)) 2 (nI (ns + 1)))) := by rw [va_up_ne _ _ (show (1 : Nat) ≠ 10 + ns by omega)]
  rw [eI] at hM
  clear eI
  have hC3 : CpAt S3 a0.1 (ns + 1) nt es na := hC2.l1add (by omega) hnt hes m1 hL3 (fun i9 h9 => hk3 i9 _ (by omega) ((hC2.2.2.2.2.2.2.2.1) i9 h9).1) (by omega) (by omega)
  have hX3 : Ext (fun x => x = 10 + ns ∨ x = 200 + 2 * ns ∨ x = 200 + 2 * ns + 1 ∨ x = 1 ∨ x = es) S S3 := (m3.mono (fun x hx => by omega)).trans (hL3.2.2.1.mono (fun x hx => by omega))
  have k3 : sa S3 0 = sa S2 0 := AA.ext hL3.2.2.1 (by omega)
  rw [← k3] at hl
  refine lv_pop hx hb dX3_addSack_44 rfl ?_
  refine lv_aload_n hx hb dX3_addSack_45 rfl (lv_at hl 0 rfl) ?_
  refine fb_get (r := 0) hx hb hown hts hin3 hM ((hC3.1).1) (ce3 ((hC3.1).2)) rfl 0 (by decide) (hts (.fieldLink RX3 12 "FeatherBeds" "sacks" "Ljava/util/ArrayList;") (by decide +kernel)) (fun _ h9 => h9) (v := .ref (sa S3 1)) (congrArg (fun z => some (va_rf z)) ((hC3.2.1).1)) dX3_addSack_46 ?_
  refine fb_callVi (r := 1) hx hb hml hown hts hM ((hC3.2.2.1).1) (ce5 ((hC3.2.2.1).2)) rfl (As := []) (rest := []) (c_Jx4a65c_size_8abf5 D y l S3 (va_up V (200 + 2 * ns) (fun _ => 0)) (va_up (va_up I (10 + ns) (upd (fun _ => 0) 1 (nI d))) 1 (upd (upd (I 1) 0 (I 1 0 + 1)) 2 (nI (ns + 1)))) 1 (hC3.2.2.1).1 (hC3.2.2.1).2) (cwV 0 hts gX3_addSack_Jx4a65c_size_8abf5 rfl rfl rfl (by decide +kernel) ⟨Nat.le_of_ble_eq_true rfl, Nat.le_of_ble_eq_true rfl⟩) rfl hl.1 rfl (Nat.le_of_ble_eq_true rfl) dX3_addSack_49 ⟨Nat.le_of_ble_eq_true rfl, Nat.le_of_ble_eq_true rfl⟩ (fun v_6 u_ H locs hp hM => ?_)
  obtain ⟨hv_, hu_⟩ := hp
  have hv_ := Eq.symm hv_
  have hu_ := Eq.symm hu_
  subst hv_
  subst hu_
  rw [show ((va_up (va_up I (10 + ns) (upd (fun _ => 0) 1 (nI d))) 1 (upd (upd (I 1) 0 (I 1 0 + 1)) 2 (nI (ns + 1)))) 1 2 : Int32) = nI (ns + 1) from by rw [va_up_self]; rfl]
  refine lv_iconst (v := 1) hx hb dX3_addSack_52 (by decide) ?_
  refine lv_isub hx hb dX3_addSack_53 ?_
  refine W.eq (g2 := F0 mv _ ls (.int (nI ns) :: [])) (by first | rfl | rw [show ((nI (ns + 1)) - 1 : Int32) = nI ns from nI_pred _]) ?_
  rw [hQ]
  refine W.widen (show _ ≤ 5 from Nat.le_of_ble_eq_true rfl) (show _ ≤ 32 from Nat.le_of_ble_eq_true rfl) ?_
  exact fb_iret hx hb hr hlocks hM (⟨rfl, _, rfl, hC3, hX3⟩) dX3_addSack_54

set_option maxHeartbeats 4000000 in
set_option maxRecDepth 100000 in
theorem c_X3_addSack_0 (a0 : Nat × Nat) (D : va_G) (y : Nat → ClassId) (l : Launch) (S : fb_Sh) (V I : fb_V) (ns nt es na : Nat) (hC : CpAt S a0.1 ns nt es na) (cf rf df : Nat → Nat) (hF : CF I ns nt cf rf df) (d : Nat) (hda : 0 ≤ d) (hd : d ≤ 9) (hlt : ns < 12) (hes : es = 4 ∨ es = 6) (hn1 : 10 + ns ∉ sR S) (hn2 : 200 + 2 * ns ∉ sR S) (hn3 : 200 + 2 * ns + 1 ∉ sR S) (h0 : ns = 0) (hef : 4 ∉ sR S) : CIE a0 D y l yX3_addSack wsX3_addSack rm_X3_addSack [.ref (sa S 0), .int (nI d)] (S, V, (sT V), I) (fun z u => z = nI ns ∧ ∃ S2, u = (S2, (va_up V (200 + 2 * ns) (fun _ => 0)), sT (va_up V (200 + 2 * ns) (fun _ => 0)), (va_up (va_up I (10 + ns) (upd (fun _ => 0) 1 (nI d))) 1 (upd (upd (I 1) 0 (I 1 0 + 1)) 2 (nI (ns + 1))))) ∧ CpAt S2 a0.1 (ns + 1) nt 4 10 ∧ Ext (fun x => x = 10 + ns ∨ x = 200 + 2 * ns ∨ x = 200 + 2 * ns + 1 ∨ x = 1 ∨ x = 4) S S2) 5 32 := by
  refine CIE.of (cc := cX3_addSack) (maxL := 2) (ret := (some .int)) (by decide) rfl (Nat.le_of_ble_eq_true rfl) ?_
  intro pv ev s mv below meth cv A hx hb hml hr hown hts hlocks hname hM hE ls hl
  have hown : s.vm.findClass RX3 = some mv.cls := hown
  have hl : lv_has ls 2 [(0, .ref (sa S 0)), (1, .int (nI d))] := hl
  have hin3 : ∀ x ∈ wsX30, x ∈ wsX3_addSack := by decide +kernel
  have hin1 : ∀ x ∈ wsX10, x ∈ wsX3_addSack := by decide +kernel
  obtain ⟨Q, hQ⟩ : ∃ Q, Q = MQ below (va_Qi (fun z u => z = nI ns ∧ ∃ S2, u = (S2, (va_up V (200 + 2 * ns) (fun _ => 0)), sT (va_up V (200 + 2 * ns) (fun _ => 0)), (va_up (va_up I (10 + ns) (upd (fun _ => 0) 1 (nI d))) 1 (upd (upd (I 1) 0 (I 1 0 + 1)) 2 (nI (ns + 1))))) ∧ CpAt S2 a0.1 (ns + 1) nt 4 10 ∧ Ext (fun x => x = 10 + ns ∨ x = 200 + 2 * ns ∨ x = 200 + 2 * ns + 1 ∨ x = 1 ∨ x = 4) S S2) (fun u t => fb_P D y A u t) A) (([.ref (sa S 0), .int (nI d)] : List Value).toArray) s 5 32 A := ⟨_, rfl⟩
  rw [← hQ]
  have hns : ns ≤ 12 := hF.2.2.1
  have hnt : nt ≤ 6 := hF.2.2.2.1
  refine lv_iload_n hx hb dX3_addSack_0 rfl (lv_at hl 1 rfl) ?_
  refine lv_iconst (v := 0) hx hb dX3_addSack_1 (by decide) ?_
  refine lv_bipush (v := 9) hx hb dX3_addSack_2 (by decide) ?_
  refine fb_callSv hx hb hml hown hts hM (As := [.int (nI d), .int 0, .int 9]) (rest := []) (c_X3_needRange D y l S V I (nI d) 0 9 (nI_nlt (b := 0) hda (by omega)) (nI_nlt (a := 9) hd (by omega))) (va_cwS 3 hts gX3_addSack_X3_needRange rfl rfl rfl (by decide +kernel) ⟨Nat.le_of_ble_eq_true rfl, Nat.le_of_ble_eq_true rfl⟩) rfl hl.1 rfl (Nat.le_of_ble_eq_true rfl) dX3_addSack_4 ⟨Nat.le_of_ble_eq_true rfl, Nat.le_of_ble_eq_true rfl⟩ (fun u_ H locs hp hM => ?_)
  have hp := Eq.symm hp
  subst hp
  refine lv_aload_n hx hb dX3_addSack_7 rfl (lv_at hl 0 rfl) ?_
  refine fb_get (r := 0) hx hb hown hts hin3 hM ((hC.1).1) (ce3 ((hC.1).2)) rfl 0 (by decide) (hts (.fieldLink RX3 12 "FeatherBeds" "sacks" "Ljava/util/ArrayList;") (by decide +kernel)) (fun _ h9 => h9) (v := .ref (sa S 1)) (congrArg (fun z => some (va_rf z)) ((hC.2.1).1)) dX3_addSack_8 ?_
  refine fb_callVi (r := 1) hx hb hml hown hts hM ((hC.2.2.1).1) (ce5 ((hC.2.2.1).2)) rfl (As := []) (rest := []) (c_Jx4a65c_size_8abf5 D y l S V I 1 (hC.2.2.1).1 (hC.2.2.1).2) (cwV 0 hts gX3_addSack_Jx4a65c_size_8abf5 rfl rfl rfl (by decide +kernel) ⟨Nat.le_of_ble_eq_true rfl, Nat.le_of_ble_eq_true rfl⟩) rfl hl.1 rfl (Nat.le_of_ble_eq_true rfl) dX3_addSack_11 ⟨Nat.le_of_ble_eq_true rfl, Nat.le_of_ble_eq_true rfl⟩ (fun v_2 u_ H locs hp hM => ?_)
  obtain ⟨hv_, hu_⟩ := hp
  have hv_ := Eq.symm hv_
  have hu_ := Eq.symm hu_
  subst hv_
  subst hu_
  rw [show (I 1 2 : Int32) = nI ns from hF.1]
  refine lv_bipush (v := 12) hx hb dX3_addSack_14 (by decide) ?_
  refine lv_icmp_lt (tgt := 29) hx hb dX3_addSack_16 (by decide) (fun c_3 => ?_) (fun c_3 => absurd (nI_lt hlt (by omega)) c_3)
  refine lv_aload_n hx hb dX3_addSack_29 rfl (lv_at hl 0 rfl) ?_
  refine fb_get (r := 0) hx hb hown hts hin3 hM ((hC.1).1) (ce3 ((hC.1).2)) rfl 0 (by decide) (hts (.fieldLink RX3 12 "FeatherBeds" "sacks" "Ljava/util/ArrayList;") (by decide +kernel)) (fun _ h9 => h9) (v := .ref (sa S 1)) (congrArg (fun z => some (va_rf z)) ((hC.2.1).1)) dX3_addSack_30 ?_
  refine fb_mko1 hx hb hown hts hin1 (hts (.classLink RX3 53 RX1) (by decide +kernel)) (hts (.instantiable RX1 2) (by decide +kernel)) (hts (.initialized RX1) (by decide +kernel)) hM (Nat.le_of_ble_eq_true rfl) (Nat.le_of_ble_eq_true rfl) dX3_addSack_33 (10 + ns) hn1 (fun q9 H hM => ?_)
  refine lv_dup hx hb dX3_addSack_36 rfl ?_
  refine lv_iload_n hx hb dX3_addSack_37 rfl (lv_at hl 1 rfl) ?_
  refine fb_callIv hx hb hml hown hts hM (As := [.int (nI d)]) (rest := [.ref q9, .ref (sa S 1)]) (c_X1_init D y l (fb_new S (10 + ns) q9 1 0) V (va_up I (10 + ns) (fun _ => 0)) (10 + ns) (200 + 2 * ns) q9 (nw_a _ _ _ _ _) (nw_r _ _ _ _ _) (nw_k _ _ _ _ _) (nw_n S q9 1 0 hn2 (by omega)) (nw_n S q9 1 0 hn3 (by omega)) (nI d)) (cwI 1 hts gX3_addSack_X1_init rfl rfl rfl (hts (.initialized RX1) (by decide +kernel)) (hts (.methodLink RX3 55 yX1_init) (by decide +kernel)) (hts (.instanceMethod yX1_init) (by decide +kernel)) rfl (by decide +kernel) ⟨Nat.le_of_ble_eq_true rfl, Nat.le_of_ble_eq_true rfl⟩) rfl hl.1 rfl (Nat.le_of_ble_eq_true rfl) dX3_addSack_38 ⟨Nat.le_of_ble_eq_true rfl, Nat.le_of_ble_eq_true rfl⟩ (fun u_ H locs hp hM => ?_)
  obtain ⟨q1, q2, hp⟩ := hp
  have hp := Eq.symm hp
  subst hp
  have hM : fb_M D y A s ((mkS S (10 + ns) (200 + 2 * ns) q9 q1 q2), (va_up V (200 + 2 * ns) (fun _ => 0)), (sT (va_up V (200 + 2 * ns) (fun _ => 0))), (va_up (va_up I (10 + ns) (fun _ => 0)) (10 + ns) (upd ((va_up I (10 + ns) (fun _ => 0)) (10 + ns)) 1 (nI d)))) H locs := hM
  have eI : (va_up (va_up I (10 + ns) (fun _ => 0)) (10 + ns) (upd ((va_up I (10 + ns) (fun _ => 0)) (10 + ns)) 1 (nI d))) = (va_up I (10 + ns) (upd (fun _ => 0) 1 (nI d))) := by rw [up_up, va_up_self]
  rw [eI] at hM
  clear eI
  obtain ⟨m1, m2, m3⟩ := mkS_ok S (r := 10 + ns) (h := 200 + 2 * ns) q9 q1 q2 (by omega) (by omega)
  obtain ⟨S2, eS2⟩ : ∃ S2, S2 = (mkS S (10 + ns) (200 + 2 * ns) q9 q1 q2) := ⟨_, rfl⟩
  rw [← eS2] at hM m1 m2 m3
  have hC2 : CpAt S2 a0.1 ns nt es na := hC.ext m3 (fun x hx => ⟨by omega, by omega, by omega, by omega, by omega, fun i9 h9 => by omega, fun t9 h9 => by omega⟩)
  have k1 : sa S2 1 = sa S 1 := AA.ext m3 (by omega)
  have k0 : sa S2 0 = sa S 0 := AA.ext m3 (by omega)
  refine W.eq (g2 := F0 mv 41 ls [.ref (sa S2 (10 + ns)), .ref (sa S2 1)]) (by rw [m2, k1]) ?_
  rw [← k0] at hl
  have hz : (va_up I (10 + ns) (upd (fun _ => 0) 1 (nI d))) 1 2 = nI ns := by rw [va_up_ne _ _ (show (1 : Nat) ≠ 10 + ns by omega)]; exact hF.1
  have he2 : 4 ∉ sR S2 := NA.ext m3 (by omega) hef
  have hemp : sp S2 1 1 = some a0.1 := (hC2.2.2.2.2.2.2.1).elim (fun h => h.2) (fun h => absurd h.1 (by omega))
  refine fb_callEVi (r := 1) hx hb hml hown hts hM hE ((hC2.2.2.1).1) (ce5 ((hC2.2.2.1).2)) rfl (As := [.ref (sa S2 (10 + ns))]) (rest := []) (c_Jx4a65c_add_9ea2d_01 a0 D y l S2 (va_up V (200 + 2 * ns) (fun _ => 0)) (va_up I (10 + ns) (upd (fun _ => 0) 1 (nI d))) 1 4 (hC2.2.2.1).1 (hC2.2.2.1).2 hemp he2 (by rw [hz, h0]) (10 + ns) m1.1 m1.2.1) (cwV 1 hts gX3_addSack_Jx4a65c_add_9ea2d rfl rfl rfl (by decide +kernel) ⟨Nat.le_of_ble_eq_true rfl, Nat.le_of_ble_eq_true rfl⟩) rfl hl.1 rfl (Nat.le_of_ble_eq_true rfl) dX3_addSack_41 ⟨Nat.le_of_ble_eq_true rfl, Nat.le_of_ble_eq_true rfl⟩ (fun v_5 u_ H locs hp hM => ?_)
  obtain ⟨hv_, S3, hu_, hL3⟩ := hp
  have hv_ := Eq.symm hv_
  have hu_ := Eq.symm hu_
  subst hv_
  subst hu_
  have eI : (va_up (va_up I (10 + ns) (upd (fun _ => 0) 1 (nI d))) 1 (upd (upd ((va_up I (10 + ns) (upd (fun _ => 0) 1 (nI d))) 1) 0 ((va_up I (10 + ns) (upd (fun _ => 0) 1 (nI d))) 1 0 + 1)) 2 (nI (1)))) = (va_up (va_up I (10 + ns) (upd (fun _ => 0) 1 (nI d))) 1 (upd (upd (I 1) 0 (I 1 0 + 1)) 2 (nI (ns + 1)))) := by have e9 : ns + 1 = 1 := (by omega); rw [e9]; rw [va_up_ne _ _ (show (1 : Nat) ≠ 10 + ns by omega)]
  rw [eI] at hM
  clear eI
  have hL3 : LsN S2 S3 1 4 10 ns (10 + ns) := by have e9 := h0; unfold LsN PA at hL3 ⊢; rw [show sp S3 4 ns = sp S3 4 0 from by rw [h0]]; exact hL3
  have hC3 : CpAt S3 a0.1 (ns + 1) nt 4 10 := hC2.l1add (by omega) hnt (Or.inl rfl) m1 hL3 (fun i9 h9 => absurd h9 (by omega)) (by omega) (by omega)
  have hX3 : Ext (fun x => x = 10 + ns ∨ x = 200 + 2 * ns ∨ x = 200 + 2 * ns + 1 ∨ x = 1 ∨ x = 4) S S3 := (m3.mono (fun x hx => by omega)).trans (hL3.2.2.1.mono (fun x hx => by omega))
  have k3 : sa S3 0 = sa S2 0 := AA.ext hL3.2.2.1 (by omega)
  rw [← k3] at hl
  refine lv_pop hx hb dX3_addSack_44 rfl ?_
  refine lv_aload_n hx hb dX3_addSack_45 rfl (lv_at hl 0 rfl) ?_
  refine fb_get (r := 0) hx hb hown hts hin3 hM ((hC3.1).1) (ce3 ((hC3.1).2)) rfl 0 (by decide) (hts (.fieldLink RX3 12 "FeatherBeds" "sacks" "Ljava/util/ArrayList;") (by decide +kernel)) (fun _ h9 => h9) (v := .ref (sa S3 1)) (congrArg (fun z => some (va_rf z)) ((hC3.2.1).1)) dX3_addSack_46 ?_
  refine fb_callVi (r := 1) hx hb hml hown hts hM ((hC3.2.2.1).1) (ce5 ((hC3.2.2.1).2)) rfl (As := []) (rest := []) (c_Jx4a65c_size_8abf5 D y l S3 (va_up V (200 + 2 * ns) (fun _ => 0)) (va_up (va_up I (10 + ns) (upd (fun _ => 0) 1 (nI d))) 1 (upd (upd (I 1) 0 (I 1 0 + 1)) 2 (nI (ns + 1)))) 1 (hC3.2.2.1).1 (hC3.2.2.1).2) (cwV 0 hts gX3_addSack_Jx4a65c_size_8abf5 rfl rfl rfl (by decide +kernel) ⟨Nat.le_of_ble_eq_true rfl, Nat.le_of_ble_eq_true rfl⟩) rfl hl.1 rfl (Nat.le_of_ble_eq_true rfl) dX3_addSack_49 ⟨Nat.le_of_ble_eq_true rfl, Nat.le_of_ble_eq_true rfl⟩ (fun v_6 u_ H locs hp hM => ?_)
  obtain ⟨hv_, hu_⟩ := hp
  have hv_ := Eq.symm hv_
  have hu_ := Eq.symm hu_
  subst hv_
  subst hu_
  rw [show ((va_up (va_up I (10 + ns) (upd (fun _ => 0) 1 (nI d))) 1 (upd (upd (I 1) 0 (I 1 0 + 1)) 2 (nI (ns + 1)))) 1 2 : Int32) = nI (ns + 1) from by rw [va_up_self]; rfl]
  refine lv_iconst (v := 1) hx hb dX3_addSack_52 (by decide) ?_
  refine lv_isub hx hb dX3_addSack_53 ?_
  refine W.eq (g2 := F0 mv _ ls (.int (nI ns) :: [])) (by first | rfl | rw [show ((nI (ns + 1)) - 1 : Int32) = nI ns from nI_pred _]) ?_
  rw [hQ]
  refine W.widen (show _ ≤ 5 from Nat.le_of_ble_eq_true rfl) (show _ ≤ 32 from Nat.le_of_ble_eq_true rfl) ?_
  exact fb_iret hx hb hr hlocks hM (⟨rfl, _, rfl, hC3, hX3⟩) dX3_addSack_54

set_option maxHeartbeats 4000000 in
set_option maxRecDepth 100000 in
theorem c_X3_addSack_g (a0 : Nat × Nat) (D : va_G) (y : Nat → ClassId) (l : Launch) (S : fb_Sh) (V I : fb_V) (ns nt es na : Nat) (hC : CpAt S a0.1 ns nt es na) (cf rf df : Nat → Nat) (hF : CF I ns nt cf rf df) (d : Nat) (hda : 0 ≤ d) (hd : d ≤ 9) (hlt : ns < 12) (hes : es = 4 ∨ es = 6) (hn1 : 10 + ns ∉ sR S) (hn2 : 200 + 2 * ns ∉ sR S) (hn3 : 200 + 2 * ns + 1 ∉ sR S) (h10 : ns = 10) (hna9 : na = 10) (hef : 6 ∉ sR S) : CIE a0 D y l yX3_addSack wsX3_addSack rm_X3_addSack [.ref (sa S 0), .int (nI d)] (S, V, (sT V), I) (fun z u => z = nI ns ∧ ∃ S2, u = (S2, (va_up V (200 + 2 * ns) (fun _ => 0)), sT (va_up V (200 + 2 * ns) (fun _ => 0)), (va_up (va_up I (10 + ns) (upd (fun _ => 0) 1 (nI d))) 1 (upd (upd (I 1) 0 (I 1 0 + 1)) 2 (nI (ns + 1))))) ∧ CpAt S2 a0.1 (ns + 1) nt 6 15 ∧ Ext (fun x => x = 10 + ns ∨ x = 200 + 2 * ns ∨ x = 200 + 2 * ns + 1 ∨ x = 1 ∨ x = 6) S S2) 5 32 := by
  refine CIE.of (cc := cX3_addSack) (maxL := 2) (ret := (some .int)) (by decide) rfl (Nat.le_of_ble_eq_true rfl) ?_
  intro pv ev s mv below meth cv A hx hb hml hr hown hts hlocks hname hM hE ls hl
  have hown : s.vm.findClass RX3 = some mv.cls := hown
  have hl : lv_has ls 2 [(0, .ref (sa S 0)), (1, .int (nI d))] := hl
  have hin3 : ∀ x ∈ wsX30, x ∈ wsX3_addSack := by decide +kernel
  have hin1 : ∀ x ∈ wsX10, x ∈ wsX3_addSack := by decide +kernel
  obtain ⟨Q, hQ⟩ : ∃ Q, Q = MQ below (va_Qi (fun z u => z = nI ns ∧ ∃ S2, u = (S2, (va_up V (200 + 2 * ns) (fun _ => 0)), sT (va_up V (200 + 2 * ns) (fun _ => 0)), (va_up (va_up I (10 + ns) (upd (fun _ => 0) 1 (nI d))) 1 (upd (upd (I 1) 0 (I 1 0 + 1)) 2 (nI (ns + 1))))) ∧ CpAt S2 a0.1 (ns + 1) nt 6 15 ∧ Ext (fun x => x = 10 + ns ∨ x = 200 + 2 * ns ∨ x = 200 + 2 * ns + 1 ∨ x = 1 ∨ x = 6) S S2) (fun u t => fb_P D y A u t) A) (([.ref (sa S 0), .int (nI d)] : List Value).toArray) s 5 32 A := ⟨_, rfl⟩
  rw [← hQ]
  have hns : ns ≤ 12 := hF.2.2.1
  have hnt : nt ≤ 6 := hF.2.2.2.1
  refine lv_iload_n hx hb dX3_addSack_0 rfl (lv_at hl 1 rfl) ?_
  refine lv_iconst (v := 0) hx hb dX3_addSack_1 (by decide) ?_
  refine lv_bipush (v := 9) hx hb dX3_addSack_2 (by decide) ?_
  refine fb_callSv hx hb hml hown hts hM (As := [.int (nI d), .int 0, .int 9]) (rest := []) (c_X3_needRange D y l S V I (nI d) 0 9 (nI_nlt (b := 0) hda (by omega)) (nI_nlt (a := 9) hd (by omega))) (va_cwS 3 hts gX3_addSack_X3_needRange rfl rfl rfl (by decide +kernel) ⟨Nat.le_of_ble_eq_true rfl, Nat.le_of_ble_eq_true rfl⟩) rfl hl.1 rfl (Nat.le_of_ble_eq_true rfl) dX3_addSack_4 ⟨Nat.le_of_ble_eq_true rfl, Nat.le_of_ble_eq_true rfl⟩ (fun u_ H locs hp hM => ?_)
  have hp := Eq.symm hp
  subst hp
  refine lv_aload_n hx hb dX3_addSack_7 rfl (lv_at hl 0 rfl) ?_
  refine fb_get (r := 0) hx hb hown hts hin3 hM ((hC.1).1) (ce3 ((hC.1).2)) rfl 0 (by decide) (hts (.fieldLink RX3 12 "FeatherBeds" "sacks" "Ljava/util/ArrayList;") (by decide +kernel)) (fun _ h9 => h9) (v := .ref (sa S 1)) (congrArg (fun z => some (va_rf z)) ((hC.2.1).1)) dX3_addSack_8 ?_
  refine fb_callVi (r := 1) hx hb hml hown hts hM ((hC.2.2.1).1) (ce5 ((hC.2.2.1).2)) rfl (As := []) (rest := []) (c_Jx4a65c_size_8abf5 D y l S V I 1 (hC.2.2.1).1 (hC.2.2.1).2) (cwV 0 hts gX3_addSack_Jx4a65c_size_8abf5 rfl rfl rfl (by decide +kernel) ⟨Nat.le_of_ble_eq_true rfl, Nat.le_of_ble_eq_true rfl⟩) rfl hl.1 rfl (Nat.le_of_ble_eq_true rfl) dX3_addSack_11 ⟨Nat.le_of_ble_eq_true rfl, Nat.le_of_ble_eq_true rfl⟩ (fun v_2 u_ H locs hp hM => ?_)
  obtain ⟨hv_, hu_⟩ := hp
  have hv_ := Eq.symm hv_
  have hu_ := Eq.symm hu_
  subst hv_
  subst hu_
  rw [show (I 1 2 : Int32) = nI ns from hF.1]
  refine lv_bipush (v := 12) hx hb dX3_addSack_14 (by decide) ?_
  refine lv_icmp_lt (tgt := 29) hx hb dX3_addSack_16 (by decide) (fun c_3 => ?_) (fun c_3 => absurd (nI_lt hlt (by omega)) c_3)
  refine lv_aload_n hx hb dX3_addSack_29 rfl (lv_at hl 0 rfl) ?_
  refine fb_get (r := 0) hx hb hown hts hin3 hM ((hC.1).1) (ce3 ((hC.1).2)) rfl 0 (by decide) (hts (.fieldLink RX3 12 "FeatherBeds" "sacks" "Ljava/util/ArrayList;") (by decide +kernel)) (fun _ h9 => h9) (v := .ref (sa S 1)) (congrArg (fun z => some (va_rf z)) ((hC.2.1).1)) dX3_addSack_30 ?_
  refine fb_mko1 hx hb hown hts hin1 (hts (.classLink RX3 53 RX1) (by decide +kernel)) (hts (.instantiable RX1 2) (by decide +kernel)) (hts (.initialized RX1) (by decide +kernel)) hM (Nat.le_of_ble_eq_true rfl) (Nat.le_of_ble_eq_true rfl) dX3_addSack_33 (10 + ns) hn1 (fun q9 H hM => ?_)
  refine lv_dup hx hb dX3_addSack_36 rfl ?_
  refine lv_iload_n hx hb dX3_addSack_37 rfl (lv_at hl 1 rfl) ?_
  refine fb_callIv hx hb hml hown hts hM (As := [.int (nI d)]) (rest := [.ref q9, .ref (sa S 1)]) (c_X1_init D y l (fb_new S (10 + ns) q9 1 0) V (va_up I (10 + ns) (fun _ => 0)) (10 + ns) (200 + 2 * ns) q9 (nw_a _ _ _ _ _) (nw_r _ _ _ _ _) (nw_k _ _ _ _ _) (nw_n S q9 1 0 hn2 (by omega)) (nw_n S q9 1 0 hn3 (by omega)) (nI d)) (cwI 1 hts gX3_addSack_X1_init rfl rfl rfl (hts (.initialized RX1) (by decide +kernel)) (hts (.methodLink RX3 55 yX1_init) (by decide +kernel)) (hts (.instanceMethod yX1_init) (by decide +kernel)) rfl (by decide +kernel) ⟨Nat.le_of_ble_eq_true rfl, Nat.le_of_ble_eq_true rfl⟩) rfl hl.1 rfl (Nat.le_of_ble_eq_true rfl) dX3_addSack_38 ⟨Nat.le_of_ble_eq_true rfl, Nat.le_of_ble_eq_true rfl⟩ (fun u_ H locs hp hM => ?_)
  obtain ⟨q1, q2, hp⟩ := hp
  have hp := Eq.symm hp
  subst hp
  have hM : fb_M D y A s ((mkS S (10 + ns) (200 + 2 * ns) q9 q1 q2), (va_up V (200 + 2 * ns) (fun _ => 0)), (sT (va_up V (200 + 2 * ns) (fun _ => 0))), (va_up (va_up I (10 + ns) (fun _ => 0)) (10 + ns) (upd ((va_up I (10 + ns) (fun _ => 0)) (10 + ns)) 1 (nI d)))) H locs := hM
  have eI : (va_up (va_up I (10 + ns) (fun _ => 0)) (10 + ns) (upd ((va_up I (10 + ns) (fun _ => 0)) (10 + ns)) 1 (nI d))) = (va_up I (10 + ns) (upd (fun _ => 0) 1 (nI d))) := by rw [up_up, va_up_self]
  rw [eI] at hM
  clear eI
  obtain ⟨m1, m2, m3⟩ := mkS_ok S (r := 10 + ns) (h := 200 + 2 * ns) q9 q1 q2 (by omega) (by omega)
  obtain ⟨S2, eS2⟩ : ∃ S2, S2 = (mkS S (10 + ns) (200 + 2 * ns) q9 q1 q2) := ⟨_, rfl⟩
  rw [← eS2] at hM m1 m2 m3
  have hC2 : CpAt S2 a0.1 ns nt es na := hC.ext m3 (fun x hx => ⟨by omega, by omega, by omega, by omega, by omega, fun i9 h9 => by omega, fun t9 h9 => by omega⟩)
  have k1 : sa S2 1 = sa S 1 := AA.ext m3 (by omega)
  have k0 : sa S2 0 = sa S 0 := AA.ext m3 (by omega)
  refine W.eq (g2 := F0 mv 41 ls [.ref (sa S2 (10 + ns)), .ref (sa S2 1)]) (by rw [m2, k1]) ?_
  rw [← k0] at hl
  have hz : (va_up I (10 + ns) (upd (fun _ => 0) 1 (nI d))) 1 2 = nI ns := by rw [va_up_ne _ _ (show (1 : Nat) ≠ 10 + ns by omega)]; exact hF.1
  have he2 : 6 ∉ sR S2 := NA.ext m3 (by omega) hef
  refine fb_callEVi (r := 1) hx hb hml hown hts hM hE ((hC2.2.2.1).1) (ce5 ((hC2.2.2.1).2)) rfl (As := [.ref (sa S2 (10 + ns))]) (rest := []) (c_Jx4a65c_add_9ea2d_g a0 D y l S2 (va_up V (200 + 2 * ns) (fun _ => 0)) (va_up I (10 + ns) (upd (fun _ => 0) 1 (nI d))) 1 es 6 (by have h9 := (hC2.l1 (i := 0) (by omega)).1; rw [hna9] at h9; exact h9) he2 (fun i9 h9 => ⟨10 + i9, (hC2.sk (by omega)).1, (hC2.sk (by omega)).2.1, ((hC2.2.2.2.2.2.2.2.1) i9 (by omega)).1⟩) (by rw [hz, h10]) (10 + ns) m1.1 m1.2.1) (cwV 1 hts gX3_addSack_Jx4a65c_add_9ea2d rfl rfl rfl (by decide +kernel) ⟨Nat.le_of_ble_eq_true rfl, Nat.le_of_ble_eq_true rfl⟩) rfl hl.1 rfl (Nat.le_of_ble_eq_true rfl) dX3_addSack_41 ⟨Nat.le_of_ble_eq_true rfl, Nat.le_of_ble_eq_true rfl⟩ (fun v_5 u_ H locs hp hM => ?_)
  obtain ⟨hv_, S3, hu_, hL3, hk3⟩ := hp
  have hv_ := Eq.symm hv_
  have hu_ := Eq.symm hu_
  subst hv_
  subst hu_
  have eI : (va_up (va_up I (10 + ns) (upd (fun _ => 0) 1 (nI d))) 1 (upd (upd ((va_up I (10 + ns) (upd (fun _ => 0) 1 (nI d))) 1) 0 ((va_up I (10 + ns) (upd (fun _ => 0) 1 (nI d))) 1 0 + 1)) 2 (nI (11)))) = (va_up (va_up I (10 + ns) (upd (fun _ => 0) 1 (nI d))) 1 (upd (upd (I 1) 0 (I 1 0 + 1)) 2 (nI (ns + 1)))) := by have e9 : ns + 1 = 11 := (by omega); rw [e9]; rw [va_up_ne _ _ (show (1 : Nat) ≠ 10 + ns by omega)]
  rw [eI] at hM
  clear eI
  have hL3 : LsN S2 S3 1 6 15 ns (10 + ns) := by unfold LsN PA at hL3 ⊢; rw [show sp S3 6 ns = sp S3 6 10 from by rw [h10]]; exact hL3
  have hC3 : CpAt S3 a0.1 (ns + 1) nt 6 15 := hC2.l1add (by omega) hnt (Or.inr rfl) m1 hL3 (fun i9 h9 => hk3 i9 _ (by omega) (hC2.sk h9).1 (hC2.sk h9).2.1 ((hC2.2.2.2.2.2.2.2.1) i9 h9).1) (by omega) (by omega)
  have hX3 : Ext (fun x => x = 10 + ns ∨ x = 200 + 2 * ns ∨ x = 200 + 2 * ns + 1 ∨ x = 1 ∨ x = 6) S S3 := (m3.mono (fun x hx => by omega)).trans (hL3.2.2.1.mono (fun x hx => by omega))
  have k3 : sa S3 0 = sa S2 0 := AA.ext hL3.2.2.1 (by omega)
  rw [← k3] at hl
  refine lv_pop hx hb dX3_addSack_44 rfl ?_
  refine lv_aload_n hx hb dX3_addSack_45 rfl (lv_at hl 0 rfl) ?_
  refine fb_get (r := 0) hx hb hown hts hin3 hM ((hC3.1).1) (ce3 ((hC3.1).2)) rfl 0 (by decide) (hts (.fieldLink RX3 12 "FeatherBeds" "sacks" "Ljava/util/ArrayList;") (by decide +kernel)) (fun _ h9 => h9) (v := .ref (sa S3 1)) (congrArg (fun z => some (va_rf z)) ((hC3.2.1).1)) dX3_addSack_46 ?_
  refine fb_callVi (r := 1) hx hb hml hown hts hM ((hC3.2.2.1).1) (ce5 ((hC3.2.2.1).2)) rfl (As := []) (rest := []) (c_Jx4a65c_size_8abf5 D y l S3 (va_up V (200 + 2 * ns) (fun _ => 0)) (va_up (va_up I (10 + ns) (upd (fun _ => 0) 1 (nI d))) 1 (upd (upd (I 1) 0 (I 1 0 + 1)) 2 (nI (ns + 1)))) 1 (hC3.2.2.1).1 (hC3.2.2.1).2) (cwV 0 hts gX3_addSack_Jx4a65c_size_8abf5 rfl rfl rfl (by decide +kernel) ⟨Nat.le_of_ble_eq_true rfl, Nat.le_of_ble_eq_true rfl⟩) rfl hl.1 rfl (Nat.le_of_ble_eq_true rfl) dX3_addSack_49 ⟨Nat.le_of_ble_eq_true rfl, Nat.le_of_ble_eq_true rfl⟩ (fun v_6 u_ H locs hp hM => ?_)
  obtain ⟨hv_, hu_⟩ := hp
  have hv_ := Eq.symm hv_
  have hu_ := Eq.symm hu_
  subst hv_
  subst hu_
  rw [show ((va_up (va_up I (10 + ns) (upd (fun _ => 0) 1 (nI d))) 1 (upd (upd (I 1) 0 (I 1 0 + 1)) 2 (nI (ns + 1)))) 1 2 : Int32) = nI (ns + 1) from by rw [va_up_self]; rfl]
  refine lv_iconst (v := 1) hx hb dX3_addSack_52 (by decide) ?_
  refine lv_isub hx hb dX3_addSack_53 ?_
  refine W.eq (g2 := F0 mv _ ls (.int (nI ns) :: [])) (by first | rfl | rw [show ((nI (ns + 1)) - 1 : Int32) = nI ns from nI_pred _]) ?_
  rw [hQ]
  refine W.widen (show _ ≤ 5 from Nat.le_of_ble_eq_true rfl) (show _ ≤ 32 from Nat.le_of_ble_eq_true rfl) ?_
  exact fb_iret hx hb hr hlocks hM (⟨rfl, _, rfl, hC3, hX3⟩) dX3_addSack_54

abbrev rm_X3_addTick : Room := { frames := 7, cells := 81, slots := 480, locals := 191 }
set_option maxHeartbeats 4000000 in
set_option maxRecDepth 100000 in
theorem c_X3_addTick_n (a0 : Nat × Nat) (D : va_G) (y : Nat → ClassId) (l : Launch) (S : fb_Sh) (V I : fb_V) (ns nt es na : Nat) (hC : CpAt S a0.1 ns nt es na) (cf rf df : Nat → Nat) (hF : CF I ns nt cf rf df) (c : Nat) (hca : 1 ≤ c) (hc : c ≤ 6) (rr : Nat) (hrra : 1 ≤ rr) (hrr : rr ≤ 6) (d : Nat) (hda : 1 ≤ d) (hd : d ≤ 9) (hlt : nt < 6) (hes : es = 4 ∨ es = 6) (hn1 : ∀ x, 30 + 4 * nt ≤ x → x < 30 + 4 * nt + 4 → x ∉ sR S) (hn2 : ∀ x, 300 + 72 * nt ≤ x → x < 300 + 72 * nt + 72 → x ∉ sR S) (hpos : 0 < nt) : CIE a0 D y l yX3_addTick wsX3_addTick rm_X3_addTick [.ref (sa S 0), .int (nI c), .int (nI rr), .int (nI d)] (S, V, (sT V), I) (fun z u => z = nI nt ∧ ∃ S2, u = (S2, (zV V (300 + 72 * nt) 36), sT (zV V (300 + 72 * nt) 36), (va_up (itk I nt c rr d) 2 (upd (upd (I 2) 0 (I 2 0 + 1)) 2 (nI (nt + 1))))) ∧ CpAt S2 a0.1 ns (nt + 1) es na ∧ Ext (fun x => (30 + 4 * nt ≤ x ∧ x < 30 + 4 * nt + 4) ∨ (300 + 72 * nt ≤ x ∧ x < 300 + 72 * nt + 72) ∨ x = 2 ∨ x = 5) S S2) 81 480 := by
  refine CIE.of (cc := cX3_addTick) (maxL := 4) (ret := (some .int)) (by decide) rfl (Nat.le_of_ble_eq_true rfl) ?_
  intro pv ev s mv below meth cv A hx hb hml hr hown hts hlocks hname hM hE ls hl
  have hown : s.vm.findClass RX3 = some mv.cls := hown
  have hl : lv_has ls 4 [(0, .ref (sa S 0)), (1, .int (nI c)), (2, .int (nI rr)), (3, .int (nI d))] := hl
  have hin3 : ∀ x ∈ wsX30, x ∈ wsX3_addTick := by decide +kernel
  have hin2 : ∀ x ∈ wsX20, x ∈ wsX3_addTick := by decide +kernel
  obtain ⟨Q, hQ⟩ : ∃ Q, Q = MQ below (va_Qi (fun z u => z = nI nt ∧ ∃ S2, u = (S2, (zV V (300 + 72 * nt) 36), sT (zV V (300 + 72 * nt) 36), (va_up (itk I nt c rr d) 2 (upd (upd (I 2) 0 (I 2 0 + 1)) 2 (nI (nt + 1))))) ∧ CpAt S2 a0.1 ns (nt + 1) es na ∧ Ext (fun x => (30 + 4 * nt ≤ x ∧ x < 30 + 4 * nt + 4) ∨ (300 + 72 * nt ≤ x ∧ x < 300 + 72 * nt + 72) ∨ x = 2 ∨ x = 5) S S2) (fun u t => fb_P D y A u t) A) (([.ref (sa S 0), .int (nI c), .int (nI rr), .int (nI d)] : List Value).toArray) s 81 480 A := ⟨_, rfl⟩
  rw [← hQ]
  have hns : ns ≤ 12 := hF.2.2.1
  have hnt : nt ≤ 6 := hF.2.2.2.1
  refine lv_iload_n hx hb dX3_addTick_0 rfl (lv_at hl 1 rfl) ?_
  refine lv_iconst (v := 1) hx hb dX3_addTick_1 (by decide) ?_
  refine lv_bipush (v := 6) hx hb dX3_addTick_2 (by decide) ?_
  refine fb_callSv hx hb hml hown hts hM (As := [.int (nI c), .int 1, .int 6]) (rest := []) (c_X3_needRange D y l S V I (nI c) 1 6 (nI_nlt (b := 1) hca (by omega)) (nI_nlt (a := 6) hc (by omega))) (va_cwS 3 hts gX3_addTick_X3_needRange rfl rfl rfl (by decide +kernel) ⟨Nat.le_of_ble_eq_true rfl, Nat.le_of_ble_eq_true rfl⟩) rfl hl.1 rfl (Nat.le_of_ble_eq_true rfl) dX3_addTick_4 ⟨Nat.le_of_ble_eq_true rfl, Nat.le_of_ble_eq_true rfl⟩ (fun u_ H locs hp hM => ?_)
  have hp := Eq.symm hp
  subst hp
  refine lv_iload_n hx hb dX3_addTick_7 rfl (lv_at hl 2 rfl) ?_
  refine lv_iconst (v := 1) hx hb dX3_addTick_8 (by decide) ?_
  refine lv_bipush (v := 6) hx hb dX3_addTick_9 (by decide) ?_
  refine fb_callSv hx hb hml hown hts hM (As := [.int (nI rr), .int 1, .int 6]) (rest := []) (c_X3_needRange D y l S V I (nI rr) 1 6 (nI_nlt (b := 1) hrra (by omega)) (nI_nlt (a := 6) hrr (by omega))) (va_cwS 3 hts gX3_addTick_X3_needRange rfl rfl rfl (by decide +kernel) ⟨Nat.le_of_ble_eq_true rfl, Nat.le_of_ble_eq_true rfl⟩) rfl hl.1 rfl (Nat.le_of_ble_eq_true rfl) dX3_addTick_11 ⟨Nat.le_of_ble_eq_true rfl, Nat.le_of_ble_eq_true rfl⟩ (fun u_ H locs hp hM => ?_)
  have hp := Eq.symm hp
  subst hp
  refine lv_iload_n hx hb dX3_addTick_14 rfl (lv_at hl 3 rfl) ?_
  refine lv_iconst (v := 1) hx hb dX3_addTick_15 (by decide) ?_
  refine lv_bipush (v := 9) hx hb dX3_addTick_16 (by decide) ?_
  refine fb_callSv hx hb hml hown hts hM (As := [.int (nI d), .int 1, .int 9]) (rest := []) (c_X3_needRange D y l S V I (nI d) 1 9 (nI_nlt (b := 1) hda (by omega)) (nI_nlt (a := 9) hd (by omega))) (va_cwS 3 hts gX3_addTick_X3_needRange rfl rfl rfl (by decide +kernel) ⟨Nat.le_of_ble_eq_true rfl, Nat.le_of_ble_eq_true rfl⟩) rfl hl.1 rfl (Nat.le_of_ble_eq_true rfl) dX3_addTick_18 ⟨Nat.le_of_ble_eq_true rfl, Nat.le_of_ble_eq_true rfl⟩ (fun u_ H locs hp hM => ?_)
  have hp := Eq.symm hp
  subst hp
  refine lv_aload_n hx hb dX3_addTick_21 rfl (lv_at hl 0 rfl) ?_
  refine fb_get (r := 0) hx hb hown hts hin3 hM ((hC.1).1) (ce3 ((hC.1).2)) rfl 1 (by decide) (hts (.fieldLink RX3 16 "FeatherBeds" "ticks" "Ljava/util/ArrayList;") (by decide +kernel)) (fun _ h9 => h9) (v := .ref (sa S 2)) (congrArg (fun z => some (va_rf z)) ((hC.2.1).2.1)) dX3_addTick_22 ?_
  refine fb_callVi (r := 2) hx hb hml hown hts hM ((hC.2.2.2.1).1) (ce5 ((hC.2.2.2.1).2)) rfl (As := []) (rest := []) (c_Jx4a65c_size_8abf5 D y l S V I 2 (hC.2.2.2.1).1 (hC.2.2.2.1).2) (cwV 0 hts gX3_addTick_Jx4a65c_size_8abf5 rfl rfl rfl (by decide +kernel) ⟨Nat.le_of_ble_eq_true rfl, Nat.le_of_ble_eq_true rfl⟩) rfl hl.1 rfl (Nat.le_of_ble_eq_true rfl) dX3_addTick_25 ⟨Nat.le_of_ble_eq_true rfl, Nat.le_of_ble_eq_true rfl⟩ (fun v_4 u_ H locs hp hM => ?_)
  obtain ⟨hv_, hu_⟩ := hp
  have hv_ := Eq.symm hv_
  have hu_ := Eq.symm hu_
  subst hv_
  subst hu_
  rw [show (I 2 2 : Int32) = nI nt from hF.2.1]
  refine lv_bipush (v := 6) hx hb dX3_addTick_28 (by decide) ?_
  refine lv_icmp_lt (tgt := 43) hx hb dX3_addTick_30 (by decide) (fun c_5 => ?_) (fun c_5 => absurd (nI_lt hlt (by omega)) c_5)
  refine lv_aload_n hx hb dX3_addTick_43 rfl (lv_at hl 0 rfl) ?_
  refine fb_get (r := 0) hx hb hown hts hin3 hM ((hC.1).1) (ce3 ((hC.1).2)) rfl 1 (by decide) (hts (.fieldLink RX3 16 "FeatherBeds" "ticks" "Ljava/util/ArrayList;") (by decide +kernel)) (fun _ h9 => h9) (v := .ref (sa S 2)) (congrArg (fun z => some (va_rf z)) ((hC.2.1).2.1)) dX3_addTick_44 ?_
  refine fb_mko2 hx hb hown hts hin2 (hts (.classLink RX3 26 RX2) (by decide +kernel)) (hts (.instantiable RX2 7) (by decide +kernel)) (hts (.initialized RX2) (by decide +kernel)) hM (Nat.le_of_ble_eq_true rfl) (Nat.le_of_ble_eq_true rfl) dX3_addTick_47 (30 + 4 * nt) (hn1 _ (by omega) (by omega)) (fun q9 H hM => ?_)
  refine lv_dup hx hb dX3_addTick_50 rfl ?_
  refine lv_iload_n hx hb dX3_addTick_51 rfl (lv_at hl 1 rfl) ?_
  refine lv_iload_n hx hb dX3_addTick_52 rfl (lv_at hl 2 rfl) ?_
  refine lv_iload_n hx hb dX3_addTick_53 rfl (lv_at hl 3 rfl) ?_
  refine fb_callIv hx hb hml hown hts hM (As := [.int (nI c), .int (nI rr), .int (nI d)]) (rest := [.ref q9, .ref (sa S 2)]) (c_X2_init D y l (fb_new S (30 + 4 * nt) q9 2 0) V (va_up I (30 + 4 * nt) (fun _ => 0)) (30 + 4 * nt) (300 + 72 * nt) q9 (nw_a _ _ _ _ _) (nw_r _ _ _ _ _) (nw_k _ _ _ _ _) (fun x9 a9 b9 => nw_n S q9 2 0 (hn1 x9 (by omega) b9) (by omega)) (fun x9 a9 b9 => nw_n S q9 2 0 (hn2 x9 a9 b9) (by omega)) (Or.inl (by omega)) c rr d) (cwI 3 hts gX3_addTick_X2_init rfl rfl rfl (hts (.initialized RX2) (by decide +kernel)) (hts (.methodLink RX3 28 yX2_init) (by decide +kernel)) (hts (.instanceMethod yX2_init) (by decide +kernel)) rfl (by decide +kernel) ⟨Nat.le_of_ble_eq_true rfl, Nat.le_of_ble_eq_true rfl⟩) rfl hl.1 rfl (Nat.le_of_ble_eq_true rfl) dX3_addTick_54 ⟨Nat.le_of_ble_eq_true rfl, Nat.le_of_ble_eq_true rfl⟩ (fun u_ H locs hp hM => ?_)
  obtain ⟨S2, m1, m4, m5, hp⟩ := hp
  have hp := Eq.symm hp
  subst hp
  have eI : (va_up (va_up (va_up (va_up I (30 + 4 * nt) (fun _ => 0)) (30 + 4 * nt) (upd (upd (upd (upd ((va_up I (30 + 4 * nt) (fun _ => 0)) (30 + 4 * nt)) 0 (nI c)) 1 (nI rr)) 2 (nI d)) 3 (nI (c * rr)))) (30 + 4 * nt + 2) (fun _ => 0)) (30 + 4 * nt + 3) (fun _ => 0)) = (itk I nt c rr d) := itk_e I nt c rr d
  rw [eI] at hM
  clear eI
  have e9 : Ext (fun x => x = 30 + 4 * nt) S (fb_new S (30 + 4 * nt) q9 2 0) := Ext.new _ _ _ _ rfl
  have m3 : Ext (fun x => (30 + 4 * nt ≤ x ∧ x < 30 + 4 * nt + 4) ∨ (300 + 72 * nt ≤ x ∧ x < 300 + 72 * nt + 72)) S S2 := (e9.mono (fun x hx => by omega)).trans m4
  have m2 : sa S2 (30 + 4 * nt) = q9 := m5.trans (nw_a _ _ _ _ _)
  have hC2 : CpAt S2 a0.1 ns nt es na := hC.ext m3 (fun x hx => ⟨by omega, by omega, by omega, by omega, by omega, fun i9 h9 => by omega, fun t9 h9 => by omega⟩)
  have k1 : sa S2 2 = sa S 2 := AA.ext m3 (by omega)
  have k0 : sa S2 0 = sa S 0 := AA.ext m3 (by omega)
  refine W.eq (g2 := F0 mv 57 ls [.ref (sa S2 (30 + 4 * nt)), .ref (sa S2 2)]) (by rw [m2, k1]) ?_
  rw [← k0] at hl
  have hz : (itk I nt c rr d) 2 2 = nI nt := by rw [itk_2]; exact hF.2.1
  refine fb_callEVi (r := 2) hx hb hml hown hts hM hE ((hC2.2.2.2.1).1) (ce5 ((hC2.2.2.2.1).2)) rfl (As := [.ref (sa S2 (30 + 4 * nt))]) (rest := []) (c_Jx4a65c_add_9ea2d_n2 a0 D y l S2 (zV V (300 + 72 * nt) 36) (itk I nt c rr d) 2 5 10 (hC2.l2 (t := 0) hpos) nt (by omega) (by decide) hz (30 + 4 * nt) m1.1 m1.2.1) (cwV 1 hts gX3_addTick_Jx4a65c_add_9ea2d rfl rfl rfl (by decide +kernel) ⟨Nat.le_of_ble_eq_true rfl, Nat.le_of_ble_eq_true rfl⟩) rfl hl.1 rfl (Nat.le_of_ble_eq_true rfl) dX3_addTick_57 ⟨Nat.le_of_ble_eq_true rfl, Nat.le_of_ble_eq_true rfl⟩ (fun v_7 u_ H locs hp hM => ?_)
  obtain ⟨hv_, S3, hu_, hL3, hk3⟩ := hp
  have hv_ := Eq.symm hv_
  have hu_ := Eq.symm hu_
  subst hv_
  subst hu_
  have eI : (va_up (itk I nt c rr d) 2 (upd (upd ((itk I nt c rr d) 2) 0 ((itk I nt c rr d) 2 0 + 1)) 2 (nI (nt + 1)))) = (va_up (itk I nt c rr d) 2 (upd (upd (I 2) 0 (I 2 0 + 1)) 2 (nI (nt + 1)))) := by rw [itk_2]
  rw [eI] at hM
  clear eI
  have hC3 : CpAt S3 a0.1 ns (nt + 1) es na := hC2.l2add hns (by omega) hes m1 hL3 (fun i9 h9 => hk3 i9 _ (by omega) ((hC2.2.2.2.2.2.2.2.2.2) i9 h9).1)
  have hX3 : Ext (fun x => (30 + 4 * nt ≤ x ∧ x < 30 + 4 * nt + 4) ∨ (300 + 72 * nt ≤ x ∧ x < 300 + 72 * nt + 72) ∨ x = 2 ∨ x = 5) S S3 := (m3.mono (fun x hx => by omega)).trans (hL3.2.2.1.mono (fun x hx => by omega))
  have k3 : sa S3 0 = sa S2 0 := AA.ext hL3.2.2.1 (by omega)
  rw [← k3] at hl
  refine lv_pop hx hb dX3_addTick_60 rfl ?_
  refine lv_aload_n hx hb dX3_addTick_61 rfl (lv_at hl 0 rfl) ?_
  refine fb_get (r := 0) hx hb hown hts hin3 hM ((hC3.1).1) (ce3 ((hC3.1).2)) rfl 1 (by decide) (hts (.fieldLink RX3 16 "FeatherBeds" "ticks" "Ljava/util/ArrayList;") (by decide +kernel)) (fun _ h9 => h9) (v := .ref (sa S3 2)) (congrArg (fun z => some (va_rf z)) ((hC3.2.1).2.1)) dX3_addTick_62 ?_
  refine fb_callVi (r := 2) hx hb hml hown hts hM ((hC3.2.2.2.1).1) (ce5 ((hC3.2.2.2.1).2)) rfl (As := []) (rest := []) (c_Jx4a65c_size_8abf5 D y l S3 (zV V (300 + 72 * nt) 36) (va_up (itk I nt c rr d) 2 (upd (upd (I 2) 0 (I 2 0 + 1)) 2 (nI (nt + 1)))) 2 (hC3.2.2.2.1).1 (hC3.2.2.2.1).2) (cwV 0 hts gX3_addTick_Jx4a65c_size_8abf5 rfl rfl rfl (by decide +kernel) ⟨Nat.le_of_ble_eq_true rfl, Nat.le_of_ble_eq_true rfl⟩) rfl hl.1 rfl (Nat.le_of_ble_eq_true rfl) dX3_addTick_65 ⟨Nat.le_of_ble_eq_true rfl, Nat.le_of_ble_eq_true rfl⟩ (fun v_8 u_ H locs hp hM => ?_)
  obtain ⟨hv_, hu_⟩ := hp
  have hv_ := Eq.symm hv_
  have hu_ := Eq.symm hu_
  subst hv_
  subst hu_
  rw [show ((va_up (itk I nt c rr d) 2 (upd (upd (I 2) 0 (I 2 0 + 1)) 2 (nI (nt + 1)))) 2 2 : Int32) = nI (nt + 1) from by rw [va_up_self]; rfl]
  refine lv_iconst (v := 1) hx hb dX3_addTick_68 (by decide) ?_
  refine lv_isub hx hb dX3_addTick_69 ?_
  refine W.eq (g2 := F0 mv _ ls (.int (nI nt) :: [])) (by first | rfl | rw [show ((nI (nt + 1)) - 1 : Int32) = nI nt from nI_pred _]) ?_
  rw [hQ]
  refine W.widen (show _ ≤ 81 from Nat.le_of_ble_eq_true rfl) (show _ ≤ 480 from Nat.le_of_ble_eq_true rfl) ?_
  exact fb_iret hx hb hr hlocks hM (⟨rfl, _, rfl, hC3, hX3⟩) dX3_addTick_70

set_option maxHeartbeats 4000000 in
set_option maxRecDepth 100000 in
theorem c_X3_addTick_0 (a0 : Nat × Nat) (D : va_G) (y : Nat → ClassId) (l : Launch) (S : fb_Sh) (V I : fb_V) (ns nt es na : Nat) (hC : CpAt S a0.1 ns nt es na) (cf rf df : Nat → Nat) (hF : CF I ns nt cf rf df) (c : Nat) (hca : 1 ≤ c) (hc : c ≤ 6) (rr : Nat) (hrra : 1 ≤ rr) (hrr : rr ≤ 6) (d : Nat) (hda : 1 ≤ d) (hd : d ≤ 9) (hlt : nt < 6) (hes : es = 4 ∨ es = 6) (hn1 : ∀ x, 30 + 4 * nt ≤ x → x < 30 + 4 * nt + 4 → x ∉ sR S) (hn2 : ∀ x, 300 + 72 * nt ≤ x → x < 300 + 72 * nt + 72 → x ∉ sR S) (h0 : nt = 0) (hef : 5 ∉ sR S) : CIE a0 D y l yX3_addTick wsX3_addTick rm_X3_addTick [.ref (sa S 0), .int (nI c), .int (nI rr), .int (nI d)] (S, V, (sT V), I) (fun z u => z = nI nt ∧ ∃ S2, u = (S2, (zV V (300 + 72 * nt) 36), sT (zV V (300 + 72 * nt) 36), (va_up (itk I nt c rr d) 2 (upd (upd (I 2) 0 (I 2 0 + 1)) 2 (nI (nt + 1))))) ∧ CpAt S2 a0.1 ns (nt + 1) es na ∧ Ext (fun x => (30 + 4 * nt ≤ x ∧ x < 30 + 4 * nt + 4) ∨ (300 + 72 * nt ≤ x ∧ x < 300 + 72 * nt + 72) ∨ x = 2 ∨ x = 5) S S2) 81 480 := by
  refine CIE.of (cc := cX3_addTick) (maxL := 4) (ret := (some .int)) (by decide) rfl (Nat.le_of_ble_eq_true rfl) ?_
  intro pv ev s mv below meth cv A hx hb hml hr hown hts hlocks hname hM hE ls hl
  have hown : s.vm.findClass RX3 = some mv.cls := hown
  have hl : lv_has ls 4 [(0, .ref (sa S 0)), (1, .int (nI c)), (2, .int (nI rr)), (3, .int (nI d))] := hl
  have hin3 : ∀ x ∈ wsX30, x ∈ wsX3_addTick := by decide +kernel
  have hin2 : ∀ x ∈ wsX20, x ∈ wsX3_addTick := by decide +kernel
  obtain ⟨Q, hQ⟩ : ∃ Q, Q = MQ below (va_Qi (fun z u => z = nI nt ∧ ∃ S2, u = (S2, (zV V (300 + 72 * nt) 36), sT (zV V (300 + 72 * nt) 36), (va_up (itk I nt c rr d) 2 (upd (upd (I 2) 0 (I 2 0 + 1)) 2 (nI (nt + 1))))) ∧ CpAt S2 a0.1 ns (nt + 1) es na ∧ Ext (fun x => (30 + 4 * nt ≤ x ∧ x < 30 + 4 * nt + 4) ∨ (300 + 72 * nt ≤ x ∧ x < 300 + 72 * nt + 72) ∨ x = 2 ∨ x = 5) S S2) (fun u t => fb_P D y A u t) A) (([.ref (sa S 0), .int (nI c), .int (nI rr), .int (nI d)] : List Value).toArray) s 81 480 A := ⟨_, rfl⟩
  rw [← hQ]
  have hns : ns ≤ 12 := hF.2.2.1
  have hnt : nt ≤ 6 := hF.2.2.2.1
  refine lv_iload_n hx hb dX3_addTick_0 rfl (lv_at hl 1 rfl) ?_
  refine lv_iconst (v := 1) hx hb dX3_addTick_1 (by decide) ?_
  refine lv_bipush (v := 6) hx hb dX3_addTick_2 (by decide) ?_
  refine fb_callSv hx hb hml hown hts hM (As := [.int (nI c), .int 1, .int 6]) (rest := []) (c_X3_needRange D y l S V I (nI c) 1 6 (nI_nlt (b := 1) hca (by omega)) (nI_nlt (a := 6) hc (by omega))) (va_cwS 3 hts gX3_addTick_X3_needRange rfl rfl rfl (by decide +kernel) ⟨Nat.le_of_ble_eq_true rfl, Nat.le_of_ble_eq_true rfl⟩) rfl hl.1 rfl (Nat.le_of_ble_eq_true rfl) dX3_addTick_4 ⟨Nat.le_of_ble_eq_true rfl, Nat.le_of_ble_eq_true rfl⟩ (fun u_ H locs hp hM => ?_)
  have hp := Eq.symm hp
  subst hp
  refine lv_iload_n hx hb dX3_addTick_7 rfl (lv_at hl 2 rfl) ?_
  refine lv_iconst (v := 1) hx hb dX3_addTick_8 (by decide) ?_
  refine lv_bipush (v := 6) hx hb dX3_addTick_9 (by decide) ?_
  refine fb_callSv hx hb hml hown hts hM (As := [.int (nI rr), .int 1, .int 6]) (rest := []) (c_X3_needRange D y l S V I (nI rr) 1 6 (nI_nlt (b := 1) hrra (by omega)) (nI_nlt (a := 6) hrr (by omega))) (va_cwS 3 hts gX3_addTick_X3_needRange rfl rfl rfl (by decide +kernel) ⟨Nat.le_of_ble_eq_true rfl, Nat.le_of_ble_eq_true rfl⟩) rfl hl.1 rfl (Nat.le_of_ble_eq_true rfl) dX3_addTick_11 ⟨Nat.le_of_ble_eq_true rfl, Nat.le_of_ble_eq_true rfl⟩ (fun u_ H locs hp hM => ?_)
  have hp := Eq.symm hp
  subst hp
  refine lv_iload_n hx hb dX3_addTick_14 rfl (lv_at hl 3 rfl) ?_
  refine lv_iconst (v := 1) hx hb dX3_addTick_15 (by decide) ?_
  refine lv_bipush (v := 9) hx hb dX3_addTick_16 (by decide) ?_
  refine fb_callSv hx hb hml hown hts hM (As := [.int (nI d), .int 1, .int 9]) (rest := []) (c_X3_needRange D y l S V I (nI d) 1 9 (nI_nlt (b := 1) hda (by omega)) (nI_nlt (a := 9) hd (by omega))) (va_cwS 3 hts gX3_addTick_X3_needRange rfl rfl rfl (by decide +kernel) ⟨Nat.le_of_ble_eq_true rfl, Nat.le_of_ble_eq_true rfl⟩) rfl hl.1 rfl (Nat.le_of_ble_eq_true rfl) dX3_addTick_18 ⟨Nat.le_of_ble_eq_true rfl, Nat.le_of_ble_eq_true rfl⟩ (fun u_ H locs hp hM => ?_)
  have hp := Eq.symm hp
  subst hp
  refine lv_aload_n hx hb dX3_addTick_21 rfl (lv_at hl 0 rfl) ?_
  refine fb_get (r := 0) hx hb hown hts hin3 hM ((hC.1).1) (ce3 ((hC.1).2)) rfl 1 (by decide) (hts (.fieldLink RX3 16 "FeatherBeds" "ticks" "Ljava/util/ArrayList;") (by decide +kernel)) (fun _ h9 => h9) (v := .ref (sa S 2)) (congrArg (fun z => some (va_rf z)) ((hC.2.1).2.1)) dX3_addTick_22 ?_
  refine fb_callVi (r := 2) hx hb hml hown hts hM ((hC.2.2.2.1).1) (ce5 ((hC.2.2.2.1).2)) rfl (As := []) (rest := []) (c_Jx4a65c_size_8abf5 D y l S V I 2 (hC.2.2.2.1).1 (hC.2.2.2.1).2) (cwV 0 hts gX3_addTick_Jx4a65c_size_8abf5 rfl rfl rfl (by decide +kernel) ⟨Nat.le_of_ble_eq_true rfl, Nat.le_of_ble_eq_true rfl⟩) rfl hl.1 rfl (Nat.le_of_ble_eq_true rfl) dX3_addTick_25 ⟨Nat.le_of_ble_eq_true rfl, Nat.le_of_ble_eq_true rfl⟩ (fun v_4 u_ H locs hp hM => ?_)
  obtain ⟨hv_, hu_⟩ := hp
  have hv_ := Eq.symm hv_
  have hu_ := Eq.symm hu_
  subst hv_
  subst hu_
  rw [show (I 2 2 : Int32) = nI nt from hF.2.1]
  refine lv_bipush (v := 6) hx hb dX3_addTick_28 (by decide) ?_
  refine lv_icmp_lt (tgt := 43) hx hb dX3_addTick_30 (by decide) (fun c_5 => ?_) (fun c_5 => absurd (nI_lt hlt (by omega)) c_5)
  refine lv_aload_n hx hb dX3_addTick_43 rfl (lv_at hl 0 rfl) ?_
  refine fb_get (r := 0) hx hb hown hts hin3 hM ((hC.1).1) (ce3 ((hC.1).2)) rfl 1 (by decide) (hts (.fieldLink RX3 16 "FeatherBeds" "ticks" "Ljava/util/ArrayList;") (by decide +kernel)) (fun _ h9 => h9) (v := .ref (sa S 2)) (congrArg (fun z => some (va_rf z)) ((hC.2.1).2.1)) dX3_addTick_44 ?_
  refine fb_mko2 hx hb hown hts hin2 (hts (.classLink RX3 26 RX2) (by decide +kernel)) (hts (.instantiable RX2 7) (by decide +kernel)) (hts (.initialized RX2) (by decide +kernel)) hM (Nat.le_of_ble_eq_true rfl) (Nat.le_of_ble_eq_true rfl) dX3_addTick_47 (30 + 4 * nt) (hn1 _ (by omega) (by omega)) (fun q9 H hM => ?_)
  refine lv_dup hx hb dX3_addTick_50 rfl ?_
  refine lv_iload_n hx hb dX3_addTick_51 rfl (lv_at hl 1 rfl) ?_
  refine lv_iload_n hx hb dX3_addTick_52 rfl (lv_at hl 2 rfl) ?_
  refine lv_iload_n hx hb dX3_addTick_53 rfl (lv_at hl 3 rfl) ?_
  refine fb_callIv hx hb hml hown hts hM (As := [.int (nI c), .int (nI rr), .int (nI d)]) (rest := [.ref q9, .ref (sa S 2)]) (c_X2_init D y l (fb_new S (30 + 4 * nt) q9 2 0) V (va_up I (30 + 4 * nt) (fun _ => 0)) (30 + 4 * nt) (300 + 72 * nt) q9 (nw_a _ _ _ _ _) (nw_r _ _ _ _ _) (nw_k _ _ _ _ _) (fun x9 a9 b9 => nw_n S q9 2 0 (hn1 x9 (by omega) b9) (by omega)) (fun x9 a9 b9 => nw_n S q9 2 0 (hn2 x9 a9 b9) (by omega)) (Or.inl (by omega)) c rr d) (cwI 3 hts gX3_addTick_X2_init rfl rfl rfl (hts (.initialized RX2) (by decide +kernel)) (hts (.methodLink RX3 28 yX2_init) (by decide +kernel)) (hts (.instanceMethod yX2_init) (by decide +kernel)) rfl (by decide +kernel) ⟨Nat.le_of_ble_eq_true rfl, Nat.le_of_ble_eq_true rfl⟩) rfl hl.1 rfl (Nat.le_of_ble_eq_true rfl) dX3_addTick_54 ⟨Nat.le_of_ble_eq_true rfl, Nat.le_of_ble_eq_true rfl⟩ (fun u_ H locs hp hM => ?_)
  obtain ⟨S2, m1, m4, m5, hp⟩ := hp
  have hp := Eq.symm hp
  subst hp
  have eI : (va_up (va_up (va_up (va_up I (30 + 4 * nt) (fun _ => 0)) (30 + 4 * nt) (upd (upd (upd (upd ((va_up I (30 + 4 * nt) (fun _ => 0)) (30 + 4 * nt)) 0 (nI c)) 1 (nI rr)) 2 (nI d)) 3 (nI (c * rr)))) (30 + 4 * nt + 2) (fun _ => 0)) (30 + 4 * nt + 3) (fun _ => 0)) = (itk I nt c rr d) := itk_e I nt c rr d
  rw [eI] at hM
  clear eI
  have e9 : Ext (fun x => x = 30 + 4 * nt) S (fb_new S (30 + 4 * nt) q9 2 0) := Ext.new _ _ _ _ rfl
  have m3 : Ext (fun x => (30 + 4 * nt ≤ x ∧ x < 30 + 4 * nt + 4) ∨ (300 + 72 * nt ≤ x ∧ x < 300 + 72 * nt + 72)) S S2 := (e9.mono (fun x hx => by omega)).trans m4
  have m2 : sa S2 (30 + 4 * nt) = q9 := m5.trans (nw_a _ _ _ _ _)
  have hC2 : CpAt S2 a0.1 ns nt es na := hC.ext m3 (fun x hx => ⟨by omega, by omega, by omega, by omega, by omega, fun i9 h9 => by omega, fun t9 h9 => by omega⟩)
  have k1 : sa S2 2 = sa S 2 := AA.ext m3 (by omega)
  have k0 : sa S2 0 = sa S 0 := AA.ext m3 (by omega)
  refine W.eq (g2 := F0 mv 57 ls [.ref (sa S2 (30 + 4 * nt)), .ref (sa S2 2)]) (by rw [m2, k1]) ?_
  rw [← k0] at hl
  have hz : (itk I nt c rr d) 2 2 = nI nt := by rw [itk_2]; exact hF.2.1
  have he2 : 5 ∉ sR S2 := NA.ext m3 (by omega) hef
  have hemp : sp S2 2 1 = some a0.1 := (hC2.2.2.2.2.2.2.2.2.1).elim (fun h => h.2) (fun h => absurd h.1 (by omega))
  refine fb_callEVi (r := 2) hx hb hml hown hts hM hE ((hC2.2.2.2.1).1) (ce5 ((hC2.2.2.2.1).2)) rfl (As := [.ref (sa S2 (30 + 4 * nt))]) (rest := []) (c_Jx4a65c_add_9ea2d_02 a0 D y l S2 (zV V (300 + 72 * nt) 36) (itk I nt c rr d) 2 5 (hC2.2.2.2.1).1 (hC2.2.2.2.1).2 hemp he2 (by rw [hz, h0]) (30 + 4 * nt) m1.1 m1.2.1) (cwV 1 hts gX3_addTick_Jx4a65c_add_9ea2d rfl rfl rfl (by decide +kernel) ⟨Nat.le_of_ble_eq_true rfl, Nat.le_of_ble_eq_true rfl⟩) rfl hl.1 rfl (Nat.le_of_ble_eq_true rfl) dX3_addTick_57 ⟨Nat.le_of_ble_eq_true rfl, Nat.le_of_ble_eq_true rfl⟩ (fun v_7 u_ H locs hp hM => ?_)
  obtain ⟨hv_, S3, hu_, hL3⟩ := hp
  have hv_ := Eq.symm hv_
  have hu_ := Eq.symm hu_
  subst hv_
  subst hu_
  have eI : (va_up (itk I nt c rr d) 2 (upd (upd ((itk I nt c rr d) 2) 0 ((itk I nt c rr d) 2 0 + 1)) 2 (nI (1)))) = (va_up (itk I nt c rr d) 2 (upd (upd (I 2) 0 (I 2 0 + 1)) 2 (nI (nt + 1)))) := by have e9 : nt + 1 = 1 := (by omega); rw [e9]; rw [itk_2]
  rw [eI] at hM
  clear eI
  have hL3 : LsN S2 S3 2 5 10 nt (30 + 4 * nt) := by have e9 := h0; unfold LsN PA at hL3 ⊢; rw [show sp S3 5 nt = sp S3 5 0 from by rw [h0]]; exact hL3
  have hC3 : CpAt S3 a0.1 ns (nt + 1) es na := hC2.l2add hns (by omega) hes m1 hL3 (fun i9 h9 => absurd h9 (by omega))
  have hX3 : Ext (fun x => (30 + 4 * nt ≤ x ∧ x < 30 + 4 * nt + 4) ∨ (300 + 72 * nt ≤ x ∧ x < 300 + 72 * nt + 72) ∨ x = 2 ∨ x = 5) S S3 := (m3.mono (fun x hx => by omega)).trans (hL3.2.2.1.mono (fun x hx => by omega))
  have k3 : sa S3 0 = sa S2 0 := AA.ext hL3.2.2.1 (by omega)
  rw [← k3] at hl
  refine lv_pop hx hb dX3_addTick_60 rfl ?_
  refine lv_aload_n hx hb dX3_addTick_61 rfl (lv_at hl 0 rfl) ?_
  refine fb_get (r := 0) hx hb hown hts hin3 hM ((hC3.1).1) (ce3 ((hC3.1).2)) rfl 1 (by decide) (hts (.fieldLink RX3 16 "FeatherBeds" "ticks" "Ljava/util/ArrayList;") (by decide +kernel)) (fun _ h9 => h9) (v := .ref (sa S3 2)) (congrArg (fun z => some (va_rf z)) ((hC3.2.1).2.1)) dX3_addTick_62 ?_
  refine fb_callVi (r := 2) hx hb hml hown hts hM ((hC3.2.2.2.1).1) (ce5 ((hC3.2.2.2.1).2)) rfl (As := []) (rest := []) (c_Jx4a65c_size_8abf5 D y l S3 (zV V (300 + 72 * nt) 36) (va_up (itk I nt c rr d) 2 (upd (upd (I 2) 0 (I 2 0 + 1)) 2 (nI (nt + 1)))) 2 (hC3.2.2.2.1).1 (hC3.2.2.2.1).2) (cwV 0 hts gX3_addTick_Jx4a65c_size_8abf5 rfl rfl rfl (by decide +kernel) ⟨Nat.le_of_ble_eq_true rfl, Nat.le_of_ble_eq_true rfl⟩) rfl hl.1 rfl (Nat.le_of_ble_eq_true rfl) dX3_addTick_65 ⟨Nat.le_of_ble_eq_true rfl, Nat.le_of_ble_eq_true rfl⟩ (fun v_8 u_ H locs hp hM => ?_)
  obtain ⟨hv_, hu_⟩ := hp
  have hv_ := Eq.symm hv_
  have hu_ := Eq.symm hu_
  subst hv_
  subst hu_
  rw [show ((va_up (itk I nt c rr d) 2 (upd (upd (I 2) 0 (I 2 0 + 1)) 2 (nI (nt + 1)))) 2 2 : Int32) = nI (nt + 1) from by rw [va_up_self]; rfl]
  refine lv_iconst (v := 1) hx hb dX3_addTick_68 (by decide) ?_
  refine lv_isub hx hb dX3_addTick_69 ?_
  refine W.eq (g2 := F0 mv _ ls (.int (nI nt) :: [])) (by first | rfl | rw [show ((nI (nt + 1)) - 1 : Int32) = nI nt from nI_pred _]) ?_
  rw [hQ]
  refine W.widen (show _ ≤ 81 from Nat.le_of_ble_eq_true rfl) (show _ ≤ 480 from Nat.le_of_ble_eq_true rfl) ?_
  exact fb_iret hx hb hr hlocks hM (⟨rfl, _, rfl, hC3, hX3⟩) dX3_addTick_70
