abbrev rm_Jx4a65c_add_72be8 : Room := { frames := 5, cells := 1, slots := 15, locals := 147 }
set_option maxHeartbeats 4000000 in
set_option maxRecDepth 100000 in
theorem c_Jx4a65c_add_72be8_n1 (a0 : Nat × Nat) (D : va_G) (y : Nat → ClassId) (l : Launch) (S : fb_Sh) (V I : fb_V) (r e na : Nat) (hL : LsAt S r e na) (n : Nat) (hn : n < na) (hna : na < 2 ^ 31) (x : Nat) (hx1 : x ∈ sR S) (hx2 : sk S x = 1) : CVE a0 D y l yJx4a65c_add_72be8 wsJx4a65c_add_72be8 rm_Jx4a65c_add_72be8 [.ref (sa S r), .ref (sa S x), .ref (sa S e), .int (nI n)] (S, V, (sT V), I) (fun u => u = (fb_setp S e n (some (sa S x)), V, sT V, (va_up I r (upd (I r) 2 (nI (n + 1)))))) 1 15 := by
  refine CVE.of (cc := cJx4a65c_add_72be8) (maxL := 4) (ret := none) (by decide) rfl (Nat.le_of_ble_eq_true rfl) ?_
  intro pv ev s mv below meth cv A hx hb hml hr hown hts hlocks hname hM hE ls hl
  have hown : s.vm.findClass RJx4a65c = some mv.cls := hown
  have hl : lv_has ls 4 [(0, .ref (sa S r)), (1, .ref (sa S x)), (2, .ref (sa S e)), (3, .int (nI n))] := hl
  have hin5 : ∀ x ∈ wsJx4a65c0, x ∈ wsJx4a65c_add_72be8 := by decide +kernel
  obtain ⟨Q, hQ⟩ : ∃ Q, Q = MQ below (va_Qv (fun u => u = (fb_setp S e n (some (sa S x)), V, sT V, (va_up I r (upd (I r) 2 (nI (n + 1)))))) (fun u t => fb_P D y A u t) A) (([.ref (sa S r), .ref (sa S x), .ref (sa S e), .int (nI n)] : List Value).toArray) s 1 15 A := ⟨_, rfl⟩
  rw [← hQ]
  refine lv_iload_n hx hb dJx4a65c_add_72be8_0 rfl (lv_at hl 3 rfl) ?_
  refine lv_aload_n hx hb dJx4a65c_add_72be8_1 rfl (lv_at hl 2 rfl) ?_
  refine fb_alen (r := e) hx hb hM (hL.2.2.1) (ce9 (hL.2.2.2.1)) 3 rfl (v := nI na) (congrArg Int32.ofNat (hL.2.2.2.2)) dJx4a65c_add_72be8_2 ?_
  refine lv_icmp_ne (tgt := 11) hx hb dJx4a65c_add_72be8_3 (by decide) (fun c_1 => ?_) (fun c_1 => absurd c_1 (fun h => by have := (nI_eq (by omega) (by omega)).mp h; omega))
  refine lv_aload_n hx hb dJx4a65c_add_72be8_11 rfl (lv_at hl 2 rfl) ?_
  refine lv_iload_n hx hb dJx4a65c_add_72be8_12 rfl (lv_at hl 3 rfl) ?_
  refine lv_aload_n hx hb dJx4a65c_add_72be8_13 rfl (lv_at hl 1 rfl) ?_
  refine fb_aastO hx hb hM (r := e) (hL.2.2.1) (ce9 (hL.2.2.2.1)) 3 rfl hE.1.2.2.1 (v := x) (hx1) (ce1 (hx2)) (rc := (RX1, TX1, 2)) rfl (k := n) (nI_clamp (by omega)) (by rw [hL.2.2.2.2]; exact vp_in_nI (n := n) (by omega) (by omega)) dJx4a65c_add_72be8_14 (upa_9 (v := some (sa S x)) (hL.2.2.2.1)) (w' := ((fb_setp S e n (some (sa S x))), V, (sT V), I)) ⟨rfl, rfl, rfl⟩ (fun H locs hM => ?_)
  refine lv_aload_n hx hb dJx4a65c_add_72be8_15 rfl (lv_at hl 0 rfl) ?_
  refine lv_iload_n hx hb dJx4a65c_add_72be8_16 rfl (lv_at hl 3 rfl) ?_
  refine lv_iconst (v := 1) hx hb dJx4a65c_add_72be8_17 (by decide) ?_
  refine lv_iadd hx hb dJx4a65c_add_72be8_18 ?_
  refine W.eq (g2 := F0 mv _ ls (.int (nI (n + 1)) :: .ref (sa S r) :: [])) (by first | rfl | rw [show ((nI n) + 1 : Int32) = nI (n + 1) from nI_1 _]) ?_
  refine fb_put (r := r) hx hb hown hts hin5 tyJx4a65c tyJx4a65c_ok nmJx4a65c hM (hL.1.1) (ce5 (hL.1.2)) rfl 2 (by decide) (hts (.fieldLink RJx4a65c 48 "java/util/ArrayList" "size" "I") (by decide +kernel)) (fun _ h9 => h9) rfl (ty := .int) (by decide +kernel) rfl rfl (Nat.le_of_ble_eq_true rfl) dJx4a65c_add_72be8_19 (up_I (j := 2) (v := nI (n + 1)) (by rw [ce5 (S := (fb_setp S e n (some (sa S x)))) (hL.1.2)]; simp [va_up, upd])) (w' := ((fb_setp S e n (some (sa S x))), V, (sT V), (va_up I r (upd (I r) 2 (nI (n + 1)))))) ⟨rfl, rfl, rfl⟩ (fun H locs hM => ?_)
  rw [hQ]
  refine W.widen (show _ ≤ 1 from Nat.le_of_ble_eq_true rfl) (show _ ≤ 15 from Nat.le_of_ble_eq_true rfl) ?_
  exact fb_vret hx hb hr hlocks hM (rfl) dJx4a65c_add_72be8_22

set_option maxHeartbeats 4000000 in
set_option maxRecDepth 100000 in
theorem c_Jx4a65c_add_72be8_n2 (a0 : Nat × Nat) (D : va_G) (y : Nat → ClassId) (l : Launch) (S : fb_Sh) (V I : fb_V) (r e na : Nat) (hL : LsAt S r e na) (n : Nat) (hn : n < na) (hna : na < 2 ^ 31) (x : Nat) (hx1 : x ∈ sR S) (hx2 : sk S x = 2) : CVE a0 D y l yJx4a65c_add_72be8 wsJx4a65c_add_72be8 rm_Jx4a65c_add_72be8 [.ref (sa S r), .ref (sa S x), .ref (sa S e), .int (nI n)] (S, V, (sT V), I) (fun u => u = (fb_setp S e n (some (sa S x)), V, sT V, (va_up I r (upd (I r) 2 (nI (n + 1)))))) 1 15 := by
  refine CVE.of (cc := cJx4a65c_add_72be8) (maxL := 4) (ret := none) (by decide) rfl (Nat.le_of_ble_eq_true rfl) ?_
  intro pv ev s mv below meth cv A hx hb hml hr hown hts hlocks hname hM hE ls hl
  have hown : s.vm.findClass RJx4a65c = some mv.cls := hown
  have hl : lv_has ls 4 [(0, .ref (sa S r)), (1, .ref (sa S x)), (2, .ref (sa S e)), (3, .int (nI n))] := hl
  have hin5 : ∀ x ∈ wsJx4a65c0, x ∈ wsJx4a65c_add_72be8 := by decide +kernel
  obtain ⟨Q, hQ⟩ : ∃ Q, Q = MQ below (va_Qv (fun u => u = (fb_setp S e n (some (sa S x)), V, sT V, (va_up I r (upd (I r) 2 (nI (n + 1)))))) (fun u t => fb_P D y A u t) A) (([.ref (sa S r), .ref (sa S x), .ref (sa S e), .int (nI n)] : List Value).toArray) s 1 15 A := ⟨_, rfl⟩
  rw [← hQ]
  refine lv_iload_n hx hb dJx4a65c_add_72be8_0 rfl (lv_at hl 3 rfl) ?_
  refine lv_aload_n hx hb dJx4a65c_add_72be8_1 rfl (lv_at hl 2 rfl) ?_
  refine fb_alen (r := e) hx hb hM (hL.2.2.1) (ce9 (hL.2.2.2.1)) 3 rfl (v := nI na) (congrArg Int32.ofNat (hL.2.2.2.2)) dJx4a65c_add_72be8_2 ?_
  refine lv_icmp_ne (tgt := 11) hx hb dJx4a65c_add_72be8_3 (by decide) (fun c_1 => ?_) (fun c_1 => absurd c_1 (fun h => by have := (nI_eq (by omega) (by omega)).mp h; omega))
  refine lv_aload_n hx hb dJx4a65c_add_72be8_11 rfl (lv_at hl 2 rfl) ?_
  refine lv_iload_n hx hb dJx4a65c_add_72be8_12 rfl (lv_at hl 3 rfl) ?_
  refine lv_aload_n hx hb dJx4a65c_add_72be8_13 rfl (lv_at hl 1 rfl) ?_
  refine fb_aastO hx hb hM (r := e) (hL.2.2.1) (ce9 (hL.2.2.2.1)) 3 rfl hE.1.2.2.2.1 (v := x) (hx1) (ce2 (hx2)) (rc := (RX2, TX2, 7)) rfl (k := n) (nI_clamp (by omega)) (by rw [hL.2.2.2.2]; exact vp_in_nI (n := n) (by omega) (by omega)) dJx4a65c_add_72be8_14 (upa_9 (v := some (sa S x)) (hL.2.2.2.1)) (w' := ((fb_setp S e n (some (sa S x))), V, (sT V), I)) ⟨rfl, rfl, rfl⟩ (fun H locs hM => ?_)
  refine lv_aload_n hx hb dJx4a65c_add_72be8_15 rfl (lv_at hl 0 rfl) ?_
  refine lv_iload_n hx hb dJx4a65c_add_72be8_16 rfl (lv_at hl 3 rfl) ?_
  refine lv_iconst (v := 1) hx hb dJx4a65c_add_72be8_17 (by decide) ?_
  refine lv_iadd hx hb dJx4a65c_add_72be8_18 ?_
  refine W.eq (g2 := F0 mv _ ls (.int (nI (n + 1)) :: .ref (sa S r) :: [])) (by first | rfl | rw [show ((nI n) + 1 : Int32) = nI (n + 1) from nI_1 _]) ?_
  refine fb_put (r := r) hx hb hown hts hin5 tyJx4a65c tyJx4a65c_ok nmJx4a65c hM (hL.1.1) (ce5 (hL.1.2)) rfl 2 (by decide) (hts (.fieldLink RJx4a65c 48 "java/util/ArrayList" "size" "I") (by decide +kernel)) (fun _ h9 => h9) rfl (ty := .int) (by decide +kernel) rfl rfl (Nat.le_of_ble_eq_true rfl) dJx4a65c_add_72be8_19 (up_I (j := 2) (v := nI (n + 1)) (by rw [ce5 (S := (fb_setp S e n (some (sa S x)))) (hL.1.2)]; simp [va_up, upd])) (w' := ((fb_setp S e n (some (sa S x))), V, (sT V), (va_up I r (upd (I r) 2 (nI (n + 1)))))) ⟨rfl, rfl, rfl⟩ (fun H locs hM => ?_)
  rw [hQ]
  refine W.widen (show _ ≤ 1 from Nat.le_of_ble_eq_true rfl) (show _ ≤ 15 from Nat.le_of_ble_eq_true rfl) ?_
  exact fb_vret hx hb hr hlocks hM (rfl) dJx4a65c_add_72be8_22

set_option maxHeartbeats 4000000 in
set_option maxRecDepth 100000 in
theorem c_Jx4a65c_add_72be8_01 (a0 : Nat × Nat) (D : va_G) (y : Nat → ClassId) (l : Launch) (S : fb_Sh) (V I : fb_V) (r e : Nat) (h1 : r ∈ sR S) (h2 : sk S r = 5) (hp : sp S r 1 = some a0.1) (he : e ∉ sR S) (hz : I r 2 = nI 0) (x : Nat) (hx1 : x ∈ sR S) (hx2 : sk S x = 1) : CVE a0 D y l yJx4a65c_add_72be8 wsJx4a65c_add_72be8 rm_Jx4a65c_add_72be8 [.ref (sa S r), .ref (sa S x), .ref a0.1, .int 0] (S, V, (sT V), I) (fun u => ∃ S2, u = (S2, V, sT V, (va_up I r (upd (I r) 2 (nI (1))))) ∧ LsN S S2 r e 10 0 x) 1 15 := by
  refine CVE.of (cc := cJx4a65c_add_72be8) (maxL := 4) (ret := none) (by decide) rfl (Nat.le_of_ble_eq_true rfl) ?_
  intro pv ev s mv below meth cv A hx hb hml hr hown hts hlocks hname hM hE ls hl
  have hown : s.vm.findClass RJx4a65c = some mv.cls := hown
  have hl : lv_has ls 4 [(0, .ref (sa S r)), (1, .ref (sa S x)), (2, .ref a0.1), (3, .int 0)] := hl
  have hin5 : ∀ x ∈ wsJx4a65c0, x ∈ wsJx4a65c_add_72be8 := by decide +kernel
  obtain ⟨Q, hQ⟩ : ∃ Q, Q = MQ below (va_Qv (fun u => ∃ S2, u = (S2, V, sT V, (va_up I r (upd (I r) 2 (nI (1))))) ∧ LsN S S2 r e 10 0 x) (fun u t => fb_P D y A u t) A) (([.ref (sa S r), .ref (sa S x), .ref a0.1, .int 0] : List Value).toArray) s 1 15 A := ⟨_, rfl⟩
  rw [← hQ]
  refine lv_iload_n hx hb dJx4a65c_add_72be8_0 rfl (lv_at hl 3 rfl) ?_
  refine lv_aload_n hx hb dJx4a65c_add_72be8_1 rfl (lv_at hl 2 rfl) ?_
  refine fb_lena0 hx hb hM hE dJx4a65c_add_72be8_2 ?_
  refine lv_icmp_ne (tgt := 11) hx hb dJx4a65c_add_72be8_3 (by decide) (fun c_1 => absurd (rfl) c_1) (fun c_1 => ?_)
  refine lv_aload_n hx hb dJx4a65c_add_72be8_6 rfl (lv_at hl 0 rfl) ?_
  refine fb_callEVr (r := r) hx hb hml hown hts hM hE (h1) (ce5 (h2)) rfl (As := []) (rest := []) (c_Jx4a65c_grow_d5877_0 a0 D y l S V I r e h1 h2 hp he hz) (cwV 0 hts gJx4a65c_add_72be8_Jx4a65c_grow_d5877 rfl rfl rfl (by decide +kernel) ⟨Nat.le_of_ble_eq_true rfl, Nat.le_of_ble_eq_true rfl⟩) rfl hl.1 rfl (Nat.le_of_ble_eq_true rfl) dJx4a65c_add_72be8_7 ⟨Nat.le_of_ble_eq_true rfl, Nat.le_of_ble_eq_true rfl⟩ (fun v_2 u_ H locs hp hM => ?_)
  obtain ⟨q, hv_, hu_⟩ := hp
  have hu_ := Eq.symm hu_
  have hv_ := Eq.symm hv_
  subst hu_
  subst hv_
  refine lv_astore_n (lv' := [(2, .ref q), (0, .ref (sa S r)), (1, .ref (sa S x)), (3, .int 0)]) hx hb dJx4a65c_add_72be8_10 rfl hl (by decide) rfl (fun ls hl => ?_)
  obtain ⟨z1, z2, z3⟩ := g0_ok q h1 h2 he
  obtain ⟨S1, eS1⟩ : ∃ S1, S1 = (fb_setp (fb_new S e q 9 10) r 1 (some q)) := ⟨_, rfl⟩
  rw [← eS1] at hM z1 z2 z3
  have ne := z1.ne
  have nx : ¬ (x = r ∨ x = e) := fun z => z.elim (fun z => by rw [z, h2] at hx2; exact absurd hx2 (by decide)) (ne_in hx1 he)
  have kr : sa S1 r = sa S r := by rw [eS1]; exact nw_ane S q 9 10 ne
  have kx : sa S1 x = sa S x := AA.ext z3 nx
  have hx3 := RA.ext (r := x) (k := 1) (n := sn S x) z3 nx ⟨hx1, hx2, rfl⟩
  rw [← kr, ← kx, ← z2] at hl
  refine lv_aload_n hx hb dJx4a65c_add_72be8_11 rfl (lv_at hl 0 rfl) ?_
  refine lv_iload_n hx hb dJx4a65c_add_72be8_12 rfl (lv_at hl 3 rfl) ?_
  refine lv_aload_n hx hb dJx4a65c_add_72be8_13 rfl (lv_at hl 2 rfl) ?_
  refine fb_aastO hx hb hM (r := e) (z1.2.2.1) (ce9 (z1.2.2.2.1)) 3 rfl hE.1.2.2.1 (v := x) (hx3.1) (ce1 (hx3.2.1)) (rc := (RX1, TX1, 2)) rfl (k := 0) (by decide) (by rw [z1.2.2.2.2]; exact vp_in_nI (n := 0) (by omega) (by omega)) dJx4a65c_add_72be8_14 (upa_9 (v := some (sa S1 x)) (z1.2.2.2.1)) (w' := ((fb_setp S1 e 0 (some (sa S1 x))), V, (sT V), I)) ⟨rfl, rfl, rfl⟩ (fun H locs hM => ?_)
  refine lv_aload_n hx hb dJx4a65c_add_72be8_15 rfl (lv_at hl 1 rfl) ?_
  refine lv_iload_n hx hb dJx4a65c_add_72be8_16 rfl (lv_at hl 3 rfl) ?_
  refine lv_iconst (v := 1) hx hb dJx4a65c_add_72be8_17 (by decide) ?_
  refine lv_iadd hx hb dJx4a65c_add_72be8_18 ?_
  refine W.eq (g2 := F0 mv _ ls (.int (1) :: .ref (sa S1 r) :: [])) (by first | rfl | rw [show (0 + 1 : Int32) = 1 from by decide]) ?_
  refine fb_put (r := r) hx hb hown hts hin5 tyJx4a65c tyJx4a65c_ok nmJx4a65c hM (z1.1.1) (ce5 (z1.1.2)) rfl 2 (by decide) (hts (.fieldLink RJx4a65c 48 "java/util/ArrayList" "size" "I") (by decide +kernel)) (fun _ h9 => h9) rfl (ty := .int) (by decide +kernel) rfl rfl (Nat.le_of_ble_eq_true rfl) dJx4a65c_add_72be8_19 (up_I (j := 2) (v := 1) (by rw [ce5 (S := (fb_setp S1 e 0 (some (sa S1 x)))) (z1.1.2)]; simp [va_up, upd])) (w' := ((fb_setp S1 e 0 (some (sa S1 x))), V, (sT V), (va_up I r (upd (I r) 2 1)))) ⟨rfl, rfl, rfl⟩ (fun H locs hM => ?_)
  obtain ⟨w1, w2, w3, w4⟩ := z1.put (n := 0) (x := x) ne
  rw [hQ]
  refine W.widen (show _ ≤ 1 from Nat.le_of_ble_eq_true rfl) (show _ ≤ 15 from Nat.le_of_ble_eq_true rfl) ?_
  exact fb_vret hx hb hr hlocks hM (⟨_, rfl, w1, w2, z3.trans w3, w4.trans kr⟩) dJx4a65c_add_72be8_22

set_option maxHeartbeats 4000000 in
set_option maxRecDepth 100000 in
theorem c_Jx4a65c_add_72be8_02 (a0 : Nat × Nat) (D : va_G) (y : Nat → ClassId) (l : Launch) (S : fb_Sh) (V I : fb_V) (r e : Nat) (h1 : r ∈ sR S) (h2 : sk S r = 5) (hp : sp S r 1 = some a0.1) (he : e ∉ sR S) (hz : I r 2 = nI 0) (x : Nat) (hx1 : x ∈ sR S) (hx2 : sk S x = 2) : CVE a0 D y l yJx4a65c_add_72be8 wsJx4a65c_add_72be8 rm_Jx4a65c_add_72be8 [.ref (sa S r), .ref (sa S x), .ref a0.1, .int 0] (S, V, (sT V), I) (fun u => ∃ S2, u = (S2, V, sT V, (va_up I r (upd (I r) 2 (nI (1))))) ∧ LsN S S2 r e 10 0 x) 1 15 := by
  refine CVE.of (cc := cJx4a65c_add_72be8) (maxL := 4) (ret := none) (by decide) rfl (Nat.le_of_ble_eq_true rfl) ?_
  intro pv ev s mv below meth cv A hx hb hml hr hown hts hlocks hname hM hE ls hl
  have hown : s.vm.findClass RJx4a65c = some mv.cls := hown
  have hl : lv_has ls 4 [(0, .ref (sa S r)), (1, .ref (sa S x)), (2, .ref a0.1), (3, .int 0)] := hl
  have hin5 : ∀ x ∈ wsJx4a65c0, x ∈ wsJx4a65c_add_72be8 := by decide +kernel
  obtain ⟨Q, hQ⟩ : ∃ Q, Q = MQ below (va_Qv (fun u => ∃ S2, u = (S2, V, sT V, (va_up I r (upd (I r) 2 (nI (1))))) ∧ LsN S S2 r e 10 0 x) (fun u t => fb_P D y A u t) A) (([.ref (sa S r), .ref (sa S x), .ref a0.1, .int 0] : List Value).toArray) s 1 15 A := ⟨_, rfl⟩
  rw [← hQ]
  refine lv_iload_n hx hb dJx4a65c_add_72be8_0 rfl (lv_at hl 3 rfl) ?_
  refine lv_aload_n hx hb dJx4a65c_add_72be8_1 rfl (lv_at hl 2 rfl) ?_
  refine fb_lena0 hx hb hM hE dJx4a65c_add_72be8_2 ?_
  refine lv_icmp_ne (tgt := 11) hx hb dJx4a65c_add_72be8_3 (by decide) (fun c_1 => absurd (rfl) c_1) (fun c_1 => ?_)
  refine lv_aload_n hx hb dJx4a65c_add_72be8_6 rfl (lv_at hl 0 rfl) ?_
  refine fb_callEVr (r := r) hx hb hml hown hts hM hE (h1) (ce5 (h2)) rfl (As := []) (rest := []) (c_Jx4a65c_grow_d5877_0 a0 D y l S V I r e h1 h2 hp he hz) (cwV 0 hts gJx4a65c_add_72be8_Jx4a65c_grow_d5877 rfl rfl rfl (by decide +kernel) ⟨Nat.le_of_ble_eq_true rfl, Nat.le_of_ble_eq_true rfl⟩) rfl hl.1 rfl (Nat.le_of_ble_eq_true rfl) dJx4a65c_add_72be8_7 ⟨Nat.le_of_ble_eq_true rfl, Nat.le_of_ble_eq_true rfl⟩ (fun v_2 u_ H locs hp hM => ?_)
  obtain ⟨q, hv_, hu_⟩ := hp
  have hu_ := Eq.symm hu_
  have hv_ := Eq.symm hv_
  subst hu_
  subst hv_
  refine lv_astore_n (lv' := [(2, .ref q), (0, .ref (sa S r)), (1, .ref (sa S x)), (3, .int 0)]) hx hb dJx4a65c_add_72be8_10 rfl hl (by decide) rfl (fun ls hl => ?_)
  obtain ⟨z1, z2, z3⟩ := g0_ok q h1 h2 he
  obtain ⟨S1, eS1⟩ : ∃ S1, S1 = (fb_setp (fb_new S e q 9 10) r 1 (some q)) := ⟨_, rfl⟩
  rw [← eS1] at hM z1 z2 z3
  have ne := z1.ne
  have nx : ¬ (x = r ∨ x = e) := fun z => z.elim (fun z => by rw [z, h2] at hx2; exact absurd hx2 (by decide)) (ne_in hx1 he)
  have kr : sa S1 r = sa S r := by rw [eS1]; exact nw_ane S q 9 10 ne
  have kx : sa S1 x = sa S x := AA.ext z3 nx
  have hx3 := RA.ext (r := x) (k := 2) (n := sn S x) z3 nx ⟨hx1, hx2, rfl⟩
  rw [← kr, ← kx, ← z2] at hl
  refine lv_aload_n hx hb dJx4a65c_add_72be8_11 rfl (lv_at hl 0 rfl) ?_
  refine lv_iload_n hx hb dJx4a65c_add_72be8_12 rfl (lv_at hl 3 rfl) ?_
  refine lv_aload_n hx hb dJx4a65c_add_72be8_13 rfl (lv_at hl 2 rfl) ?_
  refine fb_aastO hx hb hM (r := e) (z1.2.2.1) (ce9 (z1.2.2.2.1)) 3 rfl hE.1.2.2.2.1 (v := x) (hx3.1) (ce2 (hx3.2.1)) (rc := (RX2, TX2, 7)) rfl (k := 0) (by decide) (by rw [z1.2.2.2.2]; exact vp_in_nI (n := 0) (by omega) (by omega)) dJx4a65c_add_72be8_14 (upa_9 (v := some (sa S1 x)) (z1.2.2.2.1)) (w' := ((fb_setp S1 e 0 (some (sa S1 x))), V, (sT V), I)) ⟨rfl, rfl, rfl⟩ (fun H locs hM => ?_)
  refine lv_aload_n hx hb dJx4a65c_add_72be8_15 rfl (lv_at hl 1 rfl) ?_
  refine lv_iload_n hx hb dJx4a65c_add_72be8_16 rfl (lv_at hl 3 rfl) ?_
  refine lv_iconst (v := 1) hx hb dJx4a65c_add_72be8_17 (by decide) ?_
  refine lv_iadd hx hb dJx4a65c_add_72be8_18 ?_
  refine W.eq (g2 := F0 mv _ ls (.int (1) :: .ref (sa S1 r) :: [])) (by first | rfl | rw [show (0 + 1 : Int32) = 1 from by decide]) ?_
  refine fb_put (r := r) hx hb hown hts hin5 tyJx4a65c tyJx4a65c_ok nmJx4a65c hM (z1.1.1) (ce5 (z1.1.2)) rfl 2 (by decide) (hts (.fieldLink RJx4a65c 48 "java/util/ArrayList" "size" "I") (by decide +kernel)) (fun _ h9 => h9) rfl (ty := .int) (by decide +kernel) rfl rfl (Nat.le_of_ble_eq_true rfl) dJx4a65c_add_72be8_19 (up_I (j := 2) (v := 1) (by rw [ce5 (S := (fb_setp S1 e 0 (some (sa S1 x)))) (z1.1.2)]; simp [va_up, upd])) (w' := ((fb_setp S1 e 0 (some (sa S1 x))), V, (sT V), (va_up I r (upd (I r) 2 1)))) ⟨rfl, rfl, rfl⟩ (fun H locs hM => ?_)
  obtain ⟨w1, w2, w3, w4⟩ := z1.put (n := 0) (x := x) ne
  rw [hQ]
  refine W.widen (show _ ≤ 1 from Nat.le_of_ble_eq_true rfl) (show _ ≤ 15 from Nat.le_of_ble_eq_true rfl) ?_
  exact fb_vret hx hb hr hlocks hM (⟨_, rfl, w1, w2, z3.trans w3, w4.trans kr⟩) dJx4a65c_add_72be8_22

set_option maxHeartbeats 4000000 in
set_option maxRecDepth 100000 in
theorem c_Jx4a65c_add_72be8_g (a0 : Nat × Nat) (D : va_G) (y : Nat → ClassId) (l : Launch) (S : fb_Sh) (V I : fb_V) (r e e2 : Nat) (hL : LsAt S r e 10) (he2 : e2 ∉ sR S) (hel : ∀ i, i < 10 → ∃ x, x ∈ sR S ∧ sk S x = 1 ∧ sp S e i = some (sa S x)) (hz : I r 2 = nI 10) (x : Nat) (hx1 : x ∈ sR S) (hx2 : sk S x = 1) : CVE a0 D y l yJx4a65c_add_72be8 wsJx4a65c_add_72be8 rm_Jx4a65c_add_72be8 [.ref (sa S r), .ref (sa S x), .ref (sa S e), .int 10] (S, V, (sT V), I) (fun u => ∃ S2, u = (S2, V, sT V, (va_up I r (upd (I r) 2 (nI (11))))) ∧ LsN S S2 r e2 15 10 x ∧ (∀ i z, i < 10 → z ∈ sR S → sk S z = 1 → PA S e i z → PA S2 e2 i z)) 1 15 := by
  refine CVE.of (cc := cJx4a65c_add_72be8) (maxL := 4) (ret := none) (by decide) rfl (Nat.le_of_ble_eq_true rfl) ?_
  intro pv ev s mv below meth cv A hx hb hml hr hown hts hlocks hname hM hE ls hl
  have hown : s.vm.findClass RJx4a65c = some mv.cls := hown
  have hl : lv_has ls 4 [(0, .ref (sa S r)), (1, .ref (sa S x)), (2, .ref (sa S e)), (3, .int 10)] := hl
  have hin5 : ∀ x ∈ wsJx4a65c0, x ∈ wsJx4a65c_add_72be8 := by decide +kernel
  obtain ⟨Q, hQ⟩ : ∃ Q, Q = MQ below (va_Qv (fun u => ∃ S2, u = (S2, V, sT V, (va_up I r (upd (I r) 2 (nI (11))))) ∧ LsN S S2 r e2 15 10 x ∧ (∀ i z, i < 10 → z ∈ sR S → sk S z = 1 → PA S e i z → PA S2 e2 i z)) (fun u t => fb_P D y A u t) A) (([.ref (sa S r), .ref (sa S x), .ref (sa S e), .int 10] : List Value).toArray) s 1 15 A := ⟨_, rfl⟩
  rw [← hQ]
  refine lv_iload_n hx hb dJx4a65c_add_72be8_0 rfl (lv_at hl 3 rfl) ?_
  refine lv_aload_n hx hb dJx4a65c_add_72be8_1 rfl (lv_at hl 2 rfl) ?_
  refine fb_alen (r := e) hx hb hM (hL.2.2.1) (ce9 (hL.2.2.2.1)) 3 rfl (v := nI 10) (congrArg Int32.ofNat (hL.2.2.2.2)) dJx4a65c_add_72be8_2 ?_
  refine lv_icmp_ne (tgt := 11) hx hb dJx4a65c_add_72be8_3 (by decide) (fun c_1 => absurd (rfl) c_1) (fun c_1 => ?_)
  refine lv_aload_n hx hb dJx4a65c_add_72be8_6 rfl (lv_at hl 0 rfl) ?_
  refine fb_callEVr (r := r) hx hb hml hown hts hM hE (hL.1.1) (ce5 (hL.1.2)) rfl (As := []) (rest := []) (c_Jx4a65c_grow_d5877_g a0 D y l S V I r e e2 hL he2 hel hz) (cwV 0 hts gJx4a65c_add_72be8_Jx4a65c_grow_d5877 rfl rfl rfl (by decide +kernel) ⟨Nat.le_of_ble_eq_true rfl, Nat.le_of_ble_eq_true rfl⟩) rfl hl.1 rfl (Nat.le_of_ble_eq_true rfl) dJx4a65c_add_72be8_7 ⟨Nat.le_of_ble_eq_true rfl, Nat.le_of_ble_eq_true rfl⟩ (fun v_2 u_ H locs hp hM => ?_)
  obtain ⟨q, hv_, hu_⟩ := hp
  have hu_ := Eq.symm hu_
  have hv_ := Eq.symm hv_
  subst hu_
  subst hv_
  refine lv_astore_n (lv' := [(2, .ref q), (0, .ref (sa S r)), (1, .ref (sa S x)), (3, .int 10)]) hx hb dJx4a65c_add_72be8_10 rfl hl (by decide) rfl (fun ls hl => ?_)
  obtain ⟨z1, z2, z3, z4⟩ := g1_ok q (va_cpy (sp S e) (fun _ => none) 0 0 10) hL.1.1 hL.1.2 he2
  obtain ⟨S1, eS1⟩ : ∃ S1, S1 = (fb_setp (fb_setps (fb_new S e2 q 9 15) e2 (va_cpy (sp S e) (fun _ => none) 0 0 10)) r 1 (some q)) := ⟨_, rfl⟩
  rw [← eS1] at hM z1 z2 z3 z4
  have ne := z1.ne
  have nx : ¬ (x = r ∨ x = e2) := fun z => z.elim (fun z => by rw [z, hL.1.2] at hx2; exact absurd hx2 (by decide)) (ne_in hx1 he2)
  have kr : sa S1 r = sa S r := by rw [eS1]; exact nw_ane S q 9 15 ne
  have kx : sa S1 x = sa S x := AA.ext z3 nx
  have hx3 := RA.ext (r := x) (k := 1) (n := sn S x) z3 nx ⟨hx1, hx2, rfl⟩
  rw [← kr, ← kx, ← z2] at hl
  refine lv_aload_n hx hb dJx4a65c_add_72be8_11 rfl (lv_at hl 0 rfl) ?_
  refine lv_iload_n hx hb dJx4a65c_add_72be8_12 rfl (lv_at hl 3 rfl) ?_
  refine lv_aload_n hx hb dJx4a65c_add_72be8_13 rfl (lv_at hl 2 rfl) ?_
  refine fb_aastO hx hb hM (r := e2) (z1.2.2.1) (ce9 (z1.2.2.2.1)) 3 rfl hE.1.2.2.1 (v := x) (hx3.1) (ce1 (hx3.2.1)) (rc := (RX1, TX1, 2)) rfl (k := 10) (by decide) (by rw [z1.2.2.2.2]; exact vp_in_nI (n := 10) (by omega) (by omega)) dJx4a65c_add_72be8_14 (upa_9 (v := some (sa S1 x)) (z1.2.2.2.1)) (w' := ((fb_setp S1 e2 10 (some (sa S1 x))), V, (sT V), I)) ⟨rfl, rfl, rfl⟩ (fun H locs hM => ?_)
  refine lv_aload_n hx hb dJx4a65c_add_72be8_15 rfl (lv_at hl 1 rfl) ?_
  refine lv_iload_n hx hb dJx4a65c_add_72be8_16 rfl (lv_at hl 3 rfl) ?_
  refine lv_iconst (v := 1) hx hb dJx4a65c_add_72be8_17 (by decide) ?_
  refine lv_iadd hx hb dJx4a65c_add_72be8_18 ?_
  refine W.eq (g2 := F0 mv _ ls (.int (11) :: .ref (sa S1 r) :: [])) (by first | rfl | rw [show (10 + 1 : Int32) = 11 from by decide]) ?_
  refine fb_put (r := r) hx hb hown hts hin5 tyJx4a65c tyJx4a65c_ok nmJx4a65c hM (z1.1.1) (ce5 (z1.1.2)) rfl 2 (by decide) (hts (.fieldLink RJx4a65c 48 "java/util/ArrayList" "size" "I") (by decide +kernel)) (fun _ h9 => h9) rfl (ty := .int) (by decide +kernel) rfl rfl (Nat.le_of_ble_eq_true rfl) dJx4a65c_add_72be8_19 (up_I (j := 2) (v := 11) (by rw [ce5 (S := (fb_setp S1 e2 10 (some (sa S1 x)))) (z1.1.2)]; simp [va_up, upd])) (w' := ((fb_setp S1 e2 10 (some (sa S1 x))), V, (sT V), (va_up I r (upd (I r) 2 11)))) ⟨rfl, rfl, rfl⟩ (fun H locs hM => ?_)
  obtain ⟨w1, w2, w3, w4⟩ := z1.put (n := 10) (x := x) ne
  have hGP : ∀ i z, i < 10 → z ∈ sR S → sk S z = 1 → PA S e i z → PA (fb_setp S1 e2 10 (some (sa S1 x))) e2 i z := fun i z hi hzr hzk hpz => by
    have nz : ¬ (z = r ∨ z = e2) := fun zz => zz.elim (fun zz => by rw [zz, hL.1.2] at hzk; exact absurd hzk (by decide)) (ne_in hzr he2)
    refine PA.setp (S := S1) ?_ _ (Or.inr (by omega))
    unfold PA at hpz ⊢
    rw [z4, AA.ext z3 nz]
    unfold va_cpy
    rw [if_pos (by omega), show 0 + (i - 0) = i by omega]
    exact hpz
  rw [hQ]
  refine W.widen (show _ ≤ 1 from Nat.le_of_ble_eq_true rfl) (show _ ≤ 15 from Nat.le_of_ble_eq_true rfl) ?_
  exact fb_vret hx hb hr hlocks hM (⟨_, rfl, ⟨w1, w2, z3.trans w3, w4.trans kr⟩, hGP⟩) dJx4a65c_add_72be8_22

abbrev rm_Jx4a65c_add_9ea2d : Room := { frames := 6, cells := 1, slots := 15, locals := 170 }
set_option maxHeartbeats 4000000 in
set_option maxRecDepth 100000 in
theorem c_Jx4a65c_add_9ea2d_n1 (a0 : Nat × Nat) (D : va_G) (y : Nat → ClassId) (l : Launch) (S : fb_Sh) (V I : fb_V) (r e na : Nat) (hL : LsAt S r e na) (n : Nat) (hn : n < na) (hna : na < 2 ^ 31) (hz : I r 2 = nI n) (x : Nat) (hx1 : x ∈ sR S) (hx2 : sk S x = 1) : CIE a0 D y l yJx4a65c_add_9ea2d wsJx4a65c_add_9ea2d rm_Jx4a65c_add_9ea2d [.ref (sa S r), .ref (sa S x)] (S, V, (sT V), I) (fun z u => z = 1 ∧ ∃ S2, u = (S2, V, sT V, (va_up I r (upd (upd (I r) 0 (I r 0 + 1)) 2 (nI (n + 1))))) ∧ LsN S S2 r e na n x ∧ ∀ i z, i ≠ n → PA S e i z → PA S2 e i z) 1 15 := by
  refine CIE.of (cc := cJx4a65c_add_9ea2d) (maxL := 2) (ret := (some .boolean)) (by decide) rfl (Nat.le_of_ble_eq_true rfl) ?_
  intro pv ev s mv below meth cv A hx hb hml hr hown hts hlocks hname hM hE ls hl
  have hown : s.vm.findClass RJx4a65c = some mv.cls := hown
  have hl : lv_has ls 2 [(0, .ref (sa S r)), (1, .ref (sa S x))] := hl
  have hin5 : ∀ x ∈ wsJx4a65c0, x ∈ wsJx4a65c_add_9ea2d := by decide +kernel
  obtain ⟨Q, hQ⟩ : ∃ Q, Q = MQ below (va_Qi (fun z u => z = 1 ∧ ∃ S2, u = (S2, V, sT V, (va_up I r (upd (upd (I r) 0 (I r 0 + 1)) 2 (nI (n + 1))))) ∧ LsN S S2 r e na n x ∧ ∀ i z, i ≠ n → PA S e i z → PA S2 e i z) (fun u t => fb_P D y A u t) A) (([.ref (sa S r), .ref (sa S x)] : List Value).toArray) s 1 15 A := ⟨_, rfl⟩
  rw [← hQ]
  refine lv_aload_n hx hb dJx4a65c_add_9ea2d_0 rfl (lv_at hl 0 rfl) ?_
  refine lv_dup hx hb dJx4a65c_add_9ea2d_1 rfl ?_
  refine fb_get5 hx hb hown hts hin5 hM (r := r) (hL.1.1) (hL.1.2) (hts (.fieldLink RJx4a65c 63 "java/util/ArrayList" "modCount" "I") (by decide +kernel)) (fun x9 h9 => u_same (hts (.sameField "java/util/ArrayList" "java/util/AbstractList" "modCount" "I") (by decide +kernel)) x9 h9) dJx4a65c_add_9ea2d_2 ?_
  refine lv_iconst (v := 1) hx hb dJx4a65c_add_9ea2d_5 (by decide) ?_
  refine lv_iadd hx hb dJx4a65c_add_9ea2d_6 ?_
  refine fb_put5 hx hb hown hts hin5 hM (r := r) (hL.1.1) (hL.1.2) (hts (.fieldLink RJx4a65c 63 "java/util/ArrayList" "modCount" "I") (by decide +kernel)) (fun x9 h9 => u_same (hts (.sameField "java/util/ArrayList" "java/util/AbstractList" "modCount" "I") (by decide +kernel)) x9 h9) dJx4a65c_add_9ea2d_7 (fun H locs hM => ?_)
  refine lv_aload_n hx hb dJx4a65c_add_9ea2d_10 rfl (lv_at hl 0 rfl) ?_
  refine lv_aload_n hx hb dJx4a65c_add_9ea2d_11 rfl (lv_at hl 1 rfl) ?_
  refine lv_aload_n hx hb dJx4a65c_add_9ea2d_12 rfl (lv_at hl 0 rfl) ?_
  refine fb_get (r := r) hx hb hown hts hin5 hM (hL.1.1) (ce5 (hL.1.2)) rfl 1 (by decide) (hts (.fieldLink RJx4a65c 9 "java/util/ArrayList" "elementData" "[Ljava/lang/Object;") (by decide +kernel)) (fun _ h9 => h9) (v := .ref (sa S e)) (congrArg (fun z => some (va_rf z)) (hL.2.1)) dJx4a65c_add_9ea2d_13 ?_
  refine lv_aload_n hx hb dJx4a65c_add_9ea2d_16 rfl (lv_at hl 0 rfl) ?_
  refine fb_get (r := r) hx hb hown hts hin5 hM (hL.1.1) (ce5 (hL.1.2)) rfl 2 (by decide) (hts (.fieldLink RJx4a65c 48 "java/util/ArrayList" "size" "I") (by decide +kernel)) (fun _ h9 => h9) (v := .int (nI n)) (congrArg (fun z => some (Value.int z)) ((by rw [va_up_self]; simp only [upd]; exact hz))) dJx4a65c_add_9ea2d_17 ?_
  refine fb_callEVv (r := r) hx hb hml hown hts hM hE (hL.1.1) (ce5 (hL.1.2)) rfl (As := [.ref (sa S x), .ref (sa S e), .int (nI n)]) (rest := []) (c_Jx4a65c_add_72be8_n1 a0 D y l S V (va_up I r (upd (I r) 0 (I r 0 + 1))) r e na hL n hn hna x hx1 hx2) (cwV 3 hts gJx4a65c_add_9ea2d_Jx4a65c_add_72be8 rfl rfl rfl (by decide +kernel) ⟨Nat.le_of_ble_eq_true rfl, Nat.le_of_ble_eq_true rfl⟩) rfl hl.1 rfl (Nat.le_of_ble_eq_true rfl) dJx4a65c_add_9ea2d_20 ⟨Nat.le_of_ble_eq_true rfl, Nat.le_of_ble_eq_true rfl⟩ (fun u_ H locs hp hM => ?_)
  have hp := Eq.symm hp
  subst hp
  have eI : (va_up (va_up I r (upd (I r) 0 (I r 0 + 1))) r (upd ((va_up I r (upd (I r) 0 (I r 0 + 1))) r) 2 (nI (n + 1)))) = (va_up I r (upd (upd (I r) 0 (I r 0 + 1)) 2 (nI (n + 1)))) := by rw [up_up, va_up_self]
  rw [eI] at hM
  clear eI
  refine lv_iconst (v := 1) hx hb dJx4a65c_add_9ea2d_23 (by decide) ?_
  rw [hQ]
  refine W.widen (show _ ≤ 1 from Nat.le_of_ble_eq_true rfl) (show _ ≤ 15 from Nat.le_of_ble_eq_true rfl) ?_
  exact fb_zret hx hb hr (by first | rfl | decide | assumption) hlocks hM (⟨rfl, _, rfl, hL.put hL.ne, fun i z hi hpz => hpz.setp _ (Or.inr hi)⟩) dJx4a65c_add_9ea2d_24

set_option maxHeartbeats 4000000 in
set_option maxRecDepth 100000 in
theorem c_Jx4a65c_add_9ea2d_n2 (a0 : Nat × Nat) (D : va_G) (y : Nat → ClassId) (l : Launch) (S : fb_Sh) (V I : fb_V) (r e na : Nat) (hL : LsAt S r e na) (n : Nat) (hn : n < na) (hna : na < 2 ^ 31) (hz : I r 2 = nI n) (x : Nat) (hx1 : x ∈ sR S) (hx2 : sk S x = 2) : CIE a0 D y l yJx4a65c_add_9ea2d wsJx4a65c_add_9ea2d rm_Jx4a65c_add_9ea2d [.ref (sa S r), .ref (sa S x)] (S, V, (sT V), I) (fun z u => z = 1 ∧ ∃ S2, u = (S2, V, sT V, (va_up I r (upd (upd (I r) 0 (I r 0 + 1)) 2 (nI (n + 1))))) ∧ LsN S S2 r e na n x ∧ ∀ i z, i ≠ n → PA S e i z → PA S2 e i z) 1 15 := by
  refine CIE.of (cc := cJx4a65c_add_9ea2d) (maxL := 2) (ret := (some .boolean)) (by decide) rfl (Nat.le_of_ble_eq_true rfl) ?_
  intro pv ev s mv below meth cv A hx hb hml hr hown hts hlocks hname hM hE ls hl
  have hown : s.vm.findClass RJx4a65c = some mv.cls := hown
  have hl : lv_has ls 2 [(0, .ref (sa S r)), (1, .ref (sa S x))] := hl
  have hin5 : ∀ x ∈ wsJx4a65c0, x ∈ wsJx4a65c_add_9ea2d := by decide +kernel
  obtain ⟨Q, hQ⟩ : ∃ Q, Q = MQ below (va_Qi (fun z u => z = 1 ∧ ∃ S2, u = (S2, V, sT V, (va_up I r (upd (upd (I r) 0 (I r 0 + 1)) 2 (nI (n + 1))))) ∧ LsN S S2 r e na n x ∧ ∀ i z, i ≠ n → PA S e i z → PA S2 e i z) (fun u t => fb_P D y A u t) A) (([.ref (sa S r), .ref (sa S x)] : List Value).toArray) s 1 15 A := ⟨_, rfl⟩
  rw [← hQ]
  refine lv_aload_n hx hb dJx4a65c_add_9ea2d_0 rfl (lv_at hl 0 rfl) ?_
  refine lv_dup hx hb dJx4a65c_add_9ea2d_1 rfl ?_
  refine fb_get5 hx hb hown hts hin5 hM (r := r) (hL.1.1) (hL.1.2) (hts (.fieldLink RJx4a65c 63 "java/util/ArrayList" "modCount" "I") (by decide +kernel)) (fun x9 h9 => u_same (hts (.sameField "java/util/ArrayList" "java/util/AbstractList" "modCount" "I") (by decide +kernel)) x9 h9) dJx4a65c_add_9ea2d_2 ?_
  refine lv_iconst (v := 1) hx hb dJx4a65c_add_9ea2d_5 (by decide) ?_
  refine lv_iadd hx hb dJx4a65c_add_9ea2d_6 ?_
  refine fb_put5 hx hb hown hts hin5 hM (r := r) (hL.1.1) (hL.1.2) (hts (.fieldLink RJx4a65c 63 "java/util/ArrayList" "modCount" "I") (by decide +kernel)) (fun x9 h9 => u_same (hts (.sameField "java/util/ArrayList" "java/util/AbstractList" "modCount" "I") (by decide +kernel)) x9 h9) dJx4a65c_add_9ea2d_7 (fun H locs hM => ?_)
  refine lv_aload_n hx hb dJx4a65c_add_9ea2d_10 rfl (lv_at hl 0 rfl) ?_
  refine lv_aload_n hx hb dJx4a65c_add_9ea2d_11 rfl (lv_at hl 1 rfl) ?_
  refine lv_aload_n hx hb dJx4a65c_add_9ea2d_12 rfl (lv_at hl 0 rfl) ?_
  refine fb_get (r := r) hx hb hown hts hin5 hM (hL.1.1) (ce5 (hL.1.2)) rfl 1 (by decide) (hts (.fieldLink RJx4a65c 9 "java/util/ArrayList" "elementData" "[Ljava/lang/Object;") (by decide +kernel)) (fun _ h9 => h9) (v := .ref (sa S e)) (congrArg (fun z => some (va_rf z)) (hL.2.1)) dJx4a65c_add_9ea2d_13 ?_
  refine lv_aload_n hx hb dJx4a65c_add_9ea2d_16 rfl (lv_at hl 0 rfl) ?_
  refine fb_get (r := r) hx hb hown hts hin5 hM (hL.1.1) (ce5 (hL.1.2)) rfl 2 (by decide) (hts (.fieldLink RJx4a65c 48 "java/util/ArrayList" "size" "I") (by decide +kernel)) (fun _ h9 => h9) (v := .int (nI n)) (congrArg (fun z => some (Value.int z)) ((by rw [va_up_self]; simp only [upd]; exact hz))) dJx4a65c_add_9ea2d_17 ?_
  refine fb_callEVv (r := r) hx hb hml hown hts hM hE (hL.1.1) (ce5 (hL.1.2)) rfl (As := [.ref (sa S x), .ref (sa S e), .int (nI n)]) (rest := []) (c_Jx4a65c_add_72be8_n2 a0 D y l S V (va_up I r (upd (I r) 0 (I r 0 + 1))) r e na hL n hn hna x hx1 hx2) (cwV 3 hts gJx4a65c_add_9ea2d_Jx4a65c_add_72be8 rfl rfl rfl (by decide +kernel) ⟨Nat.le_of_ble_eq_true rfl, Nat.le_of_ble_eq_true rfl⟩) rfl hl.1 rfl (Nat.le_of_ble_eq_true rfl) dJx4a65c_add_9ea2d_20 ⟨Nat.le_of_ble_eq_true rfl, Nat.le_of_ble_eq_true rfl⟩ (fun u_ H locs hp hM => ?_)
  have hp := Eq.symm hp
  subst hp
  have eI : (va_up (va_up I r (upd (I r) 0 (I r 0 + 1))) r (upd ((va_up I r (upd (I r) 0 (I r 0 + 1))) r) 2 (nI (n + 1)))) = (va_up I r (upd (upd (I r) 0 (I r 0 + 1)) 2 (nI (n + 1)))) := by rw [up_up, va_up_self]
  rw [eI] at hM
  clear eI
  refine lv_iconst (v := 1) hx hb dJx4a65c_add_9ea2d_23 (by decide) ?_
  rw [hQ]
  refine W.widen (show _ ≤ 1 from Nat.le_of_ble_eq_true rfl) (show _ ≤ 15 from Nat.le_of_ble_eq_true rfl) ?_
  exact fb_zret hx hb hr (by first | rfl | decide | assumption) hlocks hM (⟨rfl, _, rfl, hL.put hL.ne, fun i z hi hpz => hpz.setp _ (Or.inr hi)⟩) dJx4a65c_add_9ea2d_24

set_option maxHeartbeats 4000000 in
set_option maxRecDepth 100000 in
theorem c_Jx4a65c_add_9ea2d_01 (a0 : Nat × Nat) (D : va_G) (y : Nat → ClassId) (l : Launch) (S : fb_Sh) (V I : fb_V) (r e : Nat) (h1 : r ∈ sR S) (h2 : sk S r = 5) (hp : sp S r 1 = some a0.1) (he : e ∉ sR S) (hz : I r 2 = nI 0) (x : Nat) (hx1 : x ∈ sR S) (hx2 : sk S x = 1) : CIE a0 D y l yJx4a65c_add_9ea2d wsJx4a65c_add_9ea2d rm_Jx4a65c_add_9ea2d [.ref (sa S r), .ref (sa S x)] (S, V, (sT V), I) (fun z u => z = 1 ∧ ∃ S2, u = (S2, V, sT V, (va_up I r (upd (upd (I r) 0 (I r 0 + 1)) 2 (nI (1))))) ∧ LsN S S2 r e 10 0 x) 1 15 := by
  refine CIE.of (cc := cJx4a65c_add_9ea2d) (maxL := 2) (ret := (some .boolean)) (by decide) rfl (Nat.le_of_ble_eq_true rfl) ?_
  intro pv ev s mv below meth cv A hx hb hml hr hown hts hlocks hname hM hE ls hl
  have hown : s.vm.findClass RJx4a65c = some mv.cls := hown
  have hl : lv_has ls 2 [(0, .ref (sa S r)), (1, .ref (sa S x))] := hl
  have hin5 : ∀ x ∈ wsJx4a65c0, x ∈ wsJx4a65c_add_9ea2d := by decide +kernel
  obtain ⟨Q, hQ⟩ : ∃ Q, Q = MQ below (va_Qi (fun z u => z = 1 ∧ ∃ S2, u = (S2, V, sT V, (va_up I r (upd (upd (I r) 0 (I r 0 + 1)) 2 (nI (1))))) ∧ LsN S S2 r e 10 0 x) (fun u t => fb_P D y A u t) A) (([.ref (sa S r), .ref (sa S x)] : List Value).toArray) s 1 15 A := ⟨_, rfl⟩
  rw [← hQ]
  refine lv_aload_n hx hb dJx4a65c_add_9ea2d_0 rfl (lv_at hl 0 rfl) ?_
  refine lv_dup hx hb dJx4a65c_add_9ea2d_1 rfl ?_
  refine fb_get5 hx hb hown hts hin5 hM (r := r) (h1) (h2) (hts (.fieldLink RJx4a65c 63 "java/util/ArrayList" "modCount" "I") (by decide +kernel)) (fun x9 h9 => u_same (hts (.sameField "java/util/ArrayList" "java/util/AbstractList" "modCount" "I") (by decide +kernel)) x9 h9) dJx4a65c_add_9ea2d_2 ?_
  refine lv_iconst (v := 1) hx hb dJx4a65c_add_9ea2d_5 (by decide) ?_
  refine lv_iadd hx hb dJx4a65c_add_9ea2d_6 ?_
  refine fb_put5 hx hb hown hts hin5 hM (r := r) (h1) (h2) (hts (.fieldLink RJx4a65c 63 "java/util/ArrayList" "modCount" "I") (by decide +kernel)) (fun x9 h9 => u_same (hts (.sameField "java/util/ArrayList" "java/util/AbstractList" "modCount" "I") (by decide +kernel)) x9 h9) dJx4a65c_add_9ea2d_7 (fun H locs hM => ?_)
  refine lv_aload_n hx hb dJx4a65c_add_9ea2d_10 rfl (lv_at hl 0 rfl) ?_
  refine lv_aload_n hx hb dJx4a65c_add_9ea2d_11 rfl (lv_at hl 1 rfl) ?_
  refine lv_aload_n hx hb dJx4a65c_add_9ea2d_12 rfl (lv_at hl 0 rfl) ?_
  refine fb_get (r := r) hx hb hown hts hin5 hM (h1) (ce5 (h2)) rfl 1 (by decide) (hts (.fieldLink RJx4a65c 9 "java/util/ArrayList" "elementData" "[Ljava/lang/Object;") (by decide +kernel)) (fun _ h9 => h9) (v := .ref a0.1) (congrArg (fun z => some (va_rf z)) (hp)) dJx4a65c_add_9ea2d_13 ?_
  refine lv_aload_n hx hb dJx4a65c_add_9ea2d_16 rfl (lv_at hl 0 rfl) ?_
  refine fb_get (r := r) hx hb hown hts hin5 hM (h1) (ce5 (h2)) rfl 2 (by decide) (hts (.fieldLink RJx4a65c 48 "java/util/ArrayList" "size" "I") (by decide +kernel)) (fun _ h9 => h9) (v := .int (nI 0)) (congrArg (fun z => some (Value.int z)) ((by rw [va_up_self]; simp only [upd]; exact hz))) dJx4a65c_add_9ea2d_17 ?_
  refine fb_callEVv (r := r) hx hb hml hown hts hM hE (h1) (ce5 (h2)) rfl (As := [.ref (sa S x), .ref a0.1, .int (nI 0)]) (rest := []) (c_Jx4a65c_add_72be8_01 a0 D y l S V (va_up I r (upd (I r) 0 (I r 0 + 1))) r e h1 h2 hp he (by rw [va_up_self]; simp only [upd]; exact hz) x hx1 hx2) (cwV 3 hts gJx4a65c_add_9ea2d_Jx4a65c_add_72be8 rfl rfl rfl (by decide +kernel) ⟨Nat.le_of_ble_eq_true rfl, Nat.le_of_ble_eq_true rfl⟩) rfl hl.1 rfl (Nat.le_of_ble_eq_true rfl) dJx4a65c_add_9ea2d_20 ⟨Nat.le_of_ble_eq_true rfl, Nat.le_of_ble_eq_true rfl⟩ (fun u_ H locs hp hM => ?_)
  obtain ⟨S2, hp, hfx⟩ := hp
  have hp := Eq.symm hp
  subst hp
  have eI : (va_up (va_up I r (upd (I r) 0 (I r 0 + 1))) r (upd ((va_up I r (upd (I r) 0 (I r 0 + 1))) r) 2 (nI (1)))) = (va_up I r (upd (upd (I r) 0 (I r 0 + 1)) 2 (nI (1)))) := by rw [up_up, va_up_self]
  rw [eI] at hM
  clear eI
  refine lv_iconst (v := 1) hx hb dJx4a65c_add_9ea2d_23 (by decide) ?_
  rw [hQ]
  refine W.widen (show _ ≤ 1 from Nat.le_of_ble_eq_true rfl) (show _ ≤ 15 from Nat.le_of_ble_eq_true rfl) ?_
  exact fb_zret hx hb hr (by first | rfl | decide | assumption) hlocks hM (⟨rfl, S2, rfl, hfx⟩) dJx4a65c_add_9ea2d_24

set_option maxHeartbeats 4000000 in
set_option maxRecDepth 100000 in
theorem c_Jx4a65c_add_9ea2d_02 (a0 : Nat × Nat) (D : va_G) (y : Nat → ClassId) (l : Launch) (S : fb_Sh) (V I : fb_V) (r e : Nat) (h1 : r ∈ sR S) (h2 : sk S r = 5) (hp : sp S r 1 = some a0.1) (he : e ∉ sR S) (hz : I r 2 = nI 0) (x : Nat) (hx1 : x ∈ sR S) (hx2 : sk S x = 2) : CIE a0 D y l yJx4a65c_add_9ea2d wsJx4a65c_add_9ea2d rm_Jx4a65c_add_9ea2d [.ref (sa S r), .ref (sa S x)] (S, V, (sT V), I) (fun z u => z = 1 ∧ ∃ S2, u = (S2, V, sT V, (va_up I r (upd (upd (I r) 0 (I r 0 + 1)) 2 (nI (1))))) ∧ LsN S S2 r e 10 0 x) 1 15 := by
  refine CIE.of (cc := cJx4a65c_add_9ea2d) (maxL := 2) (ret := (some .boolean)) (by decide) rfl (Nat.le_of_ble_eq_true rfl) ?_
  intro pv ev s mv below meth cv A hx hb hml hr hown hts hlocks hname hM hE ls hl
  have hown : s.vm.findClass RJx4a65c = some mv.cls := hown
  have hl : lv_has ls 2 [(0, .ref (sa S r)), (1, .ref (sa S x))] := hl
  have hin5 : ∀ x ∈ wsJx4a65c0, x ∈ wsJx4a65c_add_9ea2d := by decide +kernel
  obtain ⟨Q, hQ⟩ : ∃ Q, Q = MQ below (va_Qi (fun z u => z = 1 ∧ ∃ S2, u = (S2, V, sT V, (va_up I r (upd (upd (I r) 0 (I r 0 + 1)) 2 (nI (1))))) ∧ LsN S S2 r e 10 0 x) (fun u t => fb_P D y A u t) A) (([.ref (sa S r), .ref (sa S x)] : List Value).toArray) s 1 15 A := ⟨_, rfl⟩
  rw [← hQ]
  refine lv_aload_n hx hb dJx4a65c_add_9ea2d_0 rfl (lv_at hl 0 rfl) ?_
  refine lv_dup hx hb dJx4a65c_add_9ea2d_1 rfl ?_
  refine fb_get5 hx hb hown hts hin5 hM (r := r) (h1) (h2) (hts (.fieldLink RJx4a65c 63 "java/util/ArrayList" "modCount" "I") (by decide +kernel)) (fun x9 h9 => u_same (hts (.sameField "java/util/ArrayList" "java/util/AbstractList" "modCount" "I") (by decide +kernel)) x9 h9) dJx4a65c_add_9ea2d_2 ?_
  refine lv_iconst (v := 1) hx hb dJx4a65c_add_9ea2d_5 (by decide) ?_
  refine lv_iadd hx hb dJx4a65c_add_9ea2d_6 ?_
  refine fb_put5 hx hb hown hts hin5 hM (r := r) (h1) (h2) (hts (.fieldLink RJx4a65c 63 "java/util/ArrayList" "modCount" "I") (by decide +kernel)) (fun x9 h9 => u_same (hts (.sameField "java/util/ArrayList" "java/util/AbstractList" "modCount" "I") (by decide +kernel)) x9 h9) dJx4a65c_add_9ea2d_7 (fun H locs hM => ?_)
  refine lv_aload_n hx hb dJx4a65c_add_9ea2d_10 rfl (lv_at hl 0 rfl) ?_
  refine lv_aload_n hx hb dJx4a65c_add_9ea2d_11 rfl (lv_at hl 1 rfl) ?_
  refine lv_aload_n hx hb dJx4a65c_add_9ea2d_12 rfl (lv_at hl 0 rfl) ?_
  refine fb_get (r := r) hx hb hown hts hin5 hM (h1) (ce5 (h2)) rfl 1 (by decide) (hts (.fieldLink RJx4a65c 9 "java/util/ArrayList" "elementData" "[Ljava/lang/Object;") (by decide +kernel)) (fun _ h9 => h9) (v := .ref a0.1) (congrArg (fun z => some (va_rf z)) (hp)) dJx4a65c_add_9ea2d_13 ?_
  refine lv_aload_n hx hb dJx4a65c_add_9ea2d_16 rfl (lv_at hl 0 rfl) ?_
  refine fb_get (r := r) hx hb hown hts hin5 hM (h1) (ce5 (h2)) rfl 2 (by decide) (hts (.fieldLink RJx4a65c 48 "java/util/ArrayList" "size" "I") (by decide +kernel)) (fun _ h9 => h9) (v := .int (nI 0)) (congrArg (fun z => some (Value.int z)) ((by rw [va_up_self]; simp only [upd]; exact hz))) dJx4a65c_add_9ea2d_17 ?_
  refine fb_callEVv (r := r) hx hb hml hown hts hM hE (h1) (ce5 (h2)) rfl (As := [.ref (sa S x), .ref a0.1, .int (nI 0)]) (rest := []) (c_Jx4a65c_add_72be8_02 a0 D y l S V (va_up I r (upd (I r) 0 (I r 0 + 1))) r e h1 h2 hp he (by rw [va_up_self]; simp only [upd]; exact hz) x hx1 hx2) (cwV 3 hts gJx4a65c_add_9ea2d_Jx4a65c_add_72be8 rfl rfl rfl (by decide +kernel) ⟨Nat.le_of_ble_eq_true rfl, Nat.le_of_ble_eq_true rfl⟩) rfl hl.1 rfl (Nat.le_of_ble_eq_true rfl) dJx4a65c_add_9ea2d_20 ⟨Nat.le_of_ble_eq_true rfl, Nat.le_of_ble_eq_true rfl⟩ (fun u_ H locs hp hM => ?_)
  obtain ⟨S2, hp, hfx⟩ := hp
  have hp := Eq.symm hp
  subst hp
  have eI : (va_up (va_up I r (upd (I r) 0 (I r 0 + 1))) r (upd ((va_up I r (upd (I r) 0 (I r 0 + 1))) r) 2 (nI (1)))) = (va_up I r (upd (upd (I r) 0 (I r 0 + 1)) 2 (nI (1)))) := by rw [up_up, va_up_self]
  rw [eI] at hM
  clear eI
  refine lv_iconst (v := 1) hx hb dJx4a65c_add_9ea2d_23 (by decide) ?_
  rw [hQ]
  refine W.widen (show _ ≤ 1 from Nat.le_of_ble_eq_true rfl) (show _ ≤ 15 from Nat.le_of_ble_eq_true rfl) ?_
  exact fb_zret hx hb hr (by first | rfl | decide | assumption) hlocks hM (⟨rfl, S2, rfl, hfx⟩) dJx4a65c_add_9ea2d_24

set_option maxHeartbeats 4000000 in
set_option maxRecDepth 100000 in
theorem c_Jx4a65c_add_9ea2d_g (a0 : Nat × Nat) (D : va_G) (y : Nat → ClassId) (l : Launch) (S : fb_Sh) (V I : fb_V) (r e e2 : Nat) (hL : LsAt S r e 10) (he2 : e2 ∉ sR S) (hel : ∀ i, i < 10 → ∃ x, x ∈ sR S ∧ sk S x = 1 ∧ sp S e i = some (sa S x)) (hz : I r 2 = nI 10) (x : Nat) (hx1 : x ∈ sR S) (hx2 : sk S x = 1) : CIE a0 D y l yJx4a65c_add_9ea2d wsJx4a65c_add_9ea2d rm_Jx4a65c_add_9ea2d [.ref (sa S r), .ref (sa S x)] (S, V, (sT V), I) (fun z u => z = 1 ∧ ∃ S2, u = (S2, V, sT V, (va_up I r (upd (upd (I r) 0 (I r 0 + 1)) 2 (nI (11))))) ∧ LsN S S2 r e2 15 10 x ∧ (∀ i z, i < 10 → z ∈ sR S → sk S z = 1 → PA S e i z → PA S2 e2 i z)) 1 15 := by
  refine CIE.of (cc := cJx4a65c_add_9ea2d) (maxL := 2) (ret := (some .boolean)) (by decide) rfl (Nat.le_of_ble_eq_true rfl) ?_
  intro pv ev s mv below meth cv A hx hb hml hr hown hts hlocks hname hM hE ls hl
  have hown : s.vm.findClass RJx4a65c = some mv.cls := hown
  have hl : lv_has ls 2 [(0, .ref (sa S r)), (1, .ref (sa S x))] := hl
  have hin5 : ∀ x ∈ wsJx4a65c0, x ∈ wsJx4a65c_add_9ea2d := by decide +kernel
  obtain ⟨Q, hQ⟩ : ∃ Q, Q = MQ below (va_Qi (fun z u => z = 1 ∧ ∃ S2, u = (S2, V, sT V, (va_up I r (upd (upd (I r) 0 (I r 0 + 1)) 2 (nI (11))))) ∧ LsN S S2 r e2 15 10 x ∧ (∀ i z, i < 10 → z ∈ sR S → sk S z = 1 → PA S e i z → PA S2 e2 i z)) (fun u t => fb_P D y A u t) A) (([.ref (sa S r), .ref (sa S x)] : List Value).toArray) s 1 15 A := ⟨_, rfl⟩
  rw [← hQ]
  refine lv_aload_n hx hb dJx4a65c_add_9ea2d_0 rfl (lv_at hl 0 rfl) ?_
  refine lv_dup hx hb dJx4a65c_add_9ea2d_1 rfl ?_
  refine fb_get5 hx hb hown hts hin5 hM (r := r) (hL.1.1) (hL.1.2) (hts (.fieldLink RJx4a65c 63 "java/util/ArrayList" "modCount" "I") (by decide +kernel)) (fun x9 h9 => u_same (hts (.sameField "java/util/ArrayList" "java/util/AbstractList" "modCount" "I") (by decide +kernel)) x9 h9) dJx4a65c_add_9ea2d_2 ?_
  refine lv_iconst (v := 1) hx hb dJx4a65c_add_9ea2d_5 (by decide) ?_
  refine lv_iadd hx hb dJx4a65c_add_9ea2d_6 ?_
  refine fb_put5 hx hb hown hts hin5 hM (r := r) (hL.1.1) (hL.1.2) (hts (.fieldLink RJx4a65c 63 "java/util/ArrayList" "modCount" "I") (by decide +kernel)) (fun x9 h9 => u_same (hts (.sameField "java/util/ArrayList" "java/util/AbstractList" "modCount" "I") (by decide +kernel)) x9 h9) dJx4a65c_add_9ea2d_7 (fun H locs hM => ?_)
  refine lv_aload_n hx hb dJx4a65c_add_9ea2d_10 rfl (lv_at hl 0 rfl) ?_
  refine lv_aload_n hx hb dJx4a65c_add_9ea2d_11 rfl (lv_at hl 1 rfl) ?_
  refine lv_aload_n hx hb dJx4a65c_add_9ea2d_12 rfl (lv_at hl 0 rfl) ?_
  refine fb_get (r := r) hx hb hown hts hin5 hM (hL.1.1) (ce5 (hL.1.2)) rfl 1 (by decide) (hts (.fieldLink RJx4a65c 9 "java/util/ArrayList" "elementData" "[Ljava/lang/Object;") (by decide +kernel)) (fun _ h9 => h9) (v := .ref (sa S e)) (congrArg (fun z => some (va_rf z)) (hL.2.1)) dJx4a65c_add_9ea2d_13 ?_
  refine lv_aload_n hx hb dJx4a65c_add_9ea2d_16 rfl (lv_at hl 0 rfl) ?_
  refine fb_get (r := r) hx hb hown hts hin5 hM (hL.1.1) (ce5 (hL.1.2)) rfl 2 (by decide) (hts (.fieldLink RJx4a65c 48 "java/util/ArrayList" "size" "I") (by decide +kernel)) (fun _ h9 => h9) (v := .int (nI 10)) (congrArg (fun z => some (Value.int z)) ((by rw [va_up_self]; simp only [upd]; exact hz))) dJx4a65c_add_9ea2d_17 ?_
  refine fb_callEVv (r := r) hx hb hml hown hts hM hE (hL.1.1) (ce5 (hL.1.2)) rfl (As := [.ref (sa S x), .ref (sa S e), .int (nI 10)]) (rest := []) (c_Jx4a65c_add_72be8_g a0 D y l S V (va_up I r (upd (I r) 0 (I r 0 + 1))) r e e2 hL he2 hel (by rw [va_up_self]; simp only [upd]; exact hz) x hx1 hx2) (cwV 3 hts gJx4a65c_add_9ea2d_Jx4a65c_add_72be8 rfl rfl rfl (by decide +kernel) ⟨Nat.le_of_ble_eq_true rfl, Nat.le_of_ble_eq_true rfl⟩) rfl hl.1 rfl (Nat.le_of_ble_eq_true rfl) dJx4a65c_add_9ea2d_20 ⟨Nat.le_of_ble_eq_true rfl, Nat.le_of_ble_eq_true rfl⟩ (fun u_ H locs hp hM => ?_)
  obtain ⟨S2, hp, hfx⟩ := hp
  have hp := Eq.symm hp
  subst hp
  have eI : (va_up (va_up I r (upd (I r) 0 (I r 0 + 1))) r (upd ((va_up I r (upd (I r) 0 (I r 0 + 1))) r) 2 (nI (11)))) = (va_up I r (upd (upd (I r) 0 (I r 0 + 1)) 2 (nI (11)))) := by rw [up_up, va_up_self]
  rw [eI] at hM
  clear eI
  refine lv_iconst (v := 1) hx hb dJx4a65c_add_9ea2d_23 (by decide) ?_
  rw [hQ]
  refine W.widen (show _ ≤ 1 from Nat.le_of_ble_eq_true rfl) (show _ ≤ 15 from Nat.le_of_ble_eq_true rfl) ?_
  exact fb_zret hx hb hr (by first | rfl | decide | assumption) hlocks hM (⟨rfl, S2, rfl, hfx⟩) dJx4a65c_add_9ea2d_24
