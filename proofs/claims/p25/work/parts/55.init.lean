abbrev rm_X0_init : Room := { frames := 1, cells := 1, slots := 6, locals := 20 }
set_option maxHeartbeats 4000000 in
set_option maxRecDepth 100000 in
theorem c_X0_init (D : va_G) (y : Nat → ClassId) (l : Launch) (S : fb_Sh) (V I : fb_V) (h a : Nat) (ha : sa S h = a) (h1 : h ∈ sR S) (h2 : sk S h = 0) (h3 : h + 1 ∉ sR S) (h4 : V h = fun _ => 0) : CV D y l yX0_init wsX0_init rm_X0_init [.ref a] (S, V, (sT V), I) (fun u => ∃ q, u = (fb_setp (fb_new S (h + 1) q 12 6) h 0 (some q), V, sT V, I)) 1 6 := by
  refine CV.of (cc := cX0_init) (maxL := 1) (ret := none) (by decide) rfl (Nat.le_of_ble_eq_true rfl) ?_
  intro pv ev s mv below meth cv A hx hb hml hr hown hts hlocks hname hM ls hl
  have hown : s.vm.findClass RX0 = some mv.cls := hown
  have hl : lv_has ls 1 [(0, .ref a)] := hl
  have hin0 : ∀ x ∈ wsX00, x ∈ wsX0_init := by decide +kernel
  obtain ⟨Q, hQ⟩ : ∃ Q, Q = MQ below (va_Qv (fun u => ∃ q, u = (fb_setp (fb_new S (h + 1) q 12 6) h 0 (some q), V, sT V, I)) (fun u t => fb_P D y A u t) A) (([.ref a] : List Value).toArray) s 1 6 A := ⟨_, rfl⟩
  rw [← hQ]
  subst ha
  refine lv_aload_n hx hb dX0_init_0 rfl (lv_at hl 0 rfl) ?_
  refine W.objInit hx hb hown (hts (.methodLink RX0 3 objectInit) (by decide +kernel)) (hts (.instanceMethod objectInit) (by decide +kernel)) (hts (.code objectInit ⟨#[0xb1]⟩ 1 none) (by decide +kernel)) rfl (by rw [hml]; exact hl.1) rfl dX0_init_1 (Nat.le_of_ble_eq_true rfl) (Nat.le_of_ble_eq_true rfl) ?_
  refine W.eq (g2 := F0 mv 4 ls []) rfl ?_
  refine lv_aload_n hx hb dX0_init_4 rfl (lv_at hl 0 rfl) ?_
  refine lv_bipush (v := 6) hx hb dX0_init_5 (by decide) ?_
  refine fb_mka12 hx hb (hts (.arrayClass .int) (by decide +kernel)) hM (n := 6) (by decide) (by decide) (Nat.le_of_ble_eq_true rfl) (Nat.le_of_ble_eq_true rfl) (Nat.le_of_ble_eq_true rfl) dX0_init_7 h h3 h4 (fun q9 H hM => ?_)
  refine W.eq (g2 := F0 mv 9 ls [.ref q9, .ref (sa (fb_new S (h + 1) q9 12 6) h)]) (by rw [nw_ane S q9 12 6 (show h ≠ h + 1 by omega)]) ?_
  refine fb_putF (r := h) hx hb hown hts hin0 tyX0 tyX0_ok nmX0 hM (nw_R S (h + 1) q9 12 6 h1) (ce0 ((nw_kne S q9 12 6 (show h ≠ h + 1 by omega)).trans h2)) rfl 0 (by decide) (hts (.fieldLink RX0 9 "FeatherBeds$Heap" "ofSize" "[I") (by decide +kernel)) (fun _ h9 => h9) rfl hname rfl (ty := tyX0 0) (by decide +kernel) rfl rfl (Nat.le_of_ble_eq_true rfl) dX0_init_9 (upk_0_0 (v := some q9) ((nw_kne S q9 12 6 (show h ≠ h + 1 by omega)).trans h2)) (w' := ((fb_setp (fb_new S (h + 1) q9 12 6) h 0 (some q9)), V, (sT V), I)) ⟨rfl, rfl, rfl⟩ (fun H locs hM => ?_)
  rw [hQ]
  refine W.widen (show _ ≤ 1 from Nat.le_of_ble_eq_true rfl) (show _ ≤ 6 from Nat.le_of_ble_eq_true rfl) ?_
  exact fb_vret hx hb hr hlocks hM (⟨q9, rfl⟩) dX0_init_12

abbrev rm_X1_init : Room := { frames := 2, cells := 2, slots := 8, locals := 40 }
set_option maxHeartbeats 4000000 in
set_option maxRecDepth 100000 in
theorem c_X1_init (D : va_G) (y : Nat → ClassId) (l : Launch) (S : fb_Sh) (V I : fb_V) (q h a : Nat) (ha : sa S q = a) (h1 : q ∈ sR S) (h2 : sk S q = 1) (h3 : h ∉ sR S) (h4 : h + 1 ∉ sR S) (p0 : Int32) : CV D y l yX1_init wsX1_init rm_X1_init [.ref a, .int p0] (S, V, (sT V), I) (fun u => ∃ q1 q2, u = (fb_setp (mkH S h q1 q2) q 0 (some q1), va_up V h (fun _ => 0), sT (va_up V h (fun _ => 0)), va_up I q (upd (I q) 1 p0))) 2 8 := by
  refine CV.of (cc := cX1_init) (maxL := 2) (ret := none) (by decide) rfl (Nat.le_of_ble_eq_true rfl) ?_
  intro pv ev s mv below meth cv A hx hb hml hr hown hts hlocks hname hM ls hl
  have hown : s.vm.findClass RX1 = some mv.cls := hown
  have hl : lv_has ls 2 [(0, .ref a), (1, .int p0)] := hl
  have hin0 : ∀ x ∈ wsX00, x ∈ wsX1_init := by decide +kernel
  have hin1 : ∀ x ∈ wsX10, x ∈ wsX1_init := by decide +kernel
  obtain ⟨Q, hQ⟩ : ∃ Q, Q = MQ below (va_Qv (fun u => ∃ q1 q2, u = (fb_setp (mkH S h q1 q2) q 0 (some q1), va_up V h (fun _ => 0), sT (va_up V h (fun _ => 0)), va_up I q (upd (I q) 1 p0))) (fun u t => fb_P D y A u t) A) (([.ref a, .int p0] : List Value).toArray) s 2 8 A := ⟨_, rfl⟩
  rw [← hQ]
  subst ha
  refine lv_aload_n hx hb dX1_init_0 rfl (lv_at hl 0 rfl) ?_
  refine W.objInit hx hb hown (hts (.methodLink RX1 3 objectInit) (by decide +kernel)) (hts (.instanceMethod objectInit) (by decide +kernel)) (hts (.code objectInit ⟨#[0xb1]⟩ 1 none) (by decide +kernel)) rfl (by rw [hml]; exact hl.1) rfl dX1_init_1 (Nat.le_of_ble_eq_true rfl) (Nat.le_of_ble_eq_true rfl) ?_
  refine W.eq (g2 := F0 mv 4 ls []) rfl ?_
  refine lv_aload_n hx hb dX1_init_4 rfl (lv_at hl 0 rfl) ?_
  refine fb_mko0 hx hb hown hts hin0 (hts (.classLink RX1 9 RX0) (by decide +kernel)) (hts (.instantiable RX0 2) (by decide +kernel)) (hts (.initialized RX0) (by decide +kernel)) hM (Nat.le_of_ble_eq_true rfl) (Nat.le_of_ble_eq_true rfl) dX1_init_5 h h3 h4 (fun q1 H hM => ?_)
  refine lv_dup hx hb dX1_init_8 rfl ?_
  refine fb_callIv hx hb hml hown hts hM (As := []) (rest := [.ref q1, .ref (sa S q)]) (c_X0_init D y l (fb_new S h q1 0 0) (va_up V h (fun _ => 0)) I h q1 (nw_a _ _ _ _ _) (nw_r _ _ _ _ _) (nw_k _ _ _ _ _) (nw_n _ _ _ _ h4 (by omega)) (va_up_self _ _ _)) (cwI 0 hts gX1_init_X0_init rfl rfl rfl (hts (.initialized RX0) (by decide +kernel)) (hts (.methodLink RX1 11 yX0_init) (by decide +kernel)) (hts (.instanceMethod yX0_init) (by decide +kernel)) rfl (by decide +kernel) ⟨Nat.le_of_ble_eq_true rfl, Nat.le_of_ble_eq_true rfl⟩) rfl hl.1 rfl (Nat.le_of_ble_eq_true rfl) dX1_init_9 ⟨Nat.le_of_ble_eq_true rfl, Nat.le_of_ble_eq_true rfl⟩ (fun u_ H locs hp hM => ?_)
  obtain ⟨q2, hp⟩ := hp
  have hp := Eq.symm hp
  subst hp
  have hM : fb_M D y A s ((mkH S h q1 q2), (va_up V h (fun _ => 0)), (sT (va_up V h (fun _ => 0))), I) H locs := hM
  obtain ⟨m1, m2, m3⟩ := mkH_ok S h q1 q2
  obtain ⟨S1, eS1⟩ : ∃ S1, S1 = mkH S h q1 q2 := ⟨_, rfl⟩
  rw [← eS1] at hM
  rw [← eS1] at m1 m2 m3
  have nq : ¬ (q = h ∨ q = h + 1) := fun e => e.elim (fun e => h3 (by rw [← e]; exact h1)) (fun e => h4 (by rw [← e]; exact h1))
  have k0 : sa S1 q = sa S q := AA.ext m3 nq
  obtain ⟨r1, r2, r3⟩ := RA.ext (r := q) (k := 1) (n := sn S q) m3 nq ⟨h1, h2, rfl⟩
  refine W.eq (g2 := F0 mv 12 ls [.ref q1, .ref (sa S1 q)]) (by rw [k0]) ?_
  rw [← k0] at hl
  refine fb_putF (r := q) hx hb hown hts hin1 tyX1 tyX1_ok nmX1 hM (r1) (ce1 (r2)) rfl 0 (by decide) (hts (.fieldLink RX1 12 "FeatherBeds$Sack" "heap" "LFeatherBeds$Heap;") (by decide +kernel)) (fun _ h9 => h9) rfl hname rfl (ty := tyX1 0) (by decide +kernel) rfl rfl (Nat.le_of_ble_eq_true rfl) dX1_init_12 (upk_1_0 (v := some q1) (r2)) (w' := ((fb_setp S1 q 0 (some q1)), (va_up V h (fun _ => 0)), (sT (va_up V h (fun _ => 0))), I)) ⟨rfl, rfl, rfl⟩ (fun H locs hM => ?_)
  refine lv_aload_n hx hb dX1_init_15 rfl (lv_at hl 0 rfl) ?_
  refine lv_iload_n hx hb dX1_init_16 rfl (lv_at hl 1 rfl) ?_
  refine fb_put (r := q) hx hb hown hts hin1 tyX1 tyX1_ok nmX1 hM (r1) (ce1 (r2)) rfl 1 (by decide) (hts (.fieldLink RX1 18 "FeatherBeds$Sack" "damp" "I") (by decide +kernel)) (fun _ h9 => h9) rfl (ty := .int) (by decide +kernel) rfl rfl (Nat.le_of_ble_eq_true rfl) dX1_init_17 (up_I (j := 1) (v := p0) (by rw [ce1 (S := (fb_setp S1 q 0 (some q1))) (r2)]; simp [va_up, upd])) (w' := ((fb_setp S1 q 0 (some q1)), (va_up V h (fun _ => 0)), (sT (va_up V h (fun _ => 0))), (va_up I q (upd (I q) 1 p0)))) ⟨rfl, rfl, rfl⟩ (fun H locs hM => ?_)
  rw [hQ]
  refine W.widen (show _ ≤ 2 from Nat.le_of_ble_eq_true rfl) (show _ ≤ 8 from Nat.le_of_ble_eq_true rfl) ?_
  exact fb_vret hx hb hr hlocks hM (⟨q1, q2, by rw [eS1]⟩) dX1_init_20

abbrev rm_X2_init : Room := { frames := 2, cells := 76, slots := 440, locals := 40 }
set_option maxHeartbeats 4000000 in
set_option maxRecDepth 100000 in
theorem c_X2_init (D : va_G) (y : Nat → ClassId) (l : Launch) (S : fb_Sh) (V I : fb_V) (t b a : Nat) (ha : sa S t = a) (h1 : t ∈ sR S) (h2 : sk S t = 2) (hn : ∀ x, t < x → x < t + 4 → x ∉ sR S) (hn2 : ∀ x, b ≤ x → x < b + 72 → x ∉ sR S) (hd : t + 4 ≤ b ∨ b + 72 ≤ t) (c r d : Nat) : CV D y l yX2_init wsX2_init rm_X2_init [.ref a, .int (nI c), .int (nI r), .int (nI d)] (S, V, (sT V), I) (fun u => ∃ S2, TickAt S2 t b ∧ Ext (fun x => (t ≤ x ∧ x < t + 4) ∨ (b ≤ x ∧ x < b + 72)) S S2 ∧ sa S2 t = sa S t ∧ u = (S2, zV V b 36, sT (zV V b 36), va_up (va_up (va_up I t (upd (upd (upd (upd (I t) 0 (nI c)) 1 (nI r)) 2 (nI d)) 3 (nI (c * r)))) (t + 2) (fun _ => 0)) (t + 3) (fun _ => 0))) 76 440 := by
  refine CV.of (cc := cX2_init) (maxL := 5) (ret := none) (by decide) rfl (Nat.le_of_ble_eq_true rfl) ?_
  intro pv ev s mv below meth cv A hx hb hml hr hown hts hlocks hname hM ls hl
  have hown : s.vm.findClass RX2 = some mv.cls := hown
  have hl : lv_has ls 5 [(0, .ref a), (1, .int (nI c)), (2, .int (nI r)), (3, .int (nI d))] := hl
  have hin0 : ∀ x ∈ wsX00, x ∈ wsX2_init := by decide +kernel
  have hin2 : ∀ x ∈ wsX20, x ∈ wsX2_init := by decide +kernel
  obtain ⟨Q, hQ⟩ : ∃ Q, Q = MQ below (va_Qv (fun u => ∃ S2, TickAt S2 t b ∧ Ext (fun x => (t ≤ x ∧ x < t + 4) ∨ (b ≤ x ∧ x < b + 72)) S S2 ∧ sa S2 t = sa S t ∧ u = (S2, zV V b 36, sT (zV V b 36), va_up (va_up (va_up I t (upd (upd (upd (upd (I t) 0 (nI c)) 1 (nI r)) 2 (nI d)) 3 (nI (c * r)))) (t + 2) (fun _ => 0)) (t + 3) (fun _ => 0))) (fun u t => fb_P D y A u t) A) (([.ref a, .int (nI c), .int (nI r), .int (nI d)] : List Value).toArray) s 76 440 A := ⟨_, rfl⟩
  rw [← hQ]
  subst ha
  refine lv_aload_n hx hb dX2_init_0 rfl (lv_at hl 0 rfl) ?_
  refine W.objInit hx hb hown (hts (.methodLink RX2 3 objectInit) (by decide +kernel)) (hts (.instanceMethod objectInit) (by decide +kernel)) (hts (.code objectInit ⟨#[0xb1]⟩ 1 none) (by decide +kernel)) rfl (by rw [hml]; exact hl.1) rfl dX2_init_1 (Nat.le_of_ble_eq_true rfl) (Nat.le_of_ble_eq_true rfl) ?_
  refine W.eq (g2 := F0 mv 4 ls []) rfl ?_
  refine lv_aload_n hx hb dX2_init_4 rfl (lv_at hl 0 rfl) ?_
  refine lv_iload_n hx hb dX2_init_5 rfl (lv_at hl 1 rfl) ?_
  refine fb_put (r := t) hx hb hown hts hin2 tyX2 tyX2_ok nmX2 hM (h1) (ce2 (h2)) rfl 0 (by decide) (hts (.fieldLink RX2 9 "FeatherBeds$Tick" "columns" "I") (by decide +kernel)) (fun _ h9 => h9) rfl (ty := .int) (by decide +kernel) rfl rfl (Nat.le_of_ble_eq_true rfl) dX2_init_6 (up_I (j := 0) (v := nI c) (by rw [ce2 (S := S) (h2)]; simp [va_up, upd])) (w' := (S, V, (sT V), (va_up I t (upd (I t) 0 (nI c))))) ⟨rfl, rfl, rfl⟩ (fun H locs hM => ?_)
  refine lv_aload_n hx hb dX2_init_9 rfl (lv_at hl 0 rfl) ?_
  refine lv_iload_n hx hb dX2_init_10 rfl (lv_at hl 2 rfl) ?_
  refine fb_put (r := t) hx hb hown hts hin2 tyX2 tyX2_ok nmX2 hM (h1) (ce2 (h2)) rfl 1 (by decide) (hts (.fieldLink RX2 15 "FeatherBeds$Tick" "rows" "I") (by decide +kernel)) (fun _ h9 => h9) rfl (ty := .int) (by decide +kernel) rfl rfl (Nat.le_of_ble_eq_true rfl) dX2_init_11 (up_I (j := 1) (v := nI r) (by rw [ce2 (S := S) (h2)]; simp [va_up, upd])) (w' := (S, V, (sT V), (va_up (va_up I t (upd (I t) 0 (nI c))) t (upd ((va_up I t (upd (I t) 0 (nI c))) t) 1 (nI r))))) ⟨rfl, rfl, rfl⟩ (fun H locs hM => ?_)
  refine lv_aload_n hx hb dX2_init_14 rfl (lv_at hl 0 rfl) ?_
  refine lv_iload_n hx hb dX2_init_15 rfl (lv_at hl 3 rfl) ?_
  refine fb_put (r := t) hx hb hown hts hin2 tyX2 tyX2_ok nmX2 hM (h1) (ce2 (h2)) rfl 2 (by decide) (hts (.fieldLink RX2 18 "FeatherBeds$Tick" "density" "I") (by decide +kernel)) (fun _ h9 => h9) rfl (ty := .int) (by decide +kernel) rfl rfl (Nat.le_of_ble_eq_true rfl) dX2_init_16 (up_I (j := 2) (v := nI d) (by rw [ce2 (S := S) (h2)]; simp [va_up, upd])) (w' := (S, V, (sT V), (va_up (va_up (va_up I t (upd (I t) 0 (nI c))) t (upd ((va_up I t (upd (I t) 0 (nI c))) t) 1 (nI r))) t (upd ((va_up (va_up I t (upd (I t) 0 (nI c))) t (upd ((va_up I t (upd (I t) 0 (nI c))) t) 1 (nI r))) t) 2 (nI d))))) ⟨rfl, rfl, rfl⟩ (fun H locs hM => ?_)
  refine lv_aload_n hx hb dX2_init_19 rfl (lv_at hl 0 rfl) ?_
  refine lv_iload_n hx hb dX2_init_20 rfl (lv_at hl 1 rfl) ?_
  refine lv_iload_n hx hb dX2_init_21 rfl (lv_at hl 2 rfl) ?_
  refine lv_imul hx hb dX2_init_22 ?_
  refine W.eq (g2 := F0 mv _ ls (.int (nI (c * r)) :: .ref (sa S t) :: [])) (by first | rfl | rw [show ((nI c) * (nI r) : Int32) = nI (c * r) from pk_mul _ _]) ?_
  refine fb_put (r := t) hx hb hown hts hin2 tyX2 tyX2_ok nmX2 hM (h1) (ce2 (h2)) rfl 3 (by decide) (hts (.fieldLink RX2 21 "FeatherBeds$Tick" "squares" "I") (by decide +kernel)) (fun _ h9 => h9) rfl (ty := .int) (by decide +kernel) rfl rfl (Nat.le_of_ble_eq_true rfl) dX2_init_23 (up_I (j := 3) (v := nI (c * r)) (by rw [ce2 (S := S) (h2)]; simp [va_up, upd])) (w' := (S, V, (sT V), (va_up (va_up (va_up (va_up I t (upd (I t) 0 (nI c))) t (upd ((va_up I t (upd (I t) 0 (nI c))) t) 1 (nI r))) t (upd ((va_up (va_up I t (upd (I t) 0 (nI c))) t (upd ((va_up I t (upd (I t) 0 (nI c))) t) 1 (nI r))) t) 2 (nI d))) t (upd ((va_up (va_up (va_up I t (upd (I t) 0 (nI c))) t (upd ((va_up I t (upd (I t) 0 (nI c))) t) 1 (nI r))) t (upd ((va_up (va_up I t (upd (I t) 0 (nI c))) t (upd ((va_up I t (upd (I t) 0 (nI c))) t) 1 (nI r))) t) 2 (nI d))) t) 3 (nI (c * r)))))) ⟨rfl, rfl, rfl⟩ (fun H locs hM => ?_)
  have eI : (va_up (va_up (va_up (va_up I t (upd (I t) 0 (nI c))) t (upd ((va_up I t (upd (I t) 0 (nI c))) t) 1 (nI r))) t (upd ((va_up (va_up I t (upd (I t) 0 (nI c))) t (upd ((va_up I t (upd (I t) 0 (nI c))) t) 1 (nI r))) t) 2 (nI d))) t (upd ((va_up (va_up (va_up I t (upd (I t) 0 (nI c))) t (upd ((va_up I t (upd (I t) 0 (nI c))) t) 1 (nI r))) t (upd ((va_up (va_up I t (upd (I t) 0 (nI c))) t (upd ((va_up I t (upd (I t) 0 (nI c))) t) 1 (nI r))) t) 2 (nI d))) t) 3 (nI (c * r)))) = (va_up I t (upd (upd (upd (upd (I t) 0 (nI c)) 1 (nI r)) 2 (nI d)) 3 (nI (c * r)))) := by rw [up_up, up_up, up_up, va_up_self, va_up_self, va_up_self]
  rw [eI] at hM
  clear eI
  refine lv_aload_n hx hb dX2_init_26 rfl (lv_at hl 0 rfl) ?_
  refine lv_bipush (v := 36) hx hb dX2_init_27 (by decide) ?_
  have hn1 : t + 1 ∉ sR S := hn _ (by omega) (by omega)
  refine fb_mka8 hx hb hown (hts (.classLink RX2 24 RX0) (by decide +kernel)) hM (n := 36) (by decide) (by decide) (Nat.le_of_ble_eq_true rfl) (Nat.le_of_ble_eq_true rfl) (Nat.le_of_ble_eq_true rfl) dX2_init_29 (t + 1) hn1 (fun q0 H hM => ?_)
  have e1 : Ext (fun x => x = t + 1) S (fb_new S (t + 1) q0 8 36) := Ext.new _ _ _ _ rfl
  have f1 := RA.new S (t + 1) q0 8 36
  have f2 := nw_a S (t + 1) q0 8 36
  obtain ⟨S1, eS1⟩ : ∃ S1, S1 = fb_new S (t + 1) q0 8 36 := ⟨_, rfl⟩
  rw [← eS1] at hM
  rw [← eS1] at e1 f1 f2
  obtain ⟨r1, r2, r3⟩ := RA.ext (r := t) (k := 2) (n := sn S t) e1 (by omega) ⟨h1, h2, rfl⟩
  have k0 : sa S1 t = sa S t := AA.ext e1 (by omega)
  have hh : HsAt S1 (t + 1) b 0 36 := ⟨f1, fun q hq => absurd hq (Nat.not_lt_zero _), fun q _ hq => ⟨NA.ext e1 (by omega) (hn2 _ (by omega) (by omega)), NA.ext e1 (by omega) (hn2 _ (by omega) (by omega))⟩⟩
  have g2 : t + 2 ∉ sR S1 := NA.ext e1 (by omega) (hn _ (by omega) (by omega))
  have g3 : t + 3 ∉ sR S1 := NA.ext e1 (by omega) (hn _ (by omega) (by omega))
  have eX : Ext (fun x => (t ≤ x ∧ x < t + 4) ∨ (b ≤ x ∧ x < b + 72)) S S1 := e1.mono (fun x hx => Or.inl (by omega))
  refine W.eq (g2 := F0 mv 32 ls [.ref (sa S1 (t + 1)), .ref (sa S1 t)]) (by rw [f2, k0]) ?_
  rw [← k0] at hl
  refine fb_putF (r := t) hx hb hown hts hin2 tyX2 tyX2_ok nmX2 hM (r1) (ce2 (r2)) rfl 4 (by decide) (hts (.fieldLink RX2 26 "FeatherBeds$Tick" "heaps" "[LFeatherBeds$Heap;") (by decide +kernel)) (fun _ h9 => h9) rfl hname rfl (ty := tyX2 4) (by decide +kernel) rfl rfl (Nat.le_of_ble_eq_true rfl) dX2_init_32 (upk_2_4 (v := some (sa S1 (t + 1))) (r2)) (w' := ((fb_setp S1 t 4 (some (sa S1 (t + 1)))), V, (sT V), (va_up I t (upd (upd (upd (upd (I t) 0 (nI c)) 1 (nI r)) 2 (nI d)) 3 (nI (c * r)))))) ⟨rfl, rfl, rfl⟩ (fun H locs hM => ?_)
  obtain ⟨S1b, eS1b⟩ : ∃ S1b, S1b = (fb_setp S1 t 4 (some (sa S1 (t + 1)))) := ⟨_, rfl⟩
  rw [← eS1b] at hM
  have e1b : Ext (fun x => x = t) S1 S1b := by rw [eS1b]; exact Ext.setp _ _ _ rfl
  have k1b : sa S1b t = sa S1 t := by rw [eS1b]; rfl
  rw [← k1b] at hl
  have hTb : RA S1b t 2 (sn S t) := by rw [eS1b]; exact ⟨r1, r2, r3⟩
  have hpb : PA S1b t 4 (t + 1) := by rw [eS1b]; exact PA.put _ _ _ _
  have hhb := hh.ext e1b (by omega) (fun x _ _ => by omega) (Nat.zero_le _)
  have eXb : Ext (fun x => (t ≤ x ∧ x < t + 4) ∨ (b ≤ x ∧ x < b + 72)) S S1b := eX.trans (e1b.mono (fun x hx => Or.inl (by omega)))
  have g2b := NA.ext e1b (show ¬ (t + 2 = t) by omega) g2
  have g3b := NA.ext e1b (show ¬ (t + 3 = t) by omega) g3
  refine lv_iconst (v := 0) hx hb dX2_init_35 (by decide) ?_
  refine lv_istore (lv' := [(4, .int 0), (0, .ref (sa S1b t)), (1, .int (nI c)), (2, .int (nI r)), (3, .int (nI d))]) hx hb dX2_init_36 hl (by decide) rfl (fun ls hl => ?_)
  have LP_38 : ∀ (n : Nat) (i : Nat) (S2 : fb_Sh) (hi : i ≤ 36) (hT : RA S2 t 2 (sn S t)) (hpt : PA S2 t 4 (t + 1)) (hHs : HsAt S2 (t + 1) b i 36) (g2 : t + 2 ∉ sR S2) (g3 : t + 3 ∉ sR S2) (eX : Ext (fun x => (t ≤ x ∧ x < t + 4) ∨ (b ≤ x ∧ x < b + 72)) S S2) (kt : sa S2 t = sa S t), 36 - i < n → ∀ (H : Heap) (locs : List Loc), fb_M D y A s (S2, (zV V b i), (sT (zV V b i)), (va_up I t (upd (upd (upd (upd (I t) 0 (nI c)) 1 (nI r)) 2 (nI d)) 3 (nI (c * r))))) H locs → ∀ ls, lv_has ls 5 [(4, .int (nI i)), (0, .ref (sa S2 t)), (1, .int (nI c)), (2, .int (nI r)), (3, .int (nI d))] → W pv l ev rm_X2_init s mv ([.ref (sa S t), .int (nI c), .int (nI r), .int (nI d)] : List Value).toArray below meth cv H locs (1 + 2 * i) (36 + 8 * i) Q (F0 mv 38 ls []) := by
    intro n_38
    induction n_38 with
    | zero => intro i S2 hi hT hpt hHs g2 g3 eX kt hmu; exact absurd hmu (Nat.not_lt_zero _)
    | succ n_38 ih_38 =>
      intro i S2 hi hT hpt hHs g2 g3 eX kt hmu H locs hM ls hl
      refine lv_iload hx hb dX2_init_38 (lv_at hl 0 rfl) ?_
      refine lv_aload_n hx hb dX2_init_40 rfl (lv_at hl 1 rfl) ?_
      refine fb_get (r := t) hx hb hown hts hin2 hM (hT.1) (ce2 (hT.2.1)) rfl 4 (by decide) (hts (.fieldLink RX2 26 "FeatherBeds$Tick" "heaps" "[LFeatherBeds$Heap;") (by decide +kernel)) (fun _ h9 => h9) (v := .ref (sa S2 (t + 1))) (congrArg (fun z => some (va_rf z)) (hpt)) dX2_init_41 ?_
      refine fb_alen (r := (t + 1)) hx hb hM (hHs.1.1) (ce8 (hHs.1.2.1)) 2 rfl (v := nI 36) (congrArg Int32.ofNat (hHs.1.2.2)) dX2_init_44 ?_
      refine lv_icmp_ge (tgt := 68) hx hb dX2_init_45 (by decide) (fun c_1 => ?_) (fun c_1 => ?_)
      · skip
        have e_i : i = 36 := by have := (nI_leI (a := 36) (b := i) (by omega) (by omega)).mp c_1; omega
        have e_i := Eq.symm e_i
        subst e_i
        refine lv_aload_n hx hb dX2_init_68 rfl (lv_at hl 1 rfl) ?_
        refine lv_bipush (v := 72) hx hb dX2_init_69 (by decide) ?_
        have hA := hHs
        refine fb_mka7 hx hb (hts (.arrayClass .boolean) (by decide +kernel)) hM (n := 72) (by decide) (by decide) (Nat.le_of_ble_eq_true rfl) (Nat.le_of_ble_eq_true rfl) (Nat.le_of_ble_eq_true rfl) dX2_init_71 (t + 2) g2 (fun q5 H hM => ?_)
        have e1 : Ext (fun x => x = t + 2) S2 (fb_new S2 (t + 2) q5 7 72) := Ext.new _ _ _ _ rfl
        have f1 := RA.new S2 (t + 2) q5 7 72
        have f2 := nw_a S2 (t + 2) q5 7 72
        obtain ⟨S5, eS5⟩ : ∃ S5, S5 = fb_new S2 (t + 2) q5 7 72 := ⟨_, rfl⟩
        rw [← eS5] at hM
        rw [← eS5] at e1 f1 f2
        have hT5 : RA S5 t 2 (sn S t) := hT.ext e1 (by omega)
        have hpt5 : PA S5 t 4 (t + 1) := hpt.ext e1 (by omega) (by omega)
        have hHs5 : HsAt S5 (t + 1) b 36 36 := hHs.ext e1 (by omega) (fun x _ _ => by omega) (Nat.le_refl _)
        have g35 : t + 3 ∉ sR S5 := NA.ext e1 (by omega) g3
        have eX5 : Ext (fun x => (t ≤ x ∧ x < t + 4) ∨ (b ≤ x ∧ x < b + 72)) S S5 := eX.trans (e1.mono (fun x hx => Or.inl (by omega)))
        have k5 : sa S5 t = sa S2 t := AA.ext e1 (by omega)
        refine W.eq (g2 := F0 mv 73 ls [.ref (sa S5 (t + 2)), .ref (sa S5 t)]) (by rw [f2, k5]) ?_
        rw [← k5] at hl
        refine fb_putF (r := t) hx hb hown hts hin2 tyX2 tyX2_ok nmX2 hM (hT5.1) (ce2 (hT5.2.1)) rfl 5 (by decide) (hts (.fieldLink RX2 31 "FeatherBeds$Tick" "sewn" "[Z") (by decide +kernel)) (fun _ h9 => h9) rfl hname rfl (ty := tyX2 5) (by decide +kernel) rfl rfl (Nat.le_of_ble_eq_true rfl) dX2_init_73 (upk_2_5 (v := some (sa S5 (t + 2))) (hT5.2.1)) (w' := ((fb_setp S5 t 5 (some (sa S5 (t + 2)))), (zV V b 36), (sT (zV V b 36)), (va_up (va_up I t (upd (upd (upd (upd (I t) 0 (nI c)) 1 (nI r)) 2 (nI d)) 3 (nI (c * r)))) (t + 2) (fun _ => 0)))) ⟨rfl, rfl, rfl⟩ (fun H locs hM => ?_)
        refine lv_aload_n hx hb dX2_init_76 rfl (lv_at hl 1 rfl) ?_
        refine lv_bipush (v := 36) hx hb dX2_init_77 (by decide) ?_
        obtain ⟨S6, eS6⟩ : ∃ S6, S6 = (fb_setp S5 t 5 (some (sa S5 (t + 2)))) := ⟨_, rfl⟩
        rw [← eS6] at hM
        have g36 : t + 3 ∉ sR S6 := by rw [eS6]; exact g35
        refine fb_mka6 hx hb (hts (.arrayClass .int) (by decide +kernel)) hM (n := 36) (by decide) (by decide) (Nat.le_of_ble_eq_true rfl) (Nat.le_of_ble_eq_true rfl) (Nat.le_of_ble_eq_true rfl) dX2_init_79 (t + 3) g36 (fun q7 H hM => ?_)
        have e0 : Ext (fun x => x = t) S5 S6 := by rw [eS6]; exact Ext.setp _ _ _ rfl
        have f5 : RA S6 (t + 2) 7 72 := f1.ext e0 (by omega)
        have p5 : PA S6 t 5 (t + 2) := by rw [eS6]; exact PA.put _ _ _ _
        have p4 : PA S6 t 4 (t + 1) := by rw [eS6]; exact hpt5.setp _ (Or.inr (by decide))
        have hT6 : RA S6 t 2 (sn S t) := by rw [eS6]; exact hT5
        have hHs6 : HsAt S6 (t + 1) b 36 36 := hHs5.ext e0 (by omega) (fun x _ _ => by omega) (Nat.le_refl _)
        have e1 : Ext (fun x => x = t + 3) S6 (fb_new S6 (t + 3) q7 6 36) := Ext.new _ _ _ _ rfl
        have f6 := RA.new S6 (t + 3) q7 6 36
        have f7 := nw_a S6 (t + 3) q7 6 36
        obtain ⟨S7, eS7⟩ : ∃ S7, S7 = fb_new S6 (t + 3) q7 6 36 := ⟨_, rfl⟩
        rw [← eS7] at hM
        rw [← eS7] at e1 f6 f7
        have k6 : sa S6 t = sa S5 t := by rw [eS6]; rfl
        have k7 : sa S7 t = sa S6 t := AA.ext e1 (by omega)
        have hT7 : RA S7 t 2 (sn S t) := hT6.ext e1 (by omega)
        have eX7 : Ext (fun x => (t ≤ x ∧ x < t + 4) ∨ (b ≤ x ∧ x < b + 72)) S S7 := (eX5.trans (e0.mono (fun x hx => Or.inl (by omega)))).trans (e1.mono (fun x hx => Or.inl (by omega)))
        refine W.eq (g2 := F0 mv 81 ls [.ref (sa S7 (t + 3)), .ref (sa S7 t)]) (by rw [f7, k7, k6]) ?_
        rw [← k6, ← k7] at hl
        refine fb_putF (r := t) hx hb hown hts hin2 tyX2 tyX2_ok nmX2 hM (hT7.1) (ce2 (hT7.2.1)) rfl 6 (by decide) (hts (.fieldLink RX2 35 "FeatherBeds$Tick" "partOf" "[I") (by decide +kernel)) (fun _ h9 => h9) rfl hname rfl (ty := tyX2 6) (by decide +kernel) rfl rfl (Nat.le_of_ble_eq_true rfl) dX2_init_81 (upk_2_6 (v := some (sa S7 (t + 3))) (hT7.2.1)) (w' := ((fb_setp S7 t 6 (some (sa S7 (t + 3)))), (zV V b 36), (sT (zV V b 36)), (va_up (va_up (va_up I t (upd (upd (upd (upd (I t) 0 (nI c)) 1 (nI r)) 2 (nI d)) 3 (nI (c * r)))) (t + 2) (fun _ => 0)) (t + 3) (fun _ => 0)))) ⟨rfl, rfl, rfl⟩ (fun H locs hM => ?_)
        obtain ⟨S8, eS8⟩ : ∃ S8, S8 = (fb_setp S7 t 6 (some (sa S7 (t + 3)))) := ⟨_, rfl⟩
        rw [← eS8] at hM
        have e8 : Ext (fun x => x = t) S7 S8 := by rw [eS8]; exact Ext.setp _ _ _ rfl
        have p4 : PA S8 t 4 (t + 1) := by rw [eS8]; exact (p4.ext e1 (by omega) (by omega)).setp _ (Or.inr (by decide))
        have p5 : PA S8 t 5 (t + 2) := by rw [eS8]; exact (p5.ext e1 (by omega) (by omega)).setp _ (Or.inr (by decide))
        have p6 : PA S8 t 6 (t + 3) := by rw [eS8]; exact PA.put _ _ _ _
        have hT8 : RA S8 t 2 (sn S t) := by rw [eS8]; exact hT7
        have hHs8 := (hHs6.ext e1 (by omega) (fun x _ _ => by omega) (Nat.le_refl _)).ext e8 (by omega) (fun x _ _ => by omega) (Nat.le_refl _)
        have f5 := (f5.ext e1 (by omega)).ext e8 (by omega)
        have f6 := f6.ext e8 (by omega)
        have hTA : TickAt S8 t b := ⟨hT8.1, hT8.2.1, p4, p5, p6, hHs8.1.1, hHs8.1.2.1, hHs8.1.2.2, f5.1, f5.2.1, f5.2.2, f6.1, f6.2.1, f6.2.2, fun q hq => hHs8.2.1 q hq⟩
        have eX8 : Ext (fun x => (t ≤ x ∧ x < t + 4) ∨ (b ≤ x ∧ x < b + 72)) S S8 := eX7.trans (e8.mono (fun x hx => Or.inl (by omega)))
        have k8 : sa S8 t = sa S7 t := by rw [eS8]; rfl
        rw [hQ]
        refine W.widen (show _ ≤ 76 from Nat.le_of_ble_eq_true rfl) (show _ ≤ 440 from Nat.le_of_ble_eq_true rfl) ?_
        exact fb_vret hx hb hr hlocks hM (⟨S8, hTA, eX8, k8.trans (k7.trans (k6.trans (k5.trans kt))), rfl⟩) dX2_init_84
      · skip
        have hik : i < 36 := Nat.lt_of_not_le (fun h => c_1 (nI_le h (by omega)))
        refine lv_aload_n hx hb dX2_init_48 rfl (lv_at hl 1 rfl) ?_
        refine fb_get (r := t) hx hb hown hts hin2 hM (hT.1) (ce2 (hT.2.1)) rfl 4 (by decide) (hts (.fieldLink RX2 26 "FeatherBeds$Tick" "heaps" "[LFeatherBeds$Heap;") (by decide +kernel)) (fun _ h9 => h9) (v := .ref (sa S2 (t + 1))) (congrArg (fun z => some (va_rf z)) (hpt)) dX2_init_49 ?_
        refine lv_iload hx hb dX2_init_52 (lv_at hl 0 rfl) ?_
        refine fb_mko0 hx hb hown hts hin0 (hts (.classLink RX2 24 RX0) (by decide +kernel)) (hts (.instantiable RX0 2) (by decide +kernel)) (hts (.initialized RX0) (by decide +kernel)) hM (by show _ ≤ 76; omega) (by show _ ≤ 440; omega) dX2_init_54 (b + 2 * i) (hHs.2.2 i (Nat.le_refl _) hik).1 (hHs.2.2 i (Nat.le_refl _) hik).2 (fun q1 H hM => ?_)
        refine lv_dup hx hb dX2_init_57 rfl ?_
        refine fb_callIv hx hb hml hown hts hM (As := []) (rest := [.ref q1, .int (nI i), .ref (sa S2 (t + 1))]) (c_X0_init D y l (fb_new S2 (b + 2 * i) q1 0 0) (va_up (zV V b i) (b + 2 * i) (fun _ => 0)) (va_up I t (upd (upd (upd (upd (I t) 0 (nI c)) 1 (nI r)) 2 (nI d)) 3 (nI (c * r)))) (b + 2 * i) q1 (nw_a _ _ _ _ _) (nw_r _ _ _ _ _) (nw_k _ _ _ _ _) (nw_n _ _ _ _ (hHs.2.2 i (Nat.le_refl _) hik).2 (by omega)) (va_up_self _ _ _)) (cwI 0 hts gX2_init_X0_init rfl rfl rfl (hts (.initialized RX0) (by decide +kernel)) (hts (.methodLink RX2 30 yX0_init) (by decide +kernel)) (hts (.instanceMethod yX0_init) (by decide +kernel)) rfl (by decide +kernel) ⟨Nat.le_of_ble_eq_true rfl, Nat.le_of_ble_eq_true rfl⟩) rfl hl.1 rfl (Nat.le_of_ble_eq_true rfl) dX2_init_58 ⟨(by show _ ≤ 76; omega), (by show _ ≤ 440; omega)⟩ (fun u_ H locs hp hM => ?_)
        obtain ⟨q2, hp⟩ := hp
        have hp := Eq.symm hp
        subst hp
        have hM : fb_M D y A s ((mkH S2 (b + 2 * i) q1 q2), (va_up (zV V b i) (b + 2 * i) (fun _ => 0)), (sT (va_up (zV V b i) (b + 2 * i) (fun _ => 0))), (va_up I t (upd (upd (upd (upd (I t) 0 (nI c)) 1 (nI r)) 2 (nI d)) 3 (nI (c * r))))) H locs := hM
        obtain ⟨m1, m2, m3⟩ := mkH_ok S2 (b + 2 * i) q1 q2
        have hz := mkHs_ok q1 q2 (show t + 1 < b ∨ b + 2 * 36 ≤ t + 1 by omega) hik hHs
        obtain ⟨S3, eS3⟩ : ∃ S3, S3 = mkH S2 (b + 2 * i) q1 q2 := ⟨_, rfl⟩
        unfold mkHs at hz
        rw [← eS3] at hM m1 m2 m3 hz
        have k1 : sa S3 (t + 1) = sa S2 (t + 1) := AA.ext m3 (by omega)
        have k2 : sa S3 t = sa S2 t := AA.ext m3 (by omega)
        have w1 := RA.ext m3 (show ¬ (t + 1 = b + 2 * i ∨ t + 1 = b + 2 * i + 1) by omega) hHs.1
        refine W.eq (g2 := F0 mv 61 ls [.ref (sa S3 (b + 2 * i)), .int (nI i), .ref (sa S3 (t + 1))]) (by rw [m2, k1]) ?_
        rw [← k2] at hl
        refine fb_aast hx hb hM (r := t + 1) w1.1 (ce8 w1.2.1) 2 rfl (v := b + 2 * i) m1.1 (ce0 m1.2.1) (rc := (RX0, TX0, 2)) rfl (k := i) (nI_clamp (by omega)) (by rw [w1.2.2]; exact vp_in_nI (by omega) (by omega)) dX2_init_61 (by rw [m2]; exact upa_8 (v := some q1) w1.2.1) (w' := ((fb_setp S3 (t + 1) i (some q1)), (va_up (zV V b i) (b + 2 * i) (fun _ => 0)), (sT (va_up (zV V b i) (b + 2 * i) (fun _ => 0))), (va_up I t (upd (upd (upd (upd (I t) 0 (nI c)) 1 (nI r)) 2 (nI d)) 3 (nI (c * r)))))) ⟨rfl, rfl, rfl⟩ (fun H locs hM => ?_)
        obtain ⟨hz1, hz2⟩ := hz
        obtain ⟨S4, eS4⟩ : ∃ S4, S4 = fb_setp S3 (t + 1) i (some q1) := ⟨_, rfl⟩
        rw [← eS4] at hM hz1 hz2
        have k4 : sa S4 t = sa S3 t := by rw [eS4]; rfl
        rw [← k4] at hl
        have hT4 : RA S4 t 2 (sn S t) := hT.ext hz2 (by omega)
        have hpt4 : PA S4 t 4 (t + 1) := by rw [eS4]; exact (hpt.ext m3 (by omega) (by omega)).setp _ (Or.inl (by omega))
        have g24 : t + 2 ∉ sR S4 := NA.ext hz2 (by omega) g2
        have g34 : t + 3 ∉ sR S4 := NA.ext hz2 (by omega) g3
        have eX4 : Ext (fun x => (t ≤ x ∧ x < t + 4) ∨ (b ≤ x ∧ x < b + 72)) S S4 := eX.trans (hz2.mono (fun x hx => by omega))
        refine lv_iinc (v := nI (i + 1)) (lv' := [(4, .int (nI (i + 1))), (0, .ref (sa S4 t)), (1, .int (nI c)), (2, .int (nI r)), (3, .int (nI d))]) hx hb dX2_init_62 hl (k := 0) rfl (nI_1 _) (by decide) rfl (fun ls hl => ?_)
        refine lv_goto (tgt := 38) hx hb dX2_init_65 (by decide) ?_
        rw [zV_s] at hM
        refine W.widen (show _ ≤ 1 + 2 * (i + 1) by omega) (show _ ≤ 36 + 8 * (i + 1) by omega) ?_
        exact ih_38 (i + 1) S4 (by omega) hT4 hpt4 hz1 g24 g34 eX4 (k4.trans (k2.trans kt)) (by omega) _ _ hM ls (lv_sub hl [0, 1, 2, 3, 4] rfl)
  rw [show V = zV V b 0 from (zV_0 V b).symm] at hM
  refine W.widen (show _ ≤ 1 + 2 * 0 from Nat.le_of_ble_eq_true rfl) (show _ ≤ 36 + 8 * 0 from Nat.le_of_ble_eq_true rfl) ?_
  exact LP_38 _ 0 S1b (by omega) hTb hpb hhb g2b g3b eXb (k1b.trans k0) (Nat.lt_succ_self _) _ _ hM ls (lv_sub hl [0, 1, 2, 3, 4] rfl)
