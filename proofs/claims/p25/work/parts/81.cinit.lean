abbrev rm_X3_init : Room := { frames := 4, cells := 100, slots := 520, locals := 80 }
set_option maxHeartbeats 4000000 in
set_option maxRecDepth 100000 in
theorem c_X3_init (a0 : Nat × Nat) (D : va_G) (y : Nat → ClassId) (l : Launch) (S : fb_Sh) (V I : fb_V) (a : Nat) (ha : sa S 0 = a) (h1 : 0 ∈ sR S) (h2 : sk S 0 = 3) (hn : ∀ x, 0 < x → x < 804 → x ∉ sR S) : CVE a0 D y l yX3_init wsX3_init rm_X3_init [.ref a] (S, V, (sT V), I) (fun u => ∃ S2 I2, u = (S2, zV (zV V 100 5) 732 36, sT (zV (zV V 100 5) 732 36), I2) ∧ CpAt S2 a0.1 0 0 4 10 ∧ Ext PIn S S2 ∧ sa S2 0 = sa S 0 ∧ I2 0 = upd (I 0) 4 10 ∧ I2 1 2 = 0 ∧ I2 2 2 = 0 ∧ ∀ x, ¬ PIn x → I2 x = I x) 100 520 := by
  refine CVE.of (cc := cX3_init) (maxL := 2) (ret := none) (by decide) rfl (Nat.le_of_ble_eq_true rfl) ?_
  intro pv ev s mv below meth cv A hx hb hml hr hown hts hlocks hname hM hE ls hl
  have hown : s.vm.findClass RX3 = some mv.cls := hown
  have hl : lv_has ls 2 [(0, .ref a)] := hl
  have hin0 : ∀ x ∈ wsX00, x ∈ wsX3_init := by decide +kernel
  have hin2 : ∀ x ∈ wsX20, x ∈ wsX3_init := by decide +kernel
  have hin3 : ∀ x ∈ wsX30, x ∈ wsX3_init := by decide +kernel
  have hin5 : ∀ x ∈ wsJx4a65c0, x ∈ wsX3_init := by decide +kernel
  obtain ⟨Q, hQ⟩ : ∃ Q, Q = MQ below (va_Qv (fun u => ∃ S2 I2, u = (S2, zV (zV V 100 5) 732 36, sT (zV (zV V 100 5) 732 36), I2) ∧ CpAt S2 a0.1 0 0 4 10 ∧ Ext PIn S S2 ∧ sa S2 0 = sa S 0 ∧ I2 0 = upd (I 0) 4 10 ∧ I2 1 2 = 0 ∧ I2 2 2 = 0 ∧ ∀ x, ¬ PIn x → I2 x = I x) (fun u t => fb_P D y A u t) A) (([.ref a] : List Value).toArray) s 100 520 A := ⟨_, rfl⟩
  rw [← hQ]
  subst ha
  refine lv_aload_n hx hb dX3_init_0 rfl (lv_at hl 0 rfl) ?_
  refine W.objInit hx hb hown (hts (.methodLink RX3 3 objectInit) (by decide +kernel)) (hts (.instanceMethod objectInit) (by decide +kernel)) (hts (.code objectInit ⟨#[0xb1]⟩ 1 none) (by decide +kernel)) rfl (by rw [hml]; exact hl.1) rfl dX3_init_1 (Nat.le_of_ble_eq_true rfl) (Nat.le_of_ble_eq_true rfl) ?_
  refine W.eq (g2 := F0 mv 4 ls []) rfl ?_
  refine lv_aload_n hx hb dX3_init_4 rfl (lv_at hl 0 rfl) ?_
  have nr1 : 1 ∉ sR S := hn 1 (by decide) (by decide)
  refine fb_mko5 hx hb hown hts hin5 (hts (.classLink RX3 9 RJx4a65c) (by decide +kernel)) (hts (.instantiable RJx4a65c 3) (by decide +kernel)) (hts (.initialized RJx4a65c) (by decide +kernel)) hM (Nat.le_of_ble_eq_true rfl) (Nat.le_of_ble_eq_true rfl) dX3_init_5 1 nr1 (fun q1 H hM => ?_)
  refine lv_dup hx hb dX3_init_8 rfl ?_
  refine W.eq (g2 := F0 mv 9 ls [.ref (sa (fb_new S 1 q1 5 0) 1), .ref q1, .ref (sa S 0)]) (by rw [nw_a S 1 q1 5 0]) ?_
  refine fb_callEIv hx hb hml hown hts hM hE (As := []) (rest := [.ref q1, .ref (sa S 0)]) (c_Jx4a65c_init_da8c8 a0 D y l (fb_new S 1 q1 5 0) V (va_up I 1 (fun _ => 0)) 1 (nw_r _ _ _ _ _) (nw_k _ _ _ _ _)) (cwI 0 hts gX3_init_Jx4a65c_init_da8c8 rfl rfl rfl (hts (.initialized RJx4a65c) (by decide +kernel)) (hts (.methodLink RX3 11 yJx4a65c_init_da8c8) (by decide +kernel)) (hts (.instanceMethod yJx4a65c_init_da8c8) (by decide +kernel)) rfl (by decide +kernel) ⟨Nat.le_of_ble_eq_true rfl, Nat.le_of_ble_eq_true rfl⟩) rfl hl.1 rfl (Nat.le_of_ble_eq_true rfl) dX3_init_9 ⟨Nat.le_of_ble_eq_true rfl, Nat.le_of_ble_eq_true rfl⟩ (fun u_ H locs hp hM => ?_)
  have hp := Eq.symm hp
  subst hp
  obtain ⟨T1, eT1⟩ : ∃ T1, T1 = fb_setp (fb_new S 1 q1 5 0) 1 1 (some a0.1) := ⟨_, rfl⟩
  rw [← eT1] at hM
  have kT1 : sa T1 0 = sa S 0 := by rw [eT1]; exact nw_ane S q1 5 0 (show (0 : Nat) ≠ 1 by decide)
  have hT1 : 0 ∈ sR T1 ∧ sk T1 0 = 3 := by rw [eT1]; exact RS.ext (P := fun x => x = 1) (Ext.new S q1 5 0 rfl) (by decide) ⟨h1, h2⟩
  refine W.eq (g2 := F0 mv 12 ls [.ref q1, .ref (sa T1 0)]) (by rw [kT1]) ?_
  rw [← kT1] at hl
  refine fb_putF (r := 0) hx hb hown hts hin3 tyX3 tyX3_ok nmX3 hM (hT1.1) (ce3 (hT1.2)) rfl 0 (by decide) (hts (.fieldLink RX3 12 "FeatherBeds" "sacks" "Ljava/util/ArrayList;") (by decide +kernel)) (fun _ h9 => h9) rfl hname rfl (ty := tyX3 0) (by decide +kernel) rfl rfl (Nat.le_of_ble_eq_true rfl) dX3_init_12 (upk_3_0 (v := some q1) (hT1.2)) (w' := ((fb_setp T1 0 0 (some q1)), V, (sT V), (va_up (va_up I 1 (fun _ => 0)) 1 (upd ((va_up I 1 (fun _ => 0)) 1) 0 0)))) ⟨rfl, rfl, rfl⟩ (fun H locs hM => ?_)
  obtain ⟨A1, eA1⟩ : ∃ A1, A1 = (fb_setp T1 0 0 (some q1)) := ⟨_, rfl⟩
  rw [← eA1] at hM
  obtain ⟨a1, b1, c1, d1, f1, g1, j1⟩ := mkL_ok S a0.1 q1 0 (show (1 : Nat) ≠ 0 by decide) A1 (by rw [eA1, eT1])
  have hl1 : sa A1 0 = sa T1 0 := by rw [eA1]; rfl
  rw [← hl1] at hl
  have o1 := f1 ⟨h1, h2⟩
  refine lv_aload_n hx hb dX3_init_15 rfl (lv_at hl 0 rfl) ?_
  have nr2 : 2 ∉ sR A1 := NA.ext d1 (by decide) (hn 2 (by decide) (by decide))
  refine fb_mko5 hx hb hown hts hin5 (hts (.classLink RX3 9 RJx4a65c) (by decide +kernel)) (hts (.instantiable RJx4a65c 3) (by decide +kernel)) (hts (.initialized RJx4a65c) (by decide +kernel)) hM (Nat.le_of_ble_eq_true rfl) (Nat.le_of_ble_eq_true rfl) dX3_init_16 2 nr2 (fun q2 H hM => ?_)
  refine lv_dup hx hb dX3_init_19 rfl ?_
  refine W.eq (g2 := F0 mv 20 ls [.ref (sa (fb_new A1 2 q2 5 0) 2), .ref q2, .ref (sa A1 0)]) (by rw [nw_a A1 2 q2 5 0]) ?_
  refine fb_callEIv hx hb hml hown hts hM hE (As := []) (rest := [.ref q2, .ref (sa A1 0)]) (c_Jx4a65c_init_da8c8 a0 D y l (fb_new A1 2 q2 5 0) V (va_up (va_up (va_up I 1 (fun _ => 0)) 1 (upd ((va_up I 1 (fun _ => 0)) 1) 0 0)) 2 (fun _ => 0)) 2 (nw_r _ _ _ _ _) (nw_k _ _ _ _ _)) (cwI 0 hts gX3_init_Jx4a65c_init_da8c8 rfl rfl rfl (hts (.initialized RJx4a65c) (by decide +kernel)) (hts (.methodLink RX3 11 yJx4a65c_init_da8c8) (by decide +kernel)) (hts (.instanceMethod yJx4a65c_init_da8c8) (by decide +kernel)) rfl (by decide +kernel) ⟨Nat.le_of_ble_eq_true rfl, Nat.le_of_ble_eq_true rfl⟩) rfl hl.1 rfl (Nat.le_of_ble_eq_true rfl) dX3_init_20 ⟨Nat.le_of_ble_eq_true rfl, Nat.le_of_ble_eq_true rfl⟩ (fun u_ H locs hp hM => ?_)
  have hp := Eq.symm hp
  subst hp
  obtain ⟨T2, eT2⟩ : ∃ T2, T2 = fb_setp (fb_new A1 2 q2 5 0) 2 1 (some a0.1) := ⟨_, rfl⟩
  rw [← eT2] at hM
  have kT2 : sa T2 0 = sa A1 0 := by rw [eT2]; exact nw_ane A1 q2 5 0 (show (0 : Nat) ≠ 2 by decide)
  have hT2 : 0 ∈ sR T2 ∧ sk T2 0 = 3 := by rw [eT2]; exact RS.ext (P := fun x => x = 2) (Ext.new A1 q2 5 0 rfl) (by decide) o1
  refine W.eq (g2 := F0 mv 23 ls [.ref q2, .ref (sa T2 0)]) (by rw [kT2]) ?_
  rw [← kT2] at hl
  refine fb_putF (r := 0) hx hb hown hts hin3 tyX3 tyX3_ok nmX3 hM (hT2.1) (ce3 (hT2.2)) rfl 1 (by decide) (hts (.fieldLink RX3 16 "FeatherBeds" "ticks" "Ljava/util/ArrayList;") (by decide +kernel)) (fun _ h9 => h9) rfl hname rfl (ty := tyX3 1) (by decide +kernel) rfl rfl (Nat.le_of_ble_eq_true rfl) dX3_init_23 (upk_3_1 (v := some q2) (hT2.2)) (w' := ((fb_setp T2 0 1 (some q2)), V, (sT V), (va_up (va_up (va_up (va_up I 1 (fun _ => 0)) 1 (upd ((va_up I 1 (fun _ => 0)) 1) 0 0)) 2 (fun _ => 0)) 2 (upd ((va_up (va_up (va_up I 1 (fun _ => 0)) 1 (upd ((va_up I 1 (fun _ => 0)) 1) 0 0)) 2 (fun _ => 0)) 2) 0 0)))) ⟨rfl, rfl, rfl⟩ (fun H locs hM => ?_)
  obtain ⟨A2, eA2⟩ : ∃ A2, A2 = (fb_setp T2 0 1 (some q2)) := ⟨_, rfl⟩
  rw [← eA2] at hM
  obtain ⟨a2, b2, c2, d2, f2, g2, j2⟩ := mkL_ok A1 a0.1 q2 1 (show (2 : Nat) ≠ 0 by decide) A2 (by rw [eA2, eT2])
  have hl2 : sa A2 0 = sa T2 0 := by rw [eA2]; rfl
  rw [← hl2] at hl
  have o2 := f2 o1
  have eI : (va_up (va_up (va_up (va_up I 1 (fun _ => 0)) 1 (upd ((va_up I 1 (fun _ => 0)) 1) 0 0)) 2 (fun _ => 0)) 2 (upd ((va_up (va_up (va_up I 1 (fun _ => 0)) 1 (upd ((va_up I 1 (fun _ => 0)) 1) 0 0)) 2 (fun _ => 0)) 2) 0 0)) = (va_up (va_up I 1 (upd (fun _ => 0) 0 0)) 2 (upd (fun _ => 0) 0 0)) := by simp only [up_up, va_up_self]
  rw [eI] at hM
  clear eI
  refine lv_aload_n hx hb dX3_init_26 rfl (lv_at hl 0 rfl) ?_
  refine lv_iconst (v := 5) hx hb dX3_init_27 (by decide) ?_
  have nr3 : 3 ∉ sR A2 := NA.ext d2 (by decide) (NA.ext d1 (by decide) (hn 3 (by decide) (by decide)))
  refine fb_mka8 hx hb hown (hts (.classLink RX3 19 RX0) (by decide +kernel)) hM (n := 5) (by decide) (by decide) (Nat.le_of_ble_eq_true rfl) (Nat.le_of_ble_eq_true rfl) (Nat.le_of_ble_eq_true rfl) dX3_init_28 3 nr3 (fun q3 H hM => ?_)
  obtain ⟨T3, eT3⟩ : ∃ T3, T3 = fb_new A2 3 q3 8 5 := ⟨_, rfl⟩
  rw [← eT3] at hM
  have kT3 : sa T3 0 = sa A2 0 := by rw [eT3]; exact nw_ane A2 q3 8 5 (show (0 : Nat) ≠ 3 by decide)
  have hT3 : 0 ∈ sR T3 ∧ sk T3 0 = 3 := by rw [eT3]; exact RS.ext (P := fun x => x = 3) (Ext.new A2 q3 8 5 rfl) (by decide) o2
  refine W.eq (g2 := F0 mv 31 ls [.ref q3, .ref (sa T3 0)]) (by rw [kT3]) ?_
  rw [← kT3] at hl
  refine fb_putF (r := 0) hx hb hown hts hin3 tyX3 tyX3_ok nmX3 hM (hT3.1) (ce3 (hT3.2)) rfl 2 (by decide) (hts (.fieldLink RX3 21 "FeatherBeds" "chambers" "[LFeatherBeds$Heap;") (by decide +kernel)) (fun _ h9 => h9) rfl hname rfl (ty := tyX3 2) (by decide +kernel) rfl rfl (Nat.le_of_ble_eq_true rfl) dX3_init_31 (upk_3_2 (v := some q3) (hT3.2)) (w' := ((fb_setp T3 0 2 (some q3)), V, (sT V), (va_up (va_up I 1 (upd (fun _ => 0) 0 0)) 2 (upd (fun _ => 0) 0 0)))) ⟨rfl, rfl, rfl⟩ (fun H locs hM => ?_)
  obtain ⟨a3, b3, d3, f3, z3, g3, _⟩ := mkA_ok A2 (o := 0) (r := 3) 2 q3 8 5 (by decide)
  obtain ⟨A3, eA3⟩ : ∃ A3, A3 = mkA A2 0 2 3 q3 8 5 := ⟨_, rfl⟩
  have hM : fb_M D y A s (A3, V, sT V, (va_up (va_up I 1 (upd (fun _ => 0) 0 0)) 2 (upd (fun _ => 0) 0 0))) H locs := by rw [eA3]; rw [eT3] at hM; exact hM
  rw [← eA3] at a3 b3 d3 f3 z3 g3
  have hl3 : sa A3 0 = sa T3 0 := by rw [eA3, eT3]; rfl
  rw [← hl3] at hl
  have o3 : 0 ∈ sR A3 ∧ sk A3 0 = 3 := RA.rs (f3 3 (sn A2 0) ⟨o2.1, o2.2, rfl⟩)
  have eX3 : Ext (fun x => x < 4) S A3 := ((d1.mono (fun x hx => by omega)).trans (d2.mono (fun x hx => by omega))).trans (d3.mono (fun x hx => by omega))
  have hI0 : Ini S A3 a0.1 0 := ⟨o3, g3.trans (g2.trans g1), z3 0 1 (by decide) (by decide) (j2 0 1 (by decide) (by decide) b1), z3 1 2 (by decide) (by decide) b2, b3, RS.ext d3 (by decide) (RS.ext d2 (by decide) a1), RS.ext d3 (by decide) a2, d3.sp1 (by decide) (d2.sp1 (by decide) c1), d3.sp1 (by decide) c2, ⟨a3, fun q hq => absurd hq (Nat.not_lt_zero _), fun q _ hq => ⟨NA.ext eX3 (by omega) (hn _ (by omega) (by omega)), NA.ext eX3 (by omega) (hn _ (by omega) (by omega))⟩⟩, eX3.mono (fun x hx => Or.inl hx)⟩
  refine lv_iconst (v := 0) hx hb dX3_init_34 (by decide) ?_
  refine lv_istore_n (lv' := [(1, .int 0), (0, .ref (sa A3 0))]) hx hb dX3_init_35 rfl hl (by decide) rfl (fun ls hl => ?_)
  have LP_36 : ∀ (n : Nat) (i : Nat) (Z : fb_Sh) (hi : i ≤ 5) (hI : Ini S Z a0.1 i), 5 - i < n → ∀ (H : Heap) (locs : List Loc), fb_M D y A s (Z, (zV V 100 i), (sT (zV V 100 i)), (va_up (va_up I 1 (upd (fun _ => 0) 0 0)) 2 (upd (fun _ => 0) 0 0))) H locs → ∀ ls, lv_has ls 2 [(1, .int (nI i)), (0, .ref (sa Z 0))] → W pv l ev rm_X3_init s mv ([.ref (sa S 0)] : List Value).toArray below meth cv H locs (3 + 2 * i) (11 + 8 * i) Q (F0 mv 36 ls []) := by
    intro n_36
    induction n_36 with
    | zero => intro i Z hi hI hmu; exact absurd hmu (Nat.not_lt_zero _)
    | succ n_36 ih_36 =>
      intro i Z hi hI hmu H locs hM ls hl
      refine lv_iload_n hx hb dX3_init_36 rfl (lv_at hl 0 rfl) ?_
      refine lv_aload_n hx hb dX3_init_37 rfl (lv_at hl 1 rfl) ?_
      refine fb_get (r := 0) hx hb hown hts hin3 hM (hI.1.1) (ce3 (hI.1.2)) rfl 2 (by decide) (hts (.fieldLink RX3 21 "FeatherBeds" "chambers" "[LFeatherBeds$Heap;") (by decide +kernel)) (fun _ h9 => h9) (v := .ref (sa Z 3)) (congrArg (fun z => some (va_rf z)) ((hI.2.2.2.2.1))) dX3_init_38 ?_
      refine fb_alen (r := 3) hx hb hM ((hI.2.2.2.2.2.2.2.2.2.1).1.1) (ce8 ((hI.2.2.2.2.2.2.2.2.2.1).1.2.1)) 2 rfl (v := nI 5) (congrArg Int32.ofNat ((hI.2.2.2.2.2.2.2.2.2.1).1.2.2)) dX3_init_41 ?_
      refine lv_icmp_ge (tgt := 64) hx hb dX3_init_42 (by decide) (fun c_3 => ?_) (fun c_3 => ?_)
      · skip
        have e_i : i = 5 := by have := (nI_leI (a := 5) (b := i) (by omega) (by omega)).mp c_3; omega
        have e_i := Eq.symm e_i
        subst e_i
        refine lv_aload_n hx hb dX3_init_64 rfl (lv_at hl 1 rfl) ?_
        have fz : ∀ x, 54 ≤ x → x < 804 → ¬ (100 ≤ x ∧ x < 110) → x ∉ sR Z := fun x9 a9 b9 c9 => NA.ext (hI.2.2.2.2.2.2.2.2.2.2) (by omega) (hn x9 (by omega) (by omega))
        refine fb_mko2 hx hb hown hts hin2 (hts (.classLink RX3 26 RX2) (by decide +kernel)) (hts (.instantiable RX2 7) (by decide +kernel)) (hts (.initialized RX2) (by decide +kernel)) hM (by show _ ≤ 100; omega) (by show _ ≤ 520; omega) dX3_init_65 54 (fz _ (by decide) (by decide) (by decide)) (fun q9 H hM => ?_)
        refine lv_dup hx hb dX3_init_68 rfl ?_
        refine lv_iconst (v := 1) hx hb dX3_init_69 (by decide) ?_
        refine lv_iconst (v := 1) hx hb dX3_init_70 (by decide) ?_
        refine lv_iconst (v := 1) hx hb dX3_init_71 (by decide) ?_
        refine fb_callIv hx hb hml hown hts hM (As := [.int 1, .int 1, .int 1]) (rest := [.ref q9, .ref (sa Z 0)]) (c_X2_init D y l (fb_new Z 54 q9 2 0) (zV V 100 5) (va_up (va_up (va_up I 1 (upd (fun _ => 0) 0 0)) 2 (upd (fun _ => 0) 0 0)) 54 (fun _ => 0)) 54 732 q9 (nw_a _ _ _ _ _) (nw_r _ _ _ _ _) (nw_k _ _ _ _ _) (fun x9 a9 b9 => nw_n Z q9 2 0 (fz x9 (by omega) (by omega) (by omega)) (by omega)) (fun x9 a9 b9 => nw_n Z q9 2 0 (fz x9 (by omega) (by omega) (by omega)) (by omega)) (Or.inl (by omega)) 1 1 1) (cwI 3 hts gX3_init_X2_init rfl rfl rfl (hts (.initialized RX2) (by decide +kernel)) (hts (.methodLink RX3 28 yX2_init) (by decide +kernel)) (hts (.instanceMethod yX2_init) (by decide +kernel)) rfl (by decide +kernel) ⟨Nat.le_of_ble_eq_true rfl, Nat.le_of_ble_eq_true rfl⟩) rfl hl.1 rfl (Nat.le_of_ble_eq_true rfl) dX3_init_72 ⟨(by show _ ≤ 100; omega), (by show _ ≤ 520; omega)⟩ (fun u_ H locs hp hM => ?_)
        obtain ⟨S3, m1, m4, m5, hp⟩ := hp
        have hp := Eq.symm hp
        subst hp
        have e9 : Ext (fun x => x = 54) Z (fb_new Z 54 q9 2 0) := Ext.new _ _ _ _ rfl
        have m3 : Ext (fun x => (54 ≤ x ∧ x < 54 + 4) ∨ (732 ≤ x ∧ x < 732 + 72)) Z S3 := (e9.mono (fun x hx => by omega)).trans m4
        obtain ⟨c1_, c2_, c3_⟩ := hI.fin m3 m1 (m5.trans (nw_a _ _ _ _ _))
        have k0 : sa S3 0 = sa Z 0 := AA.ext m3 (by decide)
        have o9 : 0 ∈ sR S3 ∧ sk S3 0 = 3 := RS.ext m3 (by decide) hI.1
        refine W.eq (g2 := F0 mv 75 ls [.ref q9, .ref (sa S3 0)]) (by rw [k0]) ?_
        rw [← k0] at hl
        refine fb_putF (r := 0) hx hb hown hts hin3 tyX3 tyX3_ok nmX3 hM (o9.1) (ce3 (o9.2)) rfl 3 (by decide) (hts (.fieldLink RX3 31 "FeatherBeds" "trial" "LFeatherBeds$Tick;") (by decide +kernel)) (fun _ h9 => h9) rfl hname rfl (ty := tyX3 3) (by decide +kernel) rfl rfl (Nat.le_of_ble_eq_true rfl) dX3_init_75 (upk_3_3 (v := some q9) (o9.2)) (w' := ((fb_setp S3 0 3 (some q9)), (zV (zV V 100 5) 732 36), (sT (zV (zV V 100 5) 732 36)), (va_up (va_up (va_up (va_up (va_up (va_up I 1 (upd (fun _ => 0) 0 0)) 2 (upd (fun _ => 0) 0 0)) 54 (fun _ => 0)) 54 (upd (upd (upd (upd ((va_up (va_up (va_up I 1 (upd (fun _ => 0) 0 0)) 2 (upd (fun _ => 0) 0 0)) 54 (fun _ => 0)) 54) 0 (nI 1)) 1 (nI 1)) 2 (nI 1)) 3 (nI (1 * 1)))) (54 + 2) (fun _ => 0)) (54 + 3) (fun _ => 0)))) ⟨rfl, rfl, rfl⟩ (fun H locs hM => ?_)
        obtain ⟨S5, eS5⟩ : ∃ S5, S5 = fb_setp S3 0 3 (some q9) := ⟨_, rfl⟩
        rw [← eS5] at hM c1_ c2_ c3_
        have k5 : sa S5 0 = sa S3 0 := by rw [eS5]; rfl
        rw [← k5] at hl
        refine lv_aload_n hx hb dX3_init_78 rfl (lv_at hl 1 rfl) ?_
        refine lv_bipush (v := 10) hx hb dX3_init_79 (by decide) ?_
        refine fb_put (r := 0) hx hb hown hts hin3 tyX3 tyX3_ok nmX3 hM (c1_.1.1) (ce3 (c1_.1.2)) rfl 4 (by decide) (hts (.fieldLink RX3 35 "FeatherBeds" "wind" "I") (by decide +kernel)) (fun _ h9 => h9) rfl (ty := .int) (by decide +kernel) rfl rfl (Nat.le_of_ble_eq_true rfl) dX3_init_81 (up_I (j := 4) (v := 10) (by rw [ce3 (S := S5) (c1_.1.2)]; simp [va_up, upd])) (w' := (S5, (zV (zV V 100 5) 732 36), (sT (zV (zV V 100 5) 732 36)), (va_up (va_up (va_up (va_up (va_up (va_up (va_up I 1 (upd (fun _ => 0) 0 0)) 2 (upd (fun _ => 0) 0 0)) 54 (fun _ => 0)) 54 (upd (upd (upd (upd ((va_up (va_up (va_up I 1 (upd (fun _ => 0) 0 0)) 2 (upd (fun _ => 0) 0 0)) 54 (fun _ => 0)) 54) 0 (nI 1)) 1 (nI 1)) 2 (nI 1)) 3 (nI (1 * 1)))) (54 + 2) (fun _ => 0)) (54 + 3) (fun _ => 0)) 0 (upd ((va_up (va_up (va_up (va_up (va_up (va_up I 1 (upd (fun _ => 0) 0 0)) 2 (upd (fun _ => 0) 0 0)) 54 (fun _ => 0)) 54 (upd (upd (upd (upd ((va_up (va_up (va_up I 1 (upd (fun _ => 0) 0 0)) 2 (upd (fun _ => 0) 0 0)) 54 (fun _ => 0)) 54) 0 (nI 1)) 1 (nI 1)) 2 (nI 1)) 3 (nI (1 * 1)))) (54 + 2) (fun _ => 0)) (54 + 3) (fun _ => 0)) 0) 4 10)))) ⟨rfl, rfl, rfl⟩ (fun H locs hM => ?_)
        rw [hQ]
        refine W.widen (show _ ≤ 100 from Nat.le_of_ble_eq_true rfl) (show _ ≤ 520 from Nat.le_of_ble_eq_true rfl) ?_
        exact fb_vret hx hb hr hlocks hM (⟨S5, _, rfl, c1_, c2_, c3_, by simp [va_up], by simp [va_up, upd], by simp [va_up, upd], fun x hx => by unfold PIn at hx; simp (discharger := omega) only [va_up_ne]⟩) dX3_init_84
      · skip
        have hik : i < 5 := Nat.lt_of_not_le (fun h => c_3 (nI_le h (by omega)))
        refine lv_aload_n hx hb dX3_init_45 rfl (lv_at hl 1 rfl) ?_
        refine fb_get (r := 0) hx hb hown hts hin3 hM (hI.1.1) (ce3 (hI.1.2)) rfl 2 (by decide) (hts (.fieldLink RX3 21 "FeatherBeds" "chambers" "[LFeatherBeds$Heap;") (by decide +kernel)) (fun _ h9 => h9) (v := .ref (sa Z 3)) (congrArg (fun z => some (va_rf z)) ((hI.2.2.2.2.1))) dX3_init_46 ?_
        refine lv_iload_n hx hb dX3_init_49 rfl (lv_at hl 0 rfl) ?_
        refine fb_mko0 hx hb hown hts hin0 (hts (.classLink RX3 19 RX0) (by decide +kernel)) (hts (.instantiable RX0 2) (by decide +kernel)) (hts (.initialized RX0) (by decide +kernel)) hM (by show _ ≤ 100; omega) (by show _ ≤ 520; omega) dX3_init_50 (100 + 2 * i) ((hI.2.2.2.2.2.2.2.2.2.1).2.2 i (Nat.le_refl _) hik).1 ((hI.2.2.2.2.2.2.2.2.2.1).2.2 i (Nat.le_refl _) hik).2 (fun q1 H hM => ?_)
        refine lv_dup hx hb dX3_init_53 rfl ?_
        refine fb_callIv hx hb hml hown hts hM (As := []) (rest := [.ref q1, .int (nI i), .ref (sa Z 3)]) (c_X0_init D y l (fb_new Z (100 + 2 * i) q1 0 0) (va_up (zV V 100 i) (100 + 2 * i) (fun _ => 0)) (va_up (va_up I 1 (upd (fun _ => 0) 0 0)) 2 (upd (fun _ => 0) 0 0)) (100 + 2 * i) q1 (nw_a _ _ _ _ _) (nw_r _ _ _ _ _) (nw_k _ _ _ _ _) (nw_n _ _ _ _ ((hI.2.2.2.2.2.2.2.2.2.1).2.2 i (Nat.le_refl _) hik).2 (by omega)) (va_up_self _ _ _)) (cwI 0 hts gX3_init_X0_init rfl rfl rfl (hts (.initialized RX0) (by decide +kernel)) (hts (.methodLink RX3 25 yX0_init) (by decide +kernel)) (hts (.instanceMethod yX0_init) (by decide +kernel)) rfl (by decide +kernel) ⟨Nat.le_of_ble_eq_true rfl, Nat.le_of_ble_eq_true rfl⟩) rfl hl.1 rfl (Nat.le_of_ble_eq_true rfl) dX3_init_54 ⟨(by show _ ≤ 100; omega), (by show _ ≤ 520; omega)⟩ (fun u_ H locs hp hM => ?_)
        obtain ⟨q2, hp⟩ := hp
        have hp := Eq.symm hp
        subst hp
        have hM : fb_M D y A s ((mkH Z (100 + 2 * i) q1 q2), (va_up (zV V 100 i) (100 + 2 * i) (fun _ => 0)), (sT (va_up (zV V 100 i) (100 + 2 * i) (fun _ => 0))), (va_up (va_up I 1 (upd (fun _ => 0) 0 0)) 2 (upd (fun _ => 0) 0 0))) H locs := hM
        obtain ⟨m1, m2, m3⟩ := mkH_ok Z (100 + 2 * i) q1 q2
        have hI4 := hI.step hik q1 q2
        unfold mkHs at hI4
        obtain ⟨Z3, eZ3⟩ : ∃ Z3, Z3 = mkH Z (100 + 2 * i) q1 q2 := ⟨_, rfl⟩
        rw [← eZ3] at hM m1 m2 m3 hI4
        have k1 : sa Z3 3 = sa Z 3 := AA.ext m3 (by omega)
        have k2 : sa Z3 0 = sa Z 0 := AA.ext m3 (by omega)
        have w1 := RA.ext m3 (show ¬ (3 = 100 + 2 * i ∨ 3 = 100 + 2 * i + 1) by omega) (hI.2.2.2.2.2.2.2.2.2.1).1
        refine W.eq (g2 := F0 mv 57 ls [.ref (sa Z3 (100 + 2 * i)), .int (nI i), .ref (sa Z3 3)]) (by rw [m2, k1]) ?_
        rw [← k2] at hl
        refine fb_aast hx hb hM (r := 3) w1.1 (ce8 w1.2.1) 2 rfl (v := 100 + 2 * i) m1.1 (ce0 m1.2.1) (rc := (RX0, TX0, 2)) rfl (k := i) (nI_clamp (by omega)) (by rw [w1.2.2]; exact vp_in_nI (by omega) (by omega)) dX3_init_57 (by rw [m2]; exact upa_8 (v := some q1) w1.2.1) (w' := ((fb_setp Z3 3 i (some q1)), (va_up (zV V 100 i) (100 + 2 * i) (fun _ => 0)), (sT (va_up (zV V 100 i) (100 + 2 * i) (fun _ => 0))), (va_up (va_up I 1 (upd (fun _ => 0) 0 0)) 2 (upd (fun _ => 0) 0 0)))) ⟨rfl, rfl, rfl⟩ (fun H locs hM => ?_)
        obtain ⟨Z4, eZ4⟩ : ∃ Z4, Z4 = fb_setp Z3 3 i (some q1) := ⟨_, rfl⟩
        rw [← eZ4] at hM hI4
        have k4 : sa Z4 0 = sa Z3 0 := by rw [eZ4]; rfl
        rw [← k4] at hl
        refine lv_iinc (v := nI (i + 1)) (lv' := [(1, .int (nI (i + 1))), (0, .ref (sa Z4 0))]) hx hb dX3_init_58 hl (k := 0) rfl (nI_1 _) (by decide) rfl (fun ls hl => ?_)
        refine lv_goto (tgt := 36) hx hb dX3_init_61 (by decide) ?_
        rw [zV_s] at hM
        refine W.widen (show _ ≤ 3 + 2 * (i + 1) by omega) (show _ ≤ 11 + 8 * (i + 1) by omega) ?_
        exact ih_36 (i + 1) Z4 (by omega) hI4 (by omega) _ _ hM ls (lv_sub hl [0, 1] rfl)
  rw [show V = zV V 100 0 from (zV_0 V 100).symm] at hM
  refine W.widen (show _ ≤ 3 + 2 * 0 from Nat.le_of_ble_eq_true rfl) (show _ ≤ 11 + 8 * 0 from Nat.le_of_ble_eq_true rfl) ?_
  exact LP_36 _ 0 A3 (by omega) hI0 (Nat.lt_succ_self _) _ _ hM ls (lv_sub hl [0, 1] rfl)
