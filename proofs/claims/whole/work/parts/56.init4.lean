abbrev rm_X4_init : Room := { frames := 1, cells := 7, slots := 180, locals := 20 }
set_option maxHeartbeats 4000000 in
set_option maxRecDepth 100000 in
theorem c_X4_init (D : va_G) (y : Nat → ClassId) (l : Launch) (S : fb_Sh) (V I : fb_V) (o a : Nat) (ha : sa S o = a) (h1 : o ∈ sR S) (h2 : sk S o = 4) (hn : ∀ x, o < x → x < o + 8 → x ∉ sR S) : CV D y l yX4_init wsX4_init rm_X4_init [.ref a] (S, V, (sT V), I) (fun u => ∃ S2 I2, u = (S2, V, sT V, I2) ∧ (∀ cf rf, MdAt S2 o 0 cf rf) ∧ Ext (fun x => o ≤ x ∧ x < o + 8) S S2 ∧ (∀ x, ¬ (o ≤ x ∧ x < o + 8) → I2 x = I x) ∧ I2 o = upd (I o) 4 10 ∧ I2 (o + 1) = (fun _ => 0) ∧ I2 (o + 2) = (fun _ => 0) ∧ I2 (o + 3) = (fun _ => 0) ∧ I2 (o + 4) = (fun _ => 0) ∧ sa S2 o = sa S o) 7 180 := by
  refine CV.of (cc := cX4_init) (maxL := 1) (ret := none) (by decide) rfl (Nat.le_of_ble_eq_true rfl) ?_
  intro pv ev s mv below meth cv A hx hb hml hr hown hts hlocks hname hM ls hl
  have hown : s.vm.findClass RX4 = some mv.cls := hown
  have hl : lv_has ls 1 [(0, .ref a)] := hl
  have hin4 : ∀ x ∈ wsX40, x ∈ wsX4_init := by decide +kernel
  obtain ⟨Q, hQ⟩ : ∃ Q, Q = MQ below (va_Qv (fun u => ∃ S2 I2, u = (S2, V, sT V, I2) ∧ (∀ cf rf, MdAt S2 o 0 cf rf) ∧ Ext (fun x => o ≤ x ∧ x < o + 8) S S2 ∧ (∀ x, ¬ (o ≤ x ∧ x < o + 8) → I2 x = I x) ∧ I2 o = upd (I o) 4 10 ∧ I2 (o + 1) = (fun _ => 0) ∧ I2 (o + 2) = (fun _ => 0) ∧ I2 (o + 3) = (fun _ => 0) ∧ I2 (o + 4) = (fun _ => 0) ∧ sa S2 o = sa S o) (fun u t => fb_P D y A u t) A) (([.ref a] : List Value).toArray) s 7 180 A := ⟨_, rfl⟩
  rw [← hQ]
  subst ha
  refine lv_aload_n hx hb dX4_init_0 rfl (lv_at hl 0 rfl) ?_
  refine W.objInit hx hb hown (hts (.methodLink RX4 1 objectInit) (by decide +kernel)) (hts (.instanceMethod objectInit) (by decide +kernel)) (hts (.code objectInit ⟨#[0xb1]⟩ 1 none) (by decide +kernel)) rfl (by rw [hml]; exact hl.1) rfl dX4_init_1 (Nat.le_of_ble_eq_true rfl) (Nat.le_of_ble_eq_true rfl) ?_
  refine W.eq (g2 := F0 mv 4 ls []) rfl ?_
  refine lv_aload_n hx hb dX4_init_4 rfl (lv_at hl 0 rfl) ?_
  refine lv_bipush (v := 72) hx hb dX4_init_5 (by decide) ?_
  have nr1 : o + 1 ∉ sR S := hn _ (by omega) (by omega)
  refine fb_mka6 hx hb (hts (.arrayClass .int) (by decide +kernel)) hM (n := 72) (by decide) (by decide) (Nat.le_of_ble_eq_true rfl) (Nat.le_of_ble_eq_true rfl) (Nat.le_of_ble_eq_true rfl) dX4_init_7 (o + 1) nr1 (fun q1 H hM => ?_)
  refine W.eq (g2 := F0 mv 9 ls [.ref q1, .ref (sa (fb_new S (o + 1) q1 6 72) o)]) (by rw [nw_ane S q1 6 72 (show o ≠ o + 1 by omega)]) ?_
  have hOn1 := RA.ext (r := o) (k := 4) (n := sn S o) (Ext.new (P := fun x => x = o + 1) S q1 6 72 rfl) (by omega) ⟨h1, h2, rfl⟩
  refine fb_putF (r := o) hx hb hown hts hin4 tyX4 tyX4_ok nmX4 hM (hOn1.1) (ce4 (hOn1.2.1)) rfl 2 (by decide) (hts (.fieldLink RX4 9 "FeatherBedsModel" "sackHeaps" "[I") (by decide +kernel)) (fun _ h9 => h9) rfl hname rfl (ty := tyX4 2) (by decide +kernel) rfl rfl (Nat.le_of_ble_eq_true rfl) dX4_init_9 (upk_4_2 (v := some q1) (hOn1.2.1)) (w' := ((fb_setp (fb_new S (o + 1) q1 6 72) o 2 (some q1)), V, (sT V), (va_up I (o + 1) (fun _ => 0)))) ⟨rfl, rfl, rfl⟩ (fun H locs hM => ?_)
  obtain ⟨a1, b1, x1, y1, z1, u1, v1⟩ := mkA_ok S (o := o) (r := o + 1) 2 q1 6 72 (by omega)
  obtain ⟨S1, eS1⟩ : ∃ S1, S1 = mkA S o 2 (o + 1) q1 6 72 := ⟨_, rfl⟩
  have hM : fb_M D y A s ((mkA S o 2 (o + 1) q1 6 72), V, (sT V), (va_up I (o + 1) (fun _ => 0))) H locs := hM
  rw [← eS1] at hM a1 b1 x1 y1 z1 u1 v1
  have hO1 := y1 4 (sn S o) ⟨h1, h2, rfl⟩
  have eX1 : Ext (fun x => o ≤ x ∧ x ≤ o + 1) S S1 := x1.mono (fun x hx => by omega)
  rw [← u1] at hl
  refine lv_aload_n hx hb dX4_init_12 rfl (lv_at hl 0 rfl) ?_
  refine lv_bipush (v := 12) hx hb dX4_init_13 (by decide) ?_
  have nr2 : o + 2 ∉ sR S1 := NA.ext eX1 (by omega) (hn _ (by omega) (by omega))
  refine fb_mka6 hx hb (hts (.arrayClass .int) (by decide +kernel)) hM (n := 12) (by decide) (by decide) (Nat.le_of_ble_eq_true rfl) (Nat.le_of_ble_eq_true rfl) (Nat.le_of_ble_eq_true rfl) dX4_init_15 (o + 2) nr2 (fun q2 H hM => ?_)
  refine W.eq (g2 := F0 mv 17 ls [.ref q2, .ref (sa (fb_new S1 (o + 2) q2 6 12) o)]) (by rw [nw_ane S1 q2 6 12 (show o ≠ o + 2 by omega)]) ?_
  have hOn2 := RA.ext (r := o) (k := 4) (n := sn S o) (Ext.new (P := fun x => x = o + 2) S1 q2 6 12 rfl) (by omega) hO1
  refine fb_putF (r := o) hx hb hown hts hin4 tyX4 tyX4_ok nmX4 hM (hOn2.1) (ce4 (hOn2.2.1)) rfl 3 (by decide) (hts (.fieldLink RX4 13 "FeatherBedsModel" "damp" "[I") (by decide +kernel)) (fun _ h9 => h9) rfl hname rfl (ty := tyX4 3) (by decide +kernel) rfl rfl (Nat.le_of_ble_eq_true rfl) dX4_init_17 (upk_4_3 (v := some q2) (hOn2.2.1)) (w' := ((fb_setp (fb_new S1 (o + 2) q2 6 12) o 3 (some q2)), V, (sT V), (va_up (va_up I (o + 1) (fun _ => 0)) (o + 2) (fun _ => 0)))) ⟨rfl, rfl, rfl⟩ (fun H locs hM => ?_)
  obtain ⟨a2, b2, x2, y2, z2, u2, v2⟩ := mkA_ok S1 (o := o) (r := o + 2) 3 q2 6 12 (by omega)
  obtain ⟨S2, eS2⟩ : ∃ S2, S2 = mkA S1 o 3 (o + 2) q2 6 12 := ⟨_, rfl⟩
  have hM : fb_M D y A s ((mkA S1 o 3 (o + 2) q2 6 12), V, (sT V), (va_up (va_up I (o + 1) (fun _ => 0)) (o + 2) (fun _ => 0))) H locs := hM
  rw [← eS2] at hM a2 b2 x2 y2 z2 u2 v2
  have hO2 := y2 4 (sn S o) hO1
  have a1 := RA.ext x2 (show ¬ (o + 1 = o ∨ o + 1 = o + 2) by omega) a1
  have b1 := z2 2 (o + 1) (by decide) (by omega) b1
  have eX2 : Ext (fun x => o ≤ x ∧ x ≤ o + 2) S S2 := (eX1.mono (fun x hx => by omega)).trans (x2.mono (fun x hx => by omega))
  rw [← u2] at hl
  refine lv_aload_n hx hb dX4_init_20 rfl (lv_at hl 0 rfl) ?_
  refine lv_bipush (v := 10) hx hb dX4_init_21 (by decide) ?_
  refine fb_put (r := o) hx hb hown hts hin4 tyX4 tyX4_ok nmX4 hM (hO2.1) (ce4 (hO2.2.1)) rfl 4 (by decide) (hts (.fieldLink RX4 16 "FeatherBedsModel" "wind" "I") (by decide +kernel)) (fun _ h9 => h9) rfl (ty := .int) (by decide +kernel) rfl rfl (Nat.le_of_ble_eq_true rfl) dX4_init_23 (up_I (j := 4) (v := 10) (by rw [ce4 (S := S2) (hO2.2.1)]; simp [va_up, upd])) (w' := (S2, V, (sT V), (va_up (va_up (va_up I (o + 1) (fun _ => 0)) (o + 2) (fun _ => 0)) o (upd ((va_up (va_up I (o + 1) (fun _ => 0)) (o + 2) (fun _ => 0)) o) 4 10)))) ⟨rfl, rfl, rfl⟩ (fun H locs hM => ?_)
  refine lv_aload_n hx hb dX4_init_26 rfl (lv_at hl 0 rfl) ?_
  refine lv_bipush (v := 30) hx hb dX4_init_27 (by decide) ?_
  have nr3 : o + 3 ∉ sR S2 := NA.ext eX2 (by omega) (hn _ (by omega) (by omega))
  refine fb_mka6 hx hb (hts (.arrayClass .int) (by decide +kernel)) hM (n := 30) (by decide) (by decide) (Nat.le_of_ble_eq_true rfl) (Nat.le_of_ble_eq_true rfl) (Nat.le_of_ble_eq_true rfl) dX4_init_29 (o + 3) nr3 (fun q3 H hM => ?_)
  refine W.eq (g2 := F0 mv 31 ls [.ref q3, .ref (sa (fb_new S2 (o + 3) q3 6 30) o)]) (by rw [nw_ane S2 q3 6 30 (show o ≠ o + 3 by omega)]) ?_
  have hOn3 := RA.ext (r := o) (k := 4) (n := sn S o) (Ext.new (P := fun x => x = o + 3) S2 q3 6 30 rfl) (by omega) hO2
  refine fb_putF (r := o) hx hb hown hts hin4 tyX4 tyX4_ok nmX4 hM (hOn3.1) (ce4 (hOn3.2.1)) rfl 5 (by decide) (hts (.fieldLink RX4 20 "FeatherBedsModel" "chambers" "[I") (by decide +kernel)) (fun _ h9 => h9) rfl hname rfl (ty := tyX4 5) (by decide +kernel) rfl rfl (Nat.le_of_ble_eq_true rfl) dX4_init_31 (upk_4_5 (v := some q3) (hOn3.2.1)) (w' := ((fb_setp (fb_new S2 (o + 3) q3 6 30) o 5 (some q3)), V, (sT V), (va_up (va_up (va_up (va_up I (o + 1) (fun _ => 0)) (o + 2) (fun _ => 0)) o (upd ((va_up (va_up I (o + 1) (fun _ => 0)) (o + 2) (fun _ => 0)) o) 4 10)) (o + 3) (fun _ => 0)))) ⟨rfl, rfl, rfl⟩ (fun H locs hM => ?_)
  obtain ⟨a3, b3, x3, y3, z3, u3, v3⟩ := mkA_ok S2 (o := o) (r := o + 3) 5 q3 6 30 (by omega)
  obtain ⟨S3, eS3⟩ : ∃ S3, S3 = mkA S2 o 5 (o + 3) q3 6 30 := ⟨_, rfl⟩
  have hM : fb_M D y A s ((mkA S2 o 5 (o + 3) q3 6 30), V, (sT V), (va_up (va_up (va_up (va_up I (o + 1) (fun _ => 0)) (o + 2) (fun _ => 0)) o (upd ((va_up (va_up I (o + 1) (fun _ => 0)) (o + 2) (fun _ => 0)) o) 4 10)) (o + 3) (fun _ => 0))) H locs := hM
  rw [← eS3] at hM a3 b3 x3 y3 z3 u3 v3
  have hO3 := y3 4 (sn S o) hO2
  have a1 := RA.ext x3 (show ¬ (o + 1 = o ∨ o + 1 = o + 3) by omega) a1
  have b1 := z3 2 (o + 1) (by decide) (by omega) b1
  have a2 := RA.ext x3 (show ¬ (o + 2 = o ∨ o + 2 = o + 3) by omega) a2
  have b2 := z3 3 (o + 2) (by decide) (by omega) b2
  have eX3 : Ext (fun x => o ≤ x ∧ x ≤ o + 3) S S3 := (eX2.mono (fun x hx => by omega)).trans (x3.mono (fun x hx => by omega))
  rw [← u3] at hl
  refine lv_aload_n hx hb dX4_init_34 rfl (lv_at hl 0 rfl) ?_
  refine lv_bipush (v := 18) hx hb dX4_init_35 (by decide) ?_
  have nr4 : o + 4 ∉ sR S3 := NA.ext eX3 (by omega) (hn _ (by omega) (by omega))
  refine fb_mka6 hx hb (hts (.arrayClass .int) (by decide +kernel)) hM (n := 18) (by decide) (by decide) (Nat.le_of_ble_eq_true rfl) (Nat.le_of_ble_eq_true rfl) (Nat.le_of_ble_eq_true rfl) dX4_init_37 (o + 4) nr4 (fun q4 H hM => ?_)
  refine W.eq (g2 := F0 mv 39 ls [.ref q4, .ref (sa (fb_new S3 (o + 4) q4 6 18) o)]) (by rw [nw_ane S3 q4 6 18 (show o ≠ o + 4 by omega)]) ?_
  have hOn4 := RA.ext (r := o) (k := 4) (n := sn S o) (Ext.new (P := fun x => x = o + 4) S3 q4 6 18 rfl) (by omega) hO3
  refine fb_putF (r := o) hx hb hown hts hin4 tyX4 tyX4_ok nmX4 hM (hOn4.1) (ce4 (hOn4.2.1)) rfl 7 (by decide) (hts (.fieldLink RX4 23 "FeatherBedsModel" "tickTable" "[I") (by decide +kernel)) (fun _ h9 => h9) rfl hname rfl (ty := tyX4 7) (by decide +kernel) rfl rfl (Nat.le_of_ble_eq_true rfl) dX4_init_39 (upk_4_7 (v := some q4) (hOn4.2.1)) (w' := ((fb_setp (fb_new S3 (o + 4) q4 6 18) o 7 (some q4)), V, (sT V), (va_up (va_up (va_up (va_up (va_up I (o + 1) (fun _ => 0)) (o + 2) (fun _ => 0)) o (upd ((va_up (va_up I (o + 1) (fun _ => 0)) (o + 2) (fun _ => 0)) o) 4 10)) (o + 3) (fun _ => 0)) (o + 4) (fun _ => 0)))) ⟨rfl, rfl, rfl⟩ (fun H locs hM => ?_)
  obtain ⟨a4, b4, x4, y4, z4, u4, v4⟩ := mkA_ok S3 (o := o) (r := o + 4) 7 q4 6 18 (by omega)
  obtain ⟨S4, eS4⟩ : ∃ S4, S4 = mkA S3 o 7 (o + 4) q4 6 18 := ⟨_, rfl⟩
  have hM : fb_M D y A s ((mkA S3 o 7 (o + 4) q4 6 18), V, (sT V), (va_up (va_up (va_up (va_up (va_up I (o + 1) (fun _ => 0)) (o + 2) (fun _ => 0)) o (upd ((va_up (va_up I (o + 1) (fun _ => 0)) (o + 2) (fun _ => 0)) o) 4 10)) (o + 3) (fun _ => 0)) (o + 4) (fun _ => 0))) H locs := hM
  rw [← eS4] at hM a4 b4 x4 y4 z4 u4 v4
  have hO4 := y4 4 (sn S o) hO3
  have a1 := RA.ext x4 (show ¬ (o + 1 = o ∨ o + 1 = o + 4) by omega) a1
  have b1 := z4 2 (o + 1) (by decide) (by omega) b1
  have a2 := RA.ext x4 (show ¬ (o + 2 = o ∨ o + 2 = o + 4) by omega) a2
  have b2 := z4 3 (o + 2) (by decide) (by omega) b2
  have a3 := RA.ext x4 (show ¬ (o + 3 = o ∨ o + 3 = o + 4) by omega) a3
  have b3 := z4 5 (o + 3) (by decide) (by omega) b3
  have eX4 : Ext (fun x => o ≤ x ∧ x ≤ o + 4) S S4 := (eX3.mono (fun x hx => by omega)).trans (x4.mono (fun x hx => by omega))
  rw [← u4] at hl
  refine lv_aload_n hx hb dX4_init_42 rfl (lv_at hl 0 rfl) ?_
  refine lv_bipush (v := 6) hx hb dX4_init_43 (by decide) ?_
  have nr5 : o + 5 ∉ sR S4 := NA.ext eX4 (by omega) (hn _ (by omega) (by omega))
  refine fb_mka10 hx hb hown (hts (.classLink RX4 26 "[I") (by decide +kernel)) hM (n := 6) (by decide) (by decide) (Nat.le_of_ble_eq_true rfl) (Nat.le_of_ble_eq_true rfl) (Nat.le_of_ble_eq_true rfl) dX4_init_45 (o + 5) nr5 (fun q5 H hM => ?_)
  refine W.eq (g2 := F0 mv 48 ls [.ref q5, .ref (sa (fb_new S4 (o + 5) q5 10 6) o)]) (by rw [nw_ane S4 q5 10 6 (show o ≠ o + 5 by omega)]) ?_
  have hOn5 := RA.ext (r := o) (k := 4) (n := sn S o) (Ext.new (P := fun x => x = o + 5) S4 q5 10 6 rfl) (by omega) hO4
  refine fb_putF (r := o) hx hb hown hts hin4 tyX4 tyX4_ok nmX4 hM (hOn5.1) (ce4 (hOn5.2.1)) rfl 8 (by decide) (hts (.fieldLink RX4 27 "FeatherBedsModel" "squares" "[[I") (by decide +kernel)) (fun _ h9 => h9) rfl hname rfl (ty := tyX4 8) (by decide +kernel) rfl rfl (Nat.le_of_ble_eq_true rfl) dX4_init_48 (upk_4_8 (v := some q5) (hOn5.2.1)) (w' := ((fb_setp (fb_new S4 (o + 5) q5 10 6) o 8 (some q5)), V, (sT V), (va_up (va_up (va_up (va_up (va_up I (o + 1) (fun _ => 0)) (o + 2) (fun _ => 0)) o (upd ((va_up (va_up I (o + 1) (fun _ => 0)) (o + 2) (fun _ => 0)) o) 4 10)) (o + 3) (fun _ => 0)) (o + 4) (fun _ => 0)))) ⟨rfl, rfl, rfl⟩ (fun H locs hM => ?_)
  obtain ⟨a5, b5, x5, y5, z5, u5, v5⟩ := mkA_ok S4 (o := o) (r := o + 5) 8 q5 10 6 (by omega)
  obtain ⟨S5, eS5⟩ : ∃ S5, S5 = mkA S4 o 8 (o + 5) q5 10 6 := ⟨_, rfl⟩
  have hM : fb_M D y A s ((mkA S4 o 8 (o + 5) q5 10 6), V, (sT V), (va_up (va_up (va_up (va_up (va_up I (o + 1) (fun _ => 0)) (o + 2) (fun _ => 0)) o (upd ((va_up (va_up I (o + 1) (fun _ => 0)) (o + 2) (fun _ => 0)) o) 4 10)) (o + 3) (fun _ => 0)) (o + 4) (fun _ => 0))) H locs := hM
  rw [← eS5] at hM a5 b5 x5 y5 z5 u5 v5
  have hO5 := y5 4 (sn S o) hO4
  have a1 := RA.ext x5 (show ¬ (o + 1 = o ∨ o + 1 = o + 5) by omega) a1
  have b1 := z5 2 (o + 1) (by decide) (by omega) b1
  have a2 := RA.ext x5 (show ¬ (o + 2 = o ∨ o + 2 = o + 5) by omega) a2
  have b2 := z5 3 (o + 2) (by decide) (by omega) b2
  have a3 := RA.ext x5 (show ¬ (o + 3 = o ∨ o + 3 = o + 5) by omega) a3
  have b3 := z5 5 (o + 3) (by decide) (by omega) b3
  have a4 := RA.ext x5 (show ¬ (o + 4 = o ∨ o + 4 = o + 5) by omega) a4
  have b4 := z5 7 (o + 4) (by decide) (by omega) b4
  have eX5 : Ext (fun x => o ≤ x ∧ x ≤ o + 5) S S5 := (eX4.mono (fun x hx => by omega)).trans (x5.mono (fun x hx => by omega))
  rw [← u5] at hl
  refine lv_aload_n hx hb dX4_init_51 rfl (lv_at hl 0 rfl) ?_
  refine lv_bipush (v := 6) hx hb dX4_init_52 (by decide) ?_
  have nr6 : o + 6 ∉ sR S5 := NA.ext eX5 (by omega) (hn _ (by omega) (by omega))
  refine fb_mka11 hx hb hown (hts (.classLink RX4 31 "[Z") (by decide +kernel)) hM (n := 6) (by decide) (by decide) (Nat.le_of_ble_eq_true rfl) (Nat.le_of_ble_eq_true rfl) (Nat.le_of_ble_eq_true rfl) dX4_init_54 (o + 6) nr6 (fun q6 H hM => ?_)
  refine W.eq (g2 := F0 mv 57 ls [.ref q6, .ref (sa (fb_new S5 (o + 6) q6 11 6) o)]) (by rw [nw_ane S5 q6 11 6 (show o ≠ o + 6 by omega)]) ?_
  have hOn6 := RA.ext (r := o) (k := 4) (n := sn S o) (Ext.new (P := fun x => x = o + 6) S5 q6 11 6 rfl) (by omega) hO5
  refine fb_putF (r := o) hx hb hown hts hin4 tyX4 tyX4_ok nmX4 hM (hOn6.1) (ce4 (hOn6.2.1)) rfl 9 (by decide) (hts (.fieldLink RX4 33 "FeatherBedsModel" "seams" "[[Z") (by decide +kernel)) (fun _ h9 => h9) rfl hname rfl (ty := tyX4 9) (by decide +kernel) rfl rfl (Nat.le_of_ble_eq_true rfl) dX4_init_57 (upk_4_9 (v := some q6) (hOn6.2.1)) (w' := ((fb_setp (fb_new S5 (o + 6) q6 11 6) o 9 (some q6)), V, (sT V), (va_up (va_up (va_up (va_up (va_up I (o + 1) (fun _ => 0)) (o + 2) (fun _ => 0)) o (upd ((va_up (va_up I (o + 1) (fun _ => 0)) (o + 2) (fun _ => 0)) o) 4 10)) (o + 3) (fun _ => 0)) (o + 4) (fun _ => 0)))) ⟨rfl, rfl, rfl⟩ (fun H locs hM => ?_)
  obtain ⟨a6, b6, x6, y6, z6, u6, v6⟩ := mkA_ok S5 (o := o) (r := o + 6) 9 q6 11 6 (by omega)
  obtain ⟨S6, eS6⟩ : ∃ S6, S6 = mkA S5 o 9 (o + 6) q6 11 6 := ⟨_, rfl⟩
  have hM : fb_M D y A s ((mkA S5 o 9 (o + 6) q6 11 6), V, (sT V), (va_up (va_up (va_up (va_up (va_up I (o + 1) (fun _ => 0)) (o + 2) (fun _ => 0)) o (upd ((va_up (va_up I (o + 1) (fun _ => 0)) (o + 2) (fun _ => 0)) o) 4 10)) (o + 3) (fun _ => 0)) (o + 4) (fun _ => 0))) H locs := hM
  rw [← eS6] at hM a6 b6 x6 y6 z6 u6 v6
  have hO6 := y6 4 (sn S o) hO5
  have a1 := RA.ext x6 (show ¬ (o + 1 = o ∨ o + 1 = o + 6) by omega) a1
  have b1 := z6 2 (o + 1) (by decide) (by omega) b1
  have a2 := RA.ext x6 (show ¬ (o + 2 = o ∨ o + 2 = o + 6) by omega) a2
  have b2 := z6 3 (o + 2) (by decide) (by omega) b2
  have a3 := RA.ext x6 (show ¬ (o + 3 = o ∨ o + 3 = o + 6) by omega) a3
  have b3 := z6 5 (o + 3) (by decide) (by omega) b3
  have a4 := RA.ext x6 (show ¬ (o + 4 = o ∨ o + 4 = o + 6) by omega) a4
  have b4 := z6 7 (o + 4) (by decide) (by omega) b4
  have a5 := RA.ext x6 (show ¬ (o + 5 = o ∨ o + 5 = o + 6) by omega) a5
  have b5 := z6 8 (o + 5) (by decide) (by omega) b5
  have eX6 : Ext (fun x => o ≤ x ∧ x ≤ o + 6) S S6 := (eX5.mono (fun x hx => by omega)).trans (x6.mono (fun x hx => by omega))
  rw [← u6] at hl
  refine lv_aload_n hx hb dX4_init_60 rfl (lv_at hl 0 rfl) ?_
  refine lv_bipush (v := 36) hx hb dX4_init_61 (by decide) ?_
  have nr7 : o + 7 ∉ sR S6 := NA.ext eX6 (by omega) (hn _ (by omega) (by omega))
  refine fb_mka6 hx hb (hts (.arrayClass .int) (by decide +kernel)) hM (n := 36) (by decide) (by decide) (Nat.le_of_ble_eq_true rfl) (Nat.le_of_ble_eq_true rfl) (Nat.le_of_ble_eq_true rfl) dX4_init_63 (o + 7) nr7 (fun q7 H hM => ?_)
  refine W.eq (g2 := F0 mv 65 ls [.ref q7, .ref (sa (fb_new S6 (o + 7) q7 6 36) o)]) (by rw [nw_ane S6 q7 6 36 (show o ≠ o + 7 by omega)]) ?_
  have hOn7 := RA.ext (r := o) (k := 4) (n := sn S o) (Ext.new (P := fun x => x = o + 7) S6 q7 6 36 rfl) (by omega) hO6
  refine fb_putF (r := o) hx hb hown hts hin4 tyX4 tyX4_ok nmX4 hM (hOn7.1) (ce4 (hOn7.2.1)) rfl 13 (by decide) (hts (.fieldLink RX4 37 "FeatherBedsModel" "part" "[I") (by decide +kernel)) (fun _ h9 => h9) rfl hname rfl (ty := tyX4 13) (by decide +kernel) rfl rfl (Nat.le_of_ble_eq_true rfl) dX4_init_65 (upk_4_13 (v := some q7) (hOn7.2.1)) (w' := ((fb_setp (fb_new S6 (o + 7) q7 6 36) o 13 (some q7)), V, (sT V), (va_up (va_up (va_up (va_up (va_up (va_up I (o + 1) (fun _ => 0)) (o + 2) (fun _ => 0)) o (upd ((va_up (va_up I (o + 1) (fun _ => 0)) (o + 2) (fun _ => 0)) o) 4 10)) (o + 3) (fun _ => 0)) (o + 4) (fun _ => 0)) (o + 7) (fun _ => 0)))) ⟨rfl, rfl, rfl⟩ (fun H locs hM => ?_)
  obtain ⟨a7, b7, x7, y7, z7, u7, v7⟩ := mkA_ok S6 (o := o) (r := o + 7) 13 q7 6 36 (by omega)
  obtain ⟨S7, eS7⟩ : ∃ S7, S7 = mkA S6 o 13 (o + 7) q7 6 36 := ⟨_, rfl⟩
  have hM : fb_M D y A s ((mkA S6 o 13 (o + 7) q7 6 36), V, (sT V), (va_up (va_up (va_up (va_up (va_up (va_up I (o + 1) (fun _ => 0)) (o + 2) (fun _ => 0)) o (upd ((va_up (va_up I (o + 1) (fun _ => 0)) (o + 2) (fun _ => 0)) o) 4 10)) (o + 3) (fun _ => 0)) (o + 4) (fun _ => 0)) (o + 7) (fun _ => 0))) H locs := hM
  rw [← eS7] at hM a7 b7 x7 y7 z7 u7 v7
  have hO7 := y7 4 (sn S o) hO6
  have a1 := RA.ext x7 (show ¬ (o + 1 = o ∨ o + 1 = o + 7) by omega) a1
  have b1 := z7 2 (o + 1) (by decide) (by omega) b1
  have a2 := RA.ext x7 (show ¬ (o + 2 = o ∨ o + 2 = o + 7) by omega) a2
  have b2 := z7 3 (o + 2) (by decide) (by omega) b2
  have a3 := RA.ext x7 (show ¬ (o + 3 = o ∨ o + 3 = o + 7) by omega) a3
  have b3 := z7 5 (o + 3) (by decide) (by omega) b3
  have a4 := RA.ext x7 (show ¬ (o + 4 = o ∨ o + 4 = o + 7) by omega) a4
  have b4 := z7 7 (o + 4) (by decide) (by omega) b4
  have a5 := RA.ext x7 (show ¬ (o + 5 = o ∨ o + 5 = o + 7) by omega) a5
  have b5 := z7 8 (o + 5) (by decide) (by omega) b5
  have a6 := RA.ext x7 (show ¬ (o + 6 = o ∨ o + 6 = o + 7) by omega) a6
  have b6 := z7 9 (o + 6) (by decide) (by omega) b6
  have eX7 : Ext (fun x => o ≤ x ∧ x ≤ o + 7) S S7 := (eX6.mono (fun x hx => by omega)).trans (x7.mono (fun x hx => by omega))
  rw [← u7] at hl
  rw [hQ]
  refine W.widen (show _ ≤ 7 from Nat.le_of_ble_eq_true rfl) (show _ ≤ 180 from Nat.le_of_ble_eq_true rfl) ?_
  exact fb_vret hx hb hr hlocks hM (⟨S7, _, rfl, fun cf rf => ⟨⟨hO7.1, hO7.2.1⟩, ⟨b1, b2, b3, b4, b5, b6, b7⟩, a1, a2, a3, a4, a5, a6, a7, fun t ht => absurd ht (Nat.not_lt_zero _)⟩, eX7.mono (fun x hx => by omega), fun x hx => by simp (discharger := omega) only [va_up_ne], by simp [va_up], by simp [va_up], by simp [va_up], by simp [va_up], by simp [va_up], u7.trans (u6.trans (u5.trans (u4.trans (u3.trans (u2.trans u1)))))⟩) dX4_init_68
