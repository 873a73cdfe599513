abbrev rm_X4_init : Room := { frames := 1, cells := 9, slots := 47, locals := 20 }
set_option maxHeartbeats 4000000 in
set_option maxRecDepth 100000 in
theorem c_X4_init (D : va_G) (y : Nat → ClassId) (l : Launch) (S : fb_Sh) (V I : fb_V) (a : Nat) (ha : sa S 1000 = a) (h1 : 1000 ∈ sR S) (h2 : sk S 1000 = 4) (hfr : ∀ x, 1001 ≤ x → x ≤ 1050 → x ∉ sR S) (rho cf rf : Nat → Nat) : CV D y l yX4_init wsX4_init rm_X4_init [.ref a] (S, V, (sT V), I) (fun u => ∃ S2, u = (S2, V, sT V, (rB (va_up (va_up I 1001 (fun _ => 0)) 1000 (upd (I 1000) 2 10)) 1010 5 (fun _ _ => 0))) ∧ SmAt S2 0 0 rho cf rf ∧ Ext (fun x => x = 1000 ∨ x = 1001 ∨ (1009 ≤ x ∧ x ≤ 1014) ∨ x = 1020 ∨ x = 1040) S S2 ∧ sa S2 1000 = sa S 1000) 9 47 := by
  refine CV.of (cc := cX4_init) (maxL := 1) (ret := none) (by decide) rfl (Nat.le_of_ble_eq_true rfl) ?_
  intro pv ev s mv below meth cv A hx hb hml hr hown hts hlocks hname hM ls hl
  have hown : s.vm.findClass RX4 = some mv.cls := hown
  have hl : lv_has ls 1 [(0, .ref a)] := hl
  have hin4 : ∀ x ∈ wsX40, x ∈ wsX4_init := by decide +kernel
  obtain ⟨Q, hQ⟩ : ∃ Q, Q = MQ below (va_Qv (fun u => ∃ S2, u = (S2, V, sT V, (rB (va_up (va_up I 1001 (fun _ => 0)) 1000 (upd (I 1000) 2 10)) 1010 5 (fun _ _ => 0))) ∧ SmAt S2 0 0 rho cf rf ∧ Ext (fun x => x = 1000 ∨ x = 1001 ∨ (1009 ≤ x ∧ x ≤ 1014) ∨ x = 1020 ∨ x = 1040) S S2 ∧ sa S2 1000 = sa S 1000) (fun u t => fb_P D y A u t) A) (([.ref a] : List Value).toArray) s 9 47 A := ⟨_, rfl⟩
  rw [← hQ]
  subst ha
  have hO : RA S 1000 4 (sn S 1000) := ⟨h1, h2, rfl⟩
  have f20 : 1020 ∉ sR S := hfr _ (by omega) (by omega)
  have f01 : 1001 ∉ sR S := hfr _ (by omega) (by omega)
  have f40 : 1040 ∉ sR S := hfr _ (by omega) (by omega)
  have f09 : ∀ x, 1009 ≤ x → x ≤ 1009 + 5 → x ∉ sR S := fun x _ _ => hfr _ (by omega) (by omega)
  have eX : Ext (fun x => x = 1000 ∨ x = 1001 ∨ (1009 ≤ x ∧ x ≤ 1014) ∨ x = 1020 ∨ x = 1040) S S := Ext.rf _ _
  have kk0 : sa S 1000 = sa S 1000 := rfl
  refine lv_aload_n hx hb dX4_init_0 rfl (lv_at hl 0 rfl) ?_
  refine W.objInit hx hb hown (hts (.methodLink RX4 1 objectInit) (by decide +kernel)) (hts (.instanceMethod objectInit) (by decide +kernel)) (hts (.code objectInit ⟨#[0xb1]⟩ 1 none) (by decide +kernel)) rfl (by rw [hml]; exact hl.1) rfl dX4_init_1 (Nat.le_of_ble_eq_true rfl) (Nat.le_of_ble_eq_true rfl) ?_
  refine W.eq (g2 := F0 mv 4 ls []) rfl ?_
  refine lv_aload_n hx hb dX4_init_4 rfl (lv_at hl 0 rfl) ?_
  refine lv_iconst (v := 0) hx hb dX4_init_5 (by decide) ?_
  refine fb_mka10 hx hb hown (hts (.classLink RX4 7 "[I") (by decide +kernel)) hM (n := 0) (by decide) (by decide) (by decide) (Nat.le_of_ble_eq_true rfl) (Nat.le_of_ble_eq_true rfl) dX4_init_6 1020 f20 (fun q20 H hM => ?_)
  have e1_ : Ext (fun x => x = 1020) S (fb_new S 1020 q20 10 0) := Ext.new _ _ _ _ rfl
  have r1 := RA.new S 1020 q20 10 0
  have a1 := nw_a S 1020 q20 10 0
  obtain ⟨S1, eS1⟩ : ∃ S1, S1 = fb_new S 1020 q20 10 0 := ⟨_, rfl⟩
  rw [← eS1] at hM e1_ r1 a1
  have hO : RA S1 1000 4 (sn S 1000) := hO.ext e1_ (by omega)
  have f01 : 1001 ∉ sR S1 := NA.ext e1_ (by omega) f01
  have f40 : 1040 ∉ sR S1 := NA.ext e1_ (by omega) f40
  have f09 : ∀ x, 1009 ≤ x → x ≤ 1009 + 5 → x ∉ sR S1 := fun x h1 h2 => NA.ext e1_ (by omega) (f09 x h1 h2)
  have eX : Ext (fun x => x = 1000 ∨ x = 1001 ∨ (1009 ≤ x ∧ x ≤ 1014) ∨ x = 1020 ∨ x = 1040) S S1 := eX.trans (e1_.mono (fun x hx => by omega))
  have kk0 : sa S1 1000 = sa S 1000 := (AA.ext e1_ (by omega)).trans kk0
  have ka_0 : sa S1 1000 = sa S 1000 := AA.ext e1_ (by omega)
  refine W.eq (g2 := F0 mv 9 ls [.ref (sa S1 1020), .ref (sa S1 1000)]) (by rw [a1, ka_0]) ?_
  rw [← ka_0] at hl
  refine fb_put (r := 1000) hx hb hown hts hin4 tyX4 tyX4_ok nmX4 hM (hO.1) (ce4 (hO.2.1)) rfl 0 (by decide) (hts (.fieldLink RX4 9 "FeatherBedsLaw$Sim" "sacks" "[[I") (by decide +kernel)) (fun _ h9 => h9) rfl (ty := tyX4 0) (by decide +kernel) rfl rfl (Nat.le_of_ble_eq_true rfl) dX4_init_9 (upk_4_0 (v := some (sa S1 1020)) (hO.2.1)) (w' := ((fb_setp S1 1000 0 (some (sa S1 1020))), V, (sT V), I)) ⟨rfl, rfl, rfl⟩ (fun H locs hM => ?_)
  obtain ⟨S2, eS2⟩ : ∃ S2, S2 = (fb_setp S1 1000 0 (some (sa S1 1020))) := ⟨_, rfl⟩
  rw [← eS2] at hM
  have e2_ : Ext (fun x => x = 1000) S1 S2 := by rw [eS2]; exact Ext.setp S1 0 _ rfl
  have ks_2 : sa S2 = sa S1 := by rw [eS2]; rfl
  have hO : RA S2 1000 4 (sn S 1000) := by rw [eS2]; exact hO
  have f01 : 1001 ∉ sR S2 := NA.ext e2_ (by omega) f01
  have f40 : 1040 ∉ sR S2 := NA.ext e2_ (by omega) f40
  have f09 : ∀ x, 1009 ≤ x → x ≤ 1009 + 5 → x ∉ sR S2 := fun x h1 h2 => NA.ext e2_ (by omega) (f09 x h1 h2)
  have eX : Ext (fun x => x = 1000 ∨ x = 1001 ∨ (1009 ≤ x ∧ x ≤ 1014) ∨ x = 1020 ∨ x = 1040) S S2 := eX.trans (e2_.mono (fun x hx => by omega))
  have kk0 : sa S2 1000 = sa S 1000 := by rw [ks_2]; exact kk0
  have r1 : RA S2 1020 10 0 := by rw [eS2]; exact r1
  have p0 : PA S2 1000 0 1020 := by rw [eS2]; exact PA.put S1 1000 0 1020
  rw [← ks_2] at hl
  refine lv_aload_n hx hb dX4_init_12 rfl (lv_at hl 0 rfl) ?_
  refine lv_bipush (v := 12) hx hb dX4_init_13 (by decide) ?_
  refine fb_mka6 hx hb (hts (.arrayClass .int) (by decide +kernel)) hM (n := 12) (by decide) (by decide) (by decide) (Nat.le_of_ble_eq_true rfl) (Nat.le_of_ble_eq_true rfl) dX4_init_15 1001 f01 (fun q01 H hM => ?_)
  have e3_ : Ext (fun x => x = 1001) S2 (fb_new S2 1001 q01 6 12) := Ext.new _ _ _ _ rfl
  have r3 := RA.new S2 1001 q01 6 12
  have a3 := nw_a S2 1001 q01 6 12
  obtain ⟨S3, eS3⟩ : ∃ S3, S3 = fb_new S2 1001 q01 6 12 := ⟨_, rfl⟩
  rw [← eS3] at hM e3_ r3 a3
  have hO : RA S3 1000 4 (sn S 1000) := hO.ext e3_ (by omega)
  have f40 : 1040 ∉ sR S3 := NA.ext e3_ (by omega) f40
  have f09 : ∀ x, 1009 ≤ x → x ≤ 1009 + 5 → x ∉ sR S3 := fun x h1 h2 => NA.ext e3_ (by omega) (f09 x h1 h2)
  have eX : Ext (fun x => x = 1000 ∨ x = 1001 ∨ (1009 ≤ x ∧ x ≤ 1014) ∨ x = 1020 ∨ x = 1040) S S3 := eX.trans (e3_.mono (fun x hx => by omega))
  have kk0 : sa S3 1000 = sa S 1000 := (AA.ext e3_ (by omega)).trans kk0
  have r1 : RA S3 1020 10 0 := r1.ext e3_ (by omega)
  have p0 : PA S3 1000 0 1020 := p0.ext e3_ (by omega) (by omega)
  have ka_0 : sa S3 1000 = sa S2 1000 := AA.ext e3_ (by omega)
  refine W.eq (g2 := F0 mv 17 ls [.ref (sa S3 1001), .ref (sa S3 1000)]) (by rw [a3, ka_0]) ?_
  rw [← ka_0] at hl
  refine fb_put (r := 1000) hx hb hown hts hin4 tyX4 tyX4_ok nmX4 hM (hO.1) (ce4 (hO.2.1)) rfl 1 (by decide) (hts (.fieldLink RX4 15 "FeatherBedsLaw$Sim" "damp" "[I") (by decide +kernel)) (fun _ h9 => h9) rfl (ty := tyX4 1) (by decide +kernel) rfl rfl (Nat.le_of_ble_eq_true rfl) dX4_init_17 (upk_4_1 (v := some (sa S3 1001)) (hO.2.1)) (w' := ((fb_setp S3 1000 1 (some (sa S3 1001))), V, (sT V), (va_up I 1001 (fun _ => 0)))) ⟨rfl, rfl, rfl⟩ (fun H locs hM => ?_)
  obtain ⟨S4, eS4⟩ : ∃ S4, S4 = (fb_setp S3 1000 1 (some (sa S3 1001))) := ⟨_, rfl⟩
  rw [← eS4] at hM
  have e4_ : Ext (fun x => x = 1000) S3 S4 := by rw [eS4]; exact Ext.setp S3 1 _ rfl
  have ks_4 : sa S4 = sa S3 := by rw [eS4]; rfl
  have hO : RA S4 1000 4 (sn S 1000) := by rw [eS4]; exact hO
  have f40 : 1040 ∉ sR S4 := NA.ext e4_ (by omega) f40
  have f09 : ∀ x, 1009 ≤ x → x ≤ 1009 + 5 → x ∉ sR S4 := fun x h1 h2 => NA.ext e4_ (by omega) (f09 x h1 h2)
  have eX : Ext (fun x => x = 1000 ∨ x = 1001 ∨ (1009 ≤ x ∧ x ≤ 1014) ∨ x = 1020 ∨ x = 1040) S S4 := eX.trans (e4_.mono (fun x hx => by omega))
  have kk0 : sa S4 1000 = sa S 1000 := by rw [ks_4]; exact kk0
  have r1 : RA S4 1020 10 0 := by rw [eS4]; exact r1
  have p0 : PA S4 1000 0 1020 := by rw [eS4]; exact p0.setp _ (Or.inr (by omega))
  have r3 : RA S4 1001 6 12 := by rw [eS4]; exact r3
  have p1 : PA S4 1000 1 1001 := by rw [eS4]; exact PA.put S3 1000 1 1001
  rw [← ks_4] at hl
  refine lv_aload_n hx hb dX4_init_20 rfl (lv_at hl 0 rfl) ?_
  refine lv_bipush (v := 10) hx hb dX4_init_21 (by decide) ?_
  refine fb_put (r := 1000) hx hb hown hts hin4 tyX4 tyX4_ok nmX4 hM (hO.1) (ce4 (hO.2.1)) rfl 2 (by decide) (hts (.fieldLink RX4 18 "FeatherBedsLaw$Sim" "wind" "I") (by decide +kernel)) (fun _ h9 => h9) rfl (ty := .int) (by decide +kernel) rfl rfl (Nat.le_of_ble_eq_true rfl) dX4_init_23 (up_I (j := 2) (v := 10) (by rw [ce4 (S := S4) (hO.2.1)]; simp [va_up, upd])) (w' := (S4, V, (sT V), (va_up (va_up I 1001 (fun _ => 0)) 1000 (upd ((va_up I 1001 (fun _ => 0)) 1000) 2 10)))) ⟨rfl, rfl, rfl⟩ (fun H locs hM => ?_)
  have eI : (va_up (va_up I 1001 (fun _ => 0)) 1000 (upd ((va_up I 1001 (fun _ => 0)) 1000) 2 10)) = (va_up (va_up I 1001 (fun _ => 0)) 1000 (upd (I 1000) 2 10)) := by rw [va_up_ne _ _ (show (1000 : Nat) ≠ 1001 by decide)]
  rw [eI] at hM
  clear eI
  refine lv_aload_n hx hb dX4_init_26 rfl (lv_at hl 0 rfl) ?_
  refine lv_iconst (v := 5) hx hb dX4_init_27 (by decide) ?_
  refine lv_bipush (v := 6) hx hb dX4_init_28 (by decide) ?_
  refine fb_mnaI hx hb hown (hts (.classLink RX4 22 "[[I") (by decide +kernel)) (hts (.arrayClass .int) (by decide +kernel)) hM (N := 5) (K := 6) (by decide) (by decide) (by decide) (by decide) (by decide) (by decide) (Nat.le_of_ble_eq_true rfl) (Nat.le_of_ble_eq_true rfl) dX4_init_30 1009 (fun x hx z => f09 x z.1 z.2 hx) (fun q09 raq09 H hM => ?_)
  obtain ⟨r5, a5, m5, e5_⟩ := mk2_ok S4 1009 q09 5 6 10 6 raq09
  obtain ⟨S5, eS5⟩ : ∃ S5, S5 = fb_mk2 S4 1009 q09 5 6 10 6 raq09 := ⟨_, rfl⟩
  rw [← eS5] at hM e5_ r5 a5 m5
  have hO : RA S5 1000 4 (sn S 1000) := hO.ext e5_ (by omega)
  have f40 : 1040 ∉ sR S5 := NA.ext e5_ (by omega) f40
  have eX : Ext (fun x => x = 1000 ∨ x = 1001 ∨ (1009 ≤ x ∧ x ≤ 1014) ∨ x = 1020 ∨ x = 1040) S S5 := eX.trans (e5_.mono (fun x hx => by omega))
  have kk0 : sa S5 1000 = sa S 1000 := (AA.ext e5_ (by omega)).trans kk0
  have r1 : RA S5 1020 10 0 := r1.ext e5_ (by omega)
  have p0 : PA S5 1000 0 1020 := p0.ext e5_ (by omega) (by omega)
  have r3 : RA S5 1001 6 12 := r3.ext e5_ (by omega)
  have p1 : PA S5 1000 1 1001 := p1.ext e5_ (by omega) (by omega)
  have ka_0 : sa S5 1000 = sa S4 1000 := AA.ext e5_ (by omega)
  refine W.eq (g2 := F0 mv 34 ls [.ref (sa S5 1009), .ref (sa S5 1000)]) (by rw [a5, ka_0]) ?_
  rw [← ka_0] at hl
  refine fb_put (r := 1000) hx hb hown hts hin4 tyX4 tyX4_ok nmX4 hM (hO.1) (ce4 (hO.2.1)) rfl 3 (by decide) (hts (.fieldLink RX4 23 "FeatherBedsLaw$Sim" "chambers" "[[I") (by decide +kernel)) (fun _ h9 => h9) rfl (ty := tyX4 3) (by decide +kernel) rfl rfl (Nat.le_of_ble_eq_true rfl) dX4_init_34 (upk_4_3 (v := some (sa S5 1009)) (hO.2.1)) (w' := ((fb_setp S5 1000 3 (some (sa S5 1009))), V, (sT V), (rB (va_up (va_up I 1001 (fun _ => 0)) 1000 (upd (I 1000) 2 10)) (1009 + 1) 5 (fun _ _ => 0)))) ⟨rfl, rfl, rfl⟩ (fun H locs hM => ?_)
  obtain ⟨S6, eS6⟩ : ∃ S6, S6 = (fb_setp S5 1000 3 (some (sa S5 1009))) := ⟨_, rfl⟩
  rw [← eS6] at hM
  have e6_ : Ext (fun x => x = 1000) S5 S6 := by rw [eS6]; exact Ext.setp S5 3 _ rfl
  have ks_6 : sa S6 = sa S5 := by rw [eS6]; rfl
  have hO : RA S6 1000 4 (sn S 1000) := by rw [eS6]; exact hO
  have f40 : 1040 ∉ sR S6 := NA.ext e6_ (by omega) f40
  have eX : Ext (fun x => x = 1000 ∨ x = 1001 ∨ (1009 ≤ x ∧ x ≤ 1014) ∨ x = 1020 ∨ x = 1040) S S6 := eX.trans (e6_.mono (fun x hx => by omega))
  have kk0 : sa S6 1000 = sa S 1000 := by rw [ks_6]; exact kk0
  have r1 : RA S6 1020 10 0 := by rw [eS6]; exact r1
  have p0 : PA S6 1000 0 1020 := by rw [eS6]; exact p0.setp _ (Or.inr (by omega))
  have r3 : RA S6 1001 6 12 := by rw [eS6]; exact r3
  have p1 : PA S6 1000 1 1001 := by rw [eS6]; exact p1.setp _ (Or.inr (by omega))
  have r5 : RA S6 1009 10 5 := by rw [eS6]; exact r5
  have m5 : ∀ i, i < 5 → PA S6 1009 i (1009 + 1 + i) ∧ RA S6 (1009 + 1 + i) 6 6 := fun i hi => ⟨(m5 i hi).1.ext e6_ (by omega) (by omega), (m5 i hi).2.ext e6_ (by omega)⟩
  have p3 : PA S6 1000 3 1009 := by rw [eS6]; exact PA.put S5 1000 3 1009
  rw [← ks_6] at hl
  refine lv_aload_n hx hb dX4_init_37 rfl (lv_at hl 0 rfl) ?_
  refine lv_iconst (v := 0) hx hb dX4_init_38 (by decide) ?_
  refine fb_mka13 hx hb hown (hts (.classLink RX4 26 RX5) (by decide +kernel)) hM (n := 0) (by decide) (by decide) (by decide) (Nat.le_of_ble_eq_true rfl) (Nat.le_of_ble_eq_true rfl) dX4_init_39 1040 f40 (fun q40 H hM => ?_)
  have e7_ : Ext (fun x => x = 1040) S6 (fb_new S6 1040 q40 13 0) := Ext.new _ _ _ _ rfl
  have r7 := RA.new S6 1040 q40 13 0
  have a7 := nw_a S6 1040 q40 13 0
  obtain ⟨S7, eS7⟩ : ∃ S7, S7 = fb_new S6 1040 q40 13 0 := ⟨_, rfl⟩
  rw [← eS7] at hM e7_ r7 a7
  have hO : RA S7 1000 4 (sn S 1000) := hO.ext e7_ (by omega)
  have eX : Ext (fun x => x = 1000 ∨ x = 1001 ∨ (1009 ≤ x ∧ x ≤ 1014) ∨ x = 1020 ∨ x = 1040) S S7 := eX.trans (e7_.mono (fun x hx => by omega))
  have kk0 : sa S7 1000 = sa S 1000 := (AA.ext e7_ (by omega)).trans kk0
  have r1 : RA S7 1020 10 0 := r1.ext e7_ (by omega)
  have p0 : PA S7 1000 0 1020 := p0.ext e7_ (by omega) (by omega)
  have r3 : RA S7 1001 6 12 := r3.ext e7_ (by omega)
  have p1 : PA S7 1000 1 1001 := p1.ext e7_ (by omega) (by omega)
  have r5 : RA S7 1009 10 5 := r5.ext e7_ (by omega)
  have m5 : ∀ i, i < 5 → PA S7 1009 i (1009 + 1 + i) ∧ RA S7 (1009 + 1 + i) 6 6 := fun i hi => ⟨(m5 i hi).1.ext e7_ (by omega) (by omega), (m5 i hi).2.ext e7_ (by omega)⟩
  have p3 : PA S7 1000 3 1009 := p3.ext e7_ (by omega) (by omega)
  have ka_0 : sa S7 1000 = sa S6 1000 := AA.ext e7_ (by omega)
  refine W.eq (g2 := F0 mv 42 ls [.ref (sa S7 1040), .ref (sa S7 1000)]) (by rw [a7, ka_0]) ?_
  rw [← ka_0] at hl
  refine fb_put (r := 1000) hx hb hown hts hin4 tyX4 tyX4_ok nmX4 hM (hO.1) (ce4 (hO.2.1)) rfl 4 (by decide) (hts (.fieldLink RX4 28 "FeatherBedsLaw$Sim" "ticks" "[LFeatherBedsLaw$Tick;") (by decide +kernel)) (fun _ h9 => h9) rfl (ty := tyX4 4) (by decide +kernel) rfl rfl (Nat.le_of_ble_eq_true rfl) dX4_init_42 (upk_4_4 (v := some (sa S7 1040)) (hO.2.1)) (w' := ((fb_setp S7 1000 4 (some (sa S7 1040))), V, (sT V), (rB (va_up (va_up I 1001 (fun _ => 0)) 1000 (upd (I 1000) 2 10)) (1009 + 1) 5 (fun _ _ => 0)))) ⟨rfl, rfl, rfl⟩ (fun H locs hM => ?_)
  obtain ⟨S8, eS8⟩ : ∃ S8, S8 = (fb_setp S7 1000 4 (some (sa S7 1040))) := ⟨_, rfl⟩
  rw [← eS8] at hM
  have e8_ : Ext (fun x => x = 1000) S7 S8 := by rw [eS8]; exact Ext.setp S7 4 _ rfl
  have ks_8 : sa S8 = sa S7 := by rw [eS8]; rfl
  have hO : RA S8 1000 4 (sn S 1000) := by rw [eS8]; exact hO
  have eX : Ext (fun x => x = 1000 ∨ x = 1001 ∨ (1009 ≤ x ∧ x ≤ 1014) ∨ x = 1020 ∨ x = 1040) S S8 := eX.trans (e8_.mono (fun x hx => by omega))
  have kk0 : sa S8 1000 = sa S 1000 := by rw [ks_8]; exact kk0
  have r1 : RA S8 1020 10 0 := by rw [eS8]; exact r1
  have p0 : PA S8 1000 0 1020 := by rw [eS8]; exact p0.setp _ (Or.inr (by omega))
  have r3 : RA S8 1001 6 12 := by rw [eS8]; exact r3
  have p1 : PA S8 1000 1 1001 := by rw [eS8]; exact p1.setp _ (Or.inr (by omega))
  have r5 : RA S8 1009 10 5 := by rw [eS8]; exact r5
  have m5 : ∀ i, i < 5 → PA S8 1009 i (1009 + 1 + i) ∧ RA S8 (1009 + 1 + i) 6 6 := fun i hi => ⟨(m5 i hi).1.ext e8_ (by omega) (by omega), (m5 i hi).2.ext e8_ (by omega)⟩
  have p3 : PA S8 1000 3 1009 := by rw [eS8]; exact p3.setp _ (Or.inr (by omega))
  have r7 : RA S8 1040 13 0 := by rw [eS8]; exact r7
  have p4 : PA S8 1000 4 1040 := by rw [eS8]; exact PA.put S7 1000 4 1040
  rw [← ks_8] at hl
  rw [hQ]
  refine W.widen (show _ ≤ 9 from Nat.le_of_ble_eq_true rfl) (show _ ≤ 47 from Nat.le_of_ble_eq_true rfl) ?_
  exact fb_vret hx hb hr hlocks hM (⟨S8, rfl, ⟨⟨hO.1, hO.2.1⟩, ⟨p0, p1, p3, p4⟩, r1, r3, r5, r7, fun i hi => absurd hi (Nat.not_lt_zero _), fun c hc => m5 c hc, fun t ht => absurd ht (Nat.not_lt_zero _)⟩, eX, kk0⟩) dX4_init_45

abbrev rm_X5_init : Room := { frames := 1, cells := 74, slots := 360, locals := 20 }
set_option maxHeartbeats 4000000 in
set_option maxRecDepth 100000 in
theorem c_X5_init (D : va_G) (y : Nat → ClassId) (l : Launch) (S : fb_Sh) (V I : fb_V) (o a : Nat) (ha : sa S o = a) (h1 : o ∈ sR S) (h2 : sk S o = 14) (hfr : ∀ x, o + 1 ≤ x → x ≤ o + 90 → x ∉ sR S) (c r d : Nat) (hc1 : 1 ≤ c) (hc6 : c ≤ 6) (hr1 : 1 ≤ r) (hr6 : r ≤ 6) : CV D y l yX5_init wsX5_init rm_X5_init [.ref a, .int (nI c), .int (nI r), .int (nI d)] (S, V, (sT V), I) (fun u => ∃ S2, u = (S2, V, sT V, (rB (rB (va_up I o (upd (upd (upd (I o) 0 (nI c)) 1 (nI r)) 2 (nI d))) (o + 9 + 1) (c * r) (fun _ _ => 0)) (o + 49 + 1) (c * r) (fun _ _ => 0))) ∧ LtAt S2 o (c * r) ∧ Ext (fun x => x = o ∨ (o + 9 ≤ x ∧ x ≤ o + 9 + c * r) ∨ (o + 49 ≤ x ∧ x ≤ o + 49 + c * r)) S S2 ∧ sa S2 o = sa S o) 74 360 := by
  refine CV.of (cc := cX5_init) (maxL := 4) (ret := none) (by decide) rfl (Nat.le_of_ble_eq_true rfl) ?_
  intro pv ev s mv below meth cv A hx hb hml hr hown hts hlocks hname hM ls hl
  have hown : s.vm.findClass RX5 = some mv.cls := hown
  have hl : lv_has ls 4 [(0, .ref a), (1, .int (nI c)), (2, .int (nI r)), (3, .int (nI d))] := hl
  have hin14 : ∀ x ∈ wsX50, x ∈ wsX5_init := by decide +kernel
  obtain ⟨Q, hQ⟩ : ∃ Q, Q = MQ below (va_Qv (fun u => ∃ S2, u = (S2, V, sT V, (rB (rB (va_up I o (upd (upd (upd (I o) 0 (nI c)) 1 (nI r)) 2 (nI d))) (o + 9 + 1) (c * r) (fun _ _ => 0)) (o + 49 + 1) (c * r) (fun _ _ => 0))) ∧ LtAt S2 o (c * r) ∧ Ext (fun x => x = o ∨ (o + 9 ≤ x ∧ x ≤ o + 9 + c * r) ∨ (o + 49 ≤ x ∧ x ≤ o + 49 + c * r)) S S2 ∧ sa S2 o = sa S o) (fun u t => fb_P D y A u t) A) (([.ref a, .int (nI c), .int (nI r), .int (nI d)] : List Value).toArray) s 74 360 A := ⟨_, rfl⟩
  rw [← hQ]
  subst ha
  have hn1 : 1 ≤ c * r := Nat.mul_le_mul hc1 hr1
  have hn36 : c * r ≤ 36 := Nat.mul_le_mul hc6 hr6
  have hO : RA S o 14 (sn S o) := ⟨h1, h2, rfl⟩
  have f09 : ∀ x, o + 9 ≤ x → x ≤ o + 9 + c * r → x ∉ sR S := fun x _ _ => hfr _ (by omega) (by omega)
  have f49 : ∀ x, o + 49 ≤ x → x ≤ o + 49 + c * r → x ∉ sR S := fun x _ _ => hfr _ (by omega) (by omega)
  have eX : Ext (fun x => x = o ∨ (o + 9 ≤ x ∧ x ≤ o + 9 + c * r) ∨ (o + 49 ≤ x ∧ x ≤ o + 49 + c * r)) S S := Ext.rf _ _
  have kk0 : sa S o = sa S o := rfl
  refine lv_aload_n hx hb dX5_init_0 rfl (lv_at hl 0 rfl) ?_
  refine W.objInit hx hb hown (hts (.methodLink RX5 1 objectInit) (by decide +kernel)) (hts (.instanceMethod objectInit) (by decide +kernel)) (hts (.code objectInit ⟨#[0xb1]⟩ 1 none) (by decide +kernel)) rfl (by rw [hml]; exact hl.1) rfl dX5_init_1 (Nat.le_of_ble_eq_true rfl) (Nat.le_of_ble_eq_true rfl) ?_
  refine W.eq (g2 := F0 mv 4 ls []) rfl ?_
  refine lv_aload_n hx hb dX5_init_4 rfl (lv_at hl 0 rfl) ?_
  refine lv_iload_n hx hb dX5_init_5 rfl (lv_at hl 1 rfl) ?_
  refine fb_put (r := o) hx hb hown hts hin14 tyX5 tyX5_ok nmX5 hM (hO.1) (ce14 (hO.2.1)) rfl 0 (by decide) (hts (.fieldLink RX5 7 "FeatherBedsLaw$Tick" "columns" "I") (by decide +kernel)) (fun _ h9 => h9) rfl (ty := .int) (by decide +kernel) rfl rfl (Nat.le_of_ble_eq_true rfl) dX5_init_6 (up_I (j := 0) (v := nI c) (by rw [ce14 (S := S) (hO.2.1)]; simp [va_up, upd])) (w' := (S, V, (sT V), (va_up I o (upd (I o) 0 (nI c))))) ⟨rfl, rfl, rfl⟩ (fun H locs hM => ?_)
  refine lv_aload_n hx hb dX5_init_9 rfl (lv_at hl 0 rfl) ?_
  refine lv_iload_n hx hb dX5_init_10 rfl (lv_at hl 2 rfl) ?_
  refine fb_put (r := o) hx hb hown hts hin14 tyX5 tyX5_ok nmX5 hM (hO.1) (ce14 (hO.2.1)) rfl 1 (by decide) (hts (.fieldLink RX5 13 "FeatherBedsLaw$Tick" "rows" "I") (by decide +kernel)) (fun _ h9 => h9) rfl (ty := .int) (by decide +kernel) rfl rfl (Nat.le_of_ble_eq_true rfl) dX5_init_11 (up_I (j := 1) (v := nI r) (by rw [ce14 (S := S) (hO.2.1)]; simp [va_up, upd])) (w' := (S, V, (sT V), (va_up (va_up I o (upd (I o) 0 (nI c))) o (upd ((va_up I o (upd (I o) 0 (nI c))) o) 1 (nI r))))) ⟨rfl, rfl, rfl⟩ (fun H locs hM => ?_)
  refine lv_aload_n hx hb dX5_init_14 rfl (lv_at hl 0 rfl) ?_
  refine lv_iload_n hx hb dX5_init_15 rfl (lv_at hl 3 rfl) ?_
  refine fb_put (r := o) hx hb hown hts hin14 tyX5 tyX5_ok nmX5 hM (hO.1) (ce14 (hO.2.1)) rfl 2 (by decide) (hts (.fieldLink RX5 16 "FeatherBedsLaw$Tick" "density" "I") (by decide +kernel)) (fun _ h9 => h9) rfl (ty := .int) (by decide +kernel) rfl rfl (Nat.le_of_ble_eq_true rfl) dX5_init_16 (up_I (j := 2) (v := nI d) (by rw [ce14 (S := S) (hO.2.1)]; simp [va_up, upd])) (w' := (S, V, (sT V), (va_up (va_up (va_up I o (upd (I o) 0 (nI c))) o (upd ((va_up I o (upd (I o) 0 (nI c))) o) 1 (nI r))) o (upd ((va_up (va_up I o (upd (I o) 0 (nI c))) o (upd ((va_up I o (upd (I o) 0 (nI c))) o) 1 (nI r))) o) 2 (nI d))))) ⟨rfl, rfl, rfl⟩ (fun H locs hM => ?_)
  have eI : (va_up (va_up (va_up I o (upd (I o) 0 (nI c))) o (upd ((va_up I o (upd (I o) 0 (nI c))) o) 1 (nI r))) o (upd ((va_up (va_up I o (upd (I o) 0 (nI c))) o (upd ((va_up I o (upd (I o) 0 (nI c))) o) 1 (nI r))) o) 2 (nI d))) = (va_up I o (upd (upd (upd (I o) 0 (nI c)) 1 (nI r)) 2 (nI d))) := by rw [va_up_self, va_up_self, up_up, up_up]
  rw [eI] at hM
  clear eI
  refine lv_aload_n hx hb dX5_init_19 rfl (lv_at hl 0 rfl) ?_
  refine lv_iload_n hx hb dX5_init_20 rfl (lv_at hl 1 rfl) ?_
  refine lv_iload_n hx hb dX5_init_21 rfl (lv_at hl 2 rfl) ?_
  refine lv_imul hx hb dX5_init_22 ?_
  refine W.eq (g2 := F0 mv _ ls (.int (nI (c * r)) :: .ref (sa S o) :: [])) (by rw [show ((nI c) * (nI r) : Int32) = nI (c * r) from pk_mul _ _]) ?_
  refine lv_bipush (v := 6) hx hb dX5_init_23 (by decide) ?_
  refine fb_mnaI hx hb hown (hts (.classLink RX5 19 "[[I") (by decide +kernel)) (hts (.arrayClass .int) (by decide +kernel)) hM (N := c * r) (K := 6) (nI_pos (by omega)) (by decide) (nI_clamp (by omega)) (by decide) (by omega) (by decide) (by show _ ≤ 74; omega) (by show _ ≤ 360; omega) dX5_init_25 (o + 9) (fun x hx z => f09 x z.1 z.2 hx) (fun q09 raq09 H hM => ?_)
  obtain ⟨r9, a9, m9, e9_⟩ := mk2_ok S (o + 9) q09 (c * r) 6 10 6 raq09
  obtain ⟨S9, eS9⟩ : ∃ S9, S9 = fb_mk2 S (o + 9) q09 (c * r) 6 10 6 raq09 := ⟨_, rfl⟩
  rw [← eS9] at hM e9_ r9 a9 m9
  have hO : RA S9 o 14 (sn S o) := hO.ext e9_ (by omega)
  have f49 : ∀ x, o + 49 ≤ x → x ≤ o + 49 + c * r → x ∉ sR S9 := fun x h1 h2 => NA.ext e9_ (by omega) (f49 x h1 h2)
  have eX : Ext (fun x => x = o ∨ (o + 9 ≤ x ∧ x ≤ o + 9 + c * r) ∨ (o + 49 ≤ x ∧ x ≤ o + 49 + c * r)) S S9 := eX.trans (e9_.mono (fun x hx => by omega))
  have kk0 : sa S9 o = sa S o := (AA.ext e9_ (by omega)).trans kk0
  have ka_0 : sa S9 o = sa S o := AA.ext e9_ (by omega)
  refine W.eq (g2 := F0 mv 29 ls [.ref (sa S9 (o + 9)), .ref (sa S9 o)]) (by rw [a9, ka_0]) ?_
  rw [← ka_0] at hl
  refine fb_put (r := o) hx hb hown hts hin14 tyX5 tyX5_ok nmX5 hM (hO.1) (ce14 (hO.2.1)) rfl 3 (by decide) (hts (.fieldLink RX5 21 "FeatherBedsLaw$Tick" "squares" "[[I") (by decide +kernel)) (fun _ h9 => h9) rfl (ty := tyX5 3) (by decide +kernel) rfl rfl (Nat.le_of_ble_eq_true rfl) dX5_init_29 (upk_14_3 (v := some (sa S9 (o + 9))) (hO.2.1)) (w' := ((fb_setp S9 o 3 (some (sa S9 (o + 9)))), V, (sT V), (rB (va_up I o (upd (upd (upd (I o) 0 (nI c)) 1 (nI r)) 2 (nI d))) (o + 9 + 1) (c * r) (fun _ _ => 0)))) ⟨rfl, rfl, rfl⟩ (fun H locs hM => ?_)
  obtain ⟨S10, eS10⟩ : ∃ S10, S10 = (fb_setp S9 o 3 (some (sa S9 (o + 9)))) := ⟨_, rfl⟩
  rw [← eS10] at hM
  have e10_ : Ext (fun x => x = o) S9 S10 := by rw [eS10]; exact Ext.setp S9 3 _ rfl
  have ks_10 : sa S10 = sa S9 := by rw [eS10]; rfl
  have hO : RA S10 o 14 (sn S o) := by rw [eS10]; exact hO
  have f49 : ∀ x, o + 49 ≤ x → x ≤ o + 49 + c * r → x ∉ sR S10 := fun x h1 h2 => NA.ext e10_ (by omega) (f49 x h1 h2)
  have eX : Ext (fun x => x = o ∨ (o + 9 ≤ x ∧ x ≤ o + 9 + c * r) ∨ (o + 49 ≤ x ∧ x ≤ o + 49 + c * r)) S S10 := eX.trans (e10_.mono (fun x hx => by omega))
  have kk0 : sa S10 o = sa S o := by rw [ks_10]; exact kk0
  have r9 : RA S10 (o + 9) 10 (c * r) := by rw [eS10]; exact r9
  have m9 : ∀ i, i < (c * r) → PA S10 (o + 9) i (o + 9 + 1 + i) ∧ RA S10 (o + 9 + 1 + i) 6 6 := fun i hi => ⟨(m9 i hi).1.ext e10_ (by omega) (by omega), (m9 i hi).2.ext e10_ (by omega)⟩
  have p3 : PA S10 o 3 (o + 9) := by rw [eS10]; exact PA.put S9 o 3 (o + 9)
  rw [← ks_10] at hl
  refine lv_aload_n hx hb dX5_init_32 rfl (lv_at hl 0 rfl) ?_
  refine lv_iload_n hx hb dX5_init_33 rfl (lv_at hl 1 rfl) ?_
  refine lv_iload_n hx hb dX5_init_34 rfl (lv_at hl 2 rfl) ?_
  refine lv_imul hx hb dX5_init_35 ?_
  refine W.eq (g2 := F0 mv _ ls (.int (nI (c * r)) :: .ref (sa S10 o) :: [])) (by rw [show ((nI c) * (nI r) : Int32) = nI (c * r) from pk_mul _ _]) ?_
  refine lv_iconst (v := 2) hx hb dX5_init_36 (by decide) ?_
  refine fb_mnaZ hx hb hown (hts (.classLink RX5 24 "[[Z") (by decide +kernel)) (hts (.arrayClass .boolean) (by decide +kernel)) hM (N := c * r) (K := 2) (nI_pos (by omega)) (by decide) (nI_clamp (by omega)) (by decide) (by omega) (by decide) (by show _ ≤ 74; omega) (by show _ ≤ 360; omega) dX5_init_37 (o + 49) (fun x hx z => f49 x z.1 z.2 hx) (fun q49 raq49 H hM => ?_)
  obtain ⟨r11, a11, m11, e11_⟩ := mk2_ok S10 (o + 49) q49 (c * r) 2 11 7 raq49
  obtain ⟨S11, eS11⟩ : ∃ S11, S11 = fb_mk2 S10 (o + 49) q49 (c * r) 2 11 7 raq49 := ⟨_, rfl⟩
  rw [← eS11] at hM e11_ r11 a11 m11
  have hO : RA S11 o 14 (sn S o) := hO.ext e11_ (by omega)
  have eX : Ext (fun x => x = o ∨ (o + 9 ≤ x ∧ x ≤ o + 9 + c * r) ∨ (o + 49 ≤ x ∧ x ≤ o + 49 + c * r)) S S11 := eX.trans (e11_.mono (fun x hx => by omega))
  have kk0 : sa S11 o = sa S o := (AA.ext e11_ (by omega)).trans kk0
  have r9 : RA S11 (o + 9) 10 (c * r) := r9.ext e11_ (by omega)
  have m9 : ∀ i, i < (c * r) → PA S11 (o + 9) i (o + 9 + 1 + i) ∧ RA S11 (o + 9 + 1 + i) 6 6 := fun i hi => ⟨(m9 i hi).1.ext e11_ (by omega) (by omega), (m9 i hi).2.ext e11_ (by omega)⟩
  have p3 : PA S11 o 3 (o + 9) := p3.ext e11_ (by omega) (by omega)
  have ka_0 : sa S11 o = sa S10 o := AA.ext e11_ (by omega)
  refine W.eq (g2 := F0 mv 41 ls [.ref (sa S11 (o + 49)), .ref (sa S11 o)]) (by rw [a11, ka_0]) ?_
  rw [← ka_0] at hl
  refine fb_put (r := o) hx hb hown hts hin14 tyX5 tyX5_ok nmX5 hM (hO.1) (ce14 (hO.2.1)) rfl 4 (by decide) (hts (.fieldLink RX5 26 "FeatherBedsLaw$Tick" "sewn" "[[Z") (by decide +kernel)) (fun _ h9 => h9) rfl (ty := tyX5 4) (by decide +kernel) rfl rfl (Nat.le_of_ble_eq_true rfl) dX5_init_41 (upk_14_4 (v := some (sa S11 (o + 49))) (hO.2.1)) (w' := ((fb_setp S11 o 4 (some (sa S11 (o + 49)))), V, (sT V), (rB (rB (va_up I o (upd (upd (upd (I o) 0 (nI c)) 1 (nI r)) 2 (nI d))) (o + 9 + 1) (c * r) (fun _ _ => 0)) (o + 49 + 1) (c * r) (fun _ _ => 0)))) ⟨rfl, rfl, rfl⟩ (fun H locs hM => ?_)
  obtain ⟨S12, eS12⟩ : ∃ S12, S12 = (fb_setp S11 o 4 (some (sa S11 (o + 49)))) := ⟨_, rfl⟩
  rw [← eS12] at hM
  have e12_ : Ext (fun x => x = o) S11 S12 := by rw [eS12]; exact Ext.setp S11 4 _ rfl
  have ks_12 : sa S12 = sa S11 := by rw [eS12]; rfl
  have hO : RA S12 o 14 (sn S o) := by rw [eS12]; exact hO
  have eX : Ext (fun x => x = o ∨ (o + 9 ≤ x ∧ x ≤ o + 9 + c * r) ∨ (o + 49 ≤ x ∧ x ≤ o + 49 + c * r)) S S12 := eX.trans (e12_.mono (fun x hx => by omega))
  have kk0 : sa S12 o = sa S o := by rw [ks_12]; exact kk0
  have r9 : RA S12 (o + 9) 10 (c * r) := by rw [eS12]; exact r9
  have m9 : ∀ i, i < (c * r) → PA S12 (o + 9) i (o + 9 + 1 + i) ∧ RA S12 (o + 9 + 1 + i) 6 6 := fun i hi => ⟨(m9 i hi).1.ext e12_ (by omega) (by omega), (m9 i hi).2.ext e12_ (by omega)⟩
  have p3 : PA S12 o 3 (o + 9) := by rw [eS12]; exact p3.setp _ (Or.inr (by omega))
  have r11 : RA S12 (o + 49) 11 (c * r) := by rw [eS12]; exact r11
  have m11 : ∀ i, i < (c * r) → PA S12 (o + 49) i (o + 49 + 1 + i) ∧ RA S12 (o + 49 + 1 + i) 7 2 := fun i hi => ⟨(m11 i hi).1.ext e12_ (by omega) (by omega), (m11 i hi).2.ext e12_ (by omega)⟩
  have p4 : PA S12 o 4 (o + 49) := by rw [eS12]; exact PA.put S11 o 4 (o + 49)
  rw [← ks_12] at hl
  rw [hQ]
  refine W.widen (show _ ≤ 74 by omega) (show _ ≤ 360 by omega) ?_
  exact fb_vret hx hb hr hlocks hM (⟨S12, rfl, ⟨⟨hO.1, hO.2.1⟩, p3, p4, r9, r11, fun q hq => ⟨m9 q hq, m11 q hq⟩⟩, eX, kk0⟩) dX5_init_44
