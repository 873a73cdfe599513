abbrev rm_X4_sack : Room := { frames := 0, cells := 2, slots := 19, locals := 0 }
set_option maxHeartbeats 4000000 in
set_option maxRecDepth 100000 in
theorem c_X4_sack (D : va_G) (y : Nat → ClassId) (l : Launch) (S : fb_Sh) (V I : fb_V) (ns nt : Nat) (rho cf rf : Nat → Nat) (hA : SmAt S ns nt rho cf rf) (hn12 : ns < 12) (fA : 1020 + (ns + 1) ∉ sR S) (fB : 1030 + ns ∉ sR S) (d : Int32) : CV D y l yX4_sack wsX4_sack rm_X4_sack [.ref (sa S 1000), .int d] (S, V, (sT V), I) (fun u => ∃ S2, u = (S2, V, sT V, (va_up (va_up I (1030 + ns) (fun _ => 0)) 1001 (upd (I 1001) ns d))) ∧ SmAt S2 (ns + 1) nt (va_up rho ns (1030 + ns)) cf rf ∧ Ext (fun x => x = 1000 ∨ x = 1020 + (ns + 1) ∨ x = 1030 + ns) S S2 ∧ sa S2 1000 = sa S 1000) 2 19 := by
  refine CV.of (cc := cX4_sack) (maxL := 4) (ret := none) (by decide) rfl (Nat.le_of_ble_eq_true rfl) ?_
  intro pv ev s mv below meth cv A hx hb hml hr hown hts hlocks hname hM ls hl
  have hown : s.vm.findClass RX4 = some mv.cls := hown
  have hl : lv_has ls 4 [(0, .ref (sa S 1000)), (1, .int d)] := hl
  have hin4 : ∀ x ∈ wsX40, x ∈ wsX4_sack := by decide +kernel
  obtain ⟨Q, hQ⟩ : ∃ Q, Q = MQ below (va_Qv (fun u => ∃ S2, u = (S2, V, sT V, (va_up (va_up I (1030 + ns) (fun _ => 0)) 1001 (upd (I 1001) ns d))) ∧ SmAt S2 (ns + 1) nt (va_up rho ns (1030 + ns)) cf rf ∧ Ext (fun x => x = 1000 ∨ x = 1020 + (ns + 1) ∨ x = 1030 + ns) S S2 ∧ sa S2 1000 = sa S 1000) (fun u t => fb_P D y A u t) A) (([.ref (sa S 1000), .int d] : List Value).toArray) s 2 19 A := ⟨_, rfl⟩
  rw [← hQ]
  refine lv_aload_n hx hb dX4_sack_0 rfl (lv_at hl 0 rfl) ?_
  refine fb_get (r := 1000) hx hb hown hts hin4 hM (hA.1.1) (ce4 (hA.1.2)) rfl 0 (by decide) (hts (.fieldLink RX4 9 "FeatherBedsLaw$Sim" "sacks" "[[I") (by decide +kernel)) (fun _ h9 => h9) (v := .ref (sa S (1020 + ns))) (congrArg (fun z => some (va_rf z)) (hA.2.1.1)) dX4_sack_1 ?_
  refine fb_alen (r := (1020 + ns)) hx hb hM (hA.2.2.1.1) (ce10 (hA.2.2.1.2.1)) 4 rfl (v := nI ns) (congrArg Int32.ofNat (hA.2.2.1.2.2)) dX4_sack_4 ?_
  refine lv_iconst (v := 1) hx hb dX4_sack_5 (by decide) ?_
  refine lv_iadd hx hb dX4_sack_6 ?_
  refine W.eq (g2 := F0 mv _ ls (.int (nI (ns + 1)) :: [])) (by rw [show ((nI ns) + 1 : Int32) = nI (ns + 1) from nI_1 _]) ?_
  refine fb_mka10 hx hb hown (hts (.classLink RX4 7 "[I") (by decide +kernel)) hM (n := ns + 1) (nI_pos (by omega)) (nI_clamp (by omega)) (by omega) (by show _ ≤ 2; omega) (by show _ ≤ 19; omega) dX4_sack_7 (1020 + (ns + 1)) fA (fun q9 H hM => ?_)
  have e1 : Ext (fun x => x = (1020 + (ns + 1))) S (fb_new S (1020 + (ns + 1)) q9 10 (ns + 1)) := Ext.new _ _ _ _ rfl
  have r1 := RA.new S (1020 + (ns + 1)) q9 10 (ns + 1)
  have a1 := nw_a S (1020 + (ns + 1)) q9 10 (ns + 1)
  have s0 := setps_0 S (1020 + (ns + 1)) q9 10 (ns + 1) (fun j => sa (fb_new S (1020 + (ns + 1)) q9 10 (ns + 1)) (rho j))
  obtain ⟨S1, eS1⟩ : ∃ S1, S1 = fb_new S (1020 + (ns + 1)) q9 10 (ns + 1) := ⟨_, rfl⟩
  rw [← eS1] at hM e1 r1 a1 s0
  rw [← s0] at hM
  have hA1 : SmAt S1 ns nt rho cf rf := hA.grow e1 (fun x hx => by rw [hx]; exact fA)
  have k0 : sa S1 1000 = sa S 1000 := AA.ext e1 (by omega)
  have fB1 : 1030 + ns ∉ sR S1 := NA.ext e1 (by omega) fB
  have hAk : ∀ k, SmAt (fb_setps S1 (1020 + (ns + 1)) (ptf (fun j => sa S1 (rho j)) k)) ns nt rho cf rf := fun k => hA1.pxt (Pxt.setps S1 _ _) (by omega) (by omega) (by omega) (by omega) (fun x _ => by omega)
  have rk : ∀ k, RA (fb_setps S1 (1020 + (ns + 1)) (ptf (fun j => sa S1 (rho j)) k)) (1020 + (ns + 1)) 10 (ns + 1) := fun k => (Pxt.setps S1 _ _).ra r1
  rw [← k0] at hl
  refine W.eq (g2 := F0 mv 10 ls [.ref (sa S1 (1020 + (ns + 1)))]) (by rw [a1]) ?_
  refine lv_astore_n (lv' := [(2, .ref (sa S1 (1020 + (ns + 1)))), (0, .ref (sa S1 1000)), (1, .int d)]) hx hb dX4_sack_10 rfl hl (by decide) rfl (fun ls hl => ?_)
  refine lv_iconst (v := 0) hx hb dX4_sack_11 (by decide) ?_
  refine lv_istore_n (lv' := [(3, .int 0), (2, .ref (sa S1 (1020 + (ns + 1)))), (0, .ref (sa S1 1000)), (1, .int d)]) hx hb dX4_sack_12 rfl hl (by decide) rfl (fun ls hl => ?_)
  have LP_13 : ∀ (n : Nat) (k : Nat) (hk : k ≤ ns), ns - k < n → ∀ (H : Heap) (locs : List Loc), fb_M D y A s ((fb_setps S1 (1020 + (ns + 1)) (ptf (fun j => sa S1 (rho j)) k)), V, (sT V), I) H locs → ∀ ls, lv_has ls 4 [(3, .int (nI k)), (2, .ref (sa S1 (1020 + (ns + 1)))), (0, .ref (sa S1 1000)), (1, .int d)] → W pv l ev rm_X4_sack s mv ([.ref (sa S 1000), .int d] : List Value).toArray below meth cv H locs (0 + 1) (0 + (ns + 1)) Q (F0 mv 13 ls []) := by
    intro n_13
    induction n_13 with
    | zero => intro k hk hmu; exact absurd hmu (Nat.not_lt_zero _)
    | succ n_13 ih_13 =>
      intro k hk hmu H locs hM ls hl
      refine lv_iload_n hx hb dX4_sack_13 rfl (lv_at hl 0 rfl) ?_
      refine lv_aload_n hx hb dX4_sack_14 rfl (lv_at hl 2 rfl) ?_
      refine fb_get (r := 1000) hx hb hown hts hin4 hM ((hAk k).1.1) (ce4 ((hAk k).1.2)) rfl 0 (by decide) (hts (.fieldLink RX4 9 "FeatherBedsLaw$Sim" "sacks" "[[I") (by decide +kernel)) (fun _ h9 => h9) (v := .ref (sa (fb_setps S1 (1020 + (ns + 1)) (ptf (fun j => sa S1 (rho j)) k)) (1020 + ns))) (congrArg (fun z => some (va_rf z)) ((hAk k).2.1.1)) dX4_sack_15 ?_
      refine fb_alen (r := (1020 + ns)) hx hb hM ((hAk k).2.2.1.1) (ce10 ((hAk k).2.2.1.2.1)) 4 rfl (v := nI ns) (congrArg Int32.ofNat ((hAk k).2.2.1.2.2)) dX4_sack_18 ?_
      refine lv_icmp_ge (tgt := 37) hx hb dX4_sack_19 (by decide) (fun c_1 => ?_) (fun c_1 => ?_)
      · skip
        have e_k : k = ns := by have := (nI_leI (a := ns) (b := k) (by omega) (by omega)).mp c_1; omega
        have e_k := Eq.symm e_k
        subst e_k
        refine lv_aload_n hx hb dX4_sack_37 rfl (lv_at hl 1 rfl) ?_
        refine lv_aload_n hx hb dX4_sack_38 rfl (lv_at hl 2 rfl) ?_
        refine fb_get (r := 1000) hx hb hown hts hin4 hM ((hAk ns).1.1) (ce4 ((hAk ns).1.2)) rfl 0 (by decide) (hts (.fieldLink RX4 9 "FeatherBedsLaw$Sim" "sacks" "[[I") (by decide +kernel)) (fun _ h9 => h9) (v := .ref (sa (fb_setps S1 (1020 + (ns + 1)) (ptf (fun j => sa S1 (rho j)) ns)) (1020 + ns))) (congrArg (fun z => some (va_rf z)) ((hAk ns).2.1.1)) dX4_sack_39 ?_
        refine fb_alen (r := (1020 + ns)) hx hb hM ((hAk ns).2.2.1.1) (ce10 ((hAk ns).2.2.1.2.1)) 4 rfl (v := nI ns) (congrArg Int32.ofNat ((hAk ns).2.2.1.2.2)) dX4_sack_42 ?_
        refine lv_bipush (v := 6) hx hb dX4_sack_43 (by decide) ?_
        obtain ⟨S3, eS3⟩ : ∃ S3, S3 = (fb_setps S1 (1020 + (ns + 1)) (ptf (fun j => sa S1 (rho j)) ns)) := ⟨_, rfl⟩
        have hA3 := hAk ns
        have r3 := rk ns
        have p3 : ∀ i, i < ns → PA S3 (1020 + (ns + 1)) i (rho i) := fun i hi => by rw [eS3]; show sp (fb_setps S1 (1020 + (ns + 1)) (ptf (fun j => sa S1 (rho j)) ns)) (1020 + (ns + 1)) i = some (sa S1 (rho i)); rw [setps_p]; exact if_pos hi
        have fB3 : 1030 + ns ∉ sR S3 := by rw [eS3]; exact fB1
        have e3 : Ext (fun x => x = (1020 + (ns + 1))) S S3 := by rw [eS3]; exact e1.trans (setps_E S1 _ _)
        have k3 : sa S3 = sa S1 := by rw [eS3]; rfl
        rw [← eS3] at hM hA3 r3
        rw [← k3] at hl
        refine fb_mka6 hx hb (hts (.arrayClass .int) (by decide +kernel)) hM (n := 6) (by decide) (by decide) (by decide) (by show _ ≤ 2; omega) (by show _ ≤ 19; omega) dX4_sack_45 (1030 + ns) fB3 (fun q8 H hM => ?_)
        have e4 : Ext (fun x => x = (1030 + ns)) S3 (fb_new S3 (1030 + ns) q8 6 6) := Ext.new _ _ _ _ rfl
        have r4 := RA.new S3 (1030 + ns) q8 6 6
        have a4 := nw_a S3 (1030 + ns) q8 6 6
        obtain ⟨S4, eS4⟩ : ∃ S4, S4 = fb_new S3 (1030 + ns) q8 6 6 := ⟨_, rfl⟩
        rw [← eS4] at hM e4 r4 a4
        have hA4 : SmAt S4 ns nt rho cf rf := hA3.grow e4 (fun x hx => by rw [hx]; exact fB3)
        have rA4 : RA S4 (1020 + (ns + 1)) 10 (ns + 1) := r3.ext e4 (by omega)
        have p4 : ∀ i, i < ns → PA S4 (1020 + (ns + 1)) i (rho i) := fun i hi => (p3 i hi).ext e4 (by omega) (fun z => fB3 (by rw [← z]; exact (hA3.2.2.2.2.2.2.1 i hi).2.1))
        have k4 : sa S4 1000 = sa S3 1000 := AA.ext e4 (by omega)
        have k5 : sa S4 (1020 + (ns + 1)) = sa S3 (1020 + (ns + 1)) := AA.ext e4 (by omega)
        rw [← k4, ← k5] at hl
        refine W.eq (g2 := F0 mv 47 ls [.ref (sa S4 (1030 + ns)), .int (nI ns), .ref (sa S4 (1020 + (ns + 1)))]) (by rw [a4, k5, k3]) ?_
        refine fb_aastA (t := .int) (r := (1020 + (ns + 1))) hx hb hM rA4.1 (ce10 rA4.2.1) 4 0 rfl (by simp [fb_over]) rfl (fun h => h) (v := (1030 + ns)) r4.1 (ce6 r4.2.1) (k := ns) (nI_clamp (by omega)) (by rw [rA4.2.2]; exact vp_in_nI (by omega) (by omega)) dX4_sack_47 (upa_10 (v := some (sa S4 (1030 + ns))) rA4.2.1) (w' := (fb_setp S4 (1020 + (ns + 1)) ns (some (sa S4 (1030 + ns))), V, sT V, (va_up I (1030 + ns) (fun _ => 0)))) ⟨rfl, rfl, rfl⟩ (fun H locs hM => ?_)
        have x5 := Pxt.setp S4 (1020 + (ns + 1)) ns (some (sa S4 (1030 + ns)))
        have e5 : Ext (fun x => x = (1020 + (ns + 1))) S4 (fb_setp S4 (1020 + (ns + 1)) ns (some (sa S4 (1030 + ns)))) := Ext.setp _ _ _ rfl
        have pn5 := PA.put S4 (1020 + (ns + 1)) ns (1030 + ns)
        obtain ⟨S5, eS5⟩ : ∃ S5, S5 = fb_setp S4 (1020 + (ns + 1)) ns (some (sa S4 (1030 + ns))) := ⟨_, rfl⟩
        have p5 : ∀ i, i < ns → PA S5 (1020 + (ns + 1)) i (rho i) := fun i hi => by rw [eS5]; exact (p4 i hi).setp _ (Or.inr (by omega))
        rw [← eS5] at hM x5 e5 pn5
        have hA5 : SmAt S5 ns nt rho cf rf := hA4.pxt x5 (by omega) (by omega) (by omega) (by omega) (fun x _ => by omega)
        have rA5 := x5.ra rA4
        have r5 := x5.ra r4
        have k6 : sa S5 = sa S4 := x5.2.1
        rw [← k6] at hl
        refine lv_aload_n hx hb dX4_sack_48 rfl (lv_at hl 2 rfl) ?_
        refine fb_get (r := 1000) hx hb hown hts hin4 hM (hA5.1.1) (ce4 (hA5.1.2)) rfl 1 (by decide) (hts (.fieldLink RX4 15 "FeatherBedsLaw$Sim" "damp" "[I") (by decide +kernel)) (fun _ h9 => h9) (v := .ref (sa S5 1001)) (congrArg (fun z => some (va_rf z)) (hA5.2.1.2.1)) dX4_sack_49 ?_
        refine lv_aload_n hx hb dX4_sack_52 rfl (lv_at hl 2 rfl) ?_
        refine fb_get (r := 1000) hx hb hown hts hin4 hM (hA5.1.1) (ce4 (hA5.1.2)) rfl 0 (by decide) (hts (.fieldLink RX4 9 "FeatherBedsLaw$Sim" "sacks" "[[I") (by decide +kernel)) (fun _ h9 => h9) (v := .ref (sa S5 (1020 + ns))) (congrArg (fun z => some (va_rf z)) (hA5.2.1.1)) dX4_sack_53 ?_
        refine fb_alen (r := (1020 + ns)) hx hb hM (hA5.2.2.1.1) (ce10 (hA5.2.2.1.2.1)) 4 rfl (v := nI ns) (congrArg Int32.ofNat (hA5.2.2.1.2.2)) dX4_sack_56 ?_
        refine lv_iload_n hx hb dX4_sack_57 rfl (lv_at hl 3 rfl) ?_
        refine fb_iast (r := 1001) hx hb hM (hA5.2.2.2.1.1) (ce6 (hA5.2.2.2.1.2.1)) (k := ns) (nI_clamp (by omega)) (by rw [hA5.2.2.2.1.2.2]; exact vp_in_nI (by omega) (by omega)) dX4_sack_58 (up_I (j := ns) (by rw [ce6 (S := S5) (hA5.2.2.2.1.2.1)]; simp [va_up])) (w' := (S5, V, (sT V), (va_up (va_up I (1030 + ns) (fun _ => 0)) 1001 (upd ((va_up I (1030 + ns) (fun _ => 0)) 1001) ns d)))) ⟨rfl, rfl, rfl⟩ (fun H locs hM => ?_)
        have eI : (va_up (va_up I (1030 + ns) (fun _ => 0)) 1001 (upd ((va_up I (1030 + ns) (fun _ => 0)) 1001) ns d)) = (va_up (va_up I (1030 + ns) (fun _ => 0)) 1001 (upd (I 1001) ns d)) := by rw [va_up_ne _ _ (show (1001 : Nat) ≠ 1030 + ns by omega)]
        rw [eI] at hM
        clear eI
        refine lv_aload_n hx hb dX4_sack_59 rfl (lv_at hl 2 rfl) ?_
        refine lv_aload_n hx hb dX4_sack_60 rfl (lv_at hl 1 rfl) ?_
        refine fb_put (r := 1000) hx hb hown hts hin4 tyX4 tyX4_ok nmX4 hM (hA5.1.1) (ce4 (hA5.1.2)) rfl 0 (by decide) (hts (.fieldLink RX4 9 "FeatherBedsLaw$Sim" "sacks" "[[I") (by decide +kernel)) (fun _ h9 => h9) rfl (ty := tyX4 0) (by decide +kernel) rfl rfl (Nat.le_of_ble_eq_true rfl) dX4_sack_61 (upk_4_0 (v := some (sa S5 (1020 + (ns + 1)))) (hA5.1.2)) (w' := ((fb_setp S5 1000 0 (some (sa S5 (1020 + (ns + 1))))), V, (sT V), (va_up (va_up I (1030 + ns) (fun _ => 0)) 1001 (upd (I 1001) ns d)))) ⟨rfl, rfl, rfl⟩ (fun H locs hM => ?_)
        obtain ⟨S6, eS6⟩ : ∃ S6, S6 = fb_setp S5 1000 0 (some (sa S5 (1020 + (ns + 1)))) := ⟨_, rfl⟩
        have hA6 : SmAt S6 (ns + 1) nt (va_up rho ns (1030 + ns)) cf rf := by rw [eS6]; exact hA5.addS (by omega) rA5 p5 pn5 r5
        have e6 : Ext (fun x => x = 1000 ∨ x = 1020 + (ns + 1) ∨ x = 1030 + ns) S S6 := by rw [eS6]; exact (((e3.mono (fun x hx => by omega)).trans (e4.mono (fun x hx => by omega))).trans (e5.mono (fun x hx => by omega))).trans (Ext.setp S5 0 _ (Or.inl rfl))
        have k7 : sa S6 1000 = sa S 1000 := by rw [eS6]; exact ((congrFun k6 1000).trans k4).trans ((congrFun k3 1000).trans k0)
        rw [← eS6] at hM
        rw [hQ]
        refine W.widen (show _ ≤ 2 from Nat.le_of_ble_eq_true rfl) (show _ ≤ 19 by omega) ?_
        exact fb_vret hx hb hr hlocks hM (⟨S6, rfl, hA6, e6, k7⟩) dX4_sack_64
      · skip
        have hkn : k < ns := Nat.lt_of_not_le (fun z => c_1 (nI_le z (by omega)))
        refine lv_aload_n hx hb dX4_sack_22 rfl (lv_at hl 1 rfl) ?_
        refine lv_iload_n hx hb dX4_sack_23 rfl (lv_at hl 0 rfl) ?_
        refine lv_aload_n hx hb dX4_sack_24 rfl (lv_at hl 2 rfl) ?_
        refine fb_get (r := 1000) hx hb hown hts hin4 hM ((hAk k).1.1) (ce4 ((hAk k).1.2)) rfl 0 (by decide) (hts (.fieldLink RX4 9 "FeatherBedsLaw$Sim" "sacks" "[[I") (by decide +kernel)) (fun _ h9 => h9) (v := .ref (sa (fb_setps S1 (1020 + (ns + 1)) (ptf (fun j => sa S1 (rho j)) k)) (1020 + ns))) (congrArg (fun z => some (va_rf z)) ((hAk k).2.1.1)) dX4_sack_25 ?_
        refine lv_iload_n hx hb dX4_sack_28 rfl (lv_at hl 0 rfl) ?_
        refine fb_aaldA (r := (1020 + ns)) hx hb hM ((hAk k).2.2.1.1) (ce10 ((hAk k).2.2.1.2.1)) 4 rfl (k := k) (nI_clamp (by omega)) (b := sa (fb_setps S1 (1020 + (ns + 1)) (ptf (fun j => sa S1 (rho j)) k)) (rho k)) (((hAk k).2.2.2.2.2.2.1 k (by omega)).1) (by rw [(hAk k).2.2.1.2.2]; exact vp_in_nI (by omega) (by omega)) dX4_sack_29 ?_
        refine fb_aastA (t := .int) (r := (1020 + (ns + 1))) hx hb hM (rk k).1 (ce10 (rk k).2.1) 4 0 rfl (by simp [fb_over]) rfl (fun h => h) (v := rho k) ((hAk k).2.2.2.2.2.2.1 k hkn).2.1 (ce6 ((hAk k).2.2.2.2.2.2.1 k hkn).2.2.1) (k := k) (nI_clamp (by omega)) (by rw [(rk k).2.2]; exact vp_in_nI (by omega) (by omega)) dX4_sack_30 (upa_10 (v := some (sa S1 (rho k))) (rk k).2.1) (w' := (fb_setp (fb_setps S1 (1020 + (ns + 1)) (ptf (fun j => sa S1 (rho j)) k)) (1020 + (ns + 1)) k (some (sa S1 (rho k))), V, sT V, I)) ⟨rfl, rfl, rfl⟩ (fun H locs hM => ?_)
        rw [setps_s S1 (1020 + (ns + 1)) (fun j => sa S1 (rho j)) k] at hM
        refine lv_iinc (v := nI (k + 1)) (lv' := [(3, .int (nI (k + 1))), (2, .ref (sa S1 (1020 + (ns + 1)))), (0, .ref (sa S1 1000)), (1, .int d)]) hx hb dX4_sack_31 hl (k := 0) rfl (nI_1 _) (by decide) rfl (fun ls hl => ?_)
        refine lv_goto (tgt := 13) hx hb dX4_sack_34 (by decide) ?_
        exact ih_13 (k + 1) (by omega) (by omega) _ _ hM ls (lv_sub hl [0, 1, 2, 3] rfl)
  exact LP_13 _ 0 (by omega) (Nat.lt_succ_self _) _ _ hM ls (lv_sub hl [0, 1, 2, 3] rfl)

abbrev rm_X4_tick : Room := { frames := 2, cells := 76, slots := 372, locals := 43 }
set_option maxHeartbeats 4000000 in
set_option maxRecDepth 100000 in
theorem c_X4_tick (D : va_G) (y : Nat → ClassId) (l : Launch) (S : fb_Sh) (V I : fb_V) (ns nt : Nat) (rho cf rf : Nat → Nat) (hA : SmAt S ns nt rho cf rf) (hn12 : ns ≤ 12) (hnt : nt < 6) (fA : 1040 + (nt + 1) ∉ sR S) (fB : ∀ x, 1100 + 100 * nt ≤ x → x ≤ 1100 + 100 * nt + 90 → x ∉ sR S) (hcr : ∀ t, t < nt → cf t * rf t ≤ 36) (c r d : Nat) (hc1 : 1 ≤ c) (hc6 : c ≤ 6) (hr1 : 1 ≤ r) (hr6 : r ≤ 6) : CV D y l yX4_tick wsX4_tick rm_X4_tick [.ref (sa S 1000), .int (nI c), .int (nI r), .int (nI d)] (S, V, (sT V), I) (fun u => ∃ S2, u = (S2, V, sT V, (rB (rB (va_up (va_up I (1100 + 100 * nt) (fun _ => 0)) (1100 + 100 * nt) (upd (upd (upd ((va_up I (1100 + 100 * nt) (fun _ => 0)) (1100 + 100 * nt)) 0 (nI c)) 1 (nI r)) 2 (nI d))) ((1100 + 100 * nt) + 9 + 1) (c * r) (fun _ _ => 0)) ((1100 + 100 * nt) + 49 + 1) (c * r) (fun _ _ => 0))) ∧ SmAt S2 ns (nt + 1) rho (va_up cf nt c) (va_up rf nt r) ∧ Ext (fun x => x = 1000 ∨ x = 1040 + (nt + 1) ∨ (1100 + 100 * nt ≤ x ∧ x < 1100 + 100 * nt + 100)) S S2 ∧ sa S2 1000 = sa S 1000) 76 372 := by
  refine CV.of (cc := cX4_tick) (maxL := 6) (ret := none) (by decide) rfl (Nat.le_of_ble_eq_true rfl) ?_
  intro pv ev s mv below meth cv A hx hb hml hr hown hts hlocks hname hM ls hl
  have hown : s.vm.findClass RX4 = some mv.cls := hown
  have hl : lv_has ls 6 [(0, .ref (sa S 1000)), (1, .int (nI c)), (2, .int (nI r)), (3, .int (nI d))] := hl
  have hin4 : ∀ x ∈ wsX40, x ∈ wsX4_tick := by decide +kernel
  have hin14 : ∀ x ∈ wsX50, x ∈ wsX4_tick := by decide +kernel
  obtain ⟨Q, hQ⟩ : ∃ Q, Q = MQ below (va_Qv (fun u => ∃ S2, u = (S2, V, sT V, (rB (rB (va_up (va_up I (1100 + 100 * nt) (fun _ => 0)) (1100 + 100 * nt) (upd (upd (upd ((va_up I (1100 + 100 * nt) (fun _ => 0)) (1100 + 100 * nt)) 0 (nI c)) 1 (nI r)) 2 (nI d))) ((1100 + 100 * nt) + 9 + 1) (c * r) (fun _ _ => 0)) ((1100 + 100 * nt) + 49 + 1) (c * r) (fun _ _ => 0))) ∧ SmAt S2 ns (nt + 1) rho (va_up cf nt c) (va_up rf nt r) ∧ Ext (fun x => x = 1000 ∨ x = 1040 + (nt + 1) ∨ (1100 + 100 * nt ≤ x ∧ x < 1100 + 100 * nt + 100)) S S2 ∧ sa S2 1000 = sa S 1000) (fun u t => fb_P D y A u t) A) (([.ref (sa S 1000), .int (nI c), .int (nI r), .int (nI d)] : List Value).toArray) s 76 372 A := ⟨_, rfl⟩
  rw [← hQ]
  have hcr36 : c * r ≤ 36 := Nat.mul_le_mul hc6 hr6
  refine lv_aload_n hx hb dX4_tick_0 rfl (lv_at hl 0 rfl) ?_
  refine fb_get (r := 1000) hx hb hown hts hin4 hM (hA.1.1) (ce4 (hA.1.2)) rfl 4 (by decide) (hts (.fieldLink RX4 28 "FeatherBedsLaw$Sim" "ticks" "[LFeatherBedsLaw$Tick;") (by decide +kernel)) (fun _ h9 => h9) (v := .ref (sa S (1040 + nt))) (congrArg (fun z => some (va_rf z)) (hA.2.1.2.2.2)) dX4_tick_1 ?_
  refine fb_alen (r := (1040 + nt)) hx hb hM (hA.2.2.2.2.2.1.1) (ce13 (hA.2.2.2.2.2.1.2.1)) 6 rfl (v := nI nt) (congrArg Int32.ofNat (hA.2.2.2.2.2.1.2.2)) dX4_tick_4 ?_
  refine lv_iconst (v := 1) hx hb dX4_tick_5 (by decide) ?_
  refine lv_iadd hx hb dX4_tick_6 ?_
  refine W.eq (g2 := F0 mv _ ls (.int (nI (nt + 1)) :: [])) (by rw [show ((nI nt) + 1 : Int32) = nI (nt + 1) from nI_1 _]) ?_
  refine fb_mka13 hx hb hown (hts (.classLink RX4 26 RX5) (by decide +kernel)) hM (n := nt + 1) (nI_pos (by omega)) (nI_clamp (by omega)) (by omega) (by show _ ≤ 76; omega) (by show _ ≤ 372; omega) dX4_tick_7 (1040 + (nt + 1)) fA (fun q9 H hM => ?_)
  have e1 : Ext (fun x => x = (1040 + (nt + 1))) S (fb_new S (1040 + (nt + 1)) q9 13 (nt + 1)) := Ext.new _ _ _ _ rfl
  have r1 := RA.new S (1040 + (nt + 1)) q9 13 (nt + 1)
  have a1 := nw_a S (1040 + (nt + 1)) q9 13 (nt + 1)
  have s0 := setps_0 S (1040 + (nt + 1)) q9 13 (nt + 1) (fun j => sa (fb_new S (1040 + (nt + 1)) q9 13 (nt + 1)) (1100 + 100 * j))
  obtain ⟨S1, eS1⟩ : ∃ S1, S1 = fb_new S (1040 + (nt + 1)) q9 13 (nt + 1) := ⟨_, rfl⟩
  rw [← eS1] at hM e1 r1 a1 s0
  rw [← s0] at hM
  have hA1 : SmAt S1 ns nt rho cf rf := hA.grow e1 (fun x hx => by rw [hx]; exact fA)
  have k0 : sa S1 1000 = sa S 1000 := AA.ext e1 (by omega)
  have fB1 : ∀ x, (1100 + 100 * nt) ≤ x → x ≤ (1100 + 100 * nt) + 90 → x ∉ sR S1 := fun x h1 h2 => NA.ext e1 (by omega) (fB x h1 h2)
  have hAk : ∀ k, SmAt (fb_setps S1 (1040 + (nt + 1)) (ptf (fun j => sa S1 (1100 + 100 * j)) k)) ns nt rho cf rf := fun k => hA1.pxt (Pxt.setps S1 _ _) (by omega) (by omega) (by omega) (by omega) (fun x _ => by omega)
  have rk : ∀ k, RA (fb_setps S1 (1040 + (nt + 1)) (ptf (fun j => sa S1 (1100 + 100 * j)) k)) (1040 + (nt + 1)) 13 (nt + 1) := fun k => (Pxt.setps S1 _ _).ra r1
  rw [← k0] at hl
  refine W.eq (g2 := F0 mv 10 ls [.ref (sa S1 (1040 + (nt + 1)))]) (by rw [a1]) ?_
  refine lv_astore (lv' := [(4, .ref (sa S1 (1040 + (nt + 1)))), (0, .ref (sa S1 1000)), (1, .int (nI c)), (2, .int (nI r)), (3, .int (nI d))]) hx hb dX4_tick_10 hl (by decide) rfl (fun ls hl => ?_)
  refine lv_iconst (v := 0) hx hb dX4_tick_12 (by decide) ?_
  refine lv_istore (lv' := [(5, .int 0), (4, .ref (sa S1 (1040 + (nt + 1)))), (0, .ref (sa S1 1000)), (1, .int (nI c)), (2, .int (nI r)), (3, .int (nI d))]) hx hb dX4_tick_13 hl (by decide) rfl (fun ls hl => ?_)
  have LP_15 : ∀ (n : Nat) (k : Nat) (hk : k ≤ nt), nt - k < n → ∀ (H : Heap) (locs : List Loc), fb_M D y A s ((fb_setps S1 (1040 + (nt + 1)) (ptf (fun j => sa S1 (1100 + 100 * j)) k)), V, (sT V), I) H locs → ∀ ls, lv_has ls 6 [(5, .int (nI k)), (4, .ref (sa S1 (1040 + (nt + 1)))), (0, .ref (sa S1 1000)), (1, .int (nI c)), (2, .int (nI r)), (3, .int (nI d))] → W pv l ev rm_X4_tick s mv ([.ref (sa S 1000), .int (nI c), .int (nI r), .int (nI d)] : List Value).toArray below meth cv H locs (0 + 1) (0 + (nt + 1)) Q (F0 mv 15 ls []) := by
    intro n_15
    induction n_15 with
    | zero => intro k hk hmu; exact absurd hmu (Nat.not_lt_zero _)
    | succ n_15 ih_15 =>
      intro k hk hmu H locs hM ls hl
      refine lv_iload hx hb dX4_tick_15 (lv_at hl 0 rfl) ?_
      refine lv_aload_n hx hb dX4_tick_17 rfl (lv_at hl 2 rfl) ?_
      refine fb_get (r := 1000) hx hb hown hts hin4 hM ((hAk k).1.1) (ce4 ((hAk k).1.2)) rfl 4 (by decide) (hts (.fieldLink RX4 28 "FeatherBedsLaw$Sim" "ticks" "[LFeatherBedsLaw$Tick;") (by decide +kernel)) (fun _ h9 => h9) (v := .ref (sa (fb_setps S1 (1040 + (nt + 1)) (ptf (fun j => sa S1 (1100 + 100 * j)) k)) (1040 + nt))) (congrArg (fun z => some (va_rf z)) ((hAk k).2.1.2.2.2)) dX4_tick_18 ?_
      refine fb_alen (r := (1040 + nt)) hx hb hM ((hAk k).2.2.2.2.2.1.1) (ce13 ((hAk k).2.2.2.2.2.1.2.1)) 6 rfl (v := nI nt) (congrArg Int32.ofNat ((hAk k).2.2.2.2.2.1.2.2)) dX4_tick_21 ?_
      refine lv_icmp_ge (tgt := 43) hx hb dX4_tick_22 (by decide) (fun c_1 => ?_) (fun c_1 => ?_)
      · skip
        have e_k : k = nt := by have := (nI_leI (a := nt) (b := k) (by omega) (by omega)).mp c_1; omega
        have e_k := Eq.symm e_k
        subst e_k
        refine lv_aload hx hb dX4_tick_43 (lv_at hl 1 rfl) ?_
        refine lv_aload_n hx hb dX4_tick_45 rfl (lv_at hl 2 rfl) ?_
        refine fb_get (r := 1000) hx hb hown hts hin4 hM ((hAk nt).1.1) (ce4 ((hAk nt).1.2)) rfl 4 (by decide) (hts (.fieldLink RX4 28 "FeatherBedsLaw$Sim" "ticks" "[LFeatherBedsLaw$Tick;") (by decide +kernel)) (fun _ h9 => h9) (v := .ref (sa (fb_setps S1 (1040 + (nt + 1)) (ptf (fun j => sa S1 (1100 + 100 * j)) nt)) (1040 + nt))) (congrArg (fun z => some (va_rf z)) ((hAk nt).2.1.2.2.2)) dX4_tick_46 ?_
        refine fb_alen (r := (1040 + nt)) hx hb hM ((hAk nt).2.2.2.2.2.1.1) (ce13 ((hAk nt).2.2.2.2.2.1.2.1)) 6 rfl (v := nI nt) (congrArg Int32.ofNat ((hAk nt).2.2.2.2.2.1.2.2)) dX4_tick_49 ?_
        obtain ⟨S3, eS3⟩ : ∃ S3, S3 = (fb_setps S1 (1040 + (nt + 1)) (ptf (fun j => sa S1 (1100 + 100 * j)) nt)) := ⟨_, rfl⟩
        have hA3 := hAk nt
        have r3 := rk nt
        have p3 : ∀ i, i < nt → PA S3 (1040 + (nt + 1)) i (1100 + 100 * i) := fun i hi => by rw [eS3]; show sp (fb_setps S1 (1040 + (nt + 1)) (ptf (fun j => sa S1 (1100 + 100 * j)) nt)) (1040 + (nt + 1)) i = some (sa S1 (1100 + 100 * i)); rw [setps_p]; exact if_pos hi
        have fB3 : ∀ x, (1100 + 100 * nt) ≤ x → x ≤ (1100 + 100 * nt) + 90 → x ∉ sR S3 := by rw [eS3]; exact fB1
        have e3 : Ext (fun x => x = (1040 + (nt + 1))) S S3 := by rw [eS3]; exact e1.trans (setps_E S1 _ _)
        have k3 : sa S3 = sa S1 := by rw [eS3]; rfl
        rw [← eS3] at hM hA3 r3
        rw [← k3] at hl
        have f0 := fB3 (1100 + 100 * nt) (by omega) (by omega)
        refine fb_mko14 hx hb hown hts hin14 (hts (.classLink RX4 26 RX5) (by decide +kernel)) (hts (.instantiable RX5 5) (by decide +kernel)) (hts (.initialized RX5) (by decide +kernel)) hM (by show _ ≤ 76; omega) (by show _ ≤ 372; omega) dX4_tick_50 (1100 + 100 * nt) f0 (fun q8 H hM => ?_)
        have e4 : Ext (fun x => x = (1100 + 100 * nt)) S3 (fb_new S3 (1100 + 100 * nt) q8 14 0) := Ext.new _ _ _ _ rfl
        have r4 := RA.new S3 (1100 + 100 * nt) q8 14 0
        have a4 := nw_a S3 (1100 + 100 * nt) q8 14 0
        obtain ⟨S4, eS4⟩ : ∃ S4, S4 = fb_new S3 (1100 + 100 * nt) q8 14 0 := ⟨_, rfl⟩
        rw [← eS4] at hM e4 r4 a4
        have hA4 : SmAt S4 ns nt rho cf rf := hA3.grow e4 (fun x hx => by rw [hx]; exact f0)
        have rA4 : RA S4 (1040 + (nt + 1)) 13 (nt + 1) := r3.ext e4 (by omega)
        have p4 : ∀ i, i < nt → PA S4 (1040 + (nt + 1)) i (1100 + 100 * i) := fun i hi => (p3 i hi).ext e4 (by omega) (by omega)
        have fB4 : ∀ x, (1100 + 100 * nt) + 1 ≤ x → x ≤ (1100 + 100 * nt) + 90 → x ∉ sR S4 := fun x h1 h2 => NA.ext e4 (by omega) (fB3 x (by omega) h2)
        have k4 : sa S4 1000 = sa S3 1000 := AA.ext e4 (by omega)
        have k5 : sa S4 (1040 + (nt + 1)) = sa S3 (1040 + (nt + 1)) := AA.ext e4 (by omega)
        rw [← k4, ← k5] at hl
        refine W.eq (g2 := F0 mv 53 ls [.ref q8, .int (nI nt), .ref (sa S4 (1040 + (nt + 1)))]) (by rw [k5, k3]) ?_
        refine lv_dup hx hb dX4_tick_53 rfl ?_
        refine lv_iload_n hx hb dX4_tick_54 rfl (lv_at hl 3 rfl) ?_
        refine lv_iload_n hx hb dX4_tick_55 rfl (lv_at hl 4 rfl) ?_
        refine lv_iload_n hx hb dX4_tick_56 rfl (lv_at hl 5 rfl) ?_
        refine fb_callIv hx hb hml hown hts hM (As := [.int (nI c), .int (nI r), .int (nI d)]) (rest := [.ref q8, .int (nI nt), .ref (sa S4 (1040 + (nt + 1)))]) (c_X5_init D y l S4 V (va_up I (1100 + 100 * nt) (fun _ => 0)) (1100 + 100 * nt) q8 a4 r4.1 r4.2.1 fB4 c r d hc1 hc6 hr1 hr6) (cwI 3 hts gX4_tick_X5_init rfl rfl rfl (hts (.initialized RX5) (by decide +kernel)) (hts (.methodLink RX4 32 yX5_init) (by decide +kernel)) (hts (.instanceMethod yX5_init) (by decide +kernel)) rfl (by decide +kernel) ⟨Nat.le_of_ble_eq_true rfl, Nat.le_of_ble_eq_true rfl⟩) rfl hl.1 rfl (Nat.le_of_ble_eq_true rfl) dX4_tick_57 ⟨Nat.le_of_ble_eq_true rfl, (by show _ ≤ 372; omega)⟩ (fun u_ H locs hp hM => ?_)
        obtain ⟨S5, hu_, hL5, e5, k6⟩ := hp
        have hu_ := hu_.symm
        subst hu_
        have hA5 : SmAt S5 ns nt rho cf rf := hA4.ext25 e5 hn12 hnt (fun x hx => by omega) (fun i hi z => fB (rho i) (by omega) (by omega) (hA.2.2.2.2.2.2.1 i hi).2.1) hcr
        have rA5 : RA S5 (1040 + (nt + 1)) 13 (nt + 1) := rA4.ext e5 (by omega)
        have p5 : ∀ i, i < nt → PA S5 (1040 + (nt + 1)) i (1100 + 100 * i) := fun i hi => (p4 i hi).ext e5 (by omega) (by omega)
        have k7 : sa S5 1000 = sa S4 1000 := AA.ext e5 (by omega)
        have k8 : sa S5 (1040 + (nt + 1)) = sa S4 (1040 + (nt + 1)) := AA.ext e5 (by omega)
        rw [← k7, ← k8] at hl
        refine W.eq (g2 := F0 mv 60 ls [.ref (sa S5 (1100 + 100 * nt)), .int (nI nt), .ref (sa S5 (1040 + (nt + 1)))]) (by rw [k6, a4, k8]) ?_
        refine fb_aast hx hb hM (r := (1040 + (nt + 1))) rA5.1 (ce13 rA5.2.1) 6 rfl (v := (1100 + 100 * nt)) hL5.1.1 (ce14 hL5.1.2) (rc := (RX5, TX5, 5)) rfl (k := nt) (nI_clamp (by omega)) (by rw [rA5.2.2]; exact vp_in_nI (by omega) (by omega)) dX4_tick_60 (upa_13 (v := some (sa S5 (1100 + 100 * nt))) rA5.2.1) (w' := (fb_setp S5 (1040 + (nt + 1)) nt (some (sa S5 (1100 + 100 * nt))), V, sT V, (rB (rB (va_up (va_up I (1100 + 100 * nt) (fun _ => 0)) (1100 + 100 * nt) (upd (upd (upd ((va_up I (1100 + 100 * nt) (fun _ => 0)) (1100 + 100 * nt)) 0 (nI c)) 1 (nI r)) 2 (nI d))) ((1100 + 100 * nt) + 9 + 1) (c * r) (fun _ _ => 0)) ((1100 + 100 * nt) + 49 + 1) (c * r) (fun _ _ => 0)))) ⟨rfl, rfl, rfl⟩ (fun H locs hM => ?_)
        have x6 := Pxt.setp S5 (1040 + (nt + 1)) nt (some (sa S5 (1100 + 100 * nt)))
        have e6 : Ext (fun x => x = (1040 + (nt + 1))) S5 (fb_setp S5 (1040 + (nt + 1)) nt (some (sa S5 (1100 + 100 * nt)))) := Ext.setp _ _ _ rfl
        have pn6 := PA.put S5 (1040 + (nt + 1)) nt (1100 + 100 * nt)
        obtain ⟨S6, eS6⟩ : ∃ S6, S6 = fb_setp S5 (1040 + (nt + 1)) nt (some (sa S5 (1100 + 100 * nt))) := ⟨_, rfl⟩
        have p6 : ∀ i, i < nt → PA S6 (1040 + (nt + 1)) i (1100 + 100 * i) := fun i hi => by rw [eS6]; exact (p5 i hi).setp _ (Or.inr (by omega))
        rw [← eS6] at hM x6 e6 pn6
        have hA6 : SmAt S6 ns nt rho cf rf := hA5.pxt x6 (by omega) (by omega) (by omega) (by omega) (fun x _ => by omega)
        have rA6 := x6.ra rA5
        have hL6 := hL5.pxt x6 (fun x _ => by omega)
        have k9 : sa S6 = sa S5 := x6.2.1
        rw [← k9] at hl
        refine lv_aload_n hx hb dX4_tick_61 rfl (lv_at hl 2 rfl) ?_
        refine lv_aload hx hb dX4_tick_62 (lv_at hl 1 rfl) ?_
        refine fb_put (r := 1000) hx hb hown hts hin4 tyX4 tyX4_ok nmX4 hM (hA6.1.1) (ce4 (hA6.1.2)) rfl 4 (by decide) (hts (.fieldLink RX4 28 "FeatherBedsLaw$Sim" "ticks" "[LFeatherBedsLaw$Tick;") (by decide +kernel)) (fun _ h9 => h9) rfl (ty := tyX4 4) (by decide +kernel) rfl rfl (Nat.le_of_ble_eq_true rfl) dX4_tick_64 (upk_4_4 (v := some (sa S6 (1040 + (nt + 1)))) (hA6.1.2)) (w' := ((fb_setp S6 1000 4 (some (sa S6 (1040 + (nt + 1))))), V, (sT V), (rB (rB (va_up (va_up I (1100 + 100 * nt) (fun _ => 0)) (1100 + 100 * nt) (upd (upd (upd ((va_up I (1100 + 100 * nt) (fun _ => 0)) (1100 + 100 * nt)) 0 (nI c)) 1 (nI r)) 2 (nI d))) ((1100 + 100 * nt) + 9 + 1) (c * r) (fun _ _ => 0)) ((1100 + 100 * nt) + 49 + 1) (c * r) (fun _ _ => 0)))) ⟨rfl, rfl, rfl⟩ (fun H locs hM => ?_)
        obtain ⟨S7, eS7⟩ : ∃ S7, S7 = fb_setp S6 1000 4 (some (sa S6 (1040 + (nt + 1)))) := ⟨_, rfl⟩
        have hA7 : SmAt S7 ns (nt + 1) rho (va_up cf nt c) (va_up rf nt r) := by rw [eS7]; exact hA6.addT hn12 hnt rA6 p6 pn6 hL6
        have e7 : Ext (fun x => x = 1000 ∨ x = 1040 + (nt + 1) ∨ (1100 + 100 * nt ≤ x ∧ x < 1100 + 100 * nt + 100)) S S7 := by rw [eS7]; exact ((((e3.mono (fun x hx => by omega)).trans (e4.mono (fun x hx => by omega))).trans (e5.mono (fun x hx => by omega))).trans (e6.mono (fun x hx => by omega))).trans (Ext.setp S6 4 _ (Or.inl rfl))
        have k10 : sa S7 1000 = sa S 1000 := by rw [eS7]; exact (((congrFun k9 1000).trans k7).trans k4).trans ((congrFun k3 1000).trans k0)
        rw [← eS7] at hM
        rw [hQ]
        refine W.widen (show _ ≤ 76 from Nat.le_of_ble_eq_true rfl) (show _ ≤ 372 by omega) ?_
        exact fb_vret hx hb hr hlocks hM (⟨S7, rfl, hA7, e7, k10⟩) dX4_tick_67
      · skip
        have hkn : k < nt := Nat.lt_of_not_le (fun z => c_1 (nI_le z (by omega)))
        refine lv_aload hx hb dX4_tick_25 (lv_at hl 1 rfl) ?_
        refine lv_iload hx hb dX4_tick_27 (lv_at hl 0 rfl) ?_
        refine lv_aload_n hx hb dX4_tick_29 rfl (lv_at hl 2 rfl) ?_
        refine fb_get (r := 1000) hx hb hown hts hin4 hM ((hAk k).1.1) (ce4 ((hAk k).1.2)) rfl 4 (by decide) (hts (.fieldLink RX4 28 "FeatherBedsLaw$Sim" "ticks" "[LFeatherBedsLaw$Tick;") (by decide +kernel)) (fun _ h9 => h9) (v := .ref (sa (fb_setps S1 (1040 + (nt + 1)) (ptf (fun j => sa S1 (1100 + 100 * j)) k)) (1040 + nt))) (congrArg (fun z => some (va_rf z)) ((hAk k).2.1.2.2.2)) dX4_tick_30 ?_
        refine lv_iload hx hb dX4_tick_33 (lv_at hl 0 rfl) ?_
        refine fb_aald (r := (1040 + nt)) hx hb hM ((hAk k).2.2.2.2.2.1.1) (ce13 ((hAk k).2.2.2.2.2.1.2.1)) 6 rfl (k := k) (nI_clamp (by omega)) (b := sa (fb_setps S1 (1040 + (nt + 1)) (ptf (fun j => sa S1 (1100 + 100 * j)) k)) (1100 + 100 * k)) (((hAk k).2.2.2.2.2.2.2.2 k (by omega)).1) (by rw [(hAk k).2.2.2.2.2.1.2.2]; exact vp_in_nI (by omega) (by omega)) dX4_tick_35 ?_
        refine fb_aast hx hb hM (r := (1040 + (nt + 1))) (rk k).1 (ce13 (rk k).2.1) 6 rfl (v := 1100 + 100 * k) ((hAk k).2.2.2.2.2.2.2.2 k hkn).2.1.1 (ce14 ((hAk k).2.2.2.2.2.2.2.2 k hkn).2.1.2) (rc := (RX5, TX5, 5)) rfl (k := k) (nI_clamp (by omega)) (by rw [(rk k).2.2]; exact vp_in_nI (by omega) (by omega)) dX4_tick_36 (upa_13 (v := some (sa S1 (1100 + 100 * k))) (rk k).2.1) (w' := (fb_setp (fb_setps S1 (1040 + (nt + 1)) (ptf (fun j => sa S1 (1100 + 100 * j)) k)) (1040 + (nt + 1)) k (some (sa S1 (1100 + 100 * k))), V, sT V, I)) ⟨rfl, rfl, rfl⟩ (fun H locs hM => ?_)
        rw [setps_s S1 (1040 + (nt + 1)) (fun j => sa S1 (1100 + 100 * j)) k] at hM
        refine lv_iinc (v := nI (k + 1)) (lv' := [(5, .int (nI (k + 1))), (4, .ref (sa S1 (1040 + (nt + 1)))), (0, .ref (sa S1 1000)), (1, .int (nI c)), (2, .int (nI r)), (3, .int (nI d))]) hx hb dX4_tick_37 hl (k := 0) rfl (nI_1 _) (by decide) rfl (fun ls hl => ?_)
        refine lv_goto (tgt := 15) hx hb dX4_tick_40 (by decide) ?_
        exact ih_15 (k + 1) (by omega) (by omega) _ _ hM ls (lv_sub hl [0, 1, 2, 3, 4, 5] rfl)
  exact LP_15 _ 0 (by omega) (Nat.lt_succ_self _) _ _ hM ls (lv_sub hl [0, 1, 2, 3, 4, 5] rfl)
