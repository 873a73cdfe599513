abbrev rm_X4_blow : Room := { frames := 2, cells := 8, slots := 49, locals := 50 }
set_option maxHeartbeats 4000000 in
set_option maxRecDepth 100000 in
theorem c_X4_blow (D : va_G) (y : Nat → ClassId) (l : Launch) (S : fb_Sh) (V I : fb_V) (ns nt : Nat) (rho cf rf : Nat → Nat) (hA : SmAt S ns nt rho cf rf) (F : Nat) (hF : Fs S F) (i : Nat) (hi : i < ns) (dm : Nat) (hdm : I 1001 i = nI dm) (hd9 : dm ≤ 9) (w : Nat) (hw : w ≤ 20) (hn12 : ns ≤ 12) (hwd : I 1000 2 = nI w) : CI D y l yX4_blow wsX4_blow rm_X4_blow [.ref (sa S 1000), .int (nI i)] (S, V, (sT V), I) (fun z u => z = sgo (gq (I (rho i)) (fun j => nI (cN w j dm)) 6) 5 ∧ ∃ S3, u = (S3, V, sT V, (va_up (rB (rB I (F + 1) 7 (gq (I (rho i)) (fun j => nI (cN w j dm)) 6)) 1010 5 (chn (fun z9 => I (1010 + z9)) (gq (I (rho i)) (fun j => nI (cN w j dm)) 6) 5 0)) 1000 (upd (I 1000) 6 (I 1000 6 + s6 ((gq (I (rho i)) (fun j => nI (cN w j dm)) 6) 6))))) ∧ SmAt S3 ns nt (va_up rho i (F + 1 + 5)) cf rf ∧ Ext (fun x => F ≤ x ∧ x ≤ F + 7 ∨ x = 1020 + ns) S S3) 8 49 := by
  refine CI.of (cc := cX4_blow) (maxL := 6) (ret := (some .int)) (by decide) rfl (Nat.le_of_ble_eq_true rfl) ?_
  intro pv ev s mv below meth cv A hx hb hml hr hown hts hlocks hname hM ls hl
  have hown : s.vm.findClass RX4 = some mv.cls := hown
  have hl : lv_has ls 6 [(0, .ref (sa S 1000)), (1, .int (nI i))] := hl
  have hin4 : ∀ x ∈ wsX40, x ∈ wsX4_blow := by decide +kernel
  obtain ⟨Q, hQ⟩ : ∃ Q, Q = MQ below (va_Qi (fun z u => z = sgo (gq (I (rho i)) (fun j => nI (cN w j dm)) 6) 5 ∧ ∃ S3, u = (S3, V, sT V, (va_up (rB (rB I (F + 1) 7 (gq (I (rho i)) (fun j => nI (cN w j dm)) 6)) 1010 5 (chn (fun z9 => I (1010 + z9)) (gq (I (rho i)) (fun j => nI (cN w j dm)) 6) 5 0)) 1000 (upd (I 1000) 6 (I 1000 6 + s6 ((gq (I (rho i)) (fun j => nI (cN w j dm)) 6) 6))))) ∧ SmAt S3 ns nt (va_up rho i (F + 1 + 5)) cf rf ∧ Ext (fun x => F ≤ x ∧ x ≤ F + 7 ∨ x = 1020 + ns) S S3) (fun u t => fb_P D y A u t) A) (([.ref (sa S 1000), .int (nI i)] : List Value).toArray) s 8 49 A := ⟨_, rfl⟩
  rw [← hQ]
  refine lv_aload_n hx hb dX4_blow_0 rfl (lv_at hl 0 rfl) ?_
  refine lv_iload_n hx hb dX4_blow_1 rfl (lv_at hl 1 rfl) ?_
  refine lv_aload_n hx hb dX4_blow_2 rfl (lv_at hl 0 rfl) ?_
  refine fb_get (r := 1000) hx hb hown hts hin4 hM (hA.1.1) (ce4 (hA.1.2)) rfl 2 (by decide) (hts (.fieldLink RX4 18 "FeatherBedsLaw$Sim" "wind" "I") (by decide +kernel)) (fun _ h9 => h9) (v := .int (nI w)) (congrArg (fun z => some (Value.int z)) (hwd)) dX4_blow_3 ?_
  refine fb_callVr (r := 1000) hx hb hml hown hts hM (hA.1.1) (ce4 (hA.1.2)) rfl (As := [.int (nI i), .int (nI w)]) (rest := []) (c_X4_blown D y l S V I ns nt rho cf rf hA F hF i hi dm hdm hd9 w hw hn12) (cwV 2 hts gX4_blow_X4_blown rfl rfl rfl (by decide +kernel) ⟨Nat.le_of_ble_eq_true rfl, Nat.le_of_ble_eq_true rfl⟩) rfl hl.1 rfl (Nat.le_of_ble_eq_true rfl) dX4_blow_6 ⟨Nat.le_of_ble_eq_true rfl, Nat.le_of_ble_eq_true rfl⟩ (fun v_1 u_ H locs hp hM => ?_)
  obtain ⟨S2, hu_, ha_, f1, f3, hE⟩ := hp
  have hu_ := hu_.symm
  subst hu_
  subst ha_
  have hFf : ∀ x, x ∈ sR S → ¬ (F ≤ x ∧ x ≤ F + 7) := fun x hx z => absurd (hF.2 x hx) (by omega)
  have hFn : ∀ x, F ≤ x ∧ x ≤ F + 7 → x ∉ sR S := fun x z hx => hFf x hx z
  have hA2 : SmAt S2 ns nt rho cf rf := hA.grow hE hFn
  have k0 : sa S2 1000 = sa S 1000 := AA.ext hE (hFf 1000 hA.1.1)
  rw [← k0] at hl
  have hF4 := hF.1
  refine lv_astore_n (lv' := [(2, .ref (sa S2 F)), (0, .ref (sa S2 1000)), (1, .int (nI i))]) hx hb dX4_blow_9 rfl hl (by decide) rfl (fun ls hl => ?_)
  refine lv_iconst (v := 0) hx hb dX4_blow_10 (by decide) ?_
  refine lv_istore_n (lv' := [(3, .int 0), (2, .ref (sa S2 F)), (0, .ref (sa S2 1000)), (1, .int (nI i))]) hx hb dX4_blow_11 rfl hl (by decide) rfl (fun ls hl => ?_)
  refine lv_iconst (v := 0) hx hb dX4_blow_12 (by decide) ?_
  refine lv_istore (lv' := [(4, .int 0), (3, .int 0), (2, .ref (sa S2 F)), (0, .ref (sa S2 1000)), (1, .int (nI i))]) hx hb dX4_blow_13 hl (by decide) rfl (fun ls hl => ?_)
  have LP_15 : ∀ (n : Nat) (c : Nat) (hc : c ≤ 5), 5 - c < n → ∀ (H : Heap) (locs : List Loc), fb_M D y A s (S2, V, (sT V), (rB (rB I (F + 1) 7 (gq (I (rho i)) (fun j => nI (cN w j dm)) 6)) 1010 5 (chn (fun z9 => I (1010 + z9)) (gq (I (rho i)) (fun j => nI (cN w j dm)) 6) c 0))) H locs → ∀ ls, lv_has ls 6 [(4, .int (nI c)), (3, .int (sgo (gq (I (rho i)) (fun j => nI (cN w j dm)) 6) c)), (2, .ref (sa S2 F)), (0, .ref (sa S2 1000)), (1, .int (nI i))] → W pv l ev rm_X4_blow s mv ([.ref (sa S 1000), .int (nI i)] : List Value).toArray below meth cv H locs (0 + 8) (0 + 49) Q (F0 mv 15 ls []) := by
    intro n_15
    induction n_15 with
    | zero => intro c hc hmu; exact absurd hmu (Nat.not_lt_zero _)
    | succ n_15 ih_15 =>
      intro c hc hmu H locs hM ls hl
      refine lv_iload hx hb dX4_blow_15 (lv_at hl 0 rfl) ?_
      refine lv_iconst (v := 5) hx hb dX4_blow_17 (by decide) ?_
      refine lv_icmp_ge (tgt := 73) hx hb dX4_blow_18 (by decide) (fun c_2 => ?_) (fun c_2 => ?_)
      · skip
        have e_c : c = 5 := by have := (nI_leI (a := 5) (b := c) (by omega) (by omega)).mp c_2; omega
        have e_c := Eq.symm e_c
        subst e_c
        refine lv_aload_n hx hb dX4_blow_73 rfl (lv_at hl 3 rfl) ?_
        refine fb_get (r := 1000) hx hb hown hts hin4 hM (hA2.1.1) (ce4 (hA2.1.2)) rfl 0 (by decide) (hts (.fieldLink RX4 9 "FeatherBedsLaw$Sim" "sacks" "[[I") (by decide +kernel)) (fun _ h9 => h9) (v := .ref (sa S2 (1020 + ns))) (congrArg (fun z => some (va_rf z)) (hA2.2.1.1)) dX4_blow_74 ?_
        refine lv_iload_n hx hb dX4_blow_77 rfl (lv_at hl 4 rfl) ?_
        refine lv_aload_n hx hb dX4_blow_78 rfl (lv_at hl 2 rfl) ?_
        refine lv_iconst (v := 5) hx hb dX4_blow_79 (by decide) ?_
        refine fb_aaldA (r := F) hx hb hM (f1.1) (ce10 (f1.2.1)) 4 rfl (k := 5) (by decide) (b := sa S2 (F + 1 + 5)) ((f3 5 (by omega)).1) (by rw [f1.2.2]; exact pk_in 5 _ (by omega) (by decide) (by omega)) dX4_blow_80 ?_
        refine fb_aastA (t := .int) (r := 1020 + ns) hx hb hM hA2.2.2.1.1 (ce10 hA2.2.2.1.2.1) 4 0 rfl (by simp [fb_over]) rfl (fun h => h) (v := F + 1 + 5) (f3 5 (by omega)).2.1 (ce6 (f3 5 (by omega)).2.2.1) (k := i) (nI_clamp (by omega)) (by rw [hA2.2.2.1.2.2]; exact vp_in_nI hi (by omega)) dX4_blow_81 (upa_10 (v := some (sa S2 (F + 1 + 5))) hA2.2.2.1.2.1) (w' := (fb_setp S2 (1020 + ns) i (some (sa S2 (F + 1 + 5))), V, sT V, (rB (rB I (F + 1) 7 (gq (I (rho i)) (fun j => nI (cN w j dm)) 6)) 1010 5 (chn (fun z9 => I (1010 + z9)) (gq (I (rho i)) (fun j => nI (cN w j dm)) 6) 5 0)))) ⟨rfl, rfl, rfl⟩ (fun H locs hM => ?_)
        obtain ⟨S3, eS3⟩ : ∃ S3, S3 = fb_setp S2 (1020 + ns) i (some (sa S2 (F + 1 + 5))) := ⟨_, rfl⟩
        have hA3 : SmAt S3 ns nt (va_up rho i (F + 1 + 5)) cf rf := by rw [eS3]; exact hA2.blow hn12 (f3 5 (by omega)).2
        have f4 : ∀ r, r < 7 → PA S3 F r (F + 1 + r) ∧ RA S3 (F + 1 + r) 6 6 := fun r hr => by rw [eS3]; exact ⟨(f3 r hr).1.setp _ (Or.inl (by omega)), (f3 r hr).2⟩
        have f5 : RA S3 F 10 7 := by rw [eS3]; exact f1
        have hE3 : Ext (fun x => F ≤ x ∧ x ≤ F + 7 ∨ x = 1020 + ns) S S3 := by rw [eS3]; exact (hE.mono (fun x hx => Or.inl hx)).trans (Ext.setp S2 i _ (Or.inr rfl))
        have hin3 : ∀ x, x ∈ sR S3 → x ∈ sR S2 := fun x hx => by rw [eS3] at hx; exact hx
        have ea : sa S3 = sa S2 := by rw [eS3]; rfl
        rw [← eS3] at hM
        rw [← ea] at hl
        refine lv_aload_n hx hb dX4_blow_82 rfl (lv_at hl 3 rfl) ?_
        refine lv_dup hx hb dX4_blow_83 rfl ?_
        refine fb_get (r := 1000) hx hb hown hts hin4 hM (hA3.1.1) (ce4 (hA3.1.2)) rfl 6 (by decide) (hts (.fieldLink RX4 45 "FeatherBedsLaw$Sim" "yard" "I") (by decide +kernel)) (fun _ h9 => h9) (v := .int ((rB (rB I (F + 1) 7 (gq (I (rho i)) (fun j => nI (cN w j dm)) 6)) 1010 5 (chn (fun z9 => I (1010 + z9)) (gq (I (rho i)) (fun j => nI (cN w j dm)) 6) 5 0)) 1000 6)) rfl dX4_blow_84 ?_
        refine W.eq (g2 := F0 mv _ ls (.int (I 1000 6) :: .ref (sa S3 1000) :: [])) (by rw [show ((rB (rB I (F + 1) 7 (gq (I (rho i)) (fun j => nI (cN w j dm)) 6)) 1010 5 (chn (fun z9 => I (1010 + z9)) (gq (I (rho i)) (fun j => nI (cN w j dm)) 6) 5 0)) 1000 6 : Int32) = I 1000 6 from congrFun ((rB_out _ _ (Or.inl (by omega))).trans (rB_out I _ (Or.inl (by omega)))) 6]) ?_
        refine lv_aload_n hx hb dX4_blow_87 rfl (lv_at hl 2 rfl) ?_
        refine lv_bipush (v := 6) hx hb dX4_blow_88 (by decide) ?_
        refine fb_aaldA (r := F) hx hb hM (f5.1) (ce10 (f5.2.1)) 4 rfl (k := 6) (by decide) (b := sa S3 (F + 1 + 6)) ((f4 6 (by omega)).1) (by rw [f5.2.2]; exact pk_in 6 _ (by omega) (by decide) (by omega)) dX4_blow_90 ?_
        refine fb_callSi hx hb hml hown hts hM (As := [.ref (sa S3 (F + 1 + 6))]) (rest := [.int (I 1000 6), .ref (sa S3 1000)]) (c_X5_all D y l S3 V (rB (rB I (F + 1) 7 (gq (I (rho i)) (fun j => nI (cN w j dm)) 6)) 1010 5 (chn (fun z9 => I (1010 + z9)) (gq (I (rho i)) (fun j => nI (cN w j dm)) 6) 5 0)) (F + 1 + 6) (f4 6 (by omega)).2) (va_cwS 1 hts gX4_blow_X5_all rfl rfl rfl (by decide +kernel) ⟨Nat.le_of_ble_eq_true rfl, Nat.le_of_ble_eq_true rfl⟩) rfl hl.1 rfl (Nat.le_of_ble_eq_true rfl) dX4_blow_91 ⟨Nat.le_of_ble_eq_true rfl, Nat.le_of_ble_eq_true rfl⟩ (fun v_3 u_ H locs hp hM => ?_)
        obtain ⟨hv_, hu_⟩ := hp
        have hv_ := Eq.symm hv_
        have hu_ := Eq.symm hu_
        subst hv_
        subst hu_
        refine W.eq (g2 := F0 mv _ ls (.int (s6 ((gq (I (rho i)) (fun j => nI (cN w j dm)) 6) 6)) :: .int (I 1000 6) :: .ref (sa S3 1000) :: [])) (by rw [show (s6 ((rB (rB I (F + 1) 7 (gq (I (rho i)) (fun j => nI (cN w j dm)) 6)) 1010 5 (chn (fun z9 => I (1010 + z9)) (gq (I (rho i)) (fun j => nI (cN w j dm)) 6) 5 0)) (F + 1 + 6)) : Int32) = s6 ((gq (I (rho i)) (fun j => nI (cN w j dm)) 6) 6) from congrArg s6 ((rB_out _ _ (Or.inr (by omega))).trans (rB_at I (F + 1) _ (by omega)))]) ?_
        refine lv_iadd hx hb dX4_blow_94 ?_
        refine fb_put (r := 1000) hx hb hown hts hin4 tyX4 tyX4_ok nmX4 hM (hA3.1.1) (ce4 (hA3.1.2)) rfl 6 (by decide) (hts (.fieldLink RX4 45 "FeatherBedsLaw$Sim" "yard" "I") (by decide +kernel)) (fun _ h9 => h9) rfl (ty := .int) (by decide +kernel) rfl rfl (Nat.le_of_ble_eq_true rfl) dX4_blow_95 (up_I (j := 6) (v := (I 1000 6) + (s6 ((gq (I (rho i)) (fun j => nI (cN w j dm)) 6) 6))) (by rw [ce4 (S := S3) (hA3.1.2)]; simp [va_up, upd])) (w' := (S3, V, (sT V), (va_up (rB (rB I (F + 1) 7 (gq (I (rho i)) (fun j => nI (cN w j dm)) 6)) 1010 5 (chn (fun z9 => I (1010 + z9)) (gq (I (rho i)) (fun j => nI (cN w j dm)) 6) 5 0)) 1000 (upd ((rB (rB I (F + 1) 7 (gq (I (rho i)) (fun j => nI (cN w j dm)) 6)) 1010 5 (chn (fun z9 => I (1010 + z9)) (gq (I (rho i)) (fun j => nI (cN w j dm)) 6) 5 0)) 1000) 6 ((I 1000 6) + (s6 ((gq (I (rho i)) (fun j => nI (cN w j dm)) 6) 6))))))) ⟨rfl, rfl, rfl⟩ (fun H locs hM => ?_)
        have eI : (va_up (rB (rB I (F + 1) 7 (gq (I (rho i)) (fun j => nI (cN w j dm)) 6)) 1010 5 (chn (fun z9 => I (1010 + z9)) (gq (I (rho i)) (fun j => nI (cN w j dm)) 6) 5 0)) 1000 (upd ((rB (rB I (F + 1) 7 (gq (I (rho i)) (fun j => nI (cN w j dm)) 6)) 1010 5 (chn (fun z9 => I (1010 + z9)) (gq (I (rho i)) (fun j => nI (cN w j dm)) 6) 5 0)) 1000) 6 ((I 1000 6) + (s6 ((gq (I (rho i)) (fun j => nI (cN w j dm)) 6) 6))))) = (va_up (rB (rB I (F + 1) 7 (gq (I (rho i)) (fun j => nI (cN w j dm)) 6)) 1010 5 (chn (fun z9 => I (1010 + z9)) (gq (I (rho i)) (fun j => nI (cN w j dm)) 6) 5 0)) 1000 (upd (I 1000) 6 (I 1000 6 + s6 ((gq (I (rho i)) (fun j => nI (cN w j dm)) 6) 6)))) := by rw [show (rB (rB I (F + 1) 7 (gq (I (rho i)) (fun j => nI (cN w j dm)) 6)) 1010 5 (chn (fun z9 => I (1010 + z9)) (gq (I (rho i)) (fun j => nI (cN w j dm)) 6) 5 0)) 1000 = I 1000 from (rB_out _ _ (Or.inl (by omega))).trans (rB_out I _ (Or.inl (by omega)))]
        rw [eI] at hM
        clear eI
        refine lv_iload_n hx hb dX4_blow_98 rfl (lv_at hl 1 rfl) ?_
        rw [hQ]
        refine W.widen (show _ ≤ 8 from Nat.le_of_ble_eq_true rfl) (show _ ≤ 49 from Nat.le_of_ble_eq_true rfl) ?_
        exact fb_iret hx hb hr hlocks hM (⟨rfl, S3, rfl, hA3, hE3⟩) dX4_blow_99
      · skip
        have hc5 : c < 5 := Nat.lt_of_not_le (fun z => c_2 (nI_le z (by omega)))
        refine lv_iconst (v := 0) hx hb dX4_blow_21 (by decide) ?_
        refine lv_istore (lv' := [(5, .int 0), (4, .int (nI c)), (3, .int (sgo (gq (I (rho i)) (fun j => nI (cN w j dm)) 6) c)), (2, .ref (sa S2 F)), (0, .ref (sa S2 1000)), (1, .int (nI i))]) hx hb dX4_blow_22 hl (by decide) rfl (fun ls hl => ?_)
        have LP_24 : ∀ (n : Nat) (k : Nat) (hk : k ≤ 6), 6 - k < n → ∀ (H : Heap) (locs : List Loc), fb_M D y A s (S2, V, (sT V), (rB (rB I (F + 1) 7 (gq (I (rho i)) (fun j => nI (cN w j dm)) 6)) 1010 5 (chn (fun z9 => I (1010 + z9)) (gq (I (rho i)) (fun j => nI (cN w j dm)) 6) c k))) H locs → ∀ ls, lv_has ls 6 [(5, .int (nI k)), (4, .int (nI c)), (3, .int (sgi (gq (I (rho i)) (fun j => nI (cN w j dm)) 6) (sgo (gq (I (rho i)) (fun j => nI (cN w j dm)) 6) c) c k)), (2, .ref (sa S2 F)), (0, .ref (sa S2 1000)), (1, .int (nI i))] → W pv l ev rm_X4_blow s mv ([.ref (sa S 1000), .int (nI i)] : List Value).toArray below meth cv H locs (0 + 8) (0 + 49) Q (F0 mv 24 ls []) := by
          intro n_24
          induction n_24 with
          | zero => intro k hk hmu; exact absurd hmu (Nat.not_lt_zero _)
          | succ n_24 ih_24 =>
            intro k hk hmu H locs hM ls hl
            refine lv_iload hx hb dX4_blow_24 (lv_at hl 0 rfl) ?_
            refine lv_bipush (v := 6) hx hb dX4_blow_26 (by decide) ?_
            refine lv_icmp_ge (tgt := 67) hx hb dX4_blow_28 (by decide) (fun c_4 => ?_) (fun c_4 => ?_)
            · skip
              have e_k : k = 6 := by have := (nI_leI (a := 6) (b := k) (by omega) (by omega)).mp c_4; omega
              have e_k := Eq.symm e_k
              subst e_k
              refine lv_iinc (v := nI (c + 1)) (lv' := [(4, .int (nI (c + 1))), (5, .int (nI 6)), (3, .int (sgi (gq (I (rho i)) (fun j => nI (cN w j dm)) 6) (sgo (gq (I (rho i)) (fun j => nI (cN w j dm)) 6) c) c 6)), (2, .ref (sa S2 F)), (0, .ref (sa S2 1000)), (1, .int (nI i))]) hx hb dX4_blow_67 hl (k := 1) rfl (nI_1 _) (by decide) rfl (fun ls hl => ?_)
              refine lv_goto (tgt := 15) hx hb dX4_blow_70 (by decide) ?_
              rw [show (rB (rB I (F + 1) 7 (gq (I (rho i)) (fun j => nI (cN w j dm)) 6)) 1010 5 (chn (fun z9 => I (1010 + z9)) (gq (I (rho i)) (fun j => nI (cN w j dm)) 6) c 6)) = (rB (rB I (F + 1) 7 (gq (I (rho i)) (fun j => nI (cN w j dm)) 6)) 1010 5 (chn (fun z9 => I (1010 + z9)) (gq (I (rho i)) (fun j => nI (cN w j dm)) 6) (c + 1) 0)) from by rw [chn_n]] at hM
              exact ih_15 (c + 1) (by omega) (by omega) _ _ hM ls (lv_sub hl [0, 2, 3, 4, 5] rfl)
            · skip
              have hk6 : k < 6 := Nat.lt_of_not_le (fun z => c_4 (nI_le z (by omega)))
              refine lv_aload_n hx hb dX4_blow_31 rfl (lv_at hl 4 rfl) ?_
              refine fb_get (r := 1000) hx hb hown hts hin4 hM (hA2.1.1) (ce4 (hA2.1.2)) rfl 3 (by decide) (hts (.fieldLink RX4 23 "FeatherBedsLaw$Sim" "chambers" "[[I") (by decide +kernel)) (fun _ h9 => h9) (v := .ref (sa S2 1009)) (congrArg (fun z => some (va_rf z)) (hA2.2.1.2.2.1)) dX4_blow_32 ?_
              refine lv_iload hx hb dX4_blow_35 (lv_at hl 1 rfl) ?_
              refine fb_aaldA (r := 1009) hx hb hM (hA2.2.2.2.2.1.1) (ce10 (hA2.2.2.2.2.1.2.1)) 4 rfl (k := c) (nI_clamp (by omega)) (b := sa S2 (1010 + c)) ((hA2.2.2.2.2.2.2.2.1 c (by omega)).1) (by rw [hA2.2.2.2.2.1.2.2]; exact vp_in_nI (by omega) (by omega)) dX4_blow_37 ?_
              refine lv_iload hx hb dX4_blow_38 (lv_at hl 0 rfl) ?_
              refine lv_dup2_11 hx hb dX4_blow_40 rfl rfl ?_
              refine fb_iald (r := (1010 + c)) hx hb hM (((hA2.2.2.2.2.2.2.2.1 c (by omega)).2).1) (ce6 (((hA2.2.2.2.2.2.2.2.1 c (by omega)).2).2.1)) (k := k) (nI_clamp (by omega)) (by rw [((hA2.2.2.2.2.2.2.2.1 c (by omega)).2).2.2]; exact vp_in_nI (by omega) (by omega)) dX4_blow_41 ?_
              refine W.eq (g2 := F0 mv _ ls (.int (I (1010 + c) k) :: .int (nI k) :: .ref (sa S2 (1010 + c)) :: [])) (by rw [show ((rB (rB I (F + 1) 7 (gq (I (rho i)) (fun j => nI (cN w j dm)) 6)) 1010 5 (chn (fun z9 => I (1010 + z9)) (gq (I (rho i)) (fun j => nI (cN w j dm)) 6) c k)) (1010 + c) k : Int32) = I (1010 + c) k from by rw [rB_at _ 1010 _ hc5, chn_i]; exact addn_i _ _ _]) ?_
              refine lv_aload_n hx hb dX4_blow_42 rfl (lv_at hl 3 rfl) ?_
              refine lv_iload hx hb dX4_blow_43 (lv_at hl 1 rfl) ?_
              refine fb_aaldA (r := F) hx hb hM (f1.1) (ce10 (f1.2.1)) 4 rfl (k := c) (nI_clamp (by omega)) (b := sa S2 (F + 1 + c)) ((f3 c (by omega)).1) (by rw [f1.2.2]; exact vp_in_nI (by omega) (by omega)) dX4_blow_45 ?_
              refine lv_iload hx hb dX4_blow_46 (lv_at hl 0 rfl) ?_
              refine fb_iald (r := (F + 1 + c)) hx hb hM (((f3 c (by omega)).2).1) (ce6 (((f3 c (by omega)).2).2.1)) (k := k) (nI_clamp (by omega)) (by rw [((f3 c (by omega)).2).2.2]; exact vp_in_nI (by omega) (by omega)) dX4_blow_48 ?_
              refine W.eq (g2 := F0 mv _ ls (.int ((gq (I (rho i)) (fun j => nI (cN w j dm)) 6) c k) :: .int (I (1010 + c) k) :: .int (nI k) :: .ref (sa S2 (1010 + c)) :: [])) (by rw [show ((rB (rB I (F + 1) 7 (gq (I (rho i)) (fun j => nI (cN w j dm)) 6)) 1010 5 (chn (fun z9 => I (1010 + z9)) (gq (I (rho i)) (fun j => nI (cN w j dm)) 6) c k)) (F + 1 + c) k : Int32) = (gq (I (rho i)) (fun j => nI (cN w j dm)) 6) c k from congrFun ((rB_out _ _ (Or.inr (by omega))).trans (rB_at I (F + 1) _ (by omega))) k]) ?_
              refine lv_iadd hx hb dX4_blow_49 ?_
              refine fb_iast (r := (1010 + c)) hx hb hM (((hA2.2.2.2.2.2.2.2.1 c (by omega)).2).1) (ce6 (((hA2.2.2.2.2.2.2.2.1 c (by omega)).2).2.1)) (k := k) (nI_clamp (by omega)) (by rw [((hA2.2.2.2.2.2.2.2.1 c (by omega)).2).2.2]; exact vp_in_nI (by omega) (by omega)) dX4_blow_50 (up_I (j := k) (by rw [ce6 (S := S2) (((hA2.2.2.2.2.2.2.2.1 c (by omega)).2).2.1)]; simp [va_up])) (w' := (S2, V, (sT V), (va_up (rB (rB I (F + 1) 7 (gq (I (rho i)) (fun j => nI (cN w j dm)) 6)) 1010 5 (chn (fun z9 => I (1010 + z9)) (gq (I (rho i)) (fun j => nI (cN w j dm)) 6) c k)) (1010 + c) (upd ((rB (rB I (F + 1) 7 (gq (I (rho i)) (fun j => nI (cN w j dm)) 6)) 1010 5 (chn (fun z9 => I (1010 + z9)) (gq (I (rho i)) (fun j => nI (cN w j dm)) 6) c k)) (1010 + c)) k ((I (1010 + c) k) + ((gq (I (rho i)) (fun j => nI (cN w j dm)) 6) c k)))))) ⟨rfl, rfl, rfl⟩ (fun H locs hM => ?_)
              have eI : (va_up (rB (rB I (F + 1) 7 (gq (I (rho i)) (fun j => nI (cN w j dm)) 6)) 1010 5 (chn (fun z9 => I (1010 + z9)) (gq (I (rho i)) (fun j => nI (cN w j dm)) 6) c k)) (1010 + c) (upd ((rB (rB I (F + 1) 7 (gq (I (rho i)) (fun j => nI (cN w j dm)) 6)) 1010 5 (chn (fun z9 => I (1010 + z9)) (gq (I (rho i)) (fun j => nI (cN w j dm)) 6) c k)) (1010 + c)) k ((I (1010 + c) k) + ((gq (I (rho i)) (fun j => nI (cN w j dm)) 6) c k)))) = (rB (rB I (F + 1) 7 (gq (I (rho i)) (fun j => nI (cN w j dm)) 6)) 1010 5 (chn (fun z9 => I (1010 + z9)) (gq (I (rho i)) (fun j => nI (cN w j dm)) 6) c (k + 1))) := by rw [rB_at _ 1010 _ hc5, rB_up _ 1010 _ hc5, chn_i, addn_u, chn_u]
              rw [eI] at hM
              clear eI
              refine lv_iload_n hx hb dX4_blow_51 rfl (lv_at hl 2 rfl) ?_
              refine lv_aload_n hx hb dX4_blow_52 rfl (lv_at hl 3 rfl) ?_
              refine lv_iload hx hb dX4_blow_53 (lv_at hl 1 rfl) ?_
              refine fb_aaldA (r := F) hx hb hM (f1.1) (ce10 (f1.2.1)) 4 rfl (k := c) (nI_clamp (by omega)) (b := sa S2 (F + 1 + c)) ((f3 c (by omega)).1) (by rw [f1.2.2]; exact vp_in_nI (by omega) (by omega)) dX4_blow_55 ?_
              refine lv_iload hx hb dX4_blow_56 (lv_at hl 0 rfl) ?_
              refine fb_iald (r := (F + 1 + c)) hx hb hM (((f3 c (by omega)).2).1) (ce6 (((f3 c (by omega)).2).2.1)) (k := k) (nI_clamp (by omega)) (by rw [((f3 c (by omega)).2).2.2]; exact vp_in_nI (by omega) (by omega)) dX4_blow_58 ?_
              refine W.eq (g2 := F0 mv _ ls (.int ((gq (I (rho i)) (fun j => nI (cN w j dm)) 6) c k) :: .int (sgi (gq (I (rho i)) (fun j => nI (cN w j dm)) 6) (sgo (gq (I (rho i)) (fun j => nI (cN w j dm)) 6) c) c k) :: [])) (by rw [show ((rB (rB I (F + 1) 7 (gq (I (rho i)) (fun j => nI (cN w j dm)) 6)) 1010 5 (chn (fun z9 => I (1010 + z9)) (gq (I (rho i)) (fun j => nI (cN w j dm)) 6) c (k + 1))) (F + 1 + c) k : Int32) = (gq (I (rho i)) (fun j => nI (cN w j dm)) 6) c k from congrFun ((rB_out _ _ (Or.inr (by omega))).trans (rB_at I (F + 1) _ (by omega))) k]) ?_
              refine lv_iadd hx hb dX4_blow_59 ?_
              refine W.eq (g2 := F0 mv _ ls (.int (sgi (gq (I (rho i)) (fun j => nI (cN w j dm)) 6) (sgo (gq (I (rho i)) (fun j => nI (cN w j dm)) 6) c) c (k + 1)) :: [])) (rfl) ?_
              refine lv_istore_n (lv' := [(3, .int (sgi (gq (I (rho i)) (fun j => nI (cN w j dm)) 6) (sgo (gq (I (rho i)) (fun j => nI (cN w j dm)) 6) c) c (k + 1))), (5, .int (nI k)), (4, .int (nI c)), (2, .ref (sa S2 F)), (0, .ref (sa S2 1000)), (1, .int (nI i))]) hx hb dX4_blow_60 rfl hl (by decide) rfl (fun ls hl => ?_)
              refine lv_iinc (v := nI (k + 1)) (lv' := [(5, .int (nI (k + 1))), (3, .int (sgi (gq (I (rho i)) (fun j => nI (cN w j dm)) 6) (sgo (gq (I (rho i)) (fun j => nI (cN w j dm)) 6) c) c (k + 1))), (4, .int (nI c)), (2, .ref (sa S2 F)), (0, .ref (sa S2 1000)), (1, .int (nI i))]) hx hb dX4_blow_61 hl (k := 1) rfl (nI_1 _) (by decide) rfl (fun ls hl => ?_)
              refine lv_goto (tgt := 24) hx hb dX4_blow_64 (by decide) ?_
              exact ih_24 (k + 1) (by omega) (by omega) _ _ hM ls (lv_sub hl [0, 2, 1, 3, 4, 5] rfl)
        exact LP_24 _ 0 (by omega) (Nat.lt_succ_self _) _ _ hM ls (lv_sub hl [0, 1, 2, 3, 4, 5] rfl)
  rw [show (rB I (F + 1) 7 (gq (I (rho i)) (fun j => nI (cN w j dm)) 6)) = (rB (rB I (F + 1) 7 (gq (I (rho i)) (fun j => nI (cN w j dm)) 6)) 1010 5 (chn (fun z9 => I (1010 + z9)) (gq (I (rho i)) (fun j => nI (cN w j dm)) 6) 0 0)) from (rB_id _ _ (fun q hq => by rw [chn_0]; exact (rB_out I _ (Or.inl (by omega))).symm)).symm] at hM
  exact LP_15 _ 0 (by omega) (Nat.lt_succ_self _) _ _ hM ls (lv_sub hl [0, 1, 2, 3, 4] rfl)

abbrev rm_X4_pass : Room := { frames := 3, cells := 0, slots := 0, locals := 72 }
set_option maxHeartbeats 4000000 in
set_option maxRecDepth 100000 in
theorem c_X4_pass (D : va_G) (y : Nat → ClassId) (l : Launch) (S : fb_Sh) (V I : fb_V) (ns nt : Nat) (rho cf rf : Nat → Nat) (hA : SmAt S ns nt rho cf rf) (df : Nat → Nat) (X B : Nat → fb_V) (hT : ∀ t, t < nt → LF I (1100 + 100 * t) (cf t) (rf t) (df t) ∧ (∀ q e, q < cf t * rf t → e < 2 → I (1100 + 100 * t + 50 + q) e = B t 0 (2 * q + e)) ∧ (∀ q, q < cf t * rf t → I (1100 + 100 * t + 10 + q) = X t q) ∧ BX (X t)) (hnt : nt ≤ 3) : CI D y l yX4_pass wsX4_pass rm_X4_pass [.ref (sa S 1000)] (S, V, (sT V), I) (fun z u => z = sPl (fun t => pkS (nI (df t)) (X t) (cf t * rf t)) nt ∧ u = (S, V, sT V, (va_up (va_up (sPs I (fun t => cf t * rf t) (fun t => ngt (cf t) (cf t * rf t) (df t) (B t 0) (X t)) nt) 1000 (upd (I 1000) 5 (I 1000 5 + 1))) 1000 (upd (upd (I 1000) 5 (I 1000 5 + 1)) 7 (I 1000 7 + sPl (fun t => pkS (nI (df t)) (X t) (cf t * rf t)) nt))))) 0 0 := by
  refine CI.of (cc := cX4_pass) (maxL := 6) (ret := (some .int)) (by decide) rfl (Nat.le_of_ble_eq_true rfl) ?_
  intro pv ev s mv below meth cv A hx hb hml hr hown hts hlocks hname hM ls hl
  have hown : s.vm.findClass RX4 = some mv.cls := hown
  have hl : lv_has ls 6 [(0, .ref (sa S 1000))] := hl
  have hin4 : ∀ x ∈ wsX40, x ∈ wsX4_pass := by decide +kernel
  obtain ⟨Q, hQ⟩ : ∃ Q, Q = MQ below (va_Qi (fun z u => z = sPl (fun t => pkS (nI (df t)) (X t) (cf t * rf t)) nt ∧ u = (S, V, sT V, (va_up (va_up (sPs I (fun t => cf t * rf t) (fun t => ngt (cf t) (cf t * rf t) (df t) (B t 0) (X t)) nt) 1000 (upd (I 1000) 5 (I 1000 5 + 1))) 1000 (upd (upd (I 1000) 5 (I 1000 5 + 1)) 7 (I 1000 7 + sPl (fun t => pkS (nI (df t)) (X t) (cf t * rf t)) nt))))) (fun u t => fb_P D y A u t) A) (([.ref (sa S 1000)] : List Value).toArray) s 0 0 A := ⟨_, rfl⟩
  rw [← hQ]
  have hns : ∀ t, t < nt → cf t * rf t ≤ 36 := fun t ht => (hT t ht).1.le.2
  have e10 : ∀ m, m ≤ nt → (sPs I (fun t => cf t * rf t) (fun t => ngt (cf t) (cf t * rf t) (df t) (B t 0) (X t)) m) 1000 = I 1000 := fun m hm => sPs_out I _ _ m (fun u hu => Or.inl (by omega))
  refine lv_iconst (v := 0) hx hb dX4_pass_0 (by decide) ?_
  refine lv_istore_n (lv' := [(1, .int 0), (0, .ref (sa S 1000))]) hx hb dX4_pass_1 rfl hl (by decide) rfl (fun ls hl => ?_)
  refine lv_aload_n hx hb dX4_pass_2 rfl (lv_at hl 1 rfl) ?_
  refine fb_get (r := 1000) hx hb hown hts hin4 hM (hA.1.1) (ce4 (hA.1.2)) rfl 4 (by decide) (hts (.fieldLink RX4 28 "FeatherBedsLaw$Sim" "ticks" "[LFeatherBedsLaw$Tick;") (by decide +kernel)) (fun _ h9 => h9) (v := .ref (sa S (1040 + nt))) (congrArg (fun z => some (va_rf z)) (hA.2.1.2.2.2)) dX4_pass_3 ?_
  refine lv_astore_n (lv' := [(2, .ref (sa S (1040 + nt))), (1, .int 0), (0, .ref (sa S 1000))]) hx hb dX4_pass_6 rfl hl (by decide) rfl (fun ls hl => ?_)
  refine lv_aload_n hx hb dX4_pass_7 rfl (lv_at hl 0 rfl) ?_
  refine fb_alen (r := (1040 + nt)) hx hb hM (hA.2.2.2.2.2.1.1) (ce13 (hA.2.2.2.2.2.1.2.1)) 6 rfl (v := nI nt) (congrArg Int32.ofNat (hA.2.2.2.2.2.1.2.2)) dX4_pass_8 ?_
  refine lv_istore_n (lv' := [(3, .int (nI nt)), (2, .ref (sa S (1040 + nt))), (1, .int 0), (0, .ref (sa S 1000))]) hx hb dX4_pass_9 rfl hl (by decide) rfl (fun ls hl => ?_)
  refine lv_iconst (v := 0) hx hb dX4_pass_10 (by decide) ?_
  refine lv_istore (lv' := [(4, .int 0), (3, .int (nI nt)), (2, .ref (sa S (1040 + nt))), (1, .int 0), (0, .ref (sa S 1000))]) hx hb dX4_pass_11 hl (by decide) rfl (fun ls hl => ?_)
  have LP_13 : ∀ (n : Nat) (t : Nat) (ht : t ≤ nt), nt - t < n → ∀ (H : Heap) (locs : List Loc), fb_M D y A s (S, V, (sT V), (sPs I (fun t => cf t * rf t) (fun t => ngt (cf t) (cf t * rf t) (df t) (B t 0) (X t)) t)) H locs → ∀ ls, lv_has ls 6 [(4, .int (nI t)), (3, .int (nI nt)), (2, .ref (sa S (1040 + nt))), (1, .int (sPl (fun t => pkS (nI (df t)) (X t) (cf t * rf t)) t)), (0, .ref (sa S 1000))] → W pv l ev rm_X4_pass s mv ([.ref (sa S 1000)] : List Value).toArray below meth cv H locs 0 0 Q (F0 mv 13 ls []) := by
    intro n_13
    induction n_13 with
    | zero => intro t ht hmu; exact absurd hmu (Nat.not_lt_zero _)
    | succ n_13 ih_13 =>
      intro t ht hmu H locs hM ls hl
      refine lv_iload hx hb dX4_pass_13 (lv_at hl 0 rfl) ?_
      refine lv_iload_n hx hb dX4_pass_15 rfl (lv_at hl 1 rfl) ?_
      refine lv_icmp_ge (tgt := 39) hx hb dX4_pass_16 (by decide) (fun c_1 => ?_) (fun c_1 => ?_)
      · skip
        have e_t : t = nt := by have := (nI_leI (a := nt) (b := t) (by omega) (by omega)).mp c_1; omega
        have e_t := Eq.symm e_t
        subst e_t
        refine lv_aload_n hx hb dX4_pass_39 rfl (lv_at hl 4 rfl) ?_
        refine lv_dup hx hb dX4_pass_40 rfl ?_
        refine fb_get (r := 1000) hx hb hown hts hin4 hM (hA.1.1) (ce4 (hA.1.2)) rfl 5 (by decide) (hts (.fieldLink RX4 56 "FeatherBedsLaw$Sim" "nights" "I") (by decide +kernel)) (fun _ h9 => h9) (v := .int ((sPs I (fun nt => cf nt * rf nt) (fun nt => ngt (cf nt) (cf nt * rf nt) (df nt) (B nt 0) (X nt)) nt) 1000 5)) rfl dX4_pass_41 ?_
        refine W.eq (g2 := F0 mv _ ls (.int (I 1000 5) :: .ref (sa S 1000) :: [])) (by rw [show ((sPs I (fun nt => cf nt * rf nt) (fun nt => ngt (cf nt) (cf nt * rf nt) (df nt) (B nt 0) (X nt)) nt) 1000 5 : Int32) = I 1000 5 from congrFun (e10 nt (Nat.le_refl _)) 5]) ?_
        refine lv_iconst (v := 1) hx hb dX4_pass_44 (by decide) ?_
        refine lv_iadd hx hb dX4_pass_45 ?_
        refine fb_put (r := 1000) hx hb hown hts hin4 tyX4 tyX4_ok nmX4 hM (hA.1.1) (ce4 (hA.1.2)) rfl 5 (by decide) (hts (.fieldLink RX4 56 "FeatherBedsLaw$Sim" "nights" "I") (by decide +kernel)) (fun _ h9 => h9) rfl (ty := .int) (by decide +kernel) rfl rfl (Nat.le_of_ble_eq_true rfl) dX4_pass_46 (up_I (j := 5) (v := (I 1000 5) + 1) (by rw [ce4 (S := S) (hA.1.2)]; simp [va_up, upd])) (w' := (S, V, (sT V), (va_up (sPs I (fun nt => cf nt * rf nt) (fun nt => ngt (cf nt) (cf nt * rf nt) (df nt) (B nt 0) (X nt)) nt) 1000 (upd ((sPs I (fun nt => cf nt * rf nt) (fun nt => ngt (cf nt) (cf nt * rf nt) (df nt) (B nt 0) (X nt)) nt) 1000) 5 ((I 1000 5) + 1))))) ⟨rfl, rfl, rfl⟩ (fun H locs hM => ?_)
        have eI : (va_up (sPs I (fun nt => cf nt * rf nt) (fun nt => ngt (cf nt) (cf nt * rf nt) (df nt) (B nt 0) (X nt)) nt) 1000 (upd ((sPs I (fun nt => cf nt * rf nt) (fun nt => ngt (cf nt) (cf nt * rf nt) (df nt) (B nt 0) (X nt)) nt) 1000) 5 ((I 1000 5) + 1))) = (va_up (sPs I (fun t => cf t * rf t) (fun t => ngt (cf t) (cf t * rf t) (df t) (B t 0) (X t)) nt) 1000 (upd (I 1000) 5 (I 1000 5 + 1))) := by rw [e10 nt (Nat.le_refl _)]
        rw [eI] at hM
        clear eI
        refine lv_aload_n hx hb dX4_pass_49 rfl (lv_at hl 4 rfl) ?_
        refine lv_dup hx hb dX4_pass_50 rfl ?_
        refine fb_get (r := 1000) hx hb hown hts hin4 hM (hA.1.1) (ce4 (hA.1.2)) rfl 7 (by decide) (hts (.fieldLink RX4 59 "FeatherBedsLaw$Sim" "pricked" "I") (by decide +kernel)) (fun _ h9 => h9) (v := .int ((va_up (sPs I (fun t => cf t * rf t) (fun t => ngt (cf t) (cf t * rf t) (df t) (B t 0) (X t)) nt) 1000 (upd (I 1000) 5 (I 1000 5 + 1))) 1000 7)) rfl dX4_pass_51 ?_
        refine W.eq (g2 := F0 mv _ ls (.int (I 1000 7) :: .ref (sa S 1000) :: [])) (by rw [show ((va_up (sPs I (fun t => cf t * rf t) (fun t => ngt (cf t) (cf t * rf t) (df t) (B t 0) (X t)) nt) 1000 (upd (I 1000) 5 (I 1000 5 + 1))) 1000 7 : Int32) = I 1000 7 from by rw [va_up_self]; exact if_neg (by decide)]) ?_
        refine lv_iload_n hx hb dX4_pass_54 rfl (lv_at hl 3 rfl) ?_
        refine lv_iadd hx hb dX4_pass_55 ?_
        refine fb_put (r := 1000) hx hb hown hts hin4 tyX4 tyX4_ok nmX4 hM (hA.1.1) (ce4 (hA.1.2)) rfl 7 (by decide) (hts (.fieldLink RX4 59 "FeatherBedsLaw$Sim" "pricked" "I") (by decide +kernel)) (fun _ h9 => h9) rfl (ty := .int) (by decide +kernel) rfl rfl (Nat.le_of_ble_eq_true rfl) dX4_pass_56 (up_I (j := 7) (v := (I 1000 7) + (sPl (fun nt => pkS (nI (df nt)) (X nt) (cf nt * rf nt)) nt)) (by rw [ce4 (S := S) (hA.1.2)]; simp [va_up, upd])) (w' := (S, V, (sT V), (va_up (va_up (sPs I (fun t => cf t * rf t) (fun t => ngt (cf t) (cf t * rf t) (df t) (B t 0) (X t)) nt) 1000 (upd (I 1000) 5 (I 1000 5 + 1))) 1000 (upd ((va_up (sPs I (fun t => cf t * rf t) (fun t => ngt (cf t) (cf t * rf t) (df t) (B t 0) (X t)) nt) 1000 (upd (I 1000) 5 (I 1000 5 + 1))) 1000) 7 ((I 1000 7) + (sPl (fun nt => pkS (nI (df nt)) (X nt) (cf nt * rf nt)) nt)))))) ⟨rfl, rfl, rfl⟩ (fun H locs hM => ?_)
        have eI : (va_up (va_up (sPs I (fun t => cf t * rf t) (fun t => ngt (cf t) (cf t * rf t) (df t) (B t 0) (X t)) nt) 1000 (upd (I 1000) 5 (I 1000 5 + 1))) 1000 (upd ((va_up (sPs I (fun t => cf t * rf t) (fun t => ngt (cf t) (cf t * rf t) (df t) (B t 0) (X t)) nt) 1000 (upd (I 1000) 5 (I 1000 5 + 1))) 1000) 7 ((I 1000 7) + (sPl (fun nt => pkS (nI (df nt)) (X nt) (cf nt * rf nt)) nt)))) = (va_up (va_up (sPs I (fun t => cf t * rf t) (fun t => ngt (cf t) (cf t * rf t) (df t) (B t 0) (X t)) nt) 1000 (upd (I 1000) 5 (I 1000 5 + 1))) 1000 (upd (upd (I 1000) 5 (I 1000 5 + 1)) 7 (I 1000 7 + sPl (fun t => pkS (nI (df t)) (X t) (cf t * rf t)) nt))) := by rw [va_up_self]
        rw [eI] at hM
        clear eI
        refine lv_iload_n hx hb dX4_pass_59 rfl (lv_at hl 3 rfl) ?_
        rw [hQ]
        exact fb_iret hx hb hr hlocks hM (⟨rfl, rfl⟩) dX4_pass_60
      · skip
        have htk : t < nt := Nat.lt_of_not_le (fun z => c_1 (nI_le z (by omega)))
        refine lv_aload_n hx hb dX4_pass_19 rfl (lv_at hl 2 rfl) ?_
        refine lv_iload hx hb dX4_pass_20 (lv_at hl 0 rfl) ?_
        refine fb_aald (r := (1040 + nt)) hx hb hM (hA.2.2.2.2.2.1.1) (ce13 (hA.2.2.2.2.2.1.2.1)) 6 rfl (k := t) (nI_clamp (by omega)) (b := sa S (1100 + 100 * t)) ((hA.2.2.2.2.2.2.2.2 t (by omega)).1) (by rw [hA.2.2.2.2.2.1.2.2]; exact vp_in_nI (by omega) (by omega)) dX4_pass_22 ?_
        refine lv_astore (lv' := [(5, .ref (sa S (1100 + 100 * t))), (4, .int (nI t)), (3, .int (nI nt)), (2, .ref (sa S (1040 + nt))), (1, .int (sPl (fun t => pkS (nI (df t)) (X t) (cf t * rf t)) t)), (0, .ref (sa S 1000))]) hx hb dX4_pass_23 hl (by decide) rfl (fun ls hl => ?_)
        refine lv_iload_n hx hb dX4_pass_25 rfl (lv_at hl 4 rfl) ?_
        refine lv_aload hx hb dX4_pass_26 (lv_at hl 0 rfl) ?_
        have hnn := hns t htk
        have eo : ∀ r, 1100 + 100 * t ≤ r → r < 1100 + 100 * t + 100 → (sPs I (fun t => cf t * rf t) (fun t => ngt (cf t) (cf t * rf t) (df t) (B t 0) (X t)) t) r = I r := fun r h1 h2 => sPs_out I _ _ t (fun u hu => by have h9 : cf u * rf u ≤ 36 := hns u (by omega); show r < _ ∨ 1100 + 100 * u + 10 + cf u * rf u ≤ r; omega)
        refine fb_callVi (r := (1100 + 100 * t)) hx hb hml hown hts hM ((hA.2.2.2.2.2.2.2.2 t (by omega)).2.1.1) (ce14 ((hA.2.2.2.2.2.2.2.2 t (by omega)).2.1.2)) rfl (As := []) (rest := [.int (sPl (fun t => pkS (nI (df t)) (X t) (cf t * rf t)) t)]) (c_X5_night D y l S V (sPs I (fun t => cf t * rf t) (fun t => ngt (cf t) (cf t * rf t) (df t) (B t 0) (X t)) t) (1100 + 100 * t) (cf t) (rf t) (df t) (hA.2.2.2.2.2.2.2.2 t htk).2 ((hT t htk).1.row (eo _ (by omega) (by omega))) (B t 0) (fun q e hq he => by rw [eo _ (by omega) (by omega)]; exact (hT t htk).2.1 q e hq he) (X t) (fun q hq => by rw [eo _ (by omega) (by omega)]; exact (hT t htk).2.2.1 q hq) (hT t htk).2.2.2) (cwV 0 hts gX4_pass_X5_night rfl rfl rfl (by decide +kernel) ⟨Nat.le_of_ble_eq_true rfl, Nat.le_of_ble_eq_true rfl⟩) rfl hl.1 rfl (Nat.le_of_ble_eq_true rfl) dX4_pass_28 ⟨Nat.le_of_ble_eq_true rfl, Nat.le_of_ble_eq_true rfl⟩ (fun v_2 u_ H locs hp hM => ?_)
        obtain ⟨hv_, hu_⟩ := hp
        have hv_ := Eq.symm hv_
        have hu_ := Eq.symm hu_
        subst hv_
        subst hu_
        have eI : (rB (sPs I (fun t => cf t * rf t) (fun t => ngt (cf t) (cf t * rf t) (df t) (B t 0) (X t)) t) (1100 + 100 * t + 10) (cf t * rf t) (ngt (cf t) (cf t * rf t) (df t) (B t 0) (X t))) = (sPs I (fun t => cf t * rf t) (fun t => ngt (cf t) (cf t * rf t) (df t) (B t 0) (X t)) (t + 1)) := rfl
        rw [eI] at hM
        clear eI
        refine lv_iadd hx hb dX4_pass_31 ?_
        refine W.eq (g2 := F0 mv _ ls (.int (sPl (fun t => pkS (nI (df t)) (X t) (cf t * rf t)) (t + 1)) :: [])) (rfl) ?_
        refine lv_istore_n (lv' := [(1, .int (sPl (fun t => pkS (nI (df t)) (X t) (cf t * rf t)) (t + 1))), (5, .ref (sa S (1100 + 100 * t))), (4, .int (nI t)), (3, .int (nI nt)), (2, .ref (sa S (1040 + nt))), (0, .ref (sa S 1000))]) hx hb dX4_pass_32 rfl hl (by decide) rfl (fun ls hl => ?_)
        refine lv_iinc (v := nI (t + 1)) (lv' := [(4, .int (nI (t + 1))), (1, .int (sPl (fun t => pkS (nI (df t)) (X t) (cf t * rf t)) (t + 1))), (5, .ref (sa S (1100 + 100 * t))), (3, .int (nI nt)), (2, .ref (sa S (1040 + nt))), (0, .ref (sa S 1000))]) hx hb dX4_pass_33 hl (k := 2) rfl (nI_1 _) (by decide) rfl (fun ls hl => ?_)
        refine lv_goto (tgt := 13) hx hb dX4_pass_36 (by decide) ?_
        exact ih_13 (t + 1) (by omega) (by omega) _ _ hM ls (lv_sub hl [0, 3, 4, 1, 5] rfl)
  exact LP_13 _ 0 (by omega) (Nat.lt_succ_self _) _ _ hM ls (lv_sub hl [0, 1, 2, 3, 4] rfl)
