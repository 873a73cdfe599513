abbrev rm_L_build : Room := { frames := 8, cells := 700, slots := 4000, locals := 214 }
set_option maxHeartbeats 4000000 in
set_option maxRecDepth 100000 in
theorem c_L_build (sc : Nat × Nat × (Nat → Int32)) (a0 : Nat × Nat) (D : va_G) (y : Nat → ClassId) (l : Launch) (S : fb_Sh) (V I : fb_V) (hC : CpAt S a0.1 0 0 4 10) (hal : ∀ x, x ∈ sR S → x < 4 ∨ (54 ≤ x ∧ x < 58) ∨ (100 ≤ x ∧ x < 110) ∨ (732 ≤ x ∧ x < 804)) (e1 : I 1 2 = 0) (e2 : I 2 2 = 0) (e4 : I 0 4 = 10) (e5 : I 0 5 = 0) (e6 : I 0 6 = 0) (e7 : I 0 7 = 0) (hcz : ∀ c, c < 5 → V (100 + 2 * c) = fun _ => 0) (hzz : ∀ q, q < 36 → V (732 + 2 * q) = fun _ => 0) : CSR sc a0 D y l yL_build wsL_build rm_L_build [.ref (sa S 0), .ref sc.1] (S, V, (sT V), I) (fun a u => ∃ S2 V2 J ns nt cf rf df, u = (S2, V2, sT V2, J) ∧ Bi a0.1 S2 V2 J ns nt cf rf df 72000 ∧ 1 ≤ ns ∧ 1 ≤ nt ∧ a = sa S2 1000 ∧ sa S2 0 = sa S 0) 700 4000 := by
  refine CSR.of (cc := cL_build) (maxL := 10) (ret := (some (.object "FeatherBedsLaw$Sim"))) (by decide) rfl (Nat.le_of_ble_eq_true rfl) ?_
  intro pv ev s mv below meth cv A hx hb hml hr hown hts hlocks hname hM hE hSc ls hl
  have hown : s.vm.findClass RL = some mv.cls := hown
  have hl : lv_has ls 10 [(0, .ref (sa S 0)), (1, .ref sc.1)] := hl
  have hin3 : ∀ x ∈ wsX30, x ∈ wsL_build := by decide +kernel
  have hin4 : ∀ x ∈ wsX40, x ∈ wsL_build := by decide +kernel
  obtain ⟨Q, hQ⟩ : ∃ Q, Q = MQ below (va_Qr (fun _ : fb_W => True) (fun u a t9 => (fun a u => ∃ S2 V2 J ns nt cf rf df, u = (S2, V2, sT V2, J) ∧ Bi a0.1 S2 V2 J ns nt cf rf df 72000 ∧ 1 ≤ ns ∧ 1 ≤ nt ∧ a = sa S2 1000 ∧ sa S2 0 = sa S 0) a u ∧ fb_P D y A u t9) A) (([.ref (sa S 0), .ref sc.1] : List Value).toArray) s 700 4000 A := ⟨_, rfl⟩
  rw [← hQ]
  have f0 : 1000 ∉ sR S := fun z => by have := hal _ z; omega
  refine fb_mko4 hx hb hown hts hin4 (hts (.classLink RL 9 RX4) (by decide +kernel)) (hts (.instantiable RX4 8) (by decide +kernel)) (hts (.initialized RX4) (by decide +kernel)) hM (Nat.le_of_ble_eq_true rfl) (Nat.le_of_ble_eq_true rfl) dL_build_0 1000 f0 (fun q9 H hM => ?_)
  have e1_ : Ext (fun x => x = 1000) S (fb_new S 1000 q9 4 0) := Ext.new _ _ _ _ rfl
  have r1_ := RA.new S 1000 q9 4 0
  have a1_ := nw_a S 1000 q9 4 0
  obtain ⟨S1, eS1⟩ : ∃ S1, S1 = fb_new S 1000 q9 4 0 := ⟨_, rfl⟩
  rw [← eS1] at hM e1_ r1_ a1_
  have k0 : sa S1 0 = sa S 0 := AA.ext e1_ (by omega)
  rw [← k0] at hl
  have hfr : ∀ x, 1001 ≤ x → x ≤ 1050 → x ∉ sR S1 := fun x h1 h2 => NA.ext e1_ (by omega) (fun z => by have := hal _ z; omega)
  refine lv_dup hx hb dL_build_3 rfl ?_
  refine fb_callINv hx hb hml hown hts hM (As := []) (rest := [.ref q9]) (c_X4_init D y l S1 V (va_up I 1000 (fun _ => 0)) q9 a1_ r1_.1 r1_.2.1 hfr rho0 (fun _ => 0) (fun _ => 0)) ⟨va_cnB 0 hts gL_build_X4_init_n11 rfl rfl rfl hSc.2.2.2.2 (hts (.initialized RX4) (by decide +kernel)) (by decide +kernel) ⟨Nat.le_of_ble_eq_true rfl, Nat.le_of_ble_eq_true rfl⟩, rfl, (hts (.instanceMethod yX4_init) (by decide +kernel))⟩ rfl hl.1 rfl (Nat.le_of_ble_eq_true rfl) dL_build_4 ⟨Nat.le_of_ble_eq_true rfl, Nat.le_of_ble_eq_true rfl⟩ (fun u_ H locs hp hM => ?_)
  obtain ⟨S2, hu_, hA2, e2_, k2⟩ := hp
  have hu_ := hu_.symm
  subst hu_
  have k3 : sa S2 0 = sa S1 0 := AA.ext e2_ (by omega)
  rw [← k3] at hl
  refine W.eq (g2 := F0 mv 7 ls [.ref (sa S2 1000)]) (by rw [k2, a1_]) ?_
  have hal2 : ∀ x, x ∈ sR S2 → Al 0 0 x := al_grow e2_ (al_grow (Q' := Al 0 0) e1_ hal (fun x hx => by unfold Al; omega) (fun x hx => by unfold Al; omega)) (fun x hx => by unfold Al; omega) (fun x hx => hx)
  have hC2 : CpAt S2 a0.1 0 0 4 10 := (hC.hi e1_ (fun x hx => by omega) (by omega) (by omega)).hi e2_ (fun x hx => by omega) (by omega) (by omega)
  have en : ∀ x, x < 1000 → (rB (va_up (va_up (va_up I 1000 (fun _ => 0)) 1001 (fun _ => 0)) 1000 (upd ((va_up I 1000 (fun _ => 0)) 1000) 2 10)) 1010 5 (fun _ _ => 0)) x = I x := fun x hx => by rw [rB_out _ _ (by omega), va_up_ne _ _ (by omega), va_up_ne _ _ (by omega), va_up_ne _ _ (by omega)]
  have hB0 : Bi a0.1 S2 V (rB (va_up (va_up (va_up I 1000 (fun _ => 0)) 1001 (fun _ => 0)) 1000 (upd ((va_up I 1000 (fun _ => 0)) 1000) 2 10)) 1010 5 (fun _ _ => 0)) 0 0 (fun _ => 0) (fun _ => 0) (fun _ => 0) 0 := Bi.start hC2 hA2 hal2 (by rw [en _ (by omega)]; exact e1) (by rw [en _ (by omega)]; exact e2) (by rw [en _ (by omega)]; exact e4) (by rw [en _ (by omega)]; exact e5) (by rw [en _ (by omega)]; exact e6) (by rw [en _ (by omega)]; exact e7) (by rw [rB_out _ _ (by omega), va_up_self]; exact if_pos rfl) (fun c hc => ⟨hcz c hc, rB_at _ _ _ hc⟩) hzz
  have hk00 : sa S2 0 = sa S 0 := k3.trans k0
  refine lv_astore_n (lv' := [(2, .ref (sa S2 1000)), (0, .ref (sa S2 0)), (1, .ref sc.1)]) hx hb dL_build_7 rfl hl (by decide) rfl (fun ls hl => ?_)
  refine lv_iconst (v := 1) hx hb dL_build_8 (by decide) ?_
  refine lv_aload_n hx hb dL_build_9 rfl (lv_at hl 2 rfl) ?_
  refine lv_iconst (v := 0) hx hb dL_build_10 (by decide) ?_
  refine fb_callSSi hx hb hml hown hts hM hE hSc (As := [.ref sc.1, .int 0]) (rest := [.int 1]) (c_L_cell sc a0 D y l S2 V (rB (va_up (va_up (va_up I 1000 (fun _ => 0)) 1001 (fun _ => 0)) 1000 (upd ((va_up I 1000 (fun _ => 0)) 1000) 2 10)) 1010 5 (fun _ _ => 0)) 0 (by omega)) (va_cwS 2 hts gL_build_L_cell rfl rfl rfl (by decide +kernel) ⟨Nat.le_of_ble_eq_true rfl, Nat.le_of_ble_eq_true rfl⟩) rfl hl.1 rfl (Nat.le_of_ble_eq_true rfl) dL_build_11 ⟨Nat.le_of_ble_eq_true rfl, Nat.le_of_ble_eq_true rfl⟩ (fun v_2 u_ H locs hp hM => ?_)
  have hu_ := Eq.symm hp
  subst hu_
  refine lv_iconst (v := 4) hx hb dL_build_14 (by decide) ?_
  refine fb_callSi hx hb hml hown hts hM (As := [.int v_2, .int 4]) (rest := [.int 1]) (c_L_below D y l S2 V (rB (va_up (va_up (va_up I 1000 (fun _ => 0)) 1001 (fun _ => 0)) 1000 (upd ((va_up I 1000 (fun _ => 0)) 1000) 2 10)) 1010 5 (fun _ _ => 0)) v_2 4 (by omega) (by omega)) (va_cwS 2 hts gL_build_L_below rfl rfl rfl (by decide +kernel) ⟨Nat.le_of_ble_eq_true rfl, Nat.le_of_ble_eq_true rfl⟩) rfl hl.1 rfl (Nat.le_of_ble_eq_true rfl) dL_build_15 ⟨Nat.le_of_ble_eq_true rfl, Nat.le_of_ble_eq_true rfl⟩ (fun v_3 u_ H locs hp hM => ?_)
  obtain ⟨hv_, hu_⟩ := hp
  have hv_ := Eq.symm hv_
  have hu_ := Eq.symm hu_
  subst hv_
  subst hu_
  obtain ⟨b0, eb0⟩ : ∃ b0, b0 = blN v_2 4 := ⟨_, rfl⟩
  have hb0 : b0 < 4 := by rw [eb0]; exact blN_lt _ (by omega)
  rw [← eb0]
  refine lv_iadd hx hb dL_build_18 ?_
  refine W.eq (g2 := F0 mv _ ls (.int (nI (1 + b0)) :: [])) (by rw [show (1 + (nI b0) : Int32) = nI (1 + b0) from nI_add 1 b0]) ?_
  obtain ⟨nsT, ensT⟩ : ∃ nsT, nsT = 1 + b0 := ⟨_, rfl⟩
  have hnsTa : 1 ≤ nsT := by omega
  have hnsTb : nsT ≤ 4 := by omega
  rw [← ensT]
  refine lv_istore_n (lv' := [(3, .int (nI nsT)), (2, .ref (sa S2 1000)), (0, .ref (sa S2 0)), (1, .ref sc.1)]) hx hb dL_build_19 rfl hl (by decide) rfl (fun ls hl => ?_)
  refine lv_iconst (v := 0) hx hb dL_build_20 (by decide) ?_
  refine lv_istore (lv' := [(4, .int 0), (3, .int (nI nsT)), (2, .ref (sa S2 1000)), (0, .ref (sa S2 0)), (1, .ref sc.1)]) hx hb dL_build_21 hl (by decide) rfl (fun ls hl => ?_)
  have LP_23 : ∀ (n : Nat) (k : Nat) (S9 : fb_Sh) (V9 I9 : fb_V) (hk : k ≤ nsT) (hB : Bi a0.1 S9 V9 I9 k 0 (fun _ => 0) (fun _ => 0) (fun _ => 0) (18000 * k)) (hk0 : sa S9 0 = sa S 0), nsT - k < n → ∀ (H : Heap) (locs : List Loc), fb_M D y A s (S9, V9, (sT V9), I9) H locs → ∀ ls, lv_has ls 10 [(4, .int (nI k)), (3, .int (nI nsT)), (2, .ref (sa S9 1000)), (0, .ref (sa S9 0)), (1, .ref sc.1)] → W pv l ev rm_L_build s mv ([.ref (sa S 0), .ref sc.1] : List Value).toArray below meth cv H locs (10 + 31 * k) (55 + 195 * k) Q (F0 mv 23 ls []) := by
    intro n_23
    induction n_23 with
    | zero => intro k S9 V9 I9 hk hB hk0 hmu; exact absurd hmu (Nat.not_lt_zero _)
    | succ n_23 ih_23 =>
      intro k S9 V9 I9 hk hB hk0 hmu H locs hM ls hl
      refine lv_iload hx hb dL_build_23 (lv_at hl 0 rfl) ?_
      refine lv_iload_n hx hb dL_build_25 rfl (lv_at hl 1 rfl) ?_
      refine lv_icmp_ge (tgt := 145) hx hb dL_build_26 (by decide) (fun c_4 => ?_) (fun c_4 => ?_)
      · skip
        have e_k : k = nsT := by have := (nI_leI (a := nsT) (b := k) (by omega) (by omega)).mp c_4; omega
        have e_k := Eq.symm e_k
        subst e_k
        refine lv_iconst (v := 1) hx hb dL_build_145 (by decide) ?_
        refine lv_aload_n hx hb dL_build_146 rfl (lv_at hl 4 rfl) ?_
        refine lv_bipush (v := 6) hx hb dL_build_147 (by decide) ?_
        refine fb_callSSi hx hb hml hown hts hM hE hSc (As := [.ref sc.1, .int 6]) (rest := [.int 1]) (c_L_cell sc a0 D y l S9 V9 I9 6 (by omega)) (va_cwS 2 hts gL_build_L_cell rfl rfl rfl (by decide +kernel) ⟨Nat.le_of_ble_eq_true rfl, Nat.le_of_ble_eq_true rfl⟩) rfl hl.1 rfl (Nat.le_of_ble_eq_true rfl) dL_build_149 ⟨(by show _ ≤ 700; omega), (by show _ ≤ 4000; omega)⟩ (fun v_5 u_ H locs hp hM => ?_)
        have hu_ := Eq.symm hp
        subst hu_
        refine lv_iconst (v := 3) hx hb dL_build_152 (by decide) ?_
        refine fb_callSi hx hb hml hown hts hM (As := [.int v_5, .int 3]) (rest := [.int 1]) (c_L_below D y l S9 V9 I9 v_5 3 (by omega) (by omega)) (va_cwS 2 hts gL_build_L_below rfl rfl rfl (by decide +kernel) ⟨Nat.le_of_ble_eq_true rfl, Nat.le_of_ble_eq_true rfl⟩) rfl hl.1 rfl (Nat.le_of_ble_eq_true rfl) dL_build_153 ⟨(by show _ ≤ 700; omega), (by show _ ≤ 4000; omega)⟩ (fun v_6 u_ H locs hp hM => ?_)
        obtain ⟨hv_, hu_⟩ := hp
        have hv_ := Eq.symm hv_
        have hu_ := Eq.symm hu_
        subst hv_
        subst hu_
        obtain ⟨b1, eb1⟩ : ∃ b1, b1 = blN v_5 3 := ⟨_, rfl⟩
        have hb1 : b1 < 3 := by rw [eb1]; exact blN_lt _ (by omega)
        rw [← eb1]
        refine lv_iadd hx hb dL_build_156 ?_
        refine W.eq (g2 := F0 mv _ ls (.int (nI (1 + b1)) :: [])) (by rw [show (1 + (nI b1) : Int32) = nI (1 + b1) from nI_add 1 b1]) ?_
        obtain ⟨ntT, entT⟩ : ∃ ntT, ntT = 1 + b1 := ⟨_, rfl⟩
        have hntTa : 1 ≤ ntT := by omega
        have hntTb : ntT ≤ 3 := by omega
        rw [← entT]
        refine lv_istore (lv' := [(4, .int (nI ntT)), (3, .int (nI nsT)), (2, .ref (sa S9 1000)), (0, .ref (sa S9 0)), (1, .ref sc.1)]) hx hb dL_build_157 hl (by decide) rfl (fun ls hl => ?_)
        refine lv_iconst (v := 0) hx hb dL_build_159 (by decide) ?_
        refine lv_istore (lv' := [(5, .int 0), (4, .int (nI ntT)), (3, .int (nI nsT)), (2, .ref (sa S9 1000)), (0, .ref (sa S9 0)), (1, .ref sc.1)]) hx hb dL_build_160 hl (by decide) rfl (fun ls hl => ?_)
        have LP_162 : ∀ (n : Nat) (j : Nat) (S5 : fb_Sh) (V5 I5 : fb_V) (cf rf df : Nat → Nat) (hj : j ≤ ntT) (hB5 : Bi a0.1 S5 V5 I5 nsT j cf rf df 72000) (hj0 : sa S5 0 = sa S 0), ntT - j < n → ∀ (H : Heap) (locs : List Loc), fb_M D y A s (S5, V5, (sT V5), I5) H locs → ∀ ls, lv_has ls 10 [(5, .int (nI j)), (4, .int (nI ntT)), (2, .ref (sa S5 1000)), (0, .ref (sa S5 0)), (1, .ref sc.1)] → W pv l ev rm_L_build s mv ([.ref (sa S 0), .ref sc.1] : List Value).toArray below meth cv H locs (134 + 157 * j) (835 + 852 * j) Q (F0 mv 162 ls []) := by
          intro n_162
          induction n_162 with
          | zero => intro j S5 V5 I5 cf rf df hj hB5 hj0 hmu; exact absurd hmu (Nat.not_lt_zero _)
          | succ n_162 ih_162 =>
            intro j S5 V5 I5 cf rf df hj hB5 hj0 hmu H locs hM ls hl
            refine lv_iload hx hb dL_build_162 (lv_at hl 0 rfl) ?_
            refine lv_iload hx hb dL_build_164 (lv_at hl 1 rfl) ?_
            refine lv_icmp_ge (tgt := 250) hx hb dL_build_166 (by decide) (fun c_7 => ?_) (fun c_7 => ?_)
            · skip
              have e_j : j = ntT := by have := (nI_leI (a := ntT) (b := j) (by omega) (by omega)).mp c_7; omega
              have e_j := Eq.symm e_j
              subst e_j
              refine lv_aload_n hx hb dL_build_250 rfl (lv_at hl 2 rfl) ?_
              rw [hQ]
              refine W.widen (show _ ≤ 700 by omega) (show _ ≤ 4000 by omega) ?_
              exact fb_aret hx hb hr (Or.inl ⟨_, rfl⟩) hlocks hM (⟨S5, V5, I5, nsT, ntT, cf, rf, df, rfl, hB5, hnsTa, hntTa, rfl, hj0⟩) dL_build_251
            · skip
              have hjn : j < ntT := Nat.lt_of_not_le (fun z => c_7 (nI_le z (by omega)))
              refine lv_aload_n hx hb dL_build_169 rfl (lv_at hl 4 rfl) ?_
              refine lv_bipush (v := 7) hx hb dL_build_170 (by decide) ?_
              refine fb_callSSi hx hb hml hown hts hM hE hSc (As := [.ref sc.1, .int 7]) (rest := []) (c_L_cell sc a0 D y l S5 V5 I5 7 (by omega)) (va_cwS 2 hts gL_build_L_cell rfl rfl rfl (by decide +kernel) ⟨Nat.le_of_ble_eq_true rfl, Nat.le_of_ble_eq_true rfl⟩) rfl hl.1 rfl (Nat.le_of_ble_eq_true rfl) dL_build_172 ⟨(by show _ ≤ 700; omega), (by show _ ≤ 4000; omega)⟩ (fun v_8 u_ H locs hp hM => ?_)
              have hu_ := Eq.symm hp
              subst hu_
              refine lv_iconst (v := 4) hx hb dL_build_175 (by decide) ?_
              refine lv_iload hx hb dL_build_176 (lv_at hl 0 rfl) ?_
              refine lv_imul hx hb dL_build_178 ?_
              refine lv_ishr hx hb dL_build_179 ?_
              refine lv_istore (lv' := [(6, .int (v_8 >>> ((4 * (nI j)) &&& 31))), (5, .int (nI j)), (4, .int (nI ntT)), (2, .ref (sa S5 1000)), (0, .ref (sa S5 0)), (1, .ref sc.1)]) hx hb dL_build_180 hl (by decide) rfl (fun ls hl => ?_)
              refine lv_iconst (v := 1) hx hb dL_build_182 (by decide) ?_
              refine lv_iload hx hb dL_build_183 (lv_at hl 0 rfl) ?_
              refine lv_iconst (v := 4) hx hb dL_build_185 (by decide) ?_
              refine fb_callSi hx hb hml hown hts hM (As := [.int (v_8 >>> ((4 * (nI j)) &&& 31)), .int 4]) (rest := [.int 1]) (c_L_below D y l S5 V5 I5 (v_8 >>> ((4 * (nI j)) &&& 31)) 4 (by omega) (by omega)) (va_cwS 2 hts gL_build_L_below rfl rfl rfl (by decide +kernel) ⟨Nat.le_of_ble_eq_true rfl, Nat.le_of_ble_eq_true rfl⟩) rfl hl.1 rfl (Nat.le_of_ble_eq_true rfl) dL_build_186 ⟨(by show _ ≤ 700; omega), (by show _ ≤ 4000; omega)⟩ (fun v_9 u_ H locs hp hM => ?_)
              obtain ⟨hv_, hu_⟩ := hp
              have hv_ := Eq.symm hv_
              have hu_ := Eq.symm hu_
              subst hv_
              subst hu_
              obtain ⟨c0, ec0⟩ : ∃ c0, c0 = blN (v_8 >>> ((4 * (nI j)) &&& 31)) 4 := ⟨_, rfl⟩
              have hc0 : c0 < 4 := by rw [ec0]; exact blN_lt _ (by omega)
              rw [← ec0]
              refine lv_iadd hx hb dL_build_189 ?_
              refine W.eq (g2 := F0 mv _ ls (.int (nI (1 + c0)) :: [])) (by rw [show (1 + (nI c0) : Int32) = nI (1 + c0) from nI_add 1 c0]) ?_
              obtain ⟨c, ec⟩ : ∃ c, c = 1 + c0 := ⟨_, rfl⟩
              have hca : 1 ≤ c := by omega
              have hcb : c ≤ 4 := by omega
              rw [← ec]
              refine lv_istore (lv' := [(7, .int (nI c)), (6, .int (v_8 >>> ((4 * (nI j)) &&& 31))), (5, .int (nI j)), (4, .int (nI ntT)), (2, .ref (sa S5 1000)), (0, .ref (sa S5 0)), (1, .ref sc.1)]) hx hb dL_build_190 hl (by decide) rfl (fun ls hl => ?_)
              refine lv_iconst (v := 1) hx hb dL_build_192 (by decide) ?_
              refine lv_iload hx hb dL_build_193 (lv_at hl 1 rfl) ?_
              refine lv_iconst (v := 2) hx hb dL_build_195 (by decide) ?_
              refine lv_ishr hx hb dL_build_196 ?_
              refine lv_iconst (v := 4) hx hb dL_build_197 (by decide) ?_
              refine fb_callSi hx hb hml hown hts hM (As := [.int ((v_8 >>> ((4 * (nI j)) &&& 31)) >>> (2 &&& 31)), .int 4]) (rest := [.int 1]) (c_L_below D y l S5 V5 I5 ((v_8 >>> ((4 * (nI j)) &&& 31)) >>> (2 &&& 31)) 4 (by omega) (by omega)) (va_cwS 2 hts gL_build_L_below rfl rfl rfl (by decide +kernel) ⟨Nat.le_of_ble_eq_true rfl, Nat.le_of_ble_eq_true rfl⟩) rfl hl.1 rfl (Nat.le_of_ble_eq_true rfl) dL_build_198 ⟨(by show _ ≤ 700; omega), (by show _ ≤ 4000; omega)⟩ (fun v_10 u_ H locs hp hM => ?_)
              obtain ⟨hv_, hu_⟩ := hp
              have hv_ := Eq.symm hv_
              have hu_ := Eq.symm hu_
              subst hv_
              subst hu_
              obtain ⟨r0, er0⟩ : ∃ r0, r0 = blN ((v_8 >>> ((4 * (nI j)) &&& 31)) >>> (2 &&& 31)) 4 := ⟨_, rfl⟩
              have hr0 : r0 < 4 := by rw [er0]; exact blN_lt _ (by omega)
              rw [← er0]
              refine lv_iadd hx hb dL_build_201 ?_
              refine W.eq (g2 := F0 mv _ ls (.int (nI (1 + r0)) :: [])) (by rw [show (1 + (nI r0) : Int32) = nI (1 + r0) from nI_add 1 r0]) ?_
              obtain ⟨r, er⟩ : ∃ r, r = 1 + r0 := ⟨_, rfl⟩
              have hra : 1 ≤ r := by omega
              have hrb : r ≤ 4 := by omega
              rw [← er]
              refine lv_istore (lv' := [(8, .int (nI r)), (7, .int (nI c)), (6, .int (v_8 >>> ((4 * (nI j)) &&& 31))), (5, .int (nI j)), (4, .int (nI ntT)), (2, .ref (sa S5 1000)), (0, .ref (sa S5 0)), (1, .ref sc.1)]) hx hb dL_build_202 hl (by decide) rfl (fun ls hl => ?_)
              refine lv_iconst (v := 1) hx hb dL_build_204 (by decide) ?_
              refine lv_iload hx hb dL_build_205 (lv_at hl 2 rfl) ?_
              refine lv_iconst (v := 3) hx hb dL_build_207 (by decide) ?_
              refine lv_ishr hx hb dL_build_208 ?_
              refine lv_bipush (v := 9) hx hb dL_build_209 (by decide) ?_
              refine fb_callSi hx hb hml hown hts hM (As := [.int ((v_8 >>> ((4 * (nI j)) &&& 31)) >>> (3 &&& 31)), .int 9]) (rest := [.int 1]) (c_L_below D y l S5 V5 I5 ((v_8 >>> ((4 * (nI j)) &&& 31)) >>> (3 &&& 31)) 9 (by omega) (by omega)) (va_cwS 2 hts gL_build_L_below rfl rfl rfl (by decide +kernel) ⟨Nat.le_of_ble_eq_true rfl, Nat.le_of_ble_eq_true rfl⟩) rfl hl.1 rfl (Nat.le_of_ble_eq_true rfl) dL_build_211 ⟨(by show _ ≤ 700; omega), (by show _ ≤ 4000; omega)⟩ (fun v_11 u_ H locs hp hM => ?_)
              obtain ⟨hv_, hu_⟩ := hp
              have hv_ := Eq.symm hv_
              have hu_ := Eq.symm hu_
              subst hv_
              subst hu_
              obtain ⟨d0, ed0⟩ : ∃ d0, d0 = blN ((v_8 >>> ((4 * (nI j)) &&& 31)) >>> (3 &&& 31)) 9 := ⟨_, rfl⟩
              have hd0 : d0 < 9 := by rw [ed0]; exact blN_lt _ (by omega)
              rw [← ed0]
              refine lv_iadd hx hb dL_build_214 ?_
              refine W.eq (g2 := F0 mv _ ls (.int (nI (1 + d0)) :: [])) (by rw [show (1 + (nI d0) : Int32) = nI (1 + d0) from nI_add 1 d0]) ?_
              obtain ⟨d, ed⟩ : ∃ d, d = 1 + d0 := ⟨_, rfl⟩
              have hda : 1 ≤ d := by omega
              have hdb : d ≤ 9 := by omega
              rw [← ed]
              refine lv_istore (lv' := [(9, .int (nI d)), (8, .int (nI r)), (7, .int (nI c)), (6, .int (v_8 >>> ((4 * (nI j)) &&& 31))), (5, .int (nI j)), (4, .int (nI ntT)), (2, .ref (sa S5 1000)), (0, .ref (sa S5 0)), (1, .ref sc.1)]) hx hb dL_build_215 hl (by decide) rfl (fun ls hl => ?_)
              refine lv_aload_n hx hb dL_build_217 rfl (lv_at hl 7 rfl) ?_
              refine lv_iload hx hb dL_build_218 (lv_at hl 2 rfl) ?_
              refine lv_iload hx hb dL_build_220 (lv_at hl 1 rfl) ?_
              refine lv_iload hx hb dL_build_222 (lv_at hl 0 rfl) ?_
              refine fb_callEVi (r := 0) hx hb hml hown hts hM hE (hB5.1.1.1.1.1) (ce3 (hB5.1.1.1.1.2)) rfl (As := [.int (nI c), .int (nI r), .int (nI d)]) (rest := []) (c_addTick25 a0 D y l S5 V5 I5 nsT j hB5.1.1.1 cf rf df hB5.1.2.2.1 c hca (by omega) r hra (by omega) d hda (by omega) (by omega) (fun x h1 h2 => hB5.nr (by unfold Al; omega)) (fun x h1 h2 => hB5.nr (by unfold Al; omega)) (fun _ => hB5.nr (by unfold Al; omega))) (cwV 3 hts gL_build_X3_addTick rfl rfl rfl (by decide +kernel) ⟨Nat.le_of_ble_eq_true rfl, Nat.le_of_ble_eq_true rfl⟩) rfl hl.1 rfl (Nat.le_of_ble_eq_true rfl) dL_build_224 ⟨(by show _ ≤ 700; omega), (by show _ ≤ 4000; omega)⟩ (fun v_12 u_ H locs hp hM => ?_)
              obtain ⟨hv_, Sc_, hu_, hCc, eC⟩ := hp
              have hu_ := hu_.symm
              subst hu_
              have hAc : SmAt Sc_ nsT j rho0 cf rf := hB5.1.1.2.lo eC (fun x hx => by omega)
              have kc0 : sa Sc_ 0 = sa S5 0 := AA.ext eC (by omega)
              have kc1 : sa Sc_ 1000 = sa S5 1000 := AA.ext eC (by omega)
              rw [← kc0, ← kc1] at hl
              refine W.eq (g2 := F0 mv _ ls (.int (nI j) :: [])) (by rw [show (v_12 : Int32) = nI j from hv_]) ?_
              refine lv_iload hx hb dL_build_227 (lv_at hl 4 rfl) ?_
              refine lv_icmp_eq (tgt := 234) hx hb dL_build_229 (by decide) (fun c_13 => ?_) (fun c_13 => absurd (rfl) c_13)
              refine lv_aload_n hx hb dL_build_234 rfl (lv_at hl 6 rfl) ?_
              refine lv_iload hx hb dL_build_235 (lv_at hl 2 rfl) ?_
              refine lv_iload hx hb dL_build_237 (lv_at hl 1 rfl) ?_
              refine lv_iload hx hb dL_build_239 (lv_at hl 0 rfl) ?_
              refine fb_callVv (r := 1000) hx hb hml hown hts hM (hAc.1.1) (ce4 (hAc.1.2)) rfl (As := [.int (nI c), .int (nI r), .int (nI d)]) (rest := []) (c_X4_tick D y l Sc_ (zV V5 (300 + 72 * j) 36) (va_up (itk I5 j c r d) 2 (upd (upd (I5 2) 0 (I5 2 0 + 1)) 2 (nI (j + 1)))) nsT j rho0 cf rf hAc (by omega) (by omega) (NA.ext eC (by omega) (hB5.nr (by unfold Al; omega))) (fun x h1 h2 => NA.ext eC (by omega) (hB5.nr (by unfold Al; omega))) (fun t ht => (hB5.1.2.2.2.1.2.2.2.1 t ht).n36.2) c r d hca (by omega) hra (by omega)) (cwV 3 hts gL_build_X4_tick rfl rfl rfl (by decide +kernel) ⟨Nat.le_of_ble_eq_true rfl, Nat.le_of_ble_eq_true rfl⟩) rfl hl.1 rfl (Nat.le_of_ble_eq_true rfl) dL_build_241 ⟨(by show _ ≤ 700; omega), (by show _ ≤ 4000; omega)⟩ (fun u_ H locs hp hM => ?_)
              obtain ⟨Sd, hu_, hAd, eD, kd1⟩ := hp
              have hu_ := hu_.symm
              subst hu_
              have kd0 : sa Sd 0 = sa Sc_ 0 := AA.ext eD (by omega)
              rw [← kd0, ← kd1] at hl
              obtain ⟨V4, eV4⟩ : ∃ V4, V4 = (zV V5 (300 + 72 * j) 36) := ⟨_, rfl⟩
              obtain ⟨I4, eI4⟩ : ∃ I4, I4 = (rB (rB (va_up (va_up (va_up (itk I5 j c r d) 2 (upd (upd (I5 2) 0 (I5 2 0 + 1)) 2 (nI (j + 1)))) (1100 + 100 * j) (fun _ => 0)) (1100 + 100 * j) (upd (upd (upd ((va_up (va_up (itk I5 j c r d) 2 (upd (upd (I5 2) 0 (I5 2 0 + 1)) 2 (nI (j + 1)))) (1100 + 100 * j) (fun _ => 0)) (1100 + 100 * j)) 0 (nI c)) 1 (nI r)) 2 (nI d))) ((1100 + 100 * j) + 9 + 1) (c * r) (fun _ _ => 0)) ((1100 + 100 * j) + 49 + 1) (c * r) (fun _ _ => 0)) := ⟨_, rfl⟩
              rw [← eV4, ← eI4] at hM
              have hcr36 : c * r ≤ 36 := Nat.mul_le_mul (show c ≤ 6 by omega) (show r ≤ 6 by omega)
              have eo : I4 (1100 + 100 * j) = upd (upd (upd (fun _ => 0) 0 (nI c)) 1 (nI r)) 2 (nI d) := by rw [eI4, rB_out _ _ (by omega), rB_out _ _ (by omega), va_up_self, va_up_self]
              have hlo : ∀ x, x < 1100 → I4 x = (va_up (itk I5 j c r d) 2 (upd (upd (I5 2) 0 (I5 2 0 + 1)) 2 (nI (j + 1)))) x := fun x hx => by rw [eI4, rB_out _ _ (by omega), rB_out _ _ (by omega), va_up_ne _ _ (by omega), va_up_ne _ _ (by omega)]
              have hB4 : Bi a0.1 Sd V4 I4 nsT (j + 1) (va_up cf j c) (va_up rf j r) (va_up df j d) 72000 := Bi.addT hB5 (by omega) hca (by omega) hra (by omega) hda (by omega) hCc eC hAd eD eV4 (by rw [hlo _ (by omega), va_up_self]; exact if_pos rfl) (itk_TF I5 hca (by omega) hra (by omega) hda (by omega) (by rw [hlo _ (by omega), va_up_ne _ _ (by omega)])) (by rw [hlo _ (by omega), va_up_ne _ _ (by omega)]; exact itk_B I5 j c r d) (by unfold LF; rw [eo]; exact ⟨rfl, rfl, rfl, hca, by omega, hra, by omega, hda, by omega⟩) (fun q hq => ⟨by rw [eI4, rB_out _ _ (by omega)]; exact rB_at _ _ _ hq, by rw [eI4]; exact rB_at _ _ _ hq⟩) (fun x h1 h2 h3 => by rw [eI4, rB_out _ _ (by omega), rB_out _ _ (by omega), va_up_ne _ _ (by omega), va_up_ne _ _ (by omega), va_up_ne _ _ h1, itk_out I5 j c r d (by omega)])
              have hd0 : sa Sd 0 = sa S 0 := (kd0.trans kc0).trans hj0
              refine lv_iinc (v := nI (j + 1)) (lv' := [(5, .int (nI (j + 1))), (9, .int (nI d)), (8, .int (nI r)), (7, .int (nI c)), (6, .int (v_8 >>> ((4 * (nI j)) &&& 31))), (4, .int (nI ntT)), (2, .ref (sa Sd 1000)), (0, .ref (sa Sd 0)), (1, .ref sc.1)]) hx hb dL_build_244 hl (k := 4) rfl (nI_1 _) (by decide) rfl (fun ls hl => ?_)
              refine lv_goto (tgt := 162) hx hb dL_build_247 (by decide) ?_
              refine W.widen (show _ ≤ 134 + 157 * (j + 1) by omega) (show _ ≤ 835 + 852 * (j + 1) by omega) ?_
              exact ih_162 (j + 1) Sd V4 I4 (va_up cf j c) (va_up rf j r) (va_up df j d) (by omega) hB4 hd0 (by omega) _ _ hM ls (lv_sub hl [0, 5, 6, 7, 8] rfl)
        refine W.widen (show _ ≤ 134 + 157 * 0 by omega) (show _ ≤ 835 + 852 * 0 by omega) ?_
        exact LP_162 _ 0 S9 V9 I9 (fun _ => 0) (fun _ => 0) (fun _ => 0) (by omega) (Bi.le hB (by omega)) hk0 (Nat.lt_succ_self _) _ _ hM ls (lv_sub hl [0, 1, 3, 4, 5] rfl)
      · skip
        have hkn : k < nsT := Nat.lt_of_not_le (fun z => c_4 (nI_le z (by omega)))
        refine lv_aload_n hx hb dL_build_29 rfl (lv_at hl 4 rfl) ?_
        refine lv_iconst (v := 1) hx hb dL_build_30 (by decide) ?_
        refine fb_callSSi hx hb hml hown hts hM hE hSc (As := [.ref sc.1, .int 1]) (rest := []) (c_L_cell sc a0 D y l S9 V9 I9 1 (by omega)) (va_cwS 2 hts gL_build_L_cell rfl rfl rfl (by decide +kernel) ⟨Nat.le_of_ble_eq_true rfl, Nat.le_of_ble_eq_true rfl⟩) rfl hl.1 rfl (Nat.le_of_ble_eq_true rfl) dL_build_31 ⟨(by show _ ≤ 700; omega), (by show _ ≤ 4000; omega)⟩ (fun v_15 u_ H locs hp hM => ?_)
        have hu_ := Eq.symm hp
        subst hu_
        refine lv_iconst (v := 3) hx hb dL_build_34 (by decide) ?_
        refine lv_iload hx hb dL_build_35 (lv_at hl 0 rfl) ?_
        refine lv_imul hx hb dL_build_37 ?_
        refine lv_ishr hx hb dL_build_38 ?_
        refine lv_bipush (v := 10) hx hb dL_build_39 (by decide) ?_
        refine fb_callSi hx hb hml hown hts hM (As := [.int (v_15 >>> ((3 * (nI k)) &&& 31)), .int 10]) (rest := []) (c_L_below D y l S9 V9 I9 (v_15 >>> ((3 * (nI k)) &&& 31)) 10 (by omega) (by omega)) (va_cwS 2 hts gL_build_L_below rfl rfl rfl (by decide +kernel) ⟨Nat.le_of_ble_eq_true rfl, Nat.le_of_ble_eq_true rfl⟩) rfl hl.1 rfl (Nat.le_of_ble_eq_true rfl) dL_build_41 ⟨(by show _ ≤ 700; omega), (by show _ ≤ 4000; omega)⟩ (fun v_16 u_ H locs hp hM => ?_)
        obtain ⟨hv_, hu_⟩ := hp
        have hv_ := Eq.symm hv_
        have hu_ := Eq.symm hu_
        subst hv_
        subst hu_
        obtain ⟨d, ed⟩ : ∃ d, d = blN (v_15 >>> ((3 * (nI k)) &&& 31)) 10 := ⟨_, rfl⟩
        have hd : d < 10 := by rw [ed]; exact blN_lt _ (by omega)
        rw [← ed]
        refine lv_istore (lv' := [(5, .int (nI d)), (4, .int (nI k)), (3, .int (nI nsT)), (2, .ref (sa S9 1000)), (0, .ref (sa S9 0)), (1, .ref sc.1)]) hx hb dL_build_44 hl (by decide) rfl (fun ls hl => ?_)
        refine lv_aload_n hx hb dL_build_46 rfl (lv_at hl 4 rfl) ?_
        refine lv_iload hx hb dL_build_47 (lv_at hl 0 rfl) ?_
        refine fb_callEVi (r := 0) hx hb hml hown hts hM hE (hB.1.1.1.1.1) (ce3 (hB.1.1.1.1.2)) rfl (As := [.int (nI d)]) (rest := []) (c_addSack25 a0 D y l S9 V9 I9 k 0 hB.1.1.1 (fun _ => 0) (fun _ => 0) (fun _ => 0) hB.1.2.2.1 d (by omega) (by omega) (hB.nr (by unfold Al; omega)) (hB.nr (by unfold Al; omega)) (hB.nr (by unfold Al; omega)) (fun _ => hB.nr (by unfold Al; omega))) (cwV 1 hts gL_build_X3_addSack rfl rfl rfl (by decide +kernel) ⟨Nat.le_of_ble_eq_true rfl, Nat.le_of_ble_eq_true rfl⟩) rfl hl.1 rfl (Nat.le_of_ble_eq_true rfl) dL_build_49 ⟨(by show _ ≤ 700; omega), (by show _ ≤ 4000; omega)⟩ (fun v_17 u_ H locs hp hM => ?_)
        obtain ⟨hv_, Sa, hu_, hCa, eA⟩ := hp
        have hu_ := hu_.symm
        subst hu_
        have hAa : SmAt Sa k 0 rho0 (fun _ => 0) (fun _ => 0) := hB.1.1.2.lo eA (fun x hx => by omega)
        have ka0 : sa Sa 0 = sa S9 0 := AA.ext eA (by omega)
        have ka1 : sa Sa 1000 = sa S9 1000 := AA.ext eA (by omega)
        rw [← ka0, ← ka1] at hl
        refine W.eq (g2 := F0 mv _ ls (.int (nI k) :: [])) (by rw [show (v_17 : Int32) = nI k from hv_]) ?_
        refine lv_iload hx hb dL_build_52 (lv_at hl 1 rfl) ?_
        refine lv_icmp_eq (tgt := 59) hx hb dL_build_54 (by decide) (fun c_18 => ?_) (fun c_18 => absurd (rfl) c_18)
        refine lv_aload_n hx hb dL_build_59 rfl (lv_at hl 3 rfl) ?_
        refine lv_iload hx hb dL_build_60 (lv_at hl 0 rfl) ?_
        refine fb_callVv (r := 1000) hx hb hml hown hts hM (hAa.1.1) (ce4 (hAa.1.2)) rfl (As := [.int (nI d)]) (rest := []) (c_X4_sack D y l Sa (va_up V9 (200 + 2 * k) (fun _ => 0)) (va_up (va_up I9 (10 + k) (upd (fun _ => 0) 1 (nI d))) 1 (upd (upd (I9 1) 0 (I9 1 0 + 1)) 2 (nI (k + 1)))) k 0 rho0 (fun _ => 0) (fun _ => 0) hAa (by omega) (NA.ext eA (by omega) (hB.nr (by unfold Al; omega))) (NA.ext eA (by omega) (hB.nr (by unfold Al; omega))) (nI d)) (cwV 1 hts gL_build_X4_sack rfl rfl rfl (by decide +kernel) ⟨Nat.le_of_ble_eq_true rfl, Nat.le_of_ble_eq_true rfl⟩) rfl hl.1 rfl (Nat.le_of_ble_eq_true rfl) dL_build_62 ⟨(by show _ ≤ 700; omega), (by show _ ≤ 4000; omega)⟩ (fun u_ H locs hp hM => ?_)
        obtain ⟨Sb, hu_, hAb, eB, kb1⟩ := hp
        have hu_ := hu_.symm
        subst hu_
        have kb0 : sa Sb 0 = sa Sa 0 := AA.ext eB (by omega)
        rw [← kb0, ← kb1] at hl
        obtain ⟨V8, eV8⟩ : ∃ V8, V8 = (va_up V9 (200 + 2 * k) (fun _ => 0)) := ⟨_, rfl⟩
        obtain ⟨I8, eI8⟩ : ∃ I8, I8 = (va_up (va_up (va_up (va_up I9 (10 + k) (upd (fun _ => 0) 1 (nI d))) 1 (upd (upd (I9 1) 0 (I9 1 0 + 1)) 2 (nI (k + 1)))) (1030 + k) (fun _ => 0)) 1001 (upd ((va_up (va_up I9 (10 + k) (upd (fun _ => 0) 1 (nI d))) 1 (upd (upd (I9 1) 0 (I9 1 0 + 1)) 2 (nI (k + 1)))) 1001) k (nI d))) := ⟨_, rfl⟩
        rw [← eV8, ← eI8] at hM
        have hB8 : Bi a0.1 Sb V8 I8 (k + 1) 0 (fun _ => 0) (fun _ => 0) (fun _ => 0) (18000 * k) := Bi.addS hB (by omega) (d := d) (by omega) hCa eA hAb eB eV8 (by rw [eI8, va_up_ne _ _ (by omega), va_up_ne _ _ (by omega), va_up_self]; exact if_pos rfl) (by rw [eI8, va_up_ne _ _ (by omega), va_up_ne _ _ (by omega), va_up_ne _ _ (by omega), va_up_self]; exact if_pos rfl) (by rw [eI8, va_up_ne _ _ (by omega), va_up_self]) (by rw [eI8, va_up_self, va_up_ne _ _ (by omega), va_up_ne _ _ (by omega)]) (fun x h1 h2 h3 h4 => by rw [eI8, va_up_ne _ _ h4, va_up_ne _ _ h3, va_up_ne _ _ h2, va_up_ne _ _ h1])
        have hz8 : ∀ j, 0 ≤ j → j < 6 → V8 (200 + 2 * k) j = 0 := fun j _ _ => by rw [eV8, va_up_self]
        have hb0 : sa Sb 0 = sa S 0 := (kb0.trans ka0).trans hk0
        refine lv_iconst (v := 0) hx hb dL_build_65 (by decide) ?_
        refine lv_istore (lv' := [(6, .int 0), (5, .int (nI d)), (4, .int (nI k)), (3, .int (nI nsT)), (2, .ref (sa Sb 1000)), (0, .ref (sa Sb 0)), (1, .ref sc.1)]) hx hb dL_build_66 hl (by decide) rfl (fun ls hl => ?_)
        have LP_68 : ∀ (n : Nat) (z : Nat) (V7 I7 : fb_V) (hz : z ≤ 6) (hB7 : Bi a0.1 Sb V7 I7 (k + 1) 0 (fun _ => 0) (fun _ => 0) (fun _ => 0) (18000 * k + 3000 * z)) (hz7 : ∀ j, z ≤ j → j < 6 → V7 (200 + 2 * k) j = 0), 6 - z < n → ∀ (H : Heap) (locs : List Loc), fb_M D y A s (Sb, V7, (sT V7), I7) H locs → ∀ ls, lv_has ls 10 [(6, .int (nI z)), (4, .int (nI k)), (3, .int (nI nsT)), (2, .ref (sa Sb 1000)), (0, .ref (sa Sb 0)), (1, .ref sc.1)] → W pv l ev rm_L_build s mv ([.ref (sa S 0), .ref sc.1] : List Value).toArray below meth cv H locs (17 + 31 * k + 4 * z) (106 + 195 * k + 24 * z) Q (F0 mv 68 ls []) := by
          intro n_68
          induction n_68 with
          | zero => intro z V7 I7 hz hB7 hz7 hmu; exact absurd hmu (Nat.not_lt_zero _)
          | succ n_68 ih_68 =>
            intro z V7 I7 hz hB7 hz7 hmu H locs hM ls hl
            refine lv_iload hx hb dL_build_68 (lv_at hl 0 rfl) ?_
            refine lv_bipush (v := 6) hx hb dL_build_70 (by decide) ?_
            refine lv_icmp_ge (tgt := 139) hx hb dL_build_72 (by decide) (fun c_20 => ?_) (fun c_20 => ?_)
            · skip
              have e_z : z = 6 := by have := (nI_leI (a := 6) (b := z) (by omega) (by omega)).mp c_20; omega
              have e_z := Eq.symm e_z
              subst e_z
              refine lv_iinc (v := nI (k + 1)) (lv' := [(4, .int (nI (k + 1))), (6, .int (nI 6)), (3, .int (nI nsT)), (2, .ref (sa Sb 1000)), (0, .ref (sa Sb 0)), (1, .ref sc.1)]) hx hb dL_build_139 hl (k := 1) rfl (nI_1 _) (by decide) rfl (fun ls hl => ?_)
              refine lv_goto (tgt := 23) hx hb dL_build_142 (by decide) ?_
              refine W.widen (show _ ≤ 10 + 31 * (k + 1) by omega) (show _ ≤ 55 + 195 * (k + 1) by omega) ?_
              exact ih_23 (k + 1) Sb V7 I7 (by omega) (Bi.le hB7 (by omega)) hb0 (by omega) _ _ hM ls (lv_sub hl [0, 2, 3, 4, 5] rfl)
            · skip
              have hz6 : z < 6 := Nat.lt_of_not_le (fun z => c_20 (nI_le z (by omega)))
              refine lv_aload_n hx hb dL_build_75 rfl (lv_at hl 5 rfl) ?_
              refine lv_iconst (v := 2) hx hb dL_build_76 (by decide) ?_
              refine lv_iload hx hb dL_build_77 (lv_at hl 1 rfl) ?_
              refine lv_iadd hx hb dL_build_79 ?_
              refine W.eq (g2 := F0 mv _ ls (.int (nI (2 + k)) :: .ref sc.1 :: [])) (by rw [show (2 + (nI k) : Int32) = nI (2 + k) from nI_add 2 k]) ?_
              refine fb_callSSi hx hb hml hown hts hM hE hSc (As := [.ref sc.1, .int (nI (2 + k))]) (rest := []) (c_L_cell sc a0 D y l Sb V7 I7 (2 + k) (by omega)) (va_cwS 2 hts gL_build_L_cell rfl rfl rfl (by decide +kernel) ⟨Nat.le_of_ble_eq_true rfl, Nat.le_of_ble_eq_true rfl⟩) rfl hl.1 rfl (Nat.le_of_ble_eq_true rfl) dL_build_80 ⟨(by show _ ≤ 700; omega), (by show _ ≤ 4000; omega)⟩ (fun v_21 u_ H locs hp hM => ?_)
              have hu_ := Eq.symm hp
              subst hu_
              refine lv_iconst (v := 2) hx hb dL_build_83 (by decide) ?_
              refine lv_iload hx hb dL_build_84 (lv_at hl 0 rfl) ?_
              refine lv_imul hx hb dL_build_86 ?_
              refine lv_ishr hx hb dL_build_87 ?_
              refine lv_sipush (v := 501) hx hb dL_build_88 (by decide) ?_
              refine fb_callSi hx hb hml hown hts hM (As := [.int (v_21 >>> ((2 * (nI z)) &&& 31)), .int 501]) (rest := []) (c_L_below D y l Sb V7 I7 (v_21 >>> ((2 * (nI z)) &&& 31)) 501 (by omega) (by omega)) (va_cwS 2 hts gL_build_L_below rfl rfl rfl (by decide +kernel) ⟨Nat.le_of_ble_eq_true rfl, Nat.le_of_ble_eq_true rfl⟩) rfl hl.1 rfl (Nat.le_of_ble_eq_true rfl) dL_build_91 ⟨(by show _ ≤ 700; omega), (by show _ ≤ 4000; omega)⟩ (fun v_22 u_ H locs hp hM => ?_)
              obtain ⟨hv_, hu_⟩ := hp
              have hv_ := Eq.symm hv_
              have hu_ := Eq.symm hu_
              subst hv_
              subst hu_
              obtain ⟨m, em⟩ : ∃ m, m = blN (v_21 >>> ((2 * (nI z)) &&& 31)) 501 := ⟨_, rfl⟩
              have hm : m < 501 := by rw [em]; exact blN_lt _ (by omega)
              rw [← em]
              refine lv_istore (lv' := [(7, .int (nI m)), (6, .int (nI z)), (4, .int (nI k)), (3, .int (nI nsT)), (2, .ref (sa Sb 1000)), (0, .ref (sa Sb 0)), (1, .ref sc.1)]) hx hb dL_build_94 hl (by decide) rfl (fun ls hl => ?_)
              refine lv_iload hx hb dL_build_96 (lv_at hl 0 rfl) ?_
              refine lv_if_ne (tgt := 104) hx hb dL_build_98 (by decide) (fun c_23 => ?_) (fun c_23 => ?_)
              · skip
                have hma : 1 ≤ m := by
                  rcases Nat.eq_zero_or_pos m with h9 | h9
                  · exact absurd (by rw [h9]; rfl) c_23
                  · exact h9
                refine lv_aload_n hx hb dL_build_104 rfl (lv_at hl 4 rfl) ?_
                refine fb_get (r := 1000) hx hb hown hts hin4 hM (hB7.1.1.2.1.1) (ce4 (hB7.1.1.2.1.2)) rfl 0 (by decide) (hts (.fieldLink RL 32 "FeatherBedsLaw$Sim" "sacks" "[[I") (by decide +kernel)) (fun _ h9 => h9) (v := .ref (sa Sb (1020 + (k + 1)))) (congrArg (fun z => some (va_rf z)) (hB7.1.1.2.2.1.1)) dL_build_105 ?_
                refine lv_iload hx hb dL_build_108 (lv_at hl 2 rfl) ?_
                refine fb_aaldA (r := (1020 + (k + 1))) hx hb hM (hB7.1.1.2.2.2.1.1) (ce10 (hB7.1.1.2.2.2.1.2.1)) 4 rfl (k := k) (nI_clamp (by omega)) (b := sa Sb (rho0 k)) ((hB7.1.1.2.2.2.2.2.2.2.1 k (by omega)).1) (by rw [hB7.1.1.2.2.2.1.2.2]; exact vp_in_nI (by omega) (by omega)) dL_build_110 ?_
                refine lv_iload hx hb dL_build_111 (lv_at hl 1 rfl) ?_
                refine lv_iload hx hb dL_build_113 (lv_at hl 0 rfl) ?_
                refine fb_iast (r := (rho0 k)) hx hb hM (((hB7.1.1.2.2.2.2.2.2.2.1 k (by omega)).2).1) (ce6 (((hB7.1.1.2.2.2.2.2.2.2.1 k (by omega)).2).2.1)) (k := z) (nI_clamp (by omega)) (by rw [((hB7.1.1.2.2.2.2.2.2.2.1 k (by omega)).2).2.2]; exact vp_in_nI (by omega) (by omega)) dL_build_115 (up_I (j := z) (by rw [ce6 (S := Sb) (((hB7.1.1.2.2.2.2.2.2.2.1 k (by omega)).2).2.1)]; simp [va_up])) (w' := (Sb, V7, (sT V7), (va_up I7 (rho0 k) (upd (I7 (rho0 k)) z (nI m))))) ⟨rfl, rfl, rfl⟩ (fun H locs hM => ?_)
                have eI : (va_up I7 (rho0 k) (upd (I7 (rho0 k)) z (nI m))) = (va_up I7 (1030 + k) (upd (I7 (1030 + k)) z (nI m))) := rfl
                rw [eI] at hM
                clear eI
                refine lv_aload_n hx hb dL_build_116 rfl (lv_at hl 5 rfl) ?_
                refine lv_iload hx hb dL_build_117 (lv_at hl 2 rfl) ?_
                refine lv_iload hx hb dL_build_119 (lv_at hl 1 rfl) ?_
                refine lv_iload hx hb dL_build_121 (lv_at hl 0 rfl) ?_
                have hcf : CF (va_up I7 (1030 + k) (upd (I7 (1030 + k)) z (nI m))) (k + 1) 0 (fun _ => 0) (fun _ => 0) (fun _ => 0) := cf_same hB7.1.2.2.1 (fun x9 h9 _ _ => va_up_ne _ _ (by omega)) (by omega)
                have hv0 : V7 (200 + 2 * k) z = 0 := hz7 z (Nat.le_refl _) hz6
                refine fb_callVi (r := 0) hx hb hml hown hts hM (hB7.1.1.1.1.1) (ce3 (hB7.1.1.1.1.2)) rfl (As := [.int (nI k), .int (nI z), .int (nI m)]) (rest := []) (c_X3_put_ok D y l Sb V7 (va_up I7 (1030 + k) (upd (I7 (1030 + k)) z (nI m))) a0.1 (k + 1) 0 4 10 hB7.1.1.1 (fun _ => 0) (fun _ => 0) (fun _ => 0) hcf k (by omega) z hz6 m hma (by omega) (by rw [hv0, Int32.zero_add]; exact nI_nlt (b := m) (a := 500) (by omega) (by omega))) (cwV 3 hts gL_build_X3_put rfl rfl rfl (by decide +kernel) ⟨Nat.le_of_ble_eq_true rfl, Nat.le_of_ble_eq_true rfl⟩) rfl hl.1 rfl (Nat.le_of_ble_eq_true rfl) dL_build_123 ⟨(by show _ ≤ 700; omega), (by show _ ≤ 4000; omega)⟩ (fun v_24 u_ H locs hp hM => ?_)
                obtain ⟨hv_, hu_⟩ := hp
                have hv_ := Eq.symm hv_
                have hu_ := Eq.symm hu_
                subst hv_
                subst hu_
                refine W.eq (g2 := F0 mv _ ls (.int (nI m) :: [])) (by rw [show (V7 (200 + 2 * k) z + nI m : Int32) = nI m from by rw [hv0, Int32.zero_add]]) ?_
                have hB6 := Bi.put hB7 (i := k) (k := z) (m := m) (by omega) hz6 hv0 (by omega) rfl rfl
                have hz6_ : ∀ j, z + 1 ≤ j → j < 6 → (va_up V7 (200 + 2 * k) (chv (V7 (200 + 2 * k)) z (nI m))) (200 + 2 * k) j = 0 := fun j h1 h2 => by rw [va_up_self]; exact (if_neg (by omega)).trans (hz7 j (by omega) h2)
                refine lv_iload hx hb dL_build_126 (lv_at hl 0 rfl) ?_
                refine lv_icmp_eq (tgt := 133) hx hb dL_build_128 (by decide) (fun c_25 => ?_) (fun c_25 => absurd (rfl) c_25)
                refine lv_iinc (v := nI (z + 1)) (lv' := [(6, .int (nI (z + 1))), (7, .int (nI m)), (4, .int (nI k)), (3, .int (nI nsT)), (2, .ref (sa Sb 1000)), (0, .ref (sa Sb 0)), (1, .ref sc.1)]) hx hb dL_build_133 hl (k := 1) rfl (nI_1 _) (by decide) rfl (fun ls hl => ?_)
                refine lv_goto (tgt := 68) hx hb dL_build_136 (by decide) ?_
                refine W.widen (show _ ≤ 17 + 31 * k + 4 * (z + 1) by omega) (show _ ≤ 106 + 195 * k + 24 * (z + 1) by omega) ?_
                exact ih_68 (z + 1) (va_up V7 (200 + 2 * k) (chv (V7 (200 + 2 * k)) z (nI m))) (va_up I7 (1030 + k) (upd (I7 (1030 + k)) z (nI m))) (by omega) (Bi.le hB6 (by omega)) hz6_ (by omega) _ _ hM ls (lv_sub hl [0, 2, 3, 4, 5, 6] rfl)
              · skip
                skip
                refine lv_goto (tgt := 133) hx hb dL_build_101 (by decide) ?_
                refine lv_iinc (v := nI (z + 1)) (lv' := [(6, .int (nI (z + 1))), (7, .int (nI m)), (4, .int (nI k)), (3, .int (nI nsT)), (2, .ref (sa Sb 1000)), (0, .ref (sa Sb 0)), (1, .ref sc.1)]) hx hb dL_build_133 hl (k := 1) rfl (nI_1 _) (by decide) rfl (fun ls hl => ?_)
                refine lv_goto (tgt := 68) hx hb dL_build_136 (by decide) ?_
                refine W.widen (show _ ≤ 17 + 31 * k + 4 * (z + 1) by omega) (show _ ≤ 106 + 195 * k + 24 * (z + 1) by omega) ?_
                exact ih_68 (z + 1) V7 I7 (by omega) (Bi.le hB7 (by omega)) (fun j h1 h2 => hz7 j (by omega) h2) (by omega) _ _ hM ls (lv_sub hl [0, 2, 3, 4, 5, 6] rfl)
        refine W.widen (show _ ≤ 17 + 31 * k + 4 * 0 by omega) (show _ ≤ 106 + 195 * k + 24 * 0 by omega) ?_
        exact LP_68 _ 0 V8 I8 (by omega) hB8 hz8 (Nat.lt_succ_self _) _ _ hM ls (lv_sub hl [0, 2, 3, 4, 5, 6] rfl)
  refine W.widen (show _ ≤ 10 + 31 * 0 by omega) (show _ ≤ 55 + 195 * 0 by omega) ?_
  exact LP_23 _ 0 S2 V (rB (va_up (va_up (va_up I 1000 (fun _ => 0)) 1001 (fun _ => 0)) 1000 (upd ((va_up I 1000 (fun _ => 0)) 1000) 2 10)) 1010 5 (fun _ _ => 0)) (by omega) hB0 hk00 (Nat.lt_succ_self _) _ _ hM ls (lv_sub hl [0, 1, 2, 3, 4] rfl)
