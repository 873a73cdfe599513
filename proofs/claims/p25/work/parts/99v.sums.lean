/-! the law: sums, sacks, all feathers -/
theorem sckT_k (v : Nat → Int32) (dm : Int32) {k : Nat} (hk : k < 6) : sckT v dm (nI k) = v k := by
  unfold sckT
  rw [if_neg (show ¬ (6 : Int32) ≤ nI k from fun z => absurd ((nI_leI (a := 6) (b := k) (by decide) (by omega)).mp z) (by omega)), of6_n v hk]
set_option maxHeartbeats 4000000 in
set_option maxRecDepth 100000 in
theorem lw_sums {pv : Program} {l : Launch} {ev : Env} {s : State} {mv : MethodId} {ar : Array Value} {below : List Frame} {meth : Method} {cv : Code} {A : Nat → Prop} {D : va_G} {y : Nat → ClassId} {a0 : Nat × Nat} {sc : Nat × Nat × (Nat → Int32)} {Q : State → Prop} (hx : pv.tables.exec = Jvm.exec) (hb : cv.code = cL_law) (hml : cv.maxLocals = 25) (hown : s.vm.findClass RL = some mv.cls) (hts : ∀ x ∈ wsL_law, x.before ar s = true) (hE : fb_E a0 A s) (hSc : fb_Sc sc A s) (a1 ns nt N G E : Nat) (rho cf rf df : Nat → Nat) (time t ce sl : Nat) (B0 : Nat → Int32) (X U : fb_V) (RR : Nat → Int32) (A5 AA_ PP : Int32) (S : fb_Sh) (V J : fb_V) (ht : t < nt) (hG : 4000 ≤ G) (hGE : G + 1 + cf t * rf t ≤ E) (hS : RA S E 6 6) (hZ : Zt a1 S V J ns nt rho cf rf df N (E + 1) t B0 (ngt (cf t) (cf t * rf t) (df t) B0 X) G U RR A5 AA_) (hs : ∀ j, j < 6 → J E j = gsum (fun z => (ngt (cf t) (cf t * rf t) (df t) B0 X) z j - X z j) (cf t * rf t)) (hPP : AA_ + RR 7 = PP) (hce : ce + 200 ≤ 626107) (hsl : sl + 1200 ≤ 7223304) (kk : (∀ (J9 : fb_V) (hZ9 : Zt a1 S V J9 ns nt rho cf rf df N (E + 1) t B0 (ngt (cf t) (cf t * rf t) (df t) B0 X) G U RR A5 AA_) (H : Heap) (locs : List Loc), fb_M D y A s (S, V, sT V, J9) H locs → ∀ ls, lv_has ls 25 [(4, .int (nI time)), (3, .int PP), (2, .ref (sa S 1000)), (1, .ref (sa S 0)), (0, .ref sc.1)] → W pv l ev rm_L_law s mv ar below meth cv H locs (ce + 200) (sl + 1200) Q (F0 mv 1033 ls []))) (H : Heap) (locs : List Loc) (hM : fb_M D y A s (S, V, sT V, J) H locs) (ls : Array Slot) (hl : lv_has ls 25 [(20, .ref (sa S E)), (19, .int (wsm (ngt (cf t) (cf t * rf t) (df t) B0 X) (cf t * rf t))), (18, .int (fsum (ngt (cf t) (cf t * rf t) (df t) B0 X) (cf t * rf t))), (17, .int (nI (df t))), (6, .int (nI t)), (4, .int (nI time)), (3, .int PP), (2, .ref (sa S 1000)), (1, .ref (sa S 0)), (0, .ref sc.1)]) : W pv l ev rm_L_law s mv ar below meth cv H locs (ce) (sl) Q (F0 mv 888 ls []) := by
  have hin4 : ∀ x ∈ wsX40, x ∈ wsL_law := by decide +kernel
  have hkt := hZ.1.2.2.2.1.2.2.2.1 t ht
  have hcr := hkt.n36
  have hd9 := hkt.c1.2
  have hBY : ∀ q, q < 36 → Bd ((ngt (cf t) (cf t * rf t) (df t) B0 X) q) 300 := fun q hq => by rw [← hZ.2.1.2 q hq]; exact hkt.2.1 q hq
  have hzY : ∀ q, cf t * rf t ≤ q → q < 36 → (ngt (cf t) (cf t * rf t) (df t) B0 X) q = fun _ => 0 := fun q h1 h2 => by rw [← hZ.2.1.2 q h2]; exact hkt.2.2.2.1 q h1 h2
  have hns4 := hZ.1.2.2.2.2.1
  refine lv_iload hx hb dL_law_888 (lv_at hl 2 rfl) ?_
  refine lv_aload_n hx hb dL_law_890 rfl (lv_at hl 8 rfl) ?_
  refine lv_iload hx hb dL_law_891 (lv_at hl 4 rfl) ?_
  refine lv_iconst (v := 3) hx hb dL_law_893 (by decide) ?_
  refine fb_callVi (r := 0) hx hb hml hown hts hM (hZ.1.1.1.1.1) (ce3 (hZ.1.1.1.1.2)) rfl (As := [.int (nI t), .int 3]) (rest := [.int (fsum (ngt (cf t) (cf t * rf t) (df t) B0 X) (cf t * rf t))]) (z_tk D y l hZ ht (by omega) 3 (by decide)) (cwV 2 hts gL_law_X3_tick rfl rfl rfl (by decide +kernel) ⟨Nat.le_of_ble_eq_true rfl, Nat.le_of_ble_eq_true rfl⟩) rfl hl.1 rfl (Nat.le_of_ble_eq_true rfl) dL_law_894 ⟨(by show _ ≤ 626107; omega), (by show _ ≤ 7223304; omega)⟩ (fun v_1 u_ H locs hp hM => ?_)
  obtain ⟨hv_, J71, hu_, hlo71, hZ71⟩ := hp
  subst hv_
  subst hu_
  refine W.eq (g2 := F0 mv _ ls (.int (fsum (ngt (cf t) (cf t * rf t) (df t) B0 X) 36) :: .int (fsum (ngt (cf t) (cf t * rf t) (df t) B0 X) (cf t * rf t)) :: [])) (by rw [show (ctk (cf t) (rf t) (df t) (ngt (cf t) (cf t * rf t) (df t) B0 X) B0 0 3 : Int32) = fsum (ngt (cf t) (cf t * rf t) (df t) B0 X) 36 from ctk_3 _ _ _ _ _ _]) ?_
  refine lv_icmp_ne (tgt := 932) hx hb dL_law_897 (by decide) (fun c_2 => absurd ((fsum_more 36 hzY hcr.2).symm) c_2) (fun c_2 => ?_)
  refine lv_iload hx hb dL_law_900 (lv_at hl 1 rfl) ?_
  refine lv_aload_n hx hb dL_law_902 rfl (lv_at hl 8 rfl) ?_
  refine lv_iload hx hb dL_law_903 (lv_at hl 4 rfl) ?_
  refine lv_iconst (v := 4) hx hb dL_law_905 (by decide) ?_
  refine fb_callVi (r := 0) hx hb hml hown hts hM (hZ71.1.1.1.1.1) (ce3 (hZ71.1.1.1.1.2)) rfl (As := [.int (nI t), .int 4]) (rest := [.int (wsm (ngt (cf t) (cf t * rf t) (df t) B0 X) (cf t * rf t))]) (z_tk D y l hZ71 ht (by omega) 4 (by decide)) (cwV 2 hts gL_law_X3_tick rfl rfl rfl (by decide +kernel) ⟨Nat.le_of_ble_eq_true rfl, Nat.le_of_ble_eq_true rfl⟩) rfl hl.1 rfl (Nat.le_of_ble_eq_true rfl) dL_law_906 ⟨(by show _ ≤ 626107; omega), (by show _ ≤ 7223304; omega)⟩ (fun v_3 u_ H locs hp hM => ?_)
  obtain ⟨hv_, J72, hu_, hlo72, hZ72⟩ := hp
  subst hv_
  subst hu_
  refine W.eq (g2 := F0 mv _ ls (.int (wsm (ngt (cf t) (cf t * rf t) (df t) B0 X) 36) :: .int (wsm (ngt (cf t) (cf t * rf t) (df t) B0 X) (cf t * rf t)) :: [])) (by rw [show (ctk (cf t) (rf t) (df t) (ngt (cf t) (cf t * rf t) (df t) B0 X) B0 0 4 : Int32) = wsm (ngt (cf t) (cf t * rf t) (df t) B0 X) 36 from ctk_4 _ _ _ _ _ _]) ?_
  refine lv_icmp_ne (tgt := 932) hx hb dL_law_909 (by decide) (fun c_4 => absurd ((wsm_more 36 hzY hcr.2).symm) c_4) (fun c_4 => ?_)
  refine lv_aload hx hb dL_law_912 (lv_at hl 0 rfl) ?_
  refine lv_iconst (v := 0) hx hb dL_law_914 (by decide) ?_
  refine fb_iald (r := E) hx hb hM ((hS).1) (ce6 ((hS).2.1)) (k := 0) (by decide) (by rw [(hS).2.2]; exact pk_in 0 _ (by omega) (by decide) (by omega)) dL_law_915 ?_
  refine W.eq (g2 := F0 mv _ ls (.int (0) :: [])) (by rw [show (J72 E 0 : Int32) = 0 from (congrFun ((hlo72 E (by omega)).trans ((hlo71 E (by omega)).trans rfl)) 0).trans ((hs 0 (by decide)).trans ((gsum_sub (fun z => (ngt (cf t) (cf t * rf t) (df t) B0 X) z 0) (fun z => X z 0) _).trans (by rw [ngt_g0 rfl hkt.c1.1 hcr.2 hd9]; exact Int32.sub_self _)))]) ?_
  refine lv_if_ne (tgt := 932) hx hb dL_law_916 (by decide) (fun c_5 => absurd (rfl) c_5) (fun c_5 => ?_)
  refine lv_iload hx hb dL_law_919 (lv_at hl 3 rfl) ?_
  refine lv_iconst (v := 1) hx hb dL_law_921 (by decide) ?_
  refine lv_icmp_le (tgt := 934) hx hb dL_law_922 (by decide) (fun c_6 => ?_) (fun c_6 => ?_)
  · skip
    refine lv_iconst (v := 0) hx hb dL_law_934 (by decide) ?_
    refine lv_istore (lv' := [(21, .int 0), (20, .ref (sa S E)), (19, .int (wsm (ngt (cf t) (cf t * rf t) (df t) B0 X) (cf t * rf t))), (18, .int (fsum (ngt (cf t) (cf t * rf t) (df t) B0 X) (cf t * rf t))), (17, .int (nI (df t))), (6, .int (nI t)), (4, .int (nI time)), (3, .int PP), (2, .ref (sa S 1000)), (1, .ref (sa S 0)), (0, .ref sc.1)]) hx hb dL_law_935 hl (by decide) rfl (fun ls hl => ?_)
    have LP_937 : ∀ (n : Nat) (z : Nat) (hzz : z ≤ ns), ns - z < n → ∀ (H : Heap) (locs : List Loc), fb_M D y A s (S, V, sT V, J72) H locs → ∀ ls, lv_has ls 25 [(21, .int (nI z)), (4, .int (nI time)), (3, .int PP), (2, .ref (sa S 1000)), (1, .ref (sa S 0)), (0, .ref sc.1)] → W pv l ev rm_L_law s mv ar below meth cv H locs (ce + 10 + 24 * z) (sl + 60 + 144 * z) Q (F0 mv 937 ls []) := by
      intro n_937
      induction n_937 with
      | zero => intro z hzz hmu; exact absurd hmu (Nat.not_lt_zero _)
      | succ n_937 ih_937 =>
        intro z hzz hmu H locs hM ls hl
        refine lv_iload hx hb dL_law_937 (lv_at hl 0 rfl) ?_
        refine lv_aload_n hx hb dL_law_939 rfl (lv_at hl 3 rfl) ?_
        refine fb_get (r := 1000) hx hb hown hts hin4 hM (hZ72.1.1.2.1.1) (ce4 (hZ72.1.1.2.1.2)) rfl 0 (by decide) (hts (.fieldLink RL 32 "FeatherBedsLaw$Sim" "sacks" "[[I") (by decide +kernel)) (fun _ h9 => h9) (v := .ref (sa S (1020 + ns))) (congrArg (fun z => some (va_rf z)) (hZ72.1.1.2.2.1.1)) dL_law_940 ?_
        refine fb_alen (r := (1020 + ns)) hx hb hM (hZ72.1.1.2.2.2.1.1) (ce10 (hZ72.1.1.2.2.2.1.2.1)) 4 rfl (v := nI ns) (congrArg Int32.ofNat (hZ72.1.1.2.2.2.1.2.2)) dL_law_943 ?_
        refine lv_icmp_ge (tgt := 996) hx hb dL_law_944 (by decide) (fun c_7 => ?_) (fun c_7 => ?_)
        · skip
          have e_z : z = ns := by have := (nI_leI (a := ns) (b := z) (by omega) (by omega)).mp c_7; omega
          have e_z := Eq.symm e_z
          subst e_z
          refine lv_aload_n hx hb dL_law_996 rfl (lv_at hl 4 rfl) ?_
          refine lv_iconst (v := 3) hx hb dL_law_997 (by decide) ?_
          refine fb_callVi (r := 0) hx hb hml hown hts hM (hZ72.1.1.1.1.1) (ce3 (hZ72.1.1.1.1.2)) rfl (As := [.int 3]) (rest := []) (z_ct D y l hZ72 3 (by decide)) (cwV 1 hts gL_law_X3_count rfl rfl rfl (by decide +kernel) ⟨Nat.le_of_ble_eq_true rfl, Nat.le_of_ble_eq_true rfl⟩) rfl hl.1 rfl (Nat.le_of_ble_eq_true rfl) dL_law_998 ⟨(by show _ ≤ 626107; omega), (by show _ ≤ 7223304; omega)⟩ (fun v_8 u_ H locs hp hM => ?_)
          obtain ⟨hv_, hu_⟩ := hp
          have hv_ := Eq.symm hv_
          have hu_ := Eq.symm hu_
          subst hv_
          subst hu_
          refine W.eq (g2 := F0 mv _ ls (.int (csum V 200 ns) :: [])) (rfl) ?_
          refine lv_aload_n hx hb dL_law_1001 rfl (lv_at hl 4 rfl) ?_
          refine lv_iconst (v := 4) hx hb dL_law_1002 (by decide) ?_
          refine fb_callVi (r := 0) hx hb hml hown hts hM (hZ72.1.1.1.1.1) (ce3 (hZ72.1.1.1.1.2)) rfl (As := [.int 4]) (rest := [.int (csum V 200 ns)]) (z_ct D y l hZ72 4 (by decide)) (cwV 1 hts gL_law_X3_count rfl rfl rfl (by decide +kernel) ⟨Nat.le_of_ble_eq_true rfl, Nat.le_of_ble_eq_true rfl⟩) rfl hl.1 rfl (Nat.le_of_ble_eq_true rfl) dL_law_1003 ⟨(by show _ ≤ 626107; omega), (by show _ ≤ 7223304; omega)⟩ (fun v_9 u_ H locs hp hM => ?_)
          obtain ⟨hv_, hu_⟩ := hp
          have hv_ := Eq.symm hv_
          have hu_ := Eq.symm hu_
          subst hv_
          subst hu_
          refine W.eq (g2 := F0 mv _ ls (.int (csum V 100 5) :: .int (csum V 200 ns) :: [])) (rfl) ?_
          refine lv_iadd hx hb dL_law_1006 ?_
          refine lv_aload_n hx hb dL_law_1007 rfl (lv_at hl 4 rfl) ?_
          refine lv_iconst (v := 5) hx hb dL_law_1008 (by decide) ?_
          refine fb_callVi (r := 0) hx hb hml hown hts hM (hZ72.1.1.1.1.1) (ce3 (hZ72.1.1.1.1.2)) rfl (As := [.int 5]) (rest := [.int ((csum V 200 ns) + (csum V 100 5))]) (z_ct D y l hZ72 5 (by decide)) (cwV 1 hts gL_law_X3_count rfl rfl rfl (by decide +kernel) ⟨Nat.le_of_ble_eq_true rfl, Nat.le_of_ble_eq_true rfl⟩) rfl hl.1 rfl (Nat.le_of_ble_eq_true rfl) dL_law_1009 ⟨(by show _ ≤ 626107; omega), (by show _ ≤ 7223304; omega)⟩ (fun v_10 u_ H locs hp hM => ?_)
          obtain ⟨hv_, hu_⟩ := hp
          have hv_ := Eq.symm hv_
          have hu_ := Eq.symm hu_
          subst hv_
          subst hu_
          refine W.eq (g2 := F0 mv _ ls (.int (tsum V nt) :: .int ((csum V 200 ns) + (csum V 100 5)) :: [])) (rfl) ?_
          refine lv_iadd hx hb dL_law_1012 ?_
          refine lv_aload_n hx hb dL_law_1013 rfl (lv_at hl 4 rfl) ?_
          refine lv_bipush (v := 6) hx hb dL_law_1014 (by decide) ?_
          refine fb_callVi (r := 0) hx hb hml hown hts hM (hZ72.1.1.1.1.1) (ce3 (hZ72.1.1.1.1.2)) rfl (As := [.int 6]) (rest := [.int (((csum V 200 ns) + (csum V 100 5)) + (tsum V nt))]) (z_ct D y l hZ72 6 (by decide)) (cwV 1 hts gL_law_X3_count rfl rfl rfl (by decide +kernel) ⟨Nat.le_of_ble_eq_true rfl, Nat.le_of_ble_eq_true rfl⟩) rfl hl.1 rfl (Nat.le_of_ble_eq_true rfl) dL_law_1016 ⟨(by show _ ≤ 626107; omega), (by show _ ≤ 7223304; omega)⟩ (fun v_11 u_ H locs hp hM => ?_)
          obtain ⟨hv_, hu_⟩ := hp
          have hv_ := Eq.symm hv_
          have hu_ := Eq.symm hu_
          subst hv_
          subst hu_
          refine W.eq (g2 := F0 mv _ ls (.int (J72 0 6) :: .int (((csum V 200 ns) + (csum V 100 5)) + (tsum V nt)) :: [])) (rfl) ?_
          refine lv_iadd hx hb dL_law_1019 ?_
          refine W.eq (g2 := F0 mv _ ls (.int (tot V J72 ns nt) :: [])) (rfl) ?_
          refine lv_aload_n hx hb dL_law_1020 rfl (lv_at hl 4 rfl) ?_
          refine lv_bipush (v := 7) hx hb dL_law_1021 (by decide) ?_
          refine fb_callVi (r := 0) hx hb hml hown hts hM (hZ72.1.1.1.1.1) (ce3 (hZ72.1.1.1.1.2)) rfl (As := [.int 7]) (rest := [.int (tot V J72 ns nt)]) (z_ct D y l hZ72 7 (by decide)) (cwV 1 hts gL_law_X3_count rfl rfl rfl (by decide +kernel) ⟨Nat.le_of_ble_eq_true rfl, Nat.le_of_ble_eq_true rfl⟩) rfl hl.1 rfl (Nat.le_of_ble_eq_true rfl) dL_law_1023 ⟨(by show _ ≤ 626107; omega), (by show _ ≤ 7223304; omega)⟩ (fun v_12 u_ H locs hp hM => ?_)
          obtain ⟨hv_, hu_⟩ := hp
          have hv_ := Eq.symm hv_
          have hu_ := Eq.symm hu_
          subst hv_
          subst hu_
          refine W.eq (g2 := F0 mv _ ls (.int (J72 0 7) :: .int (tot V J72 ns nt) :: [])) (rfl) ?_
          refine lv_iadd hx hb dL_law_1026 ?_
          refine lv_iload_n hx hb dL_law_1027 rfl (lv_at hl 2 rfl) ?_
          refine lv_icmp_eq (tgt := 1033) hx hb dL_law_1028 (by decide) (fun c_13 => ?_) (fun c_13 => absurd ((show tot V J72 ns nt + J72 0 7 = PP by rw [hZ72.2.2.2.2.2, hZ72.2.2.2.1]; exact hPP)) c_13)
          refine W.widen (show _ ≤ ce + 200 by omega) (show _ ≤ sl + 1200 by omega) ?_
          exact kk J72 hZ72 _ _ hM ls (lv_sub hl [1, 2, 3, 4, 5] rfl)
        · skip
          have hzn : z < ns := Nat.lt_of_not_le (fun z => c_7 (nI_le z (by omega)))
          refine lv_iconst (v := 0) hx hb dL_law_947 (by decide) ?_
          refine lv_istore (lv' := [(22, .int 0), (21, .int (nI z)), (4, .int (nI time)), (3, .int PP), (2, .ref (sa S 1000)), (1, .ref (sa S 0)), (0, .ref sc.1)]) hx hb dL_law_948 hl (by decide) rfl (fun ls hl => ?_)
          have LP_950 : ∀ (n : Nat) (k : Nat) (hk : k ≤ 6), 6 - k < n → ∀ (H : Heap) (locs : List Loc), fb_M D y A s (S, V, sT V, J72) H locs → ∀ ls, lv_has ls 25 [(22, .int (nI k)), (21, .int (nI z)), (4, .int (nI time)), (3, .int PP), (2, .ref (sa S 1000)), (1, .ref (sa S 0)), (0, .ref sc.1)] → W pv l ev rm_L_law s mv ar below meth cv H locs (ce + 10 + 24 * z + 4 * k) (sl + 60 + 144 * z + 24 * k) Q (F0 mv 950 ls []) := by
            intro n_950
            induction n_950 with
            | zero => intro k hk hmu; exact absurd hmu (Nat.not_lt_zero _)
            | succ n_950 ih_950 =>
              intro k hk hmu H locs hM ls hl
              refine lv_iload hx hb dL_law_950 (lv_at hl 0 rfl) ?_
              refine lv_bipush (v := 6) hx hb dL_law_952 (by decide) ?_
              refine lv_icmp_ge (tgt := 990) hx hb dL_law_954 (by decide) (fun c_14 => ?_) (fun c_14 => ?_)
              · skip
                have e_k : k = 6 := by have := (nI_leI (a := 6) (b := k) (by omega) (by omega)).mp c_14; omega
                have e_k := Eq.symm e_k
                subst e_k
                refine lv_iinc (v := nI (z + 1)) (lv' := [(21, .int (nI (z + 1))), (22, .int (nI 6)), (4, .int (nI time)), (3, .int PP), (2, .ref (sa S 1000)), (1, .ref (sa S 0)), (0, .ref sc.1)]) hx hb dL_law_990 hl (k := 1) rfl (nI_1 _) (by decide) rfl (fun ls hl => ?_)
                refine lv_goto (tgt := 937) hx hb dL_law_993 (by decide) ?_
                refine W.widen (show _ ≤ ce + 10 + 24 * (z + 1) by omega) (show _ ≤ sl + 60 + 144 * (z + 1) by omega) ?_
                exact ih_937 (z + 1) (by omega) (by omega) _ _ hM ls (lv_sub hl [0, 2, 3, 4, 5, 6] rfl)
              · skip
                have hk6 : k < 6 := Nat.lt_of_not_le (fun z => c_14 (nI_le z (by omega)))
                obtain ⟨f7, hf7, hg7⟩ := (hZ.1.2.2.2.1.2.1 z hzn).2.1
                have hw7 : f7 k ≤ 500 := hg7 k hk6
                obtain ⟨w7, e7⟩ : ∃ w7, w7 = f7 k := ⟨_, rfl⟩
                have ew7 : V (200 + 2 * z) k = nI w7 := by rw [hf7, nv_k _ hk6, e7]
                have hw75 : w7 ≤ 500 := by omega
                refine lv_aload_n hx hb dL_law_957 rfl (lv_at hl 5 rfl) ?_
                refine lv_iload hx hb dL_law_958 (lv_at hl 1 rfl) ?_
                refine lv_iload hx hb dL_law_960 (lv_at hl 0 rfl) ?_
                refine fb_callVi (r := 0) hx hb hml hown hts hM (hZ72.1.1.1.1.1) (ce3 (hZ72.1.1.1.1.2)) rfl (As := [.int (nI z), .int (nI k)]) (rest := []) (c_X3_sack_ok D y l S V J72 a1 ns nt 4 10 hZ72.1.1.1 cf rf df hZ72.1.2.2.1 z hzn k (by omega)) (cwV 2 hts gL_law_X3_sack rfl rfl rfl (by decide +kernel) ⟨Nat.le_of_ble_eq_true rfl, Nat.le_of_ble_eq_true rfl⟩) rfl hl.1 rfl (Nat.le_of_ble_eq_true rfl) dL_law_962 ⟨(by show _ ≤ 626107; omega), (by show _ ≤ 7223304; omega)⟩ (fun v_15 u_ H locs hp hM => ?_)
                obtain ⟨hv_, hu_⟩ := hp
                have hv_ := Eq.symm hv_
                have hu_ := Eq.symm hu_
                subst hv_
                subst hu_
                refine W.eq (g2 := F0 mv _ ls (.int (nI w7) :: [])) (by rw [show (sckT (V (200 + 2 * z)) (J72 (10 + z) 1) (nI k) : Int32) = nI w7 from (sckT_k _ _ hk6).trans ew7]) ?_
                refine lv_sipush (v := 500) hx hb dL_law_965 (by decide) ?_
                refine lv_icmp_gt (tgt := 982) hx hb dL_law_968 (by decide) (fun c_16 => absurd c_16 (nI_nlt (b := w7) (a := 500) hw75 (by decide))) (fun c_16 => ?_)
                refine lv_aload_n hx hb dL_law_971 rfl (lv_at hl 5 rfl) ?_
                refine lv_iload hx hb dL_law_972 (lv_at hl 1 rfl) ?_
                refine lv_iload hx hb dL_law_974 (lv_at hl 0 rfl) ?_
                refine fb_callVi (r := 0) hx hb hml hown hts hM (hZ72.1.1.1.1.1) (ce3 (hZ72.1.1.1.1.2)) rfl (As := [.int (nI z), .int (nI k)]) (rest := []) (c_X3_sack_ok D y l S V J72 a1 ns nt 4 10 hZ72.1.1.1 cf rf df hZ72.1.2.2.1 z hzn k (by omega)) (cwV 2 hts gL_law_X3_sack rfl rfl rfl (by decide +kernel) ⟨Nat.le_of_ble_eq_true rfl, Nat.le_of_ble_eq_true rfl⟩) rfl hl.1 rfl (Nat.le_of_ble_eq_true rfl) dL_law_976 ⟨(by show _ ≤ 626107; omega), (by show _ ≤ 7223304; omega)⟩ (fun v_17 u_ H locs hp hM => ?_)
                obtain ⟨hv_, hu_⟩ := hp
                have hv_ := Eq.symm hv_
                have hu_ := Eq.symm hu_
                subst hv_
                subst hu_
                refine W.eq (g2 := F0 mv _ ls (.int (nI w7) :: [])) (by rw [show (sckT (V (200 + 2 * z)) (J72 (10 + z) 1) (nI k) : Int32) = nI w7 from (sckT_k _ _ hk6).trans ew7]) ?_
                refine lv_if_ge (tgt := 984) hx hb dL_law_979 (by decide) (fun c_18 => ?_) (fun c_18 => absurd (nI_le (a := 0) (b := w7) (Nat.zero_le _) (by omega)) c_18)
                refine lv_iinc (v := nI (k + 1)) (lv' := [(22, .int (nI (k + 1))), (21, .int (nI z)), (4, .int (nI time)), (3, .int PP), (2, .ref (sa S 1000)), (1, .ref (sa S 0)), (0, .ref sc.1)]) hx hb dL_law_984 hl (k := 0) rfl (nI_1 _) (by decide) rfl (fun ls hl => ?_)
                refine lv_goto (tgt := 950) hx hb dL_law_987 (by decide) ?_
                refine W.widen (show _ ≤ ce + 10 + 24 * z + 4 * (k + 1) by omega) (show _ ≤ sl + 60 + 144 * z + 24 * (k + 1) by omega) ?_
                exact ih_950 (k + 1) (by omega) (by omega) _ _ hM ls (lv_sub hl [0, 1, 2, 3, 4, 5, 6] rfl)
          refine W.widen (show _ ≤ ce + 10 + 24 * z + 4 * 0 by omega) (show _ ≤ sl + 60 + 144 * z + 24 * 0 by omega) ?_
          exact LP_950 _ 0 (by omega) (Nat.lt_succ_self _) _ _ hM ls (lv_sub hl [0, 1, 2, 3, 4, 5, 6] rfl)
    refine W.widen (show _ ≤ ce + 10 + 24 * 0 by omega) (show _ ≤ sl + 60 + 144 * 0 by omega) ?_
    exact LP_937 _ 0 (by omega) (Nat.lt_succ_self _) _ _ hM ls (lv_sub hl [0, 6, 7, 8, 9, 10] rfl)
  · skip
    have hd1_ : 1 < df t := by
      rcases Nat.lt_or_ge 1 (df t) with h | h
      · exact h
      · exact absurd (nI_le h (by decide)) c_6
    refine lv_aload hx hb dL_law_925 (lv_at hl 0 rfl) ?_
    refine lv_iconst (v := 1) hx hb dL_law_927 (by decide) ?_
    refine fb_iald (r := E) hx hb hM ((hS).1) (ce6 ((hS).2.1)) (k := 1) (by decide) (by rw [(hS).2.2]; exact pk_in 1 _ (by omega) (by decide) (by omega)) dL_law_928 ?_
    refine W.eq (g2 := F0 mv _ ls (.int (0) :: [])) (by rw [show (J72 E 1 : Int32) = 0 from (congrFun ((hlo72 E (by omega)).trans ((hlo71 E (by omega)).trans rfl)) 1).trans ((hs 1 (by decide)).trans ((gsum_sub (fun z => (ngt (cf t) (cf t * rf t) (df t) B0 X) z 1) (fun z => X z 1) _).trans (by rw [ngt_g1 rfl hkt.c1.1 hcr.2 hd9 hd1_]; exact Int32.sub_self _)))]) ?_
    refine lv_if_eq (tgt := 934) hx hb dL_law_929 (by decide) (fun c_19 => ?_) (fun c_19 => absurd (rfl) c_19)
    refine lv_iconst (v := 0) hx hb dL_law_934 (by decide) ?_
    refine lv_istore (lv' := [(21, .int 0), (20, .ref (sa S E)), (19, .int (wsm (ngt (cf t) (cf t * rf t) (df t) B0 X) (cf t * rf t))), (18, .int (fsum (ngt (cf t) (cf t * rf t) (df t) B0 X) (cf t * rf t))), (17, .int (nI (df t))), (6, .int (nI t)), (4, .int (nI time)), (3, .int PP), (2, .ref (sa S 1000)), (1, .ref (sa S 0)), (0, .ref sc.1)]) hx hb dL_law_935 hl (by decide) rfl (fun ls hl => ?_)
    have LP_937 : ∀ (n : Nat) (z : Nat) (hzz : z ≤ ns), ns - z < n → ∀ (H : Heap) (locs : List Loc), fb_M D y A s (S, V, sT V, J72) H locs → ∀ ls, lv_has ls 25 [(21, .int (nI z)), (4, .int (nI time)), (3, .int PP), (2, .ref (sa S 1000)), (1, .ref (sa S 0)), (0, .ref sc.1)] → W pv l ev rm_L_law s mv ar below meth cv H locs (ce + 10 + 24 * z) (sl + 60 + 144 * z) Q (F0 mv 937 ls []) := by
      intro n_937
      induction n_937 with
      | zero => intro z hzz hmu; exact absurd hmu (Nat.not_lt_zero _)
      | succ n_937 ih_937 =>
        intro z hzz hmu H locs hM ls hl
        refine lv_iload hx hb dL_law_937 (lv_at hl 0 rfl) ?_
        refine lv_aload_n hx hb dL_law_939 rfl (lv_at hl 3 rfl) ?_
        refine fb_get (r := 1000) hx hb hown hts hin4 hM (hZ72.1.1.2.1.1) (ce4 (hZ72.1.1.2.1.2)) rfl 0 (by decide) (hts (.fieldLink RL 32 "FeatherBedsLaw$Sim" "sacks" "[[I") (by decide +kernel)) (fun _ h9 => h9) (v := .ref (sa S (1020 + ns))) (congrArg (fun z => some (va_rf z)) (hZ72.1.1.2.2.1.1)) dL_law_940 ?_
        refine fb_alen (r := (1020 + ns)) hx hb hM (hZ72.1.1.2.2.2.1.1) (ce10 (hZ72.1.1.2.2.2.1.2.1)) 4 rfl (v := nI ns) (congrArg Int32.ofNat (hZ72.1.1.2.2.2.1.2.2)) dL_law_943 ?_
        refine lv_icmp_ge (tgt := 996) hx hb dL_law_944 (by decide) (fun c_20 => ?_) (fun c_20 => ?_)
        · skip
          have e_z : z = ns := by have := (nI_leI (a := ns) (b := z) (by omega) (by omega)).mp c_20; omega
          have e_z := Eq.symm e_z
          subst e_z
          refine lv_aload_n hx hb dL_law_996 rfl (lv_at hl 4 rfl) ?_
          refine lv_iconst (v := 3) hx hb dL_law_997 (by decide) ?_
          refine fb_callVi (r := 0) hx hb hml hown hts hM (hZ72.1.1.1.1.1) (ce3 (hZ72.1.1.1.1.2)) rfl (As := [.int 3]) (rest := []) (z_ct D y l hZ72 3 (by decide)) (cwV 1 hts gL_law_X3_count rfl rfl rfl (by decide +kernel) ⟨Nat.le_of_ble_eq_true rfl, Nat.le_of_ble_eq_true rfl⟩) rfl hl.1 rfl (Nat.le_of_ble_eq_true rfl) dL_law_998 ⟨(by show _ ≤ 626107; omega), (by show _ ≤ 7223304; omega)⟩ (fun v_21 u_ H locs hp hM => ?_)
          obtain ⟨hv_, hu_⟩ := hp
          have hv_ := Eq.symm hv_
          have hu_ := Eq.symm hu_
          subst hv_
          subst hu_
          refine W.eq (g2 := F0 mv _ ls (.int (csum V 200 ns) :: [])) (rfl) ?_
          refine lv_aload_n hx hb dL_law_1001 rfl (lv_at hl 4 rfl) ?_
          refine lv_iconst (v := 4) hx hb dL_law_1002 (by decide) ?_
          refine fb_callVi (r := 0) hx hb hml hown hts hM (hZ72.1.1.1.1.1) (ce3 (hZ72.1.1.1.1.2)) rfl (As := [.int 4]) (rest := [.int (csum V 200 ns)]) (z_ct D y l hZ72 4 (by decide)) (cwV 1 hts gL_law_X3_count rfl rfl rfl (by decide +kernel) ⟨Nat.le_of_ble_eq_true rfl, Nat.le_of_ble_eq_true rfl⟩) rfl hl.1 rfl (Nat.le_of_ble_eq_true rfl) dL_law_1003 ⟨(by show _ ≤ 626107; omega), (by show _ ≤ 7223304; omega)⟩ (fun v_22 u_ H locs hp hM => ?_)
          obtain ⟨hv_, hu_⟩ := hp
          have hv_ := Eq.symm hv_
          have hu_ := Eq.symm hu_
          subst hv_
          subst hu_
          refine W.eq (g2 := F0 mv _ ls (.int (csum V 100 5) :: .int (csum V 200 ns) :: [])) (rfl) ?_
          refine lv_iadd hx hb dL_law_1006 ?_
          refine lv_aload_n hx hb dL_law_1007 rfl (lv_at hl 4 rfl) ?_
          refine lv_iconst (v := 5) hx hb dL_law_1008 (by decide) ?_
          refine fb_callVi (r := 0) hx hb hml hown hts hM (hZ72.1.1.1.1.1) (ce3 (hZ72.1.1.1.1.2)) rfl (As := [.int 5]) (rest := [.int ((csum V 200 ns) + (csum V 100 5))]) (z_ct D y l hZ72 5 (by decide)) (cwV 1 hts gL_law_X3_count rfl rfl rfl (by decide +kernel) ⟨Nat.le_of_ble_eq_true rfl, Nat.le_of_ble_eq_true rfl⟩) rfl hl.1 rfl (Nat.le_of_ble_eq_true rfl) dL_law_1009 ⟨(by show _ ≤ 626107; omega), (by show _ ≤ 7223304; omega)⟩ (fun v_23 u_ H locs hp hM => ?_)
          obtain ⟨hv_, hu_⟩ := hp
          have hv_ := Eq.symm hv_
          have hu_ := Eq.symm hu_
          subst hv_
          subst hu_
          refine W.eq (g2 := F0 mv _ ls (.int (tsum V nt) :: .int ((csum V 200 ns) + (csum V 100 5)) :: [])) (rfl) ?_
          refine lv_iadd hx hb dL_law_1012 ?_
          refine lv_aload_n hx hb dL_law_1013 rfl (lv_at hl 4 rfl) ?_
          refine lv_bipush (v := 6) hx hb dL_law_1014 (by decide) ?_
          refine fb_callVi (r := 0) hx hb hml hown hts hM (hZ72.1.1.1.1.1) (ce3 (hZ72.1.1.1.1.2)) rfl (As := [.int 6]) (rest := [.int (((csum V 200 ns) + (csum V 100 5)) + (tsum V nt))]) (z_ct D y l hZ72 6 (by decide)) (cwV 1 hts gL_law_X3_count rfl rfl rfl (by decide +kernel) ⟨Nat.le_of_ble_eq_true rfl, Nat.le_of_ble_eq_true rfl⟩) rfl hl.1 rfl (Nat.le_of_ble_eq_true rfl) dL_law_1016 ⟨(by show _ ≤ 626107; omega), (by show _ ≤ 7223304; omega)⟩ (fun v_24 u_ H locs hp hM => ?_)
          obtain ⟨hv_, hu_⟩ := hp
          have hv_ := Eq.symm hv_
          have hu_ := Eq.symm hu_
          subst hv_
          subst hu_
          refine W.eq (g2 := F0 mv _ ls (.int (J72 0 6) :: .int (((csum V 200 ns) + (csum V 100 5)) + (tsum V nt)) :: [])) (rfl) ?_
          refine lv_iadd hx hb dL_law_1019 ?_
          refine W.eq (g2 := F0 mv _ ls (.int (tot V J72 ns nt) :: [])) (rfl) ?_
          refine lv_aload_n hx hb dL_law_1020 rfl (lv_at hl 4 rfl) ?_
          refine lv_bipush (v := 7) hx hb dL_law_1021 (by decide) ?_
          refine fb_callVi (r := 0) hx hb hml hown hts hM (hZ72.1.1.1.1.1) (ce3 (hZ72.1.1.1.1.2)) rfl (As := [.int 7]) (rest := [.int (tot V J72 ns nt)]) (z_ct D y l hZ72 7 (by decide)) (cwV 1 hts gL_law_X3_count rfl rfl rfl (by decide +kernel) ⟨Nat.le_of_ble_eq_true rfl, Nat.le_of_ble_eq_true rfl⟩) rfl hl.1 rfl (Nat.le_of_ble_eq_true rfl) dL_law_1023 ⟨(by show _ ≤ 626107; omega), (by show _ ≤ 7223304; omega)⟩ (fun v_25 u_ H locs hp hM => ?_)
          obtain ⟨hv_, hu_⟩ := hp
          have hv_ := Eq.symm hv_
          have hu_ := Eq.symm hu_
          subst hv_
          subst hu_
          refine W.eq (g2 := F0 mv _ ls (.int (J72 0 7) :: .int (tot V J72 ns nt) :: [])) (rfl) ?_
          refine lv_iadd hx hb dL_law_1026 ?_
          refine lv_iload_n hx hb dL_law_1027 rfl (lv_at hl 2 rfl) ?_
          refine lv_icmp_eq (tgt := 1033) hx hb dL_law_1028 (by decide) (fun c_26 => ?_) (fun c_26 => absurd ((show tot V J72 ns nt + J72 0 7 = PP by rw [hZ72.2.2.2.2.2, hZ72.2.2.2.1]; exact hPP)) c_26)
          refine W.widen (show _ ≤ ce + 200 by omega) (show _ ≤ sl + 1200 by omega) ?_
          exact kk J72 hZ72 _ _ hM ls (lv_sub hl [1, 2, 3, 4, 5] rfl)
        · skip
          have hzn : z < ns := Nat.lt_of_not_le (fun z => c_20 (nI_le z (by omega)))
          refine lv_iconst (v := 0) hx hb dL_law_947 (by decide) ?_
          refine lv_istore (lv' := [(22, .int 0), (21, .int (nI z)), (4, .int (nI time)), (3, .int PP), (2, .ref (sa S 1000)), (1, .ref (sa S 0)), (0, .ref sc.1)]) hx hb dL_law_948 hl (by decide) rfl (fun ls hl => ?_)
          have LP_950 : ∀ (n : Nat) (k : Nat) (hk : k ≤ 6), 6 - k < n → ∀ (H : Heap) (locs : List Loc), fb_M D y A s (S, V, sT V, J72) H locs → ∀ ls, lv_has ls 25 [(22, .int (nI k)), (21, .int (nI z)), (4, .int (nI time)), (3, .int PP), (2, .ref (sa S 1000)), (1, .ref (sa S 0)), (0, .ref sc.1)] → W pv l ev rm_L_law s mv ar below meth cv H locs (ce + 10 + 24 * z + 4 * k) (sl + 60 + 144 * z + 24 * k) Q (F0 mv 950 ls []) := by
            intro n_950
            induction n_950 with
            | zero => intro k hk hmu; exact absurd hmu (Nat.not_lt_zero _)
            | succ n_950 ih_950 =>
              intro k hk hmu H locs hM ls hl
              refine lv_iload hx hb dL_law_950 (lv_at hl 0 rfl) ?_
              refine lv_bipush (v := 6) hx hb dL_law_952 (by decide) ?_
              refine lv_icmp_ge (tgt := 990) hx hb dL_law_954 (by decide) (fun c_27 => ?_) (fun c_27 => ?_)
              · skip
                have e_k : k = 6 := by have := (nI_leI (a := 6) (b := k) (by omega) (by omega)).mp c_27; omega
                have e_k := Eq.symm e_k
                subst e_k
                refine lv_iinc (v := nI (z + 1)) (lv' := [(21, .int (nI (z + 1))), (22, .int (nI 6)), (4, .int (nI time)), (3, .int PP), (2, .ref (sa S 1000)), (1, .ref (sa S 0)), (0, .ref sc.1)]) hx hb dL_law_990 hl (k := 1) rfl (nI_1 _) (by decide) rfl (fun ls hl => ?_)
                refine lv_goto (tgt := 937) hx hb dL_law_993 (by decide) ?_
                refine W.widen (show _ ≤ ce + 10 + 24 * (z + 1) by omega) (show _ ≤ sl + 60 + 144 * (z + 1) by omega) ?_
                exact ih_937 (z + 1) (by omega) (by omega) _ _ hM ls (lv_sub hl [0, 2, 3, 4, 5, 6] rfl)
              · skip
                have hk6 : k < 6 := Nat.lt_of_not_le (fun z => c_27 (nI_le z (by omega)))
                obtain ⟨f7, hf7, hg7⟩ := (hZ.1.2.2.2.1.2.1 z hzn).2.1
                have hw7 : f7 k ≤ 500 := hg7 k hk6
                obtain ⟨w7, e7⟩ : ∃ w7, w7 = f7 k := ⟨_, rfl⟩
                have ew7 : V (200 + 2 * z) k = nI w7 := by rw [hf7, nv_k _ hk6, e7]
                have hw75 : w7 ≤ 500 := by omega
                refine lv_aload_n hx hb dL_law_957 rfl (lv_at hl 5 rfl) ?_
                refine lv_iload hx hb dL_law_958 (lv_at hl 1 rfl) ?_
                refine lv_iload hx hb dL_law_960 (lv_at hl 0 rfl) ?_
                refine fb_callVi (r := 0) hx hb hml hown hts hM (hZ72.1.1.1.1.1) (ce3 (hZ72.1.1.1.1.2)) rfl (As := [.int (nI z), .int (nI k)]) (rest := []) (c_X3_sack_ok D y l S V J72 a1 ns nt 4 10 hZ72.1.1.1 cf rf df hZ72.1.2.2.1 z hzn k (by omega)) (cwV 2 hts gL_law_X3_sack rfl rfl rfl (by decide +kernel) ⟨Nat.le_of_ble_eq_true rfl, Nat.le_of_ble_eq_true rfl⟩) rfl hl.1 rfl (Nat.le_of_ble_eq_true rfl) dL_law_962 ⟨(by show _ ≤ 626107; omega), (by show _ ≤ 7223304; omega)⟩ (fun v_28 u_ H locs hp hM => ?_)
                obtain ⟨hv_, hu_⟩ := hp
                have hv_ := Eq.symm hv_
                have hu_ := Eq.symm hu_
                subst hv_
                subst hu_
                refine W.eq (g2 := F0 mv _ ls (.int (nI w7) :: [])) (by rw [show (sckT (V (200 + 2 * z)) (J72 (10 + z) 1) (nI k) : Int32) = nI w7 from (sckT_k _ _ hk6).trans ew7]) ?_
                refine lv_sipush (v := 500) hx hb dL_law_965 (by decide) ?_
                refine lv_icmp_gt (tgt := 982) hx hb dL_law_968 (by decide) (fun c_29 => absurd c_29 (nI_nlt (b := w7) (a := 500) hw75 (by decide))) (fun c_29 => ?_)
                refine lv_aload_n hx hb dL_law_971 rfl (lv_at hl 5 rfl) ?_
                refine lv_iload hx hb dL_law_972 (lv_at hl 1 rfl) ?_
                refine lv_iload hx hb dL_law_974 (lv_at hl 0 rfl) ?_
                refine fb_callVi (r := 0) hx hb hml hown hts hM (hZ72.1.1.1.1.1) (ce3 (hZ72.1.1.1.1.2)) rfl (As := [.int (nI z), .int (nI k)]) (rest := []) (c_X3_sack_ok D y l S V J72 a1 ns nt 4 10 hZ72.1.1.1 cf rf df hZ72.1.2.2.1 z hzn k (by omega)) (cwV 2 hts gL_law_X3_sack rfl rfl rfl (by decide +kernel) ⟨Nat.le_of_ble_eq_true rfl, Nat.le_of_ble_eq_true rfl⟩) rfl hl.1 rfl (Nat.le_of_ble_eq_true rfl) dL_law_976 ⟨(by show _ ≤ 626107; omega), (by show _ ≤ 7223304; omega)⟩ (fun v_30 u_ H locs hp hM => ?_)
                obtain ⟨hv_, hu_⟩ := hp
                have hv_ := Eq.symm hv_
                have hu_ := Eq.symm hu_
                subst hv_
                subst hu_
                refine W.eq (g2 := F0 mv _ ls (.int (nI w7) :: [])) (by rw [show (sckT (V (200 + 2 * z)) (J72 (10 + z) 1) (nI k) : Int32) = nI w7 from (sckT_k _ _ hk6).trans ew7]) ?_
                refine lv_if_ge (tgt := 984) hx hb dL_law_979 (by decide) (fun c_31 => ?_) (fun c_31 => absurd (nI_le (a := 0) (b := w7) (Nat.zero_le _) (by omega)) c_31)
                refine lv_iinc (v := nI (k + 1)) (lv' := [(22, .int (nI (k + 1))), (21, .int (nI z)), (4, .int (nI time)), (3, .int PP), (2, .ref (sa S 1000)), (1, .ref (sa S 0)), (0, .ref sc.1)]) hx hb dL_law_984 hl (k := 0) rfl (nI_1 _) (by decide) rfl (fun ls hl => ?_)
                refine lv_goto (tgt := 950) hx hb dL_law_987 (by decide) ?_
                refine W.widen (show _ ≤ ce + 10 + 24 * z + 4 * (k + 1) by omega) (show _ ≤ sl + 60 + 144 * z + 24 * (k + 1) by omega) ?_
                exact ih_950 (k + 1) (by omega) (by omega) _ _ hM ls (lv_sub hl [0, 1, 2, 3, 4, 5, 6] rfl)
          refine W.widen (show _ ≤ ce + 10 + 24 * z + 4 * 0 by omega) (show _ ≤ sl + 60 + 144 * z + 24 * 0 by omega) ?_
          exact LP_950 _ 0 (by omega) (Nat.lt_succ_self _) _ _ hM ls (lv_sub hl [0, 1, 2, 3, 4, 5, 6] rfl)
    refine W.widen (show _ ≤ ce + 10 + 24 * 0 by omega) (show _ ≤ sl + 60 + 144 * 0 by omega) ?_
    exact LP_937 _ 0 (by omega) (Nat.lt_succ_self _) _ _ hM ls (lv_sub hl [0, 6, 7, 8, 9, 10] rfl)
