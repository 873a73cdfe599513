/-! the law, from act to act and from night to night -/
abbrev rm_L_law : Room := room_1
set_option maxHeartbeats 4000000 in
set_option maxRecDepth 100000 in
theorem lw_acts {pv : Program} {l : Launch} {ev : Env} {s : State} {mv : MethodId} {ar : Array Value} {below : List Frame} {meth : Method} {cv : Code} {A : Nat → Prop} {D : va_G} {y : Nat → ClassId} {a0 : Nat × Nat} {sc : Nat × Nat × (Nat → Int32)} {Q : State → Prop} (hx : pv.tables.exec = Jvm.exec) (hb : cv.code = cL_law) (hml : cv.maxLocals = 25) (hown : s.vm.findClass RL = some mv.cls) (hts : ∀ x ∈ wsL_law, x.before ar s = true) (hE : fb_E a0 A s) (hSc : fb_Sc sc A s) (a1 ns nt N F : Nat) (rho cf rf df : Nat → Nat) (S : fb_Sh) (V I : fb_V) (x : Int32) (time ce sl : Nat) (hI : Iv a1 S V I ns nt rho cf rf df N F) (hn1 : 1 ≤ ns) (ht1 : 1 ≤ nt) (hN : N + 12000 ≤ 600000) (h5 : I 0 5 = nI time) (hce : ce + 72 ≤ 626107) (hsl : sl + 432 ≤ 7223304) (kk : (∀ (S9 : fb_Sh) (V9 I9 : fb_V) (rho9 : Nat → Nat) (F9 : Nat) (hI9 : Iv a1 S9 V9 I9 ns nt rho9 cf rf df (N + 12000) F9) (h59 : I9 0 5 = nI time) (H : Heap) (locs : List Loc), fb_M D y A s (S9, V9, sT V9, I9) H locs → ∀ ls, lv_has ls 25 [(5, .int x), (4, .int (nI time)), (3, .int (tot V9 I9 ns nt + I9 0 7)), (2, .ref (sa S9 1000)), (1, .ref (sa S9 0)), (0, .ref sc.1)] → W pv l ev rm_L_law s mv ar below meth cv H locs (ce + 72) (sl + 432) Q (F0 mv 167 ls []))) (H : Heap) (locs : List Loc) (hM : fb_M D y A s (S, V, sT V, I) H locs) (ls : Array Slot) (hl : lv_has ls 25 [(5, .int x), (4, .int (nI time)), (3, .int (tot V I ns nt + I 0 7)), (2, .ref (sa S 1000)), (1, .ref (sa S 0)), (0, .ref sc.1)]) : W pv l ev rm_L_law s mv ar below meth cv H locs (ce) (sl) Q (F0 mv 61 ls []) := by
  refine lv_iconst (v := 0) hx hb dL_law_61 (by decide) ?_
  refine lv_istore (lv' := [(6, .int 0), (5, .int x), (4, .int (nI time)), (3, .int (tot V I ns nt + I 0 7)), (2, .ref (sa S 1000)), (1, .ref (sa S 0)), (0, .ref sc.1)]) hx hb dL_law_62 hl (by decide) rfl (fun ls hl => ?_)
  have LP_64 : ∀ (n : Nat) (k : Nat) (S9 : fb_Sh) (V9 I9 : fb_V) (rho9 : Nat → Nat) (F9 : Nat) (hk : k ≤ 4) (hI9 : Iv a1 S9 V9 I9 ns nt rho9 cf rf df (N + 3000 * k) F9) (h59 : I9 0 5 = nI time), 4 - k < n → ∀ (H : Heap) (locs : List Loc), fb_M D y A s (S9, V9, (sT V9), I9) H locs → ∀ ls, lv_has ls 25 [(6, .int (nI k)), (5, .int x), (4, .int (nI time)), (3, .int (tot V9 I9 ns nt + I9 0 7)), (2, .ref (sa S9 1000)), (1, .ref (sa S9 0)), (0, .ref sc.1)] → W pv l ev rm_L_law s mv ar below meth cv H locs (ce + 18 * k) (sl + 108 * k) Q (F0 mv 64 ls []) := by
    intro n_64
    induction n_64 with
    | zero => intro k S9 V9 I9 rho9 F9 hk hI9 h59 hmu; exact absurd hmu (Nat.not_lt_zero _)
    | succ n_64 ih_64 =>
      intro k S9 V9 I9 rho9 F9 hk hI9 h59 hmu H locs hM ls hl
      refine lv_iload hx hb dL_law_64 (lv_at hl 0 rfl) ?_
      refine lv_iconst (v := 4) hx hb dL_law_66 (by decide) ?_
      refine lv_icmp_ge (tgt := 167) hx hb dL_law_67 (by decide) (fun c_1 => ?_) (fun c_1 => ?_)
      · skip
        have e_k : k = 4 := by have := (nI_leI (a := 4) (b := k) (by omega) (by omega)).mp c_1; omega
        have e_k := Eq.symm e_k
        subst e_k
        refine W.widen (show _ ≤ ce + 72 by omega) (show _ ≤ sl + 432 by omega) ?_
        exact kk S9 V9 I9 rho9 F9 hI9 h59 _ _ hM ls (lv_sub hl [1, 2, 3, 4, 5, 6] rfl)
      · skip
        have hk4 : k < 4 := Nat.lt_of_not_le (fun z => c_1 (nI_le z (by omega)))
        refine lv_aload_n hx hb dL_law_70 rfl (lv_at hl 5 rfl) ?_
        refine lv_iconst (v := 3) hx hb dL_law_71 (by decide) ?_
        refine fb_callVi (r := 0) hx hb hml hown hts hM (hI9.1.1.1.1) (ce3 (hI9.1.1.1.2)) rfl (As := [.int 3]) (rest := []) (c_X3_count_ok D y l S9 V9 I9 a1 ns nt 4 10 (hI9).1.1 cf rf df (hI9).2.2.1 3 (by decide)) (cwV 1 hts gL_law_X3_count rfl rfl rfl (by decide +kernel) ⟨Nat.le_of_ble_eq_true rfl, Nat.le_of_ble_eq_true rfl⟩) rfl hl.1 rfl (Nat.le_of_ble_eq_true rfl) dL_law_72 ⟨(by show _ ≤ 626107; omega), (by show _ ≤ 7223304; omega)⟩ (fun v_2 u_ H locs hp hM => ?_)
        obtain ⟨hv_, hu_⟩ := hp
        have hv_ := Eq.symm hv_
        have hu_ := Eq.symm hu_
        subst hv_
        subst hu_
        refine W.eq (g2 := F0 mv _ ls (.int (csum V9 200 ns) :: [])) (rfl) ?_
        refine lv_aload_n hx hb dL_law_75 rfl (lv_at hl 5 rfl) ?_
        refine lv_iconst (v := 4) hx hb dL_law_76 (by decide) ?_
        refine fb_callVi (r := 0) hx hb hml hown hts hM (hI9.1.1.1.1) (ce3 (hI9.1.1.1.2)) rfl (As := [.int 4]) (rest := [.int (csum V9 200 ns)]) (c_X3_count_ok D y l S9 V9 I9 a1 ns nt 4 10 (hI9).1.1 cf rf df (hI9).2.2.1 4 (by decide)) (cwV 1 hts gL_law_X3_count rfl rfl rfl (by decide +kernel) ⟨Nat.le_of_ble_eq_true rfl, Nat.le_of_ble_eq_true rfl⟩) rfl hl.1 rfl (Nat.le_of_ble_eq_true rfl) dL_law_77 ⟨(by show _ ≤ 626107; omega), (by show _ ≤ 7223304; omega)⟩ (fun v_3 u_ H locs hp hM => ?_)
        obtain ⟨hv_, hu_⟩ := hp
        have hv_ := Eq.symm hv_
        have hu_ := Eq.symm hu_
        subst hv_
        subst hu_
        refine W.eq (g2 := F0 mv _ ls (.int (csum V9 100 5) :: .int (csum V9 200 ns) :: [])) (rfl) ?_
        refine lv_iadd hx hb dL_law_80 ?_
        refine lv_aload_n hx hb dL_law_81 rfl (lv_at hl 5 rfl) ?_
        refine lv_iconst (v := 5) hx hb dL_law_82 (by decide) ?_
        refine fb_callVi (r := 0) hx hb hml hown hts hM (hI9.1.1.1.1) (ce3 (hI9.1.1.1.2)) rfl (As := [.int 5]) (rest := [.int ((csum V9 200 ns) + (csum V9 100 5))]) (c_X3_count_ok D y l S9 V9 I9 a1 ns nt 4 10 (hI9).1.1 cf rf df (hI9).2.2.1 5 (by decide)) (cwV 1 hts gL_law_X3_count rfl rfl rfl (by decide +kernel) ⟨Nat.le_of_ble_eq_true rfl, Nat.le_of_ble_eq_true rfl⟩) rfl hl.1 rfl (Nat.le_of_ble_eq_true rfl) dL_law_83 ⟨(by show _ ≤ 626107; omega), (by show _ ≤ 7223304; omega)⟩ (fun v_4 u_ H locs hp hM => ?_)
        obtain ⟨hv_, hu_⟩ := hp
        have hv_ := Eq.symm hv_
        have hu_ := Eq.symm hu_
        subst hv_
        subst hu_
        refine W.eq (g2 := F0 mv _ ls (.int (tsum V9 nt) :: .int ((csum V9 200 ns) + (csum V9 100 5)) :: [])) (rfl) ?_
        refine lv_iadd hx hb dL_law_86 ?_
        refine lv_aload_n hx hb dL_law_87 rfl (lv_at hl 5 rfl) ?_
        refine lv_bipush (v := 6) hx hb dL_law_88 (by decide) ?_
        refine fb_callVi (r := 0) hx hb hml hown hts hM (hI9.1.1.1.1) (ce3 (hI9.1.1.1.2)) rfl (As := [.int 6]) (rest := [.int (((csum V9 200 ns) + (csum V9 100 5)) + (tsum V9 nt))]) (c_X3_count_ok D y l S9 V9 I9 a1 ns nt 4 10 (hI9).1.1 cf rf df (hI9).2.2.1 6 (by decide)) (cwV 1 hts gL_law_X3_count rfl rfl rfl (by decide +kernel) ⟨Nat.le_of_ble_eq_true rfl, Nat.le_of_ble_eq_true rfl⟩) rfl hl.1 rfl (Nat.le_of_ble_eq_true rfl) dL_law_90 ⟨(by show _ ≤ 626107; omega), (by show _ ≤ 7223304; omega)⟩ (fun v_5 u_ H locs hp hM => ?_)
        obtain ⟨hv_, hu_⟩ := hp
        have hv_ := Eq.symm hv_
        have hu_ := Eq.symm hu_
        subst hv_
        subst hu_
        refine W.eq (g2 := F0 mv _ ls (.int (I9 0 6) :: .int (((csum V9 200 ns) + (csum V9 100 5)) + (tsum V9 nt)) :: [])) (rfl) ?_
        refine lv_iadd hx hb dL_law_93 ?_
        refine W.eq (g2 := F0 mv _ ls (.int (tot V9 I9 ns nt) :: [])) (rfl) ?_
        refine lv_istore (lv' := [(7, .int (tot V9 I9 ns nt)), (6, .int (nI k)), (5, .int x), (4, .int (nI time)), (3, .int (tot V9 I9 ns nt + I9 0 7)), (2, .ref (sa S9 1000)), (1, .ref (sa S9 0)), (0, .ref sc.1)]) hx hb dL_law_94 hl (by decide) rfl (fun ls hl => ?_)
        refine lv_aload_n hx hb dL_law_96 rfl (lv_at hl 6 rfl) ?_
        refine lv_aload_n hx hb dL_law_97 rfl (lv_at hl 5 rfl) ?_
        refine lv_iload hx hb dL_law_98 (lv_at hl 2 rfl) ?_
        refine lv_iload hx hb dL_law_100 (lv_at hl 1 rfl) ?_
        refine lv_ishr hx hb dL_law_102 ?_
        refine lv_sipush (v := 131) hx hb dL_law_103 (by decide) ?_
        refine lv_iload hx hb dL_law_106 (lv_at hl 1 rfl) ?_
        refine lv_imul hx hb dL_law_108 ?_
        refine lv_iadd hx hb dL_law_109 ?_
        refine fb_callSi hx hb hml hown hts hM (As := [.ref (sa S9 0), .ref (sa S9 1000), .int ((x >>> ((nI k) &&& 31)) + (131 * (nI k)))]) (rest := []) (c_L_act D y l S9 V9 I9 a1 ns nt (N + 3000 * k) F9 rho9 cf rf df hI9 hn1 ht1 (by omega) ((x >>> ((nI k) &&& 31)) + (131 * (nI k)))) (va_cwS 3 hts gL_law_L_act rfl rfl rfl (by decide +kernel) ⟨Nat.le_of_ble_eq_true rfl, Nat.le_of_ble_eq_true rfl⟩) rfl hl.1 rfl (Nat.le_of_ble_eq_true rfl) dL_law_110 ⟨(by show _ ≤ 626107; omega), (by show _ ≤ 7223304; omega)⟩ (fun v_6 u_ H locs hp hM => ?_)
        obtain ⟨hz_, S8, V8, J8, rho8, F8, k8, hu_, hI8, ⟨hs0, hs1⟩, hk8, htot, h50, h70⟩ := hp
        subst hz_
        subst hu_
        rw [← hs0, ← hs1] at hl
        obtain ⟨T9, hT9, eT9⟩ := hI9.totB (by omega)
        have hle : tot V9 I9 ns nt ≤ tot V8 J8 ns nt := by rw [htot, eT9, nI_add]; exact nI_le (by omega) (by omega)
        refine lv_if_ne (tgt := 118) hx hb dL_law_113 (by decide) (fun c_7 => ?_) (fun c_7 => absurd c_7 ((by decide)))
        refine lv_aload_n hx hb dL_law_118 rfl (lv_at hl 6 rfl) ?_
        refine lv_iconst (v := 3) hx hb dL_law_119 (by decide) ?_
        refine fb_callVi (r := 0) hx hb hml hown hts hM (hI8.1.1.1.1) (ce3 (hI8.1.1.1.2)) rfl (As := [.int 3]) (rest := []) (c_X3_count_ok D y l S8 V8 J8 a1 ns nt 4 10 (hI8).1.1 cf rf df (hI8).2.2.1 3 (by decide)) (cwV 1 hts gL_law_X3_count rfl rfl rfl (by decide +kernel) ⟨Nat.le_of_ble_eq_true rfl, Nat.le_of_ble_eq_true rfl⟩) rfl hl.1 rfl (Nat.le_of_ble_eq_true rfl) dL_law_120 ⟨(by show _ ≤ 626107; omega), (by show _ ≤ 7223304; omega)⟩ (fun v_8 u_ H locs hp hM => ?_)
        obtain ⟨hv_, hu_⟩ := hp
        have hv_ := Eq.symm hv_
        have hu_ := Eq.symm hu_
        subst hv_
        subst hu_
        refine W.eq (g2 := F0 mv _ ls (.int (csum V8 200 ns) :: [])) (rfl) ?_
        refine lv_aload_n hx hb dL_law_123 rfl (lv_at hl 6 rfl) ?_
        refine lv_iconst (v := 4) hx hb dL_law_124 (by decide) ?_
        refine fb_callVi (r := 0) hx hb hml hown hts hM (hI8.1.1.1.1) (ce3 (hI8.1.1.1.2)) rfl (As := [.int 4]) (rest := [.int (csum V8 200 ns)]) (c_X3_count_ok D y l S8 V8 J8 a1 ns nt 4 10 (hI8).1.1 cf rf df (hI8).2.2.1 4 (by decide)) (cwV 1 hts gL_law_X3_count rfl rfl rfl (by decide +kernel) ⟨Nat.le_of_ble_eq_true rfl, Nat.le_of_ble_eq_true rfl⟩) rfl hl.1 rfl (Nat.le_of_ble_eq_true rfl) dL_law_125 ⟨(by show _ ≤ 626107; omega), (by show _ ≤ 7223304; omega)⟩ (fun v_9 u_ H locs hp hM => ?_)
        obtain ⟨hv_, hu_⟩ := hp
        have hv_ := Eq.symm hv_
        have hu_ := Eq.symm hu_
        subst hv_
        subst hu_
        refine W.eq (g2 := F0 mv _ ls (.int (csum V8 100 5) :: .int (csum V8 200 ns) :: [])) (rfl) ?_
        refine lv_iadd hx hb dL_law_128 ?_
        refine lv_aload_n hx hb dL_law_129 rfl (lv_at hl 6 rfl) ?_
        refine lv_iconst (v := 5) hx hb dL_law_130 (by decide) ?_
        refine fb_callVi (r := 0) hx hb hml hown hts hM (hI8.1.1.1.1) (ce3 (hI8.1.1.1.2)) rfl (As := [.int 5]) (rest := [.int ((csum V8 200 ns) + (csum V8 100 5))]) (c_X3_count_ok D y l S8 V8 J8 a1 ns nt 4 10 (hI8).1.1 cf rf df (hI8).2.2.1 5 (by decide)) (cwV 1 hts gL_law_X3_count rfl rfl rfl (by decide +kernel) ⟨Nat.le_of_ble_eq_true rfl, Nat.le_of_ble_eq_true rfl⟩) rfl hl.1 rfl (Nat.le_of_ble_eq_true rfl) dL_law_131 ⟨(by show _ ≤ 626107; omega), (by show _ ≤ 7223304; omega)⟩ (fun v_10 u_ H locs hp hM => ?_)
        obtain ⟨hv_, hu_⟩ := hp
        have hv_ := Eq.symm hv_
        have hu_ := Eq.symm hu_
        subst hv_
        subst hu_
        refine W.eq (g2 := F0 mv _ ls (.int (tsum V8 nt) :: .int ((csum V8 200 ns) + (csum V8 100 5)) :: [])) (rfl) ?_
        refine lv_iadd hx hb dL_law_134 ?_
        refine lv_aload_n hx hb dL_law_135 rfl (lv_at hl 6 rfl) ?_
        refine lv_bipush (v := 6) hx hb dL_law_136 (by decide) ?_
        refine fb_callVi (r := 0) hx hb hml hown hts hM (hI8.1.1.1.1) (ce3 (hI8.1.1.1.2)) rfl (As := [.int 6]) (rest := [.int (((csum V8 200 ns) + (csum V8 100 5)) + (tsum V8 nt))]) (c_X3_count_ok D y l S8 V8 J8 a1 ns nt 4 10 (hI8).1.1 cf rf df (hI8).2.2.1 6 (by decide)) (cwV 1 hts gL_law_X3_count rfl rfl rfl (by decide +kernel) ⟨Nat.le_of_ble_eq_true rfl, Nat.le_of_ble_eq_true rfl⟩) rfl hl.1 rfl (Nat.le_of_ble_eq_true rfl) dL_law_138 ⟨(by show _ ≤ 626107; omega), (by show _ ≤ 7223304; omega)⟩ (fun v_11 u_ H locs hp hM => ?_)
        obtain ⟨hv_, hu_⟩ := hp
        have hv_ := Eq.symm hv_
        have hu_ := Eq.symm hu_
        subst hv_
        subst hu_
        refine W.eq (g2 := F0 mv _ ls (.int (J8 0 6) :: .int (((csum V8 200 ns) + (csum V8 100 5)) + (tsum V8 nt)) :: [])) (rfl) ?_
        refine lv_iadd hx hb dL_law_141 ?_
        refine W.eq (g2 := F0 mv _ ls (.int (tot V8 J8 ns nt) :: [])) (rfl) ?_
        refine lv_istore (lv' := [(8, .int (tot V8 J8 ns nt)), (7, .int (tot V9 I9 ns nt)), (6, .int (nI k)), (5, .int x), (4, .int (nI time)), (3, .int (tot V9 I9 ns nt + I9 0 7)), (2, .ref (sa S8 1000)), (1, .ref (sa S8 0)), (0, .ref sc.1)]) hx hb dL_law_142 hl (by decide) rfl (fun ls hl => ?_)
        refine lv_iload hx hb dL_law_144 (lv_at hl 0 rfl) ?_
        refine lv_iload hx hb dL_law_146 (lv_at hl 1 rfl) ?_
        refine lv_icmp_ge (tgt := 153) hx hb dL_law_148 (by decide) (fun c_12 => ?_) (fun c_12 => absurd (hle) c_12)
        refine lv_iload_n hx hb dL_law_153 rfl (lv_at hl 5 rfl) ?_
        refine lv_iload hx hb dL_law_154 (lv_at hl 0 rfl) ?_
        refine lv_iload hx hb dL_law_156 (lv_at hl 1 rfl) ?_
        refine lv_isub hx hb dL_law_158 ?_
        refine lv_iadd hx hb dL_law_159 ?_
        refine W.eq (g2 := F0 mv _ ls (.int (tot V8 J8 ns nt + J8 0 7) :: [])) (by rw [show ((tot V9 I9 ns nt + I9 0 7) + ((tot V8 J8 ns nt) - (tot V9 I9 ns nt)) : Int32) = tot V8 J8 ns nt + J8 0 7 from by rw [h70]; grind]) ?_
        refine lv_istore_n (lv' := [(3, .int (tot V8 J8 ns nt + J8 0 7)), (8, .int (tot V8 J8 ns nt)), (7, .int (tot V9 I9 ns nt)), (6, .int (nI k)), (5, .int x), (4, .int (nI time)), (2, .ref (sa S8 1000)), (1, .ref (sa S8 0)), (0, .ref sc.1)]) hx hb dL_law_160 rfl hl (by decide) rfl (fun ls hl => ?_)
        refine lv_iinc (v := nI (k + 1)) (lv' := [(6, .int (nI (k + 1))), (3, .int (tot V8 J8 ns nt + J8 0 7)), (8, .int (tot V8 J8 ns nt)), (7, .int (tot V9 I9 ns nt)), (5, .int x), (4, .int (nI time)), (2, .ref (sa S8 1000)), (1, .ref (sa S8 0)), (0, .ref sc.1)]) hx hb dL_law_161 hl (k := 3) rfl (nI_1 _) (by decide) rfl (fun ls hl => ?_)
        refine lv_goto (tgt := 64) hx hb dL_law_164 (by decide) ?_
        refine W.widen (show _ ≤ ce + 18 * (k + 1) by omega) (show _ ≤ sl + 108 * (k + 1) by omega) ?_
        exact ih_64 (k + 1) S8 V8 J8 rho8 F8 (by omega) (hI8.le (by omega)) (h50.trans h59) (by omega) _ _ hM ls (lv_sub hl [0, 4, 5, 1, 6, 7, 8] rfl)
  refine W.widen (show _ ≤ ce + 18 * 0 by omega) (show _ ≤ sl + 108 * 0 by omega) ?_
  exact LP_64 _ 0 S V I rho F (by omega) hI h5 (Nat.lt_succ_self _) _ _ hM ls (lv_sub hl [0, 1, 2, 3, 4, 5, 6] rfl)
