section LAWS
variable {p : Program} {l : Launch} {e : Env} {s : State} {m : MethodId} {args : Array Value} {below : List Frame} {meth : Method} {c : Code} {H : Heap} {locs : List Loc} {cells slots : Nat} {Q : State → Prop} {D : va_G} {A : Nat → Prop} {y : Nat → ClassId} {a0 : Nat × Nat} {b L : Nat} {xs : Nat → Int32} {S : fb_Sh} {V I : fb_V} {ls : Array Slot}
set_option maxHeartbeats 4000000 in
set_option maxRecDepth 100000 in
theorem stp_fill (hL : Lw p l s m args c D A y a0 b L xs) {o j ns nt es na N : Nat} {cf rf df : Nat → Nat} (hM : fb_M D y A s (S, V, (sT V), I) H locs) (hI : Iv a0.1 S V I o ns nt es na cf rf df N) (ho : o = 1000) (hj : j + 5 ≤ L) (hN : N ≤ 1600000) (hc : cells + 1100 ≤ room_1.cells) (hs : slots + 14000 ≤ room_1.slots) (hl : lv_has ls 9 [(4, .int (nI j)), (3, .ref (sa S 2000)), (2, .ref (sa S o)), (1, .ref (sa S 0)), (0, .ref b)]) (K : Kont p l e s m args below meth c Q D A y a0.1 o b j N cells slots) : W p l e room_1 s m args below meth c H locs cells slots Q (F0 m 928 ls []) := by
  obtain ⟨hx, hb, hml, hown, hts, hE, hNc, hfl, hX, hbl, hbA, hL2⟩ := hL
  have hI0 := hI
  obtain ⟨⟨hC, hA, hO⟩, ⟨hEs, hFr⟩, ⟨hF, hG⟩, hR⟩ := hI
  have hns : ns ≤ 12 := hF.2.2.1
  have hnt : nt ≤ 6 := hF.2.2.2.1
  have h03 : 0 ∈ sR S ∧ sk S 0 = 3 := hC.1
  obtain ⟨p0, hp0⟩ : ∃ v, xs (j + 1) = v := ⟨_, rfl⟩
  obtain ⟨p1, hp1⟩ : ∃ v, xs (j + 2) = v := ⟨_, rfl⟩
  obtain ⟨p2, hp2⟩ : ∃ v, xs (j + 3) = v := ⟨_, rfl⟩
  obtain ⟨p3, hp3⟩ : ∃ v, xs (j + 4) = v := ⟨_, rfl⟩
  refine lv_aload_n hx hb dL_law_928 rfl (lv_at hl 3 rfl) ?_
  refine law_arg hx hb hX hbl hbA hM.2.2.1 (lv_sub hl [4, 0] rfl) 1 (by decide) (by omega) hL2 hp0 dL_law_929 dL_law_930 dL_law_932 dL_law_933 dL_law_934 ?_
  refine law_arg hx hb hX hbl hbA hM.2.2.1 (lv_sub hl [4, 0] rfl) 2 (by decide) (by omega) hL2 hp1 dL_law_935 dL_law_936 dL_law_938 dL_law_939 dL_law_940 ?_
  refine law_arg hx hb hX hbl hbA hM.2.2.1 (lv_sub hl [4, 0] rfl) 3 (by decide) (by omega) hL2 hp2 dL_law_941 dL_law_942 dL_law_944 dL_law_945 dL_law_946 ?_
  refine law_arg hx hb hX hbl hbA hM.2.2.1 (lv_sub hl [4, 0] rfl) 4 (by decide) (by omega) hL2 hp3 dL_law_947 dL_law_948 dL_law_950 dL_law_951 dL_law_952 ?_
  refine lv_aload_n hx hb dL_law_953 rfl (lv_at hl 1 rfl) ?_
  rcases rg_ix p0 (n := nt) (by omega) with hq0 | ⟨t, ht, rfl⟩
  · skip
    refine fb_callW hx hb hml hown hts hM hE hNc (As := [.ref (sa S 0), .int p0, .int p1, .int p2, .int p3, .ref (sa S 2000)]) (rest := []) (c_L_fill_IOE a0 D y l S V I h03 hO p0 p1 p2 p3 (c_X3_fill_x0 a0 D y l hfl S V I a0.1 ns nt es na hC cf rf df hF p0 hq0 p1 p2 p3)) (vx_cwSW 6 hts gL_law_L_fill rfl rfl rfl (by decide +kernel) ⟨Nat.le_of_ble_eq_true rfl, Nat.le_of_ble_eq_true rfl⟩) rfl hl.1 rfl (Nat.le_of_ble_eq_true rfl) dL_law_954 ⟨by omega, by omega⟩ (fun v1 u H locs hp hM => ?_)
    obtain ⟨hv_, hu_⟩ := hp
    have hv_ : v1 = nI 1 := hv_.trans (by decide)
    have hv_ := hv_.symm
    have hu_ := hu_.symm
    subst hv_
    subst hu_
    refine lv_istore (lv' := [(5, .int (nI 1)), (4, .int (nI j)), (3, .ref (sa S 2000)), (2, .ref (sa S o)), (1, .ref (sa S 0)), (0, .ref b)]) hx hb dL_law_957 hl (by decide) rfl (fun ls hl => ?_)
    refine lv_aload_n hx hb dL_law_959 rfl (lv_at hl 3 rfl) ?_
    refine law_arg hx hb hX hbl hbA hM.2.2.1 (lv_sub hl [5, 1] rfl) 1 (by decide) (by omega) hL2 hp0 dL_law_960 dL_law_961 dL_law_963 dL_law_964 dL_law_965 ?_
    refine law_arg hx hb hX hbl hbA hM.2.2.1 (lv_sub hl [5, 1] rfl) 2 (by decide) (by omega) hL2 hp1 dL_law_966 dL_law_967 dL_law_969 dL_law_970 dL_law_971 ?_
    refine law_arg hx hb hX hbl hbA hM.2.2.1 (lv_sub hl [5, 1] rfl) 3 (by decide) (by omega) hL2 hp2 dL_law_972 dL_law_973 dL_law_975 dL_law_976 dL_law_977 ?_
    refine law_arg hx hb hX hbl hbA hM.2.2.1 (lv_sub hl [5, 1] rfl) 4 (by decide) (by omega) hL2 hp3 dL_law_978 dL_law_979 dL_law_981 dL_law_982 dL_law_983 ?_
    refine fb_callVi (r := o) hx hb hml hown hts hM (hA.1.1) (ce4 (hA.1.2)) rfl (As := [.int p0, .int p1, .int p2, .int p3]) (rest := []) (c_X4_fill_f0t D y l S V I o nt cf rf hA ns df hG p0 hq0 p1 p2 p3) (cwV 4 hts gL_law_X4_fill rfl rfl rfl (by decide +kernel) ⟨Nat.le_of_ble_eq_true rfl, Nat.le_of_ble_eq_true rfl⟩) rfl hl.1 rfl (Nat.le_of_ble_eq_true rfl) dL_law_984 ⟨by omega, by omega⟩ (fun v3 u H locs hp hM => ?_)
    obtain ⟨hv_, hu_⟩ := hp
    have hu_ := hu_.symm
    subst hu_
    refine lv_istore (lv' := [(6, .int v3), (5, .int (nI 1)), (4, .int (nI j)), (3, .ref (sa S 2000)), (2, .ref (sa S o)), (1, .ref (sa S 0)), (0, .ref b)]) hx hb dL_law_987 hl (by decide) rfl (fun ls hl => ?_)
    have hIv := hI0.same ho (sam_tf I o 1) (VSame.rf V) hR.2.2.2.2.2
    have hth : tf I o 1 o 0 = nI 1 := by unfold tf; rw [va_up_self]; rfl
    refine law_tail (T := 989) (off := 626) ⟨dL_law_989, dL_law_990, dL_law_993, dL_law_995, dL_law_1000, dL_law_1002, dL_law_1005, dL_law_1006, dL_law_1007, dL_law_1008, dL_law_1010, dL_law_1011, dL_law_1012, dL_law_1017, by omega⟩ hx hb hml hown hts hM hIv.1.2.1 hIv.1.2.2 (k := 1) (by decide) (lv_sub hl [4, 3, 1, 0] rfl) hth (fun hz9 => absurd hz9 (by decide)) (by omega) (by omega) (fun H locs hM => ?_) rfl
    exact W.widen (by omega) (by omega) (K _ _ _ _ _ _ _ _ _ _ _ _ _ _ (by omega) hIv hM (lv_sub hl [2, 3, 4, 5, 6] rfl))
  · skip
    have hcr := (hF.2.2.2.2 t ht).le
    have hc1 : 1 ≤ cf t := (hF.2.2.2.2 t ht).2.2.2.2.1
    have hd9 : df t ≤ 9 := (hF.2.2.2.2 t ht).2.2.2.2.2.2.2.2.2
    have hT9 := (hR.2.2.2.2.1 t ht)
    have t6 : t < 6 := by omega
    rcases rg_ix p1 (n := cf t * rf t) (by omega) with hq1 | ⟨q, hq, rfl⟩
    · skip
      refine fb_callW hx hb hml hown hts hM hE hNc (As := [.ref (sa S 0), .int (nI t), .int p1, .int p2, .int p3, .ref (sa S 2000)]) (rest := []) (c_L_fill_IOE a0 D y l S V I h03 hO (nI t) p1 p2 p3 (c_X3_fill_x1 a0 D y l hfl S V I a0.1 ns nt es na hC cf rf df hF t ht  p1 hq1 p2 p3)) (vx_cwSW 6 hts gL_law_L_fill rfl rfl rfl (by decide +kernel) ⟨Nat.le_of_ble_eq_true rfl, Nat.le_of_ble_eq_true rfl⟩) rfl hl.1 rfl (Nat.le_of_ble_eq_true rfl) dL_law_954 ⟨by omega, by omega⟩ (fun v1 u H locs hp hM => ?_)
      obtain ⟨hv_, hu_⟩ := hp
      have hv_ : v1 = nI 1 := hv_.trans (by decide)
      have hv_ := hv_.symm
      have hu_ := hu_.symm
      subst hv_
      subst hu_
      refine lv_istore (lv' := [(5, .int (nI 1)), (4, .int (nI j)), (3, .ref (sa S 2000)), (2, .ref (sa S o)), (1, .ref (sa S 0)), (0, .ref b)]) hx hb dL_law_957 hl (by decide) rfl (fun ls hl => ?_)
      refine lv_aload_n hx hb dL_law_959 rfl (lv_at hl 3 rfl) ?_
      refine law_arg hx hb hX hbl hbA hM.2.2.1 (lv_sub hl [5, 1] rfl) 1 (by decide) (by omega) hL2 hp0 dL_law_960 dL_law_961 dL_law_963 dL_law_964 dL_law_965 ?_
      refine law_arg hx hb hX hbl hbA hM.2.2.1 (lv_sub hl [5, 1] rfl) 2 (by decide) (by omega) hL2 hp1 dL_law_966 dL_law_967 dL_law_969 dL_law_970 dL_law_971 ?_
      refine law_arg hx hb hX hbl hbA hM.2.2.1 (lv_sub hl [5, 1] rfl) 3 (by decide) (by omega) hL2 hp2 dL_law_972 dL_law_973 dL_law_975 dL_law_976 dL_law_977 ?_
      refine law_arg hx hb hX hbl hbA hM.2.2.1 (lv_sub hl [5, 1] rfl) 4 (by decide) (by omega) hL2 hp3 dL_law_978 dL_law_979 dL_law_981 dL_law_982 dL_law_983 ?_
      refine fb_callVi (r := o) hx hb hml hown hts hM (hA.1.1) (ce4 (hA.1.2)) rfl (As := [.int (nI t), .int p1, .int p2, .int p3]) (rest := []) (c_X4_fill_f0q D y l S V I o nt cf rf hA ns df hG t ht  p1 hq1 p2 p3) (cwV 4 hts gL_law_X4_fill rfl rfl rfl (by decide +kernel) ⟨Nat.le_of_ble_eq_true rfl, Nat.le_of_ble_eq_true rfl⟩) rfl hl.1 rfl (Nat.le_of_ble_eq_true rfl) dL_law_984 ⟨by omega, by omega⟩ (fun v3 u H locs hp hM => ?_)
      obtain ⟨hv_, hu_⟩ := hp
      have hu_ := hu_.symm
      subst hu_
      refine lv_istore (lv' := [(6, .int v3), (5, .int (nI 1)), (4, .int (nI j)), (3, .ref (sa S 2000)), (2, .ref (sa S o)), (1, .ref (sa S 0)), (0, .ref b)]) hx hb dL_law_987 hl (by decide) rfl (fun ls hl => ?_)
      have hIv := hI0.same ho (sam_tf I o 1) (VSame.rf V) hR.2.2.2.2.2
      have hth : tf I o 1 o 0 = nI 1 := by unfold tf; rw [va_up_self]; rfl
      refine law_tail (T := 989) (off := 626) ⟨dL_law_989, dL_law_990, dL_law_993, dL_law_995, dL_law_1000, dL_law_1002, dL_law_1005, dL_law_1006, dL_law_1007, dL_law_1008, dL_law_1010, dL_law_1011, dL_law_1012, dL_law_1017, by omega⟩ hx hb hml hown hts hM hIv.1.2.1 hIv.1.2.2 (k := 1) (by decide) (lv_sub hl [4, 3, 1, 0] rfl) hth (fun hz9 => absurd hz9 (by decide)) (by omega) (by omega) (fun H locs hM => ?_) rfl
      exact W.widen (by omega) (by omega) (K _ _ _ _ _ _ _ _ _ _ _ _ _ _ (by omega) hIv hM (lv_sub hl [2, 3, 4, 5, 6] rfl))
    · skip
      rcases rg_ix p2 (n := 5) (by decide) with hq2 | ⟨c9, hc9, rfl⟩
      · skip
        have hr2 : p2 < 0 ∨ 4 < p2 := hq2.imp id (fun z => Int32.lt_of_lt_of_le (by decide) z)
        refine fb_callW hx hb hml hown hts hM hE hNc (As := [.ref (sa S 0), .int (nI t), .int (nI q), .int p2, .int p3, .ref (sa S 2000)]) (rest := []) (c_L_fill_IOE a0 D y l S V I h03 hO (nI t) (nI q) p2 p3 (c_X3_fill_x2 a0 D y l hfl S V I a0.1 ns nt es na hC cf rf df hF t ht q hq p2 hq2 p3)) (vx_cwSW 6 hts gL_law_L_fill rfl rfl rfl (by decide +kernel) ⟨Nat.le_of_ble_eq_true rfl, Nat.le_of_ble_eq_true rfl⟩) rfl hl.1 rfl (Nat.le_of_ble_eq_true rfl) dL_law_954 ⟨by omega, by omega⟩ (fun v1 u H locs hp hM => ?_)
        obtain ⟨hv_, hu_⟩ := hp
        have hv_ : v1 = nI 1 := hv_.trans (by decide)
        have hv_ := hv_.symm
        have hu_ := hu_.symm
        subst hv_
        subst hu_
        refine lv_istore (lv' := [(5, .int (nI 1)), (4, .int (nI j)), (3, .ref (sa S 2000)), (2, .ref (sa S o)), (1, .ref (sa S 0)), (0, .ref b)]) hx hb dL_law_957 hl (by decide) rfl (fun ls hl => ?_)
        refine lv_aload_n hx hb dL_law_959 rfl (lv_at hl 3 rfl) ?_
        refine law_arg hx hb hX hbl hbA hM.2.2.1 (lv_sub hl [5, 1] rfl) 1 (by decide) (by omega) hL2 hp0 dL_law_960 dL_law_961 dL_law_963 dL_law_964 dL_law_965 ?_
        refine law_arg hx hb hX hbl hbA hM.2.2.1 (lv_sub hl [5, 1] rfl) 2 (by decide) (by omega) hL2 hp1 dL_law_966 dL_law_967 dL_law_969 dL_law_970 dL_law_971 ?_
        refine law_arg hx hb hX hbl hbA hM.2.2.1 (lv_sub hl [5, 1] rfl) 3 (by decide) (by omega) hL2 hp2 dL_law_972 dL_law_973 dL_law_975 dL_law_976 dL_law_977 ?_
        refine law_arg hx hb hX hbl hbA hM.2.2.1 (lv_sub hl [5, 1] rfl) 4 (by decide) (by omega) hL2 hp3 dL_law_978 dL_law_979 dL_law_981 dL_law_982 dL_law_983 ?_
        refine fb_callVi (r := o) hx hb hml hown hts hM (hA.1.1) (ce4 (hA.1.2)) rfl (As := [.int (nI t), .int (nI q), .int p2, .int p3]) (rest := []) (c_X4_fill_f1o D y l S V I o nt cf rf hA ns df hG t ht q hq p2 hr2 p3) (cwV 4 hts gL_law_X4_fill rfl rfl rfl (by decide +kernel) ⟨Nat.le_of_ble_eq_true rfl, Nat.le_of_ble_eq_true rfl⟩) rfl hl.1 rfl (Nat.le_of_ble_eq_true rfl) dL_law_984 ⟨by omega, by omega⟩ (fun v3 u H locs hp hM => ?_)
        obtain ⟨hv_, hu_⟩ := hp
        have hu_ := hu_.symm
        subst hu_
        refine lv_istore (lv' := [(6, .int v3), (5, .int (nI 1)), (4, .int (nI j)), (3, .ref (sa S 2000)), (2, .ref (sa S o)), (1, .ref (sa S 0)), (0, .ref b)]) hx hb dL_law_987 hl (by decide) rfl (fun ls hl => ?_)
        have hIv := hI0.same ho (sam_tf I o 1) (VSame.rf V) hR.2.2.2.2.2
        have hth : tf I o 1 o 0 = nI 1 := by unfold tf; rw [va_up_self]; rfl
        refine law_tail (T := 989) (off := 626) ⟨dL_law_989, dL_law_990, dL_law_993, dL_law_995, dL_law_1000, dL_law_1002, dL_law_1005, dL_law_1006, dL_law_1007, dL_law_1008, dL_law_1010, dL_law_1011, dL_law_1012, dL_law_1017, by omega⟩ hx hb hml hown hts hM hIv.1.2.1 hIv.1.2.2 (k := 1) (by decide) (lv_sub hl [4, 3, 1, 0] rfl) hth (fun hz9 => absurd hz9 (by decide)) (by omega) (by omega) (fun H locs hM => ?_) rfl
        exact W.widen (by omega) (by omega) (K _ _ _ _ _ _ _ _ _ _ _ _ _ _ (by omega) hIv hM (lv_sub hl [2, 3, 4, 5, 6] rfl))
      · skip
        rcases rg_lh p3 1 300 (by decide) (by decide) with hq3 | ⟨w, hwa, hw, rfl⟩
        · skip
          have hw3 : p3 < 1 ∨ 300 < p3 := hq3
          refine fb_callW hx hb hml hown hts hM hE hNc (As := [.ref (sa S 0), .int (nI t), .int (nI q), .int (nI c9), .int p3, .ref (sa S 2000)]) (rest := []) (c_L_fill_IAE a0 D y l S V I h03 hO (nI t) (nI q) (nI c9) p3 (c_X3_fill_x3 a0 D y l hfl S V I a0.1 ns nt es na hC cf rf df hF t ht q hq c9 hc9 p3 hw3)) (vx_cwSW 6 hts gL_law_L_fill rfl rfl rfl (by decide +kernel) ⟨Nat.le_of_ble_eq_true rfl, Nat.le_of_ble_eq_true rfl⟩) rfl hl.1 rfl (Nat.le_of_ble_eq_true rfl) dL_law_954 ⟨by omega, by omega⟩ (fun v1 u H locs hp hM => ?_)
          obtain ⟨hv_, hu_⟩ := hp
          have hv_ : v1 = nI 2 := hv_.trans (by decide)
          have hv_ := hv_.symm
          have hu_ := hu_.symm
          subst hv_
          subst hu_
          refine lv_istore (lv' := [(5, .int (nI 2)), (4, .int (nI j)), (3, .ref (sa S 2000)), (2, .ref (sa S o)), (1, .ref (sa S 0)), (0, .ref b)]) hx hb dL_law_957 hl (by decide) rfl (fun ls hl => ?_)
          refine lv_aload_n hx hb dL_law_959 rfl (lv_at hl 3 rfl) ?_
          refine law_arg hx hb hX hbl hbA hM.2.2.1 (lv_sub hl [5, 1] rfl) 1 (by decide) (by omega) hL2 hp0 dL_law_960 dL_law_961 dL_law_963 dL_law_964 dL_law_965 ?_
          refine law_arg hx hb hX hbl hbA hM.2.2.1 (lv_sub hl [5, 1] rfl) 2 (by decide) (by omega) hL2 hp1 dL_law_966 dL_law_967 dL_law_969 dL_law_970 dL_law_971 ?_
          refine law_arg hx hb hX hbl hbA hM.2.2.1 (lv_sub hl [5, 1] rfl) 3 (by decide) (by omega) hL2 hp2 dL_law_972 dL_law_973 dL_law_975 dL_law_976 dL_law_977 ?_
          refine law_arg hx hb hX hbl hbA hM.2.2.1 (lv_sub hl [5, 1] rfl) 4 (by decide) (by omega) hL2 hp3 dL_law_978 dL_law_979 dL_law_981 dL_law_982 dL_law_983 ?_
          refine fb_callVi (r := o) hx hb hml hown hts hM (hA.1.1) (ce4 (hA.1.2)) rfl (As := [.int (nI t), .int (nI q), .int (nI c9), .int p3]) (rest := []) (c_X4_fill_f2o D y l S V I o nt cf rf hA ns df hG t ht q hq c9 (Nat.zero_le _) (by omega) p3 hw3) (cwV 4 hts gL_law_X4_fill rfl rfl rfl (by decide +kernel) ⟨Nat.le_of_ble_eq_true rfl, Nat.le_of_ble_eq_true rfl⟩) rfl hl.1 rfl (Nat.le_of_ble_eq_true rfl) dL_law_984 ⟨by omega, by omega⟩ (fun v3 u H locs hp hM => ?_)
          obtain ⟨hv_, hu_⟩ := hp
          have hu_ := hu_.symm
          subst hu_
          refine lv_istore (lv' := [(6, .int v3), (5, .int (nI 2)), (4, .int (nI j)), (3, .ref (sa S 2000)), (2, .ref (sa S o)), (1, .ref (sa S 0)), (0, .ref b)]) hx hb dL_law_987 hl (by decide) rfl (fun ls hl => ?_)
          have hIv := hI0.same ho (sam_tf I o 2) (VSame.rf V) hR.2.2.2.2.2
          have hth : tf I o 2 o 0 = nI 2 := by unfold tf; rw [va_up_self]; rfl
          refine law_tail (T := 989) (off := 626) ⟨dL_law_989, dL_law_990, dL_law_993, dL_law_995, dL_law_1000, dL_law_1002, dL_law_1005, dL_law_1006, dL_law_1007, dL_law_1008, dL_law_1010, dL_law_1011, dL_law_1012, dL_law_1017, by omega⟩ hx hb hml hown hts hM hIv.1.2.1 hIv.1.2.2 (k := 2) (by decide) (lv_sub hl [4, 3, 1, 0] rfl) hth (fun hz9 => absurd hz9 (by decide)) (by omega) (by omega) (fun H locs hM => ?_) rfl
          exact W.widen (by omega) (by omega) (K _ _ _ _ _ _ _ _ _ _ _ _ _ _ (by omega) hIv hM (lv_sub hl [2, 3, 4, 5, 6] rfl))
        · skip
          have rA := hR.2.2.2.1 c9 hc9
          have rB := hT9.2.1 q (by omega)
          obtain ⟨e1m, e2m, e3m, bX, bY⟩ := MVE (A := (V (100 + 2 * c9))) (B := (V (300 + 72 * t + 2 * q))) (N := N) (m := w) (by rw [rA.1]; exact rA.2) (by omega) (by rw [rB.1]; exact rB.2) hw
          have hcd := c_X3_fill_ok D y l S V I a0.1 ns nt es na hC cf rf df hF t ht q hq c9 hc9 w hwa hw
          rw [e1m, e2m, e3m] at hcd
          refine fb_callW hx hb hml hown hts hM hE hNc (As := [.ref (sa S 0), .int (nI t), .int (nI q), .int (nI c9), .int (nI w), .ref (sa S 2000)]) (rest := []) (c_L_fill_ok a0 D y l S V I h03 hO (nI t) (nI q) (nI c9) (nI w) (hcd) (fun v u hq => by obtain ⟨_, hq⟩ := hq; subst hq; exact ⟨hO, rfl⟩)) (vx_cwSW 6 hts gL_law_L_fill rfl rfl rfl (by decide +kernel) ⟨Nat.le_of_ble_eq_true rfl, Nat.le_of_ble_eq_true rfl⟩) rfl hl.1 rfl (Nat.le_of_ble_eq_true rfl) dL_law_954 ⟨by omega, by omega⟩ (fun v1 u H locs hp hM => ?_)
          obtain ⟨hv_, v2, u1, hq, hu_⟩ := hp
          have hv_ : v1 = nI 0 := hv_
          have hv_ := hv_.symm
          subst hv_
          obtain ⟨hq1, hq2⟩ := hq
          subst hq2
          subst hq1
          obtain ⟨J, eJ⟩ : ∃ J, J = va_up I 2000 (upd (I 2000) 0 (mn (nI w) (mn (s6 (V (100 + 2 * c9))) (300 - s6 (V (300 + 72 * t + 2 * q)))))) := ⟨_, rfl⟩
          have hM : fb_M D y A s (S, (va_up (va_up V (100 + 2 * c9) (mva (V (100 + 2 * c9)) (mn (nI w) (mn (s6 (V (100 + 2 * c9))) (300 - s6 (V (300 + 72 * t + 2 * q))))) 6)) (300 + 72 * t + 2 * q) (mvb (V (100 + 2 * c9)) (V (300 + 72 * t + 2 * q)) (mn (nI w) (mn (s6 (V (100 + 2 * c9))) (300 - s6 (V (300 + 72 * t + 2 * q))))) 6)), (sT (va_up (va_up V (100 + 2 * c9) (mva (V (100 + 2 * c9)) (mn (nI w) (mn (s6 (V (100 + 2 * c9))) (300 - s6 (V (300 + 72 * t + 2 * q))))) 6)) (300 + 72 * t + 2 * q) (mvb (V (100 + 2 * c9)) (V (300 + 72 * t + 2 * q)) (mn (nI w) (mn (s6 (V (100 + 2 * c9))) (300 - s6 (V (300 + 72 * t + 2 * q))))) 6))), J) H locs := by rw [hu_] at hM; rw [eJ]; exact hM
          have hG2 : MF J o ns nt cf rf df := by rw [eJ]; exact mfc hG (by simp (discharger := omega) only [va_up_ne, t0_ne, va_up_self]) (by simp (discharger := omega) only [va_up_ne, t0_ne, va_up_self]) (by simp (discharger := omega) only [va_up_ne, t0_ne, va_up_self]) (by simp (discharger := omega) only [va_up_ne, t0_ne, va_up_self])
          refine lv_istore (lv' := [(5, .int (nI 0)), (4, .int (nI j)), (3, .ref (sa S 2000)), (2, .ref (sa S o)), (1, .ref (sa S 0)), (0, .ref b)]) hx hb dL_law_957 hl (by decide) rfl (fun ls hl => ?_)
          refine lv_aload_n hx hb dL_law_959 rfl (lv_at hl 3 rfl) ?_
          refine law_arg hx hb hX hbl hbA hM.2.2.1 (lv_sub hl [5, 1] rfl) 1 (by decide) (by omega) hL2 hp0 dL_law_960 dL_law_961 dL_law_963 dL_law_964 dL_law_965 ?_
          refine law_arg hx hb hX hbl hbA hM.2.2.1 (lv_sub hl [5, 1] rfl) 2 (by decide) (by omega) hL2 hp1 dL_law_966 dL_law_967 dL_law_969 dL_law_970 dL_law_971 ?_
          refine law_arg hx hb hX hbl hbA hM.2.2.1 (lv_sub hl [5, 1] rfl) 3 (by decide) (by omega) hL2 hp2 dL_law_972 dL_law_973 dL_law_975 dL_law_976 dL_law_977 ?_
          refine law_arg hx hb hX hbl hbA hM.2.2.1 (lv_sub hl [5, 1] rfl) 4 (by decide) (by omega) hL2 hp3 dL_law_978 dL_law_979 dL_law_981 dL_law_982 dL_law_983 ?_
          refine fb_callVi (r := o) hx hb hml hown hts hM (hA.1.1) (ce4 (hA.1.2)) rfl (As := [.int (nI t), .int (nI q), .int (nI c9), .int (nI w)]) (rest := []) (c_X4_fill_ok D y l S (va_up (va_up V (100 + 2 * c9) (mva (V (100 + 2 * c9)) (mn (nI w) (mn (s6 (V (100 + 2 * c9))) (300 - s6 (V (300 + 72 * t + 2 * q))))) 6)) (300 + 72 * t + 2 * q) (mvb (V (100 + 2 * c9)) (V (300 + 72 * t + 2 * q)) (mn (nI w) (mn (s6 (V (100 + 2 * c9))) (300 - s6 (V (300 + 72 * t + 2 * q))))) 6)) J o nt cf rf hA ns df hG2 t ht q hq c9 (Nat.zero_le _) (by omega) w hwa hw) (cwV 4 hts gL_law_X4_fill rfl rfl rfl (by decide +kernel) ⟨Nat.le_of_ble_eq_true rfl, Nat.le_of_ble_eq_true rfl⟩) rfl hl.1 rfl (Nat.le_of_ble_eq_true rfl) dL_law_984 ⟨by omega, by omega⟩ (fun v3 u H locs hp hM => ?_)
          obtain ⟨hv_, hu_⟩ := hp
          have hu_ := hu_.symm
          subst hu_
          refine lv_istore (lv' := [(6, .int v3), (5, .int (nI 0)), (4, .int (nI j)), (3, .ref (sa S 2000)), (2, .ref (sa S o)), (1, .ref (sa S 0)), (0, .ref b)]) hx hb dL_law_987 hl (by decide) rfl (fun ls hl => ?_)
          have ej3 : J (o + 3) = I (o + 3) := by simp (discharger := omega) only [va_up_ne, va_up_self, t0_ne, t0_f, eJ]
          have ej10 : J (o + 10 + t) = I (o + 10 + t) := by simp (discharger := omega) only [va_up_ne, va_up_self, t0_ne, t0_f, eJ]
          have etk : tkg (J (o + 3)) c9 (J (o + 10 + t)) q (nI w) = (mn (nI w) (mn (s6 (V (100 + 2 * c9))) (300 - s6 (V (300 + 72 * t + 2 * q))))) := by unfold tkg; rw [ej3, ej10, ← rA.1, ← rB.1]
          have eFJ : mvI (t0 J o) (o + 3) c9 (o + 10 + t) q (mn (nI w) (mn (s6 (V (100 + 2 * c9))) (300 - s6 (V (300 + 72 * t + 2 * q))))) 6 = (va_up (va_up (t0 J o) (o + 3) (bk (I (o + 3)) c9 (mva (V (100 + 2 * c9)) (mn (nI w) (mn (s6 (V (100 + 2 * c9))) (300 - s6 (V (300 + 72 * t + 2 * q))))) 6))) (o + 10 + t) (bk (I (o + 10 + t)) q (mvb (V (100 + 2 * c9)) (V (300 + 72 * t + 2 * q)) (mn (nI w) (mn (s6 (V (100 + 2 * c9))) (300 - s6 (V (300 + 72 * t + 2 * q))))) 6))) := by unfold mvI; rw [va_up_ne _ _ (show o + 10 + t ≠ o + 3 by omega), t0_ne J (show o + 3 ≠ o by omega), t0_ne J (show o + 10 + t ≠ o by omega), ej3, ej10, ← rA.1, ← rB.1]
          rw [etk] at hM hv_
          rw [eFJ] at hM
          have hth : (va_up (va_up (t0 J o) (o + 3) (bk (I (o + 3)) c9 (mva (V (100 + 2 * c9)) (mn (nI w) (mn (s6 (V (100 + 2 * c9))) (300 - s6 (V (300 + 72 * t + 2 * q))))) 6))) (o + 10 + t) (bk (I (o + 10 + t)) q (mvb (V (100 + 2 * c9)) (V (300 + 72 * t + 2 * q)) (mn (nI w) (mn (s6 (V (100 + 2 * c9))) (300 - s6 (V (300 + 72 * t + 2 * q))))) 6))) o 0 = nI 0 := by rw [va_up_ne _ _ (show o ≠ o + 10 + t by omega), va_up_ne _ _ (show o ≠ o + 3 by omega)]; exact t0_z J o
          have hIv := (Iv.fill ho hI0 ht hq hc9 bX bY rfl (by simp (discharger := omega) only [va_up_ne, va_up_self, t0_ne, t0_f]) (by simp (discharger := omega) only [va_up_ne, va_up_self, t0_ne, t0_f]) (fun j9 h9 => by simp (discharger := omega) only [va_up_ne, va_up_self, t0_ne, t0_f, eJ]) (fun x9 a9 b9 c9 d9 => by simp (discharger := omega) only [va_up_ne, va_up_self, t0_ne, t0_f, eJ]) : Iv a0.1 S (va_up (va_up V (100 + 2 * c9) (mva (V (100 + 2 * c9)) (mn (nI w) (mn (s6 (V (100 + 2 * c9))) (300 - s6 (V (300 + 72 * t + 2 * q))))) 6)) (300 + 72 * t + 2 * q) (mvb (V (100 + 2 * c9)) (V (300 + 72 * t + 2 * q)) (mn (nI w) (mn (s6 (V (100 + 2 * c9))) (300 - s6 (V (300 + 72 * t + 2 * q))))) 6)) (va_up (va_up (t0 J o) (o + 3) (bk (I (o + 3)) c9 (mva (V (100 + 2 * c9)) (mn (nI w) (mn (s6 (V (100 + 2 * c9))) (300 - s6 (V (300 + 72 * t + 2 * q))))) 6))) (o + 10 + t) (bk (I (o + 10 + t)) q (mvb (V (100 + 2 * c9)) (V (300 + 72 * t + 2 * q)) (mn (nI w) (mn (s6 (V (100 + 2 * c9))) (300 - s6 (V (300 + 72 * t + 2 * q))))) 6))) o ns nt es na cf rf df N)
          refine law_tail (T := 989) (off := 626) ⟨dL_law_989, dL_law_990, dL_law_993, dL_law_995, dL_law_1000, dL_law_1002, dL_law_1005, dL_law_1006, dL_law_1007, dL_law_1008, dL_law_1010, dL_law_1011, dL_law_1012, dL_law_1017, by omega⟩ hx hb hml hown hts hM hIv.1.2.1 hIv.1.2.2 (k := 0) (by decide) (lv_sub hl [4, 3, 1, 0] rfl) hth (fun hz9 => (show (va_up (va_up (t0 J o) (o + 3) (bk (I (o + 3)) c9 (mva (V (100 + 2 * c9)) (mn (nI w) (mn (s6 (V (100 + 2 * c9))) (300 - s6 (V (300 + 72 * t + 2 * q))))) 6))) (o + 10 + t) (bk (I (o + 10 + t)) q (mvb (V (100 + 2 * c9)) (V (300 + 72 * t + 2 * q)) (mn (nI w) (mn (s6 (V (100 + 2 * c9))) (300 - s6 (V (300 + 72 * t + 2 * q))))) 6))) 2000 0 = (mn (nI w) (mn (s6 (V (100 + 2 * c9))) (300 - s6 (V (300 + 72 * t + 2 * q))))) from by simp (discharger := omega) only [va_up_ne, va_up_self, t0_ne, eJ]; exact if_pos rfl).trans (hv_.symm)) (by omega) (by omega) (fun H locs hM => ?_) rfl
          exact W.widen (by omega) (by omega) (K _ _ _ _ _ _ _ _ _ _ _ _ _ _ (by omega) hIv hM (lv_sub hl [2, 3, 4, 5, 6] rfl))
set_option maxHeartbeats 4000000 in
set_option maxRecDepth 100000 in
theorem stp_shift (hL : Lw p l s m args c D A y a0 b L xs) {o j ns nt es na N : Nat} {cf rf df : Nat → Nat} (hM : fb_M D y A s (S, V, (sT V), I) H locs) (hI : Iv a0.1 S V I o ns nt es na cf rf df N) (ho : o = 1000) (hj : j + 5 ≤ L) (hN : N ≤ 1600000) (hc : cells + 1100 ≤ room_1.cells) (hs : slots + 14000 ≤ room_1.slots) (hl : lv_has ls 9 [(4, .int (nI j)), (3, .ref (sa S 2000)), (2, .ref (sa S o)), (1, .ref (sa S 0)), (0, .ref b)]) (K : Kont p l e s m args below meth c Q D A y a0.1 o b j N cells slots) : W p l e room_1 s m args below meth c H locs cells slots Q (F0 m 1020 ls []) := by
  obtain ⟨hx, hb, hml, hown, hts, hE, hNc, hfl, hX, hbl, hbA, hL2⟩ := hL
  have hI0 := hI
  obtain ⟨⟨hC, hA, hO⟩, ⟨hEs, hFr⟩, ⟨hF, hG⟩, hR⟩ := hI
  have hns : ns ≤ 12 := hF.2.2.1
  have hnt : nt ≤ 6 := hF.2.2.2.1
  have h03 : 0 ∈ sR S ∧ sk S 0 = 3 := hC.1
  obtain ⟨p0, hp0⟩ : ∃ v, xs (j + 1) = v := ⟨_, rfl⟩
  obtain ⟨p1, hp1⟩ : ∃ v, xs (j + 2) = v := ⟨_, rfl⟩
  obtain ⟨p2, hp2⟩ : ∃ v, xs (j + 3) = v := ⟨_, rfl⟩
  obtain ⟨p3, hp3⟩ : ∃ v, xs (j + 4) = v := ⟨_, rfl⟩
  refine lv_aload_n hx hb dL_law_1020 rfl (lv_at hl 3 rfl) ?_
  refine law_arg hx hb hX hbl hbA hM.2.2.1 (lv_sub hl [4, 0] rfl) 1 (by decide) (by omega) hL2 hp0 dL_law_1021 dL_law_1022 dL_law_1024 dL_law_1025 dL_law_1026 ?_
  refine law_arg hx hb hX hbl hbA hM.2.2.1 (lv_sub hl [4, 0] rfl) 2 (by decide) (by omega) hL2 hp1 dL_law_1027 dL_law_1028 dL_law_1030 dL_law_1031 dL_law_1032 ?_
  refine law_arg hx hb hX hbl hbA hM.2.2.1 (lv_sub hl [4, 0] rfl) 3 (by decide) (by omega) hL2 hp2 dL_law_1033 dL_law_1034 dL_law_1036 dL_law_1037 dL_law_1038 ?_
  refine law_arg hx hb hX hbl hbA hM.2.2.1 (lv_sub hl [4, 0] rfl) 4 (by decide) (by omega) hL2 hp3 dL_law_1039 dL_law_1040 dL_law_1042 dL_law_1043 dL_law_1044 ?_
  refine lv_aload_n hx hb dL_law_1045 rfl (lv_at hl 1 rfl) ?_
  rcases rg_ix p0 (n := nt) (by omega) with hq0 | ⟨t, ht, rfl⟩
  · skip
    refine fb_callW hx hb hml hown hts hM hE hNc (As := [.ref (sa S 0), .int p0, .int p1, .int p2, .int p3, .ref (sa S 2000)]) (rest := []) (c_L_shift_IOE a0 D y l S V I h03 hO p0 p1 p2 p3 (c_X3_shift_x0 a0 D y l hfl S V I a0.1 ns nt es na hC cf rf df hF p0 hq0 p1 p2 p3)) (vx_cwSW 6 hts gL_law_L_shift rfl rfl rfl (by decide +kernel) ⟨Nat.le_of_ble_eq_true rfl, Nat.le_of_ble_eq_true rfl⟩) rfl hl.1 rfl (Nat.le_of_ble_eq_true rfl) dL_law_1046 ⟨by omega, by omega⟩ (fun v1 u H locs hp hM => ?_)
    obtain ⟨hv_, hu_⟩ := hp
    have hv_ : v1 = nI 1 := hv_.trans (by decide)
    have hv_ := hv_.symm
    have hu_ := hu_.symm
    subst hv_
    subst hu_
    refine lv_istore (lv' := [(5, .int (nI 1)), (4, .int (nI j)), (3, .ref (sa S 2000)), (2, .ref (sa S o)), (1, .ref (sa S 0)), (0, .ref b)]) hx hb dL_law_1049 hl (by decide) rfl (fun ls hl => ?_)
    refine lv_aload_n hx hb dL_law_1051 rfl (lv_at hl 3 rfl) ?_
    refine law_arg hx hb hX hbl hbA hM.2.2.1 (lv_sub hl [5, 1] rfl) 1 (by decide) (by omega) hL2 hp0 dL_law_1052 dL_law_1053 dL_law_1055 dL_law_1056 dL_law_1057 ?_
    refine law_arg hx hb hX hbl hbA hM.2.2.1 (lv_sub hl [5, 1] rfl) 2 (by decide) (by omega) hL2 hp1 dL_law_1058 dL_law_1059 dL_law_1061 dL_law_1062 dL_law_1063 ?_
    refine law_arg hx hb hX hbl hbA hM.2.2.1 (lv_sub hl [5, 1] rfl) 3 (by decide) (by omega) hL2 hp2 dL_law_1064 dL_law_1065 dL_law_1067 dL_law_1068 dL_law_1069 ?_
    refine law_arg hx hb hX hbl hbA hM.2.2.1 (lv_sub hl [5, 1] rfl) 4 (by decide) (by omega) hL2 hp3 dL_law_1070 dL_law_1071 dL_law_1073 dL_law_1074 dL_law_1075 ?_
    refine fb_callVi (r := o) hx hb hml hown hts hM (hA.1.1) (ce4 (hA.1.2)) rfl (As := [.int p0, .int p1, .int p2, .int p3]) (rest := []) (c_X4_shift_f0t D y l S V I o nt cf rf hA ns df hG p0 hq0 p1 p2 p3) (cwV 4 hts gL_law_X4_shift rfl rfl rfl (by decide +kernel) ⟨Nat.le_of_ble_eq_true rfl, Nat.le_of_ble_eq_true rfl⟩) rfl hl.1 rfl (Nat.le_of_ble_eq_true rfl) dL_law_1076 ⟨by omega, by omega⟩ (fun v3 u H locs hp hM => ?_)
    obtain ⟨hv_, hu_⟩ := hp
    have hu_ := hu_.symm
    subst hu_
    refine lv_istore (lv' := [(6, .int v3), (5, .int (nI 1)), (4, .int (nI j)), (3, .ref (sa S 2000)), (2, .ref (sa S o)), (1, .ref (sa S 0)), (0, .ref b)]) hx hb dL_law_1079 hl (by decide) rfl (fun ls hl => ?_)
    have hIv := hI0.same ho (sam_tf I o 1) (VSame.rf V) hR.2.2.2.2.2
    have hth : tf I o 1 o 0 = nI 1 := by unfold tf; rw [va_up_self]; rfl
    refine law_tail (T := 1081) (off := 534) ⟨dL_law_1081, dL_law_1082, dL_law_1085, dL_law_1087, dL_law_1092, dL_law_1094, dL_law_1097, dL_law_1098, dL_law_1099, dL_law_1100, dL_law_1102, dL_law_1103, dL_law_1104, dL_law_1109, by omega⟩ hx hb hml hown hts hM hIv.1.2.1 hIv.1.2.2 (k := 1) (by decide) (lv_sub hl [4, 3, 1, 0] rfl) hth (fun hz9 => absurd hz9 (by decide)) (by omega) (by omega) (fun H locs hM => ?_) rfl
    exact W.widen (by omega) (by omega) (K _ _ _ _ _ _ _ _ _ _ _ _ _ _ (by omega) hIv hM (lv_sub hl [2, 3, 4, 5, 6] rfl))
  · skip
    have hcr := (hF.2.2.2.2 t ht).le
    have hc1 : 1 ≤ cf t := (hF.2.2.2.2 t ht).2.2.2.2.1
    have hd9 : df t ≤ 9 := (hF.2.2.2.2 t ht).2.2.2.2.2.2.2.2.2
    have hT9 := (hR.2.2.2.2.1 t ht)
    have t6 : t < 6 := by omega
    rcases rg_ix p1 (n := cf t * rf t) (by omega) with hq1 | ⟨f, hf, rfl⟩
    · skip
      refine fb_callW hx hb hml hown hts hM hE hNc (As := [.ref (sa S 0), .int (nI t), .int p1, .int p2, .int p3, .ref (sa S 2000)]) (rest := []) (c_L_shift_IOE a0 D y l S V I h03 hO (nI t) p1 p2 p3 (c_X3_shift_x1 a0 D y l hfl S V I a0.1 ns nt es na hC cf rf df hF t ht  p1 hq1 p2 p3)) (vx_cwSW 6 hts gL_law_L_shift rfl rfl rfl (by decide +kernel) ⟨Nat.le_of_ble_eq_true rfl, Nat.le_of_ble_eq_true rfl⟩) rfl hl.1 rfl (Nat.le_of_ble_eq_true rfl) dL_law_1046 ⟨by omega, by omega⟩ (fun v1 u H locs hp hM => ?_)
      obtain ⟨hv_, hu_⟩ := hp
      have hv_ : v1 = nI 1 := hv_.trans (by decide)
      have hv_ := hv_.symm
      have hu_ := hu_.symm
      subst hv_
      subst hu_
      refine lv_istore (lv' := [(5, .int (nI 1)), (4, .int (nI j)), (3, .ref (sa S 2000)), (2, .ref (sa S o)), (1, .ref (sa S 0)), (0, .ref b)]) hx hb dL_law_1049 hl (by decide) rfl (fun ls hl => ?_)
      refine lv_aload_n hx hb dL_law_1051 rfl (lv_at hl 3 rfl) ?_
      refine law_arg hx hb hX hbl hbA hM.2.2.1 (lv_sub hl [5, 1] rfl) 1 (by decide) (by omega) hL2 hp0 dL_law_1052 dL_law_1053 dL_law_1055 dL_law_1056 dL_law_1057 ?_
      refine law_arg hx hb hX hbl hbA hM.2.2.1 (lv_sub hl [5, 1] rfl) 2 (by decide) (by omega) hL2 hp1 dL_law_1058 dL_law_1059 dL_law_1061 dL_law_1062 dL_law_1063 ?_
      refine law_arg hx hb hX hbl hbA hM.2.2.1 (lv_sub hl [5, 1] rfl) 3 (by decide) (by omega) hL2 hp2 dL_law_1064 dL_law_1065 dL_law_1067 dL_law_1068 dL_law_1069 ?_
      refine law_arg hx hb hX hbl hbA hM.2.2.1 (lv_sub hl [5, 1] rfl) 4 (by decide) (by omega) hL2 hp3 dL_law_1070 dL_law_1071 dL_law_1073 dL_law_1074 dL_law_1075 ?_
      refine fb_callVi (r := o) hx hb hml hown hts hM (hA.1.1) (ce4 (hA.1.2)) rfl (As := [.int (nI t), .int p1, .int p2, .int p3]) (rest := []) (c_X4_shift_f0q D y l S V I o nt cf rf hA ns df hG t ht  p1 hq1 p2 p3) (cwV 4 hts gL_law_X4_shift rfl rfl rfl (by decide +kernel) ⟨Nat.le_of_ble_eq_true rfl, Nat.le_of_ble_eq_true rfl⟩) rfl hl.1 rfl (Nat.le_of_ble_eq_true rfl) dL_law_1076 ⟨by omega, by omega⟩ (fun v3 u H locs hp hM => ?_)
      obtain ⟨hv_, hu_⟩ := hp
      have hu_ := hu_.symm
      subst hu_
      refine lv_istore (lv' := [(6, .int v3), (5, .int (nI 1)), (4, .int (nI j)), (3, .ref (sa S 2000)), (2, .ref (sa S o)), (1, .ref (sa S 0)), (0, .ref b)]) hx hb dL_law_1079 hl (by decide) rfl (fun ls hl => ?_)
      have hIv := hI0.same ho (sam_tf I o 1) (VSame.rf V) hR.2.2.2.2.2
      have hth : tf I o 1 o 0 = nI 1 := by unfold tf; rw [va_up_self]; rfl
      refine law_tail (T := 1081) (off := 534) ⟨dL_law_1081, dL_law_1082, dL_law_1085, dL_law_1087, dL_law_1092, dL_law_1094, dL_law_1097, dL_law_1098, dL_law_1099, dL_law_1100, dL_law_1102, dL_law_1103, dL_law_1104, dL_law_1109, by omega⟩ hx hb hml hown hts hM hIv.1.2.1 hIv.1.2.2 (k := 1) (by decide) (lv_sub hl [4, 3, 1, 0] rfl) hth (fun hz9 => absurd hz9 (by decide)) (by omega) (by omega) (fun H locs hM => ?_) rfl
      exact W.widen (by omega) (by omega) (K _ _ _ _ _ _ _ _ _ _ _ _ _ _ (by omega) hIv hM (lv_sub hl [2, 3, 4, 5, 6] rfl))
    · skip
      rcases rg_ix p2 (n := cf t * rf t) (by omega) with hq2 | ⟨z, hz, rfl⟩
      · skip
        refine fb_callW hx hb hml hown hts hM hE hNc (As := [.ref (sa S 0), .int (nI t), .int (nI f), .int p2, .int p3, .ref (sa S 2000)]) (rest := []) (c_L_shift_IOE a0 D y l S V I h03 hO (nI t) (nI f) p2 p3 (c_X3_shift_x2 a0 D y l hfl S V I a0.1 ns nt es na hC cf rf df hF t ht f hf p2 hq2 p3)) (vx_cwSW 6 hts gL_law_L_shift rfl rfl rfl (by decide +kernel) ⟨Nat.le_of_ble_eq_true rfl, Nat.le_of_ble_eq_true rfl⟩) rfl hl.1 rfl (Nat.le_of_ble_eq_true rfl) dL_law_1046 ⟨by omega, by omega⟩ (fun v1 u H locs hp hM => ?_)
        obtain ⟨hv_, hu_⟩ := hp
        have hv_ : v1 = nI 1 := hv_.trans (by decide)
        have hv_ := hv_.symm
        have hu_ := hu_.symm
        subst hv_
        subst hu_
        refine lv_istore (lv' := [(5, .int (nI 1)), (4, .int (nI j)), (3, .ref (sa S 2000)), (2, .ref (sa S o)), (1, .ref (sa S 0)), (0, .ref b)]) hx hb dL_law_1049 hl (by decide) rfl (fun ls hl => ?_)
        refine lv_aload_n hx hb dL_law_1051 rfl (lv_at hl 3 rfl) ?_
        refine law_arg hx hb hX hbl hbA hM.2.2.1 (lv_sub hl [5, 1] rfl) 1 (by decide) (by omega) hL2 hp0 dL_law_1052 dL_law_1053 dL_law_1055 dL_law_1056 dL_law_1057 ?_
        refine law_arg hx hb hX hbl hbA hM.2.2.1 (lv_sub hl [5, 1] rfl) 2 (by decide) (by omega) hL2 hp1 dL_law_1058 dL_law_1059 dL_law_1061 dL_law_1062 dL_law_1063 ?_
        refine law_arg hx hb hX hbl hbA hM.2.2.1 (lv_sub hl [5, 1] rfl) 3 (by decide) (by omega) hL2 hp2 dL_law_1064 dL_law_1065 dL_law_1067 dL_law_1068 dL_law_1069 ?_
        refine law_arg hx hb hX hbl hbA hM.2.2.1 (lv_sub hl [5, 1] rfl) 4 (by decide) (by omega) hL2 hp3 dL_law_1070 dL_law_1071 dL_law_1073 dL_law_1074 dL_law_1075 ?_
        refine fb_callVi (r := o) hx hb hml hown hts hM (hA.1.1) (ce4 (hA.1.2)) rfl (As := [.int (nI t), .int (nI f), .int p2, .int p3]) (rest := []) (c_X4_shift_f1q D y l S V I o nt cf rf hA ns df hG t ht f hf p2 hq2 p3) (cwV 4 hts gL_law_X4_shift rfl rfl rfl (by decide +kernel) ⟨Nat.le_of_ble_eq_true rfl, Nat.le_of_ble_eq_true rfl⟩) rfl hl.1 rfl (Nat.le_of_ble_eq_true rfl) dL_law_1076 ⟨by omega, by omega⟩ (fun v3 u H locs hp hM => ?_)
        obtain ⟨hv_, hu_⟩ := hp
        have hu_ := hu_.symm
        subst hu_
        refine lv_istore (lv' := [(6, .int v3), (5, .int (nI 1)), (4, .int (nI j)), (3, .ref (sa S 2000)), (2, .ref (sa S o)), (1, .ref (sa S 0)), (0, .ref b)]) hx hb dL_law_1079 hl (by decide) rfl (fun ls hl => ?_)
        have hIv := hI0.same ho (sam_tf I o 1) (VSame.rf V) hR.2.2.2.2.2
        have hth : tf I o 1 o 0 = nI 1 := by unfold tf; rw [va_up_self]; rfl
        refine law_tail (T := 1081) (off := 534) ⟨dL_law_1081, dL_law_1082, dL_law_1085, dL_law_1087, dL_law_1092, dL_law_1094, dL_law_1097, dL_law_1098, dL_law_1099, dL_law_1100, dL_law_1102, dL_law_1103, dL_law_1104, dL_law_1109, by omega⟩ hx hb hml hown hts hM hIv.1.2.1 hIv.1.2.2 (k := 1) (by decide) (lv_sub hl [4, 3, 1, 0] rfl) hth (fun hz9 => absurd hz9 (by decide)) (by omega) (by omega) (fun H locs hM => ?_) rfl
        exact W.widen (by omega) (by omega) (K _ _ _ _ _ _ _ _ _ _ _ _ _ _ (by omega) hIv hM (lv_sub hl [2, 3, 4, 5, 6] rfl))
      · skip
        by_cases heq : f = z
        · skip
          refine fb_callW hx hb hml hown hts hM hE hNc (As := [.ref (sa S 0), .int (nI t), .int (nI f), .int (nI z), .int p3, .ref (sa S 2000)]) (rest := []) (c_L_shift_IAE a0 D y l S V I h03 hO (nI t) (nI f) (nI z) p3 (c_X3_shift_x3 a0 D y l hfl S V I a0.1 ns nt es na hC cf rf df hF t ht f hf z hz heq p3)) (vx_cwSW 6 hts gL_law_L_shift rfl rfl rfl (by decide +kernel) ⟨Nat.le_of_ble_eq_true rfl, Nat.le_of_ble_eq_true rfl⟩) rfl hl.1 rfl (Nat.le_of_ble_eq_true rfl) dL_law_1046 ⟨by omega, by omega⟩ (fun v1 u H locs hp hM => ?_)
          obtain ⟨hv_, hu_⟩ := hp
          have hv_ : v1 = nI 2 := hv_.trans (by decide)
          have hv_ := hv_.symm
          have hu_ := hu_.symm
          subst hv_
          subst hu_
          refine lv_istore (lv' := [(5, .int (nI 2)), (4, .int (nI j)), (3, .ref (sa S 2000)), (2, .ref (sa S o)), (1, .ref (sa S 0)), (0, .ref b)]) hx hb dL_law_1049 hl (by decide) rfl (fun ls hl => ?_)
          refine lv_aload_n hx hb dL_law_1051 rfl (lv_at hl 3 rfl) ?_
          refine law_arg hx hb hX hbl hbA hM.2.2.1 (lv_sub hl [5, 1] rfl) 1 (by decide) (by omega) hL2 hp0 dL_law_1052 dL_law_1053 dL_law_1055 dL_law_1056 dL_law_1057 ?_
          refine law_arg hx hb hX hbl hbA hM.2.2.1 (lv_sub hl [5, 1] rfl) 2 (by decide) (by omega) hL2 hp1 dL_law_1058 dL_law_1059 dL_law_1061 dL_law_1062 dL_law_1063 ?_
          refine law_arg hx hb hX hbl hbA hM.2.2.1 (lv_sub hl [5, 1] rfl) 3 (by decide) (by omega) hL2 hp2 dL_law_1064 dL_law_1065 dL_law_1067 dL_law_1068 dL_law_1069 ?_
          refine law_arg hx hb hX hbl hbA hM.2.2.1 (lv_sub hl [5, 1] rfl) 4 (by decide) (by omega) hL2 hp3 dL_law_1070 dL_law_1071 dL_law_1073 dL_law_1074 dL_law_1075 ?_
          refine fb_callVi (r := o) hx hb hml hown hts hM (hA.1.1) (ce4 (hA.1.2)) rfl (As := [.int (nI t), .int (nI f), .int (nI z), .int p3]) (rest := []) (c_X4_shift_f2o D y l S V I o nt cf rf hA ns df hG t ht f hf z hz heq p3) (cwV 4 hts gL_law_X4_shift rfl rfl rfl (by decide +kernel) ⟨Nat.le_of_ble_eq_true rfl, Nat.le_of_ble_eq_true rfl⟩) rfl hl.1 rfl (Nat.le_of_ble_eq_true rfl) dL_law_1076 ⟨by omega, by omega⟩ (fun v3 u H locs hp hM => ?_)
          obtain ⟨hv_, hu_⟩ := hp
          have hu_ := hu_.symm
          subst hu_
          refine lv_istore (lv' := [(6, .int v3), (5, .int (nI 2)), (4, .int (nI j)), (3, .ref (sa S 2000)), (2, .ref (sa S o)), (1, .ref (sa S 0)), (0, .ref b)]) hx hb dL_law_1079 hl (by decide) rfl (fun ls hl => ?_)
          have hIv := hI0.same ho (sam_tf I o 2) (VSame.rf V) hR.2.2.2.2.2
          have hth : tf I o 2 o 0 = nI 2 := by unfold tf; rw [va_up_self]; rfl
          refine law_tail (T := 1081) (off := 534) ⟨dL_law_1081, dL_law_1082, dL_law_1085, dL_law_1087, dL_law_1092, dL_law_1094, dL_law_1097, dL_law_1098, dL_law_1099, dL_law_1100, dL_law_1102, dL_law_1103, dL_law_1104, dL_law_1109, by omega⟩ hx hb hml hown hts hM hIv.1.2.1 hIv.1.2.2 (k := 2) (by decide) (lv_sub hl [4, 3, 1, 0] rfl) hth (fun hz9 => absurd hz9 (by decide)) (by omega) (by omega) (fun H locs hM => ?_) rfl
          exact W.widen (by omega) (by omega) (K _ _ _ _ _ _ _ _ _ _ _ _ _ _ (by omega) hIv hM (lv_sub hl [2, 3, 4, 5, 6] rfl))
        · skip
          rcases rg_lh p3 1 300 (by decide) (by decide) with hq3 | ⟨w, hwa, hw, rfl⟩
          · skip
            have hw3 : p3 < 1 ∨ 300 < p3 := hq3
            refine fb_callW hx hb hml hown hts hM hE hNc (As := [.ref (sa S 0), .int (nI t), .int (nI f), .int (nI z), .int p3, .ref (sa S 2000)]) (rest := []) (c_L_shift_IAE a0 D y l S V I h03 hO (nI t) (nI f) (nI z) p3 (c_X3_shift_x4 a0 D y l hfl S V I a0.1 ns nt es na hC cf rf df hF t ht f hf z hz heq p3 hw3)) (vx_cwSW 6 hts gL_law_L_shift rfl rfl rfl (by decide +kernel) ⟨Nat.le_of_ble_eq_true rfl, Nat.le_of_ble_eq_true rfl⟩) rfl hl.1 rfl (Nat.le_of_ble_eq_true rfl) dL_law_1046 ⟨by omega, by omega⟩ (fun v1 u H locs hp hM => ?_)
            obtain ⟨hv_, hu_⟩ := hp
            have hv_ : v1 = nI 2 := hv_.trans (by decide)
            have hv_ := hv_.symm
            have hu_ := hu_.symm
            subst hv_
            subst hu_
            refine lv_istore (lv' := [(5, .int (nI 2)), (4, .int (nI j)), (3, .ref (sa S 2000)), (2, .ref (sa S o)), (1, .ref (sa S 0)), (0, .ref b)]) hx hb dL_law_1049 hl (by decide) rfl (fun ls hl => ?_)
            refine lv_aload_n hx hb dL_law_1051 rfl (lv_at hl 3 rfl) ?_
            refine law_arg hx hb hX hbl hbA hM.2.2.1 (lv_sub hl [5, 1] rfl) 1 (by decide) (by omega) hL2 hp0 dL_law_1052 dL_law_1053 dL_law_1055 dL_law_1056 dL_law_1057 ?_
            refine law_arg hx hb hX hbl hbA hM.2.2.1 (lv_sub hl [5, 1] rfl) 2 (by decide) (by omega) hL2 hp1 dL_law_1058 dL_law_1059 dL_law_1061 dL_law_1062 dL_law_1063 ?_
            refine law_arg hx hb hX hbl hbA hM.2.2.1 (lv_sub hl [5, 1] rfl) 3 (by decide) (by omega) hL2 hp2 dL_law_1064 dL_law_1065 dL_law_1067 dL_law_1068 dL_law_1069 ?_
            refine law_arg hx hb hX hbl hbA hM.2.2.1 (lv_sub hl [5, 1] rfl) 4 (by decide) (by omega) hL2 hp3 dL_law_1070 dL_law_1071 dL_law_1073 dL_law_1074 dL_law_1075 ?_
            refine fb_callVi (r := o) hx hb hml hown hts hM (hA.1.1) (ce4 (hA.1.2)) rfl (As := [.int (nI t), .int (nI f), .int (nI z), .int p3]) (rest := []) (c_X4_shift_f3o D y l S V I o nt cf rf hA ns df hG t ht f hf z hz heq p3 hw3) (cwV 4 hts gL_law_X4_shift rfl rfl rfl (by decide +kernel) ⟨Nat.le_of_ble_eq_true rfl, Nat.le_of_ble_eq_true rfl⟩) rfl hl.1 rfl (Nat.le_of_ble_eq_true rfl) dL_law_1076 ⟨by omega, by omega⟩ (fun v3 u H locs hp hM => ?_)
            obtain ⟨hv_, hu_⟩ := hp
            have hu_ := hu_.symm
            subst hu_
            refine lv_istore (lv' := [(6, .int v3), (5, .int (nI 2)), (4, .int (nI j)), (3, .ref (sa S 2000)), (2, .ref (sa S o)), (1, .ref (sa S 0)), (0, .ref b)]) hx hb dL_law_1079 hl (by decide) rfl (fun ls hl => ?_)
            have hIv := hI0.same ho (sam_tf I o 2) (VSame.rf V) hR.2.2.2.2.2
            have hth : tf I o 2 o 0 = nI 2 := by unfold tf; rw [va_up_self]; rfl
            refine law_tail (T := 1081) (off := 534) ⟨dL_law_1081, dL_law_1082, dL_law_1085, dL_law_1087, dL_law_1092, dL_law_1094, dL_law_1097, dL_law_1098, dL_law_1099, dL_law_1100, dL_law_1102, dL_law_1103, dL_law_1104, dL_law_1109, by omega⟩ hx hb hml hown hts hM hIv.1.2.1 hIv.1.2.2 (k := 2) (by decide) (lv_sub hl [4, 3, 1, 0] rfl) hth (fun hz9 => absurd hz9 (by decide)) (by omega) (by omega) (fun H locs hM => ?_) rfl
            exact W.widen (by omega) (by omega) (K _ _ _ _ _ _ _ _ _ _ _ _ _ _ (by omega) hIv hM (lv_sub hl [2, 3, 4, 5, 6] rfl))
          · skip
            have rA := hT9.2.1 f (by omega)
            have rB := hT9.2.1 z (by omega)
            obtain ⟨e1m, e2m, e3m, bX, bY⟩ := MVE (A := (V (300 + 72 * t + 2 * f))) (B := (V (300 + 72 * t + 2 * z))) (N := 300) (m := w) (by rw [rA.1]; exact rA.2) (by omega) (by rw [rB.1]; exact rB.2) hw
            have hcd := c_X3_shift_ok D y l S V I a0.1 ns nt es na hC cf rf df hF t ht f hf z hz heq w hwa hw
            rw [e1m, e2m, e3m] at hcd
            refine fb_callW hx hb hml hown hts hM hE hNc (As := [.ref (sa S 0), .int (nI t), .int (nI f), .int (nI z), .int (nI w), .ref (sa S 2000)]) (rest := []) (c_L_shift_ok a0 D y l S V I h03 hO (nI t) (nI f) (nI z) (nI w) (hcd) (fun v u hq => by obtain ⟨_, hq⟩ := hq; subst hq; exact ⟨hO, rfl⟩)) (vx_cwSW 6 hts gL_law_L_shift rfl rfl rfl (by decide +kernel) ⟨Nat.le_of_ble_eq_true rfl, Nat.le_of_ble_eq_true rfl⟩) rfl hl.1 rfl (Nat.le_of_ble_eq_true rfl) dL_law_1046 ⟨by omega, by omega⟩ (fun v1 u H locs hp hM => ?_)
            obtain ⟨hv_, v2, u1, hq, hu_⟩ := hp
            have hv_ : v1 = nI 0 := hv_
            have hv_ := hv_.symm
            subst hv_
            obtain ⟨hq1, hq2⟩ := hq
            subst hq2
            subst hq1
            obtain ⟨J, eJ⟩ : ∃ J, J = va_up I 2000 (upd (I 2000) 0 (mn (nI w) (mn (s6 (V (300 + 72 * t + 2 * f))) (300 - s6 (V (300 + 72 * t + 2 * z)))))) := ⟨_, rfl⟩
            have hM : fb_M D y A s (S, (va_up (va_up V (300 + 72 * t + 2 * f) (mva (V (300 + 72 * t + 2 * f)) (mn (nI w) (mn (s6 (V (300 + 72 * t + 2 * f))) (300 - s6 (V (300 + 72 * t + 2 * z))))) 6)) (300 + 72 * t + 2 * z) (mvb (V (300 + 72 * t + 2 * f)) (V (300 + 72 * t + 2 * z)) (mn (nI w) (mn (s6 (V (300 + 72 * t + 2 * f))) (300 - s6 (V (300 + 72 * t + 2 * z))))) 6)), (sT (va_up (va_up V (300 + 72 * t + 2 * f) (mva (V (300 + 72 * t + 2 * f)) (mn (nI w) (mn (s6 (V (300 + 72 * t + 2 * f))) (300 - s6 (V (300 + 72 * t + 2 * z))))) 6)) (300 + 72 * t + 2 * z) (mvb (V (300 + 72 * t + 2 * f)) (V (300 + 72 * t + 2 * z)) (mn (nI w) (mn (s6 (V (300 + 72 * t + 2 * f))) (300 - s6 (V (300 + 72 * t + 2 * z))))) 6))), J) H locs := by rw [hu_] at hM; rw [eJ]; exact hM
            have hG2 : MF J o ns nt cf rf df := by rw [eJ]; exact mfc hG (by simp (discharger := omega) only [va_up_ne, t0_ne, va_up_self]) (by simp (discharger := omega) only [va_up_ne, t0_ne, va_up_self]) (by simp (discharger := omega) only [va_up_ne, t0_ne, va_up_self]) (by simp (discharger := omega) only [va_up_ne, t0_ne, va_up_self])
            refine lv_istore (lv' := [(5, .int (nI 0)), (4, .int (nI j)), (3, .ref (sa S 2000)), (2, .ref (sa S o)), (1, .ref (sa S 0)), (0, .ref b)]) hx hb dL_law_1049 hl (by decide) rfl (fun ls hl => ?_)
            refine lv_aload_n hx hb dL_law_1051 rfl (lv_at hl 3 rfl) ?_
            refine law_arg hx hb hX hbl hbA hM.2.2.1 (lv_sub hl [5, 1] rfl) 1 (by decide) (by omega) hL2 hp0 dL_law_1052 dL_law_1053 dL_law_1055 dL_law_1056 dL_law_1057 ?_
            refine law_arg hx hb hX hbl hbA hM.2.2.1 (lv_sub hl [5, 1] rfl) 2 (by decide) (by omega) hL2 hp1 dL_law_1058 dL_law_1059 dL_law_1061 dL_law_1062 dL_law_1063 ?_
            refine law_arg hx hb hX hbl hbA hM.2.2.1 (lv_sub hl [5, 1] rfl) 3 (by decide) (by omega) hL2 hp2 dL_law_1064 dL_law_1065 dL_law_1067 dL_law_1068 dL_law_1069 ?_
            refine law_arg hx hb hX hbl hbA hM.2.2.1 (lv_sub hl [5, 1] rfl) 4 (by decide) (by omega) hL2 hp3 dL_law_1070 dL_law_1071 dL_law_1073 dL_law_1074 dL_law_1075 ?_
            refine fb_callVi (r := o) hx hb hml hown hts hM (hA.1.1) (ce4 (hA.1.2)) rfl (As := [.int (nI t), .int (nI f), .int (nI z), .int (nI w)]) (rest := []) (c_X4_shift_ok D y l S (va_up (va_up V (300 + 72 * t + 2 * f) (mva (V (300 + 72 * t + 2 * f)) (mn (nI w) (mn (s6 (V (300 + 72 * t + 2 * f))) (300 - s6 (V (300 + 72 * t + 2 * z))))) 6)) (300 + 72 * t + 2 * z) (mvb (V (300 + 72 * t + 2 * f)) (V (300 + 72 * t + 2 * z)) (mn (nI w) (mn (s6 (V (300 + 72 * t + 2 * f))) (300 - s6 (V (300 + 72 * t + 2 * z))))) 6)) J o nt cf rf hA ns df hG2 t ht f hf z hz heq w hwa hw) (cwV 4 hts gL_law_X4_shift rfl rfl rfl (by decide +kernel) ⟨Nat.le_of_ble_eq_true rfl, Nat.le_of_ble_eq_true rfl⟩) rfl hl.1 rfl (Nat.le_of_ble_eq_true rfl) dL_law_1076 ⟨by omega, by omega⟩ (fun v3 u H locs hp hM => ?_)
            obtain ⟨hv_, hu_⟩ := hp
            have hu_ := hu_.symm
            subst hu_
            refine lv_istore (lv' := [(6, .int v3), (5, .int (nI 0)), (4, .int (nI j)), (3, .ref (sa S 2000)), (2, .ref (sa S o)), (1, .ref (sa S 0)), (0, .ref b)]) hx hb dL_law_1079 hl (by decide) rfl (fun ls hl => ?_)
            have ej10 : J (o + 10 + t) = I (o + 10 + t) := by simp (discharger := omega) only [va_up_ne, va_up_self, t0_ne, t0_f, eJ]
            have etk : tkg (J (o + 10 + t)) f (J (o + 10 + t)) z (nI w) = (mn (nI w) (mn (s6 (V (300 + 72 * t + 2 * f))) (300 - s6 (V (300 + 72 * t + 2 * z))))) := by unfold tkg; rw [ej10, ← rA.1, ← rB.1]
            have eFJ : mvI (t0 J o) (o + 10 + t) f (o + 10 + t) z (mn (nI w) (mn (s6 (V (300 + 72 * t + 2 * f))) (300 - s6 (V (300 + 72 * t + 2 * z))))) 6 = (va_up (t0 J o) (o + 10 + t) (bk (bk (I (o + 10 + t)) f (mva (V (300 + 72 * t + 2 * f)) (mn (nI w) (mn (s6 (V (300 + 72 * t + 2 * f))) (300 - s6 (V (300 + 72 * t + 2 * z))))) 6)) z (mvb (V (300 + 72 * t + 2 * f)) (V (300 + 72 * t + 2 * z)) (mn (nI w) (mn (s6 (V (300 + 72 * t + 2 * f))) (300 - s6 (V (300 + 72 * t + 2 * z))))) 6))) := by rw [mvI_self, t0_ne J (show o + 10 + t ≠ o by omega), ej10, ← rA.1, ← rB.1]
            rw [etk] at hM hv_
            rw [eFJ] at hM
            have hth : (va_up (t0 J o) (o + 10 + t) (bk (bk (I (o + 10 + t)) f (mva (V (300 + 72 * t + 2 * f)) (mn (nI w) (mn (s6 (V (300 + 72 * t + 2 * f))) (300 - s6 (V (300 + 72 * t + 2 * z))))) 6)) z (mvb (V (300 + 72 * t + 2 * f)) (V (300 + 72 * t + 2 * z)) (mn (nI w) (mn (s6 (V (300 + 72 * t + 2 * f))) (300 - s6 (V (300 + 72 * t + 2 * z))))) 6))) o 0 = nI 0 := by rw [va_up_ne _ _ (show o ≠ o + 10 + t by omega)]; exact t0_z J o
            have hIv := (Iv.shift ho hI0 ht hf hz heq bX bY rfl (by simp (discharger := omega) only [va_up_ne, va_up_self, t0_ne, t0_f]) (fun j9 h9 => by simp (discharger := omega) only [va_up_ne, va_up_self, t0_ne, t0_f, eJ]) (fun x9 a9 b9 c9 => by simp (discharger := omega) only [va_up_ne, va_up_self, t0_ne, t0_f, eJ]) : Iv a0.1 S (va_up (va_up V (300 + 72 * t + 2 * f) (mva (V (300 + 72 * t + 2 * f)) (mn (nI w) (mn (s6 (V (300 + 72 * t + 2 * f))) (300 - s6 (V (300 + 72 * t + 2 * z))))) 6)) (300 + 72 * t + 2 * z) (mvb (V (300 + 72 * t + 2 * f)) (V (300 + 72 * t + 2 * z)) (mn (nI w) (mn (s6 (V (300 + 72 * t + 2 * f))) (300 - s6 (V (300 + 72 * t + 2 * z))))) 6)) (va_up (t0 J o) (o + 10 + t) (bk (bk (I (o + 10 + t)) f (mva (V (300 + 72 * t + 2 * f)) (mn (nI w) (mn (s6 (V (300 + 72 * t + 2 * f))) (300 - s6 (V (300 + 72 * t + 2 * z))))) 6)) z (mvb (V (300 + 72 * t + 2 * f)) (V (300 + 72 * t + 2 * z)) (mn (nI w) (mn (s6 (V (300 + 72 * t + 2 * f))) (300 - s6 (V (300 + 72 * t + 2 * z))))) 6))) o ns nt es na cf rf df N)
            refine law_tail (T := 1081) (off := 534) ⟨dL_law_1081, dL_law_1082, dL_law_1085, dL_law_1087, dL_law_1092, dL_law_1094, dL_law_1097, dL_law_1098, dL_law_1099, dL_law_1100, dL_law_1102, dL_law_1103, dL_law_1104, dL_law_1109, by omega⟩ hx hb hml hown hts hM hIv.1.2.1 hIv.1.2.2 (k := 0) (by decide) (lv_sub hl [4, 3, 1, 0] rfl) hth (fun hz9 => (show (va_up (t0 J o) (o + 10 + t) (bk (bk (I (o + 10 + t)) f (mva (V (300 + 72 * t + 2 * f)) (mn (nI w) (mn (s6 (V (300 + 72 * t + 2 * f))) (300 - s6 (V (300 + 72 * t + 2 * z))))) 6)) z (mvb (V (300 + 72 * t + 2 * f)) (V (300 + 72 * t + 2 * z)) (mn (nI w) (mn (s6 (V (300 + 72 * t + 2 * f))) (300 - s6 (V (300 + 72 * t + 2 * z))))) 6))) 2000 0 = (mn (nI w) (mn (s6 (V (300 + 72 * t + 2 * f))) (300 - s6 (V (300 + 72 * t + 2 * z))))) from by simp (discharger := omega) only [va_up_ne, va_up_self, t0_ne, eJ]; exact if_pos rfl).trans (hv_.symm)) (by omega) (by omega) (fun H locs hM => ?_) rfl
            exact W.widen (by omega) (by omega) (K _ _ _ _ _ _ _ _ _ _ _ _ _ _ (by omega) hIv hM (lv_sub hl [2, 3, 4, 5, 6] rfl))
set_option maxHeartbeats 4000000 in
set_option maxRecDepth 100000 in
theorem stp_pass (hL : Lw p l s m args c D A y a0 b L xs) {o j ns nt es na N : Nat} {cf rf df : Nat → Nat} (hM : fb_M D y A s (S, V, (sT V), I) H locs) (hI : Iv a0.1 S V I o ns nt es na cf rf df N) (ho : o = 1000) (hj : j + 5 ≤ L) (hN : N ≤ 1600000) (hc : cells + 1100 ≤ room_1.cells) (hs : slots + 14000 ≤ room_1.slots) (hl : lv_has ls 9 [(4, .int (nI j)), (3, .ref (sa S 2000)), (2, .ref (sa S o)), (1, .ref (sa S 0)), (0, .ref b)]) (K : Kont p l e s m args below meth c Q D A y a0.1 o b j N cells slots) : W p l e room_1 s m args below meth c H locs cells slots Q (F0 m 1260 ls []) := by
  obtain ⟨hx, hb, hml, hown, hts, hE, hNc, hfl, hX, hbl, hbA, hL2⟩ := hL
  have hI0 := hI
  obtain ⟨⟨hC, hA, hO⟩, ⟨hEs, hFr⟩, ⟨hF, hG⟩, hR⟩ := hI
  have hns : ns ≤ 12 := hF.2.2.1
  have hnt : nt ≤ 6 := hF.2.2.2.1
  have h03 : 0 ∈ sR S ∧ sk S 0 = 3 := hC.1
  obtain ⟨p0, hp0⟩ : ∃ v, xs (j + 1) = v := ⟨_, rfl⟩
  refine lv_aload_n hx hb dL_law_1260 rfl (lv_at hl 3 rfl) ?_
  refine law_arg hx hb hX hbl hbA hM.2.2.1 (lv_sub hl [4, 0] rfl) 1 (by decide) (by omega) hL2 hp0 dL_law_1261 dL_law_1262 dL_law_1264 dL_law_1265 dL_law_1266 ?_
  refine lv_aload_n hx hb dL_law_1267 rfl (lv_at hl 1 rfl) ?_
  rcases rg_lh p0 1 200 (by decide) (by decide) with hq0 | ⟨z, hza, hz, rfl⟩
  · skip
    have hw0 : p0 < 1 ∨ 200 < p0 := hq0
    refine fb_callW hx hb hml hown hts hM hE hNc (As := [.ref (sa S 0), .int p0, .ref (sa S 2000)]) (rest := []) (c_L_pass_IAE a0 D y l S V I h03 hO p0 (c_X3_pass_x0 a0 D y l hfl S V I a0.1 ns nt es na hC cf rf df hF p0 hw0)) (vx_cwSW 3 hts gL_law_L_pass rfl rfl rfl (by decide +kernel) ⟨Nat.le_of_ble_eq_true rfl, Nat.le_of_ble_eq_true rfl⟩) rfl hl.1 rfl (Nat.le_of_ble_eq_true rfl) dL_law_1268 ⟨by omega, by omega⟩ (fun v1 u H locs hp hM => ?_)
    obtain ⟨hv_, hu_⟩ := hp
    have hv_ : v1 = nI 1 := hv_.trans (by decide)
    have hv_ := hv_.symm
    have hu_ := hu_.symm
    subst hv_
    subst hu_
    refine lv_istore (lv' := [(5, .int (nI 1)), (4, .int (nI j)), (3, .ref (sa S 2000)), (2, .ref (sa S o)), (1, .ref (sa S 0)), (0, .ref b)]) hx hb dL_law_1271 hl (by decide) rfl (fun ls hl => ?_)
    refine lv_aload_n hx hb dL_law_1273 rfl (lv_at hl 3 rfl) ?_
    refine law_arg hx hb hX hbl hbA hM.2.2.1 (lv_sub hl [5, 1] rfl) 1 (by decide) (by omega) hL2 hp0 dL_law_1274 dL_law_1275 dL_law_1277 dL_law_1278 dL_law_1279 ?_
    refine fb_callVi (r := o) hx hb hml hown hts hM (hA.1.1) (ce4 (hA.1.2)) rfl (As := [.int p0]) (rest := []) (c_X4_pass_f0o D y l S V I o nt cf rf hA ns df hG p0 hw0) (cwV 1 hts gL_law_X4_pass rfl rfl rfl (by decide +kernel) ⟨Nat.le_of_ble_eq_true rfl, Nat.le_of_ble_eq_true rfl⟩) rfl hl.1 rfl (Nat.le_of_ble_eq_true rfl) dL_law_1280 ⟨by omega, by omega⟩ (fun v3 u H locs hp hM => ?_)
    obtain ⟨hv_, hu_⟩ := hp
    have hu_ := hu_.symm
    subst hu_
    refine lv_istore (lv' := [(6, .int v3), (5, .int (nI 1)), (4, .int (nI j)), (3, .ref (sa S 2000)), (2, .ref (sa S o)), (1, .ref (sa S 0)), (0, .ref b)]) hx hb dL_law_1283 hl (by decide) rfl (fun ls hl => ?_)
    have hIv := hI0.same ho (sam_tf I o 1) (VSame.rf V) hR.2.2.2.2.2
    have hth : tf I o 1 o 0 = nI 1 := by unfold tf; rw [va_up_self]; rfl
    refine law_tail (T := 1285) (off := 330) ⟨dL_law_1285, dL_law_1286, dL_law_1289, dL_law_1291, dL_law_1296, dL_law_1298, dL_law_1301, dL_law_1302, dL_law_1303, dL_law_1304, dL_law_1306, dL_law_1307, dL_law_1308, dL_law_1313, by omega⟩ hx hb hml hown hts hM hIv.1.2.1 hIv.1.2.2 (k := 1) (by decide) (lv_sub hl [4, 3, 1, 0] rfl) hth (fun hz9 => absurd hz9 (by decide)) (by omega) (by omega) (fun H locs hM => ?_) rfl
    exact W.widen (by omega) (by omega) (K _ _ _ _ _ _ _ _ _ _ _ _ _ _ (by omega) hIv hM (lv_sub hl [2, 3, 4, 5, 6] rfl))
  · skip
    refine fb_callW hx hb hml hown hts hM hE hNc (As := [.ref (sa S 0), .int (nI z), .ref (sa S 2000)]) (rest := []) (c_L_pass_ok a0 D y l S V I h03 hO (nI z) (c_X3_pass_ok D y l S V I a0.1 ns nt es na hC cf rf df hF z hza hz (fun t ht => an_NF1 (hR.2.2.2.2.1 t ht) (hF.2.2.2.2 t ht).2.2.2.2.1 (hF.2.2.2.2 t ht).le.2 (hF.2.2.2.2 t ht).2.2.2.2.2.2.2.2.2 z _)) (fun v u hq => by obtain ⟨_, hq⟩ := hq; subst hq; exact ⟨hO, rfl⟩)) (vx_cwSW 3 hts gL_law_L_pass rfl rfl rfl (by decide +kernel) ⟨Nat.le_of_ble_eq_true rfl, Nat.le_of_ble_eq_true rfl⟩) rfl hl.1 rfl (Nat.le_of_ble_eq_true rfl) dL_law_1268 ⟨by omega, by omega⟩ (fun v1 u H locs hp hM => ?_)
    obtain ⟨hv_, v2, u1, hq, hu_⟩ := hp
    have hv_ : v1 = nI 0 := hv_
    have hv_ := hv_.symm
    subst hv_
    obtain ⟨hq1, hq2⟩ := hq
    subst hq2
    subst hq1
    obtain ⟨J, eJ⟩ : ∃ J, J = va_up (va_up I 0 (upd (upd (I 0) 5 (I 0 5 + nI z)) 7 (I 0 7 + (psL V I cf rf df z nt)))) 2000 (upd ((va_up I 0 (upd (upd (I 0) 5 (I 0 5 + nI z)) 7 (I 0 7 + (psL V I cf rf df z nt)))) 2000) 0 (psL V I cf rf df z nt)) := ⟨_, rfl⟩
    have hM : fb_M D y A s (S, (psV V I cf rf df z nt), (sT (psV V I cf rf df z nt)), J) H locs := by rw [hu_] at hM; rw [eJ]; exact hM
    have hG2 : MF J o ns nt cf rf df := by rw [eJ]; exact mfc hG (by simp (discharger := omega) only [va_up_ne, t0_ne, va_up_self]) (by simp (discharger := omega) only [va_up_ne, t0_ne, va_up_self]) (by simp (discharger := omega) only [va_up_ne, t0_ne, va_up_self]) (by simp (discharger := omega) only [va_up_ne, t0_ne, va_up_self])
    refine lv_istore (lv' := [(5, .int (nI 0)), (4, .int (nI j)), (3, .ref (sa S 2000)), (2, .ref (sa S o)), (1, .ref (sa S 0)), (0, .ref b)]) hx hb dL_law_1271 hl (by decide) rfl (fun ls hl => ?_)
    refine lv_aload_n hx hb dL_law_1273 rfl (lv_at hl 3 rfl) ?_
    refine law_arg hx hb hX hbl hbA hM.2.2.1 (lv_sub hl [5, 1] rfl) 1 (by decide) (by omega) hL2 hp0 dL_law_1274 dL_law_1275 dL_law_1277 dL_law_1278 dL_law_1279 ?_
    refine fb_callVi (r := o) hx hb hml hown hts hM (hA.1.1) (ce4 (hA.1.2)) rfl (As := [.int (nI z)]) (rest := []) (c_X4_pass_ok D y l S (psV V I cf rf df z nt) J o nt cf rf hA ns df hG2 z hza hz) (cwV 1 hts gL_law_X4_pass rfl rfl rfl (by decide +kernel) ⟨Nat.le_of_ble_eq_true rfl, Nat.le_of_ble_eq_true rfl⟩) rfl hl.1 rfl (Nat.le_of_ble_eq_true rfl) dL_law_1280 ⟨by omega, by omega⟩ (fun v3 u H locs hp hM => ?_)
    obtain ⟨hv_, hu_⟩ := hp
    have hu_ := hu_.symm
    subst hu_
    refine lv_istore (lv' := [(6, .int v3), (5, .int (nI 0)), (4, .int (nI j)), (3, .ref (sa S 2000)), (2, .ref (sa S o)), (1, .ref (sa S 0)), (0, .ref b)]) hx hb dL_law_1283 hl (by decide) rfl (fun ls hl => ?_)
    have ej10 : ∀ t, t < 6 → J (o + 10 + t) = I (o + 10 + t) := fun t ht => by simp (discharger := omega) only [va_up_ne, va_up_self, t0_ne, t0_f, eJ]
    have ej20 : ∀ t, t < 6 → J (o + 20 + t) = I (o + 20 + t) := fun t ht => by simp (discharger := omega) only [va_up_ne, va_up_self, t0_ne, t0_f, eJ]
    have ejb : ∀ t, t < 6 → J (30 + 4 * t + 2) = I (30 + 4 * t + 2) := fun t ht => by simp (discharger := omega) only [va_up_ne, va_up_self, t0_ne, t0_f, eJ]
    have ej11 : J o 10 = I o 10 := by simp (discharger := omega) only [va_up_ne, va_up_self, t0_ne, t0_f, eJ]
    have ej12 : J o 12 = I o 12 := by simp (discharger := omega) only [va_up_ne, va_up_self, t0_ne, t0_f, eJ]
    have hLp : (psL V I cf rf df z nt) = psn J o nt cf rf df z := (psL_cg nt (fun t ht => ejb t (by omega))).symm.trans (psL_psn (fun t ht => ⟨rT (hR.2.2.2.2.1 t ht) (fun _ _ => rfl) (ej10 t (by omega)) (ej20 t (by omega)) (ejb t (by omega)), (hF.2.2.2.2 t ht).2.2.2.2.1, (hF.2.2.2.2 t ht).le.2⟩) z)
    have hth : (va_up (va_up (pK (t0 J o) o nt (pF J o cf rf df z 0)) o (upd (t0 J o o) 10 (J o 10 + nI z))) o (upd (upd (t0 J o o) 10 (J o 10 + nI z)) 12 (J o 12 + psn J o nt cf rf df z))) o 0 = nI 0 := by rw [va_up_self]; exact (if_neg (by decide)).trans ((if_neg (by decide)).trans (t0_z J o))
    have hIv := (Iv.pass ho hI0 rfl (L := (psL V I cf rf df z nt)) (by simp (discharger := omega) only [va_up_ne, va_up_self, t0_ne, t0_f, pK_out, eJ]) (fun t ht => by rw [va_up_ne _ _ (show o + 10 + t ≠ o by omega), va_up_ne _ _ (show o + 10 + t ≠ o by omega), pK_at _ _ _ _ ht]; unfold pF; rw [if_neg (Nat.not_lt_zero t), ej20 t (by omega), ej10 t (by omega)]) (fun j9 h9 => by rw [va_up_self, ← hLp, ej11, ej12]; exact upd_pt (upd_pt (by simp (discharger := omega) only [va_up_ne, va_up_self, t0_ne, t0_f, eJ]))) (fun x9 a9 b9 c9 d9 => by rw [va_up_ne _ _ c9, va_up_ne _ _ c9, pK_out _ _ _ _ (by omega), t0_ne J c9, eJ, va_up_ne _ _ d9, va_up_ne _ _ a9]) : Iv a0.1 S (psV V I cf rf df z nt) (va_up (va_up (pK (t0 J o) o nt (pF J o cf rf df z 0)) o (upd (t0 J o o) 10 (J o 10 + nI z))) o (upd (upd (t0 J o o) 10 (J o 10 + nI z)) 12 (J o 12 + psn J o nt cf rf df z))) o ns nt es na cf rf df N)
    refine law_tail (T := 1285) (off := 330) ⟨dL_law_1285, dL_law_1286, dL_law_1289, dL_law_1291, dL_law_1296, dL_law_1298, dL_law_1301, dL_law_1302, dL_law_1303, dL_law_1304, dL_law_1306, dL_law_1307, dL_law_1308, dL_law_1313, by omega⟩ hx hb hml hown hts hM hIv.1.2.1 hIv.1.2.2 (k := 0) (by decide) (lv_sub hl [4, 3, 1, 0] rfl) hth (fun hz9 => (show (va_up (va_up (pK (t0 J o) o nt (pF J o cf rf df z 0)) o (upd (t0 J o o) 10 (J o 10 + nI z))) o (upd (upd (t0 J o o) 10 (J o 10 + nI z)) 12 (J o 12 + psn J o nt cf rf df z))) 2000 0 = (psL V I cf rf df z nt) from by simp (discharger := omega) only [va_up_ne, va_up_self, t0_ne, pK_out, eJ]; exact if_pos rfl).trans (by rw [hv_]; exact hLp)) (by omega) (by omega) (fun H locs hM => ?_) rfl
    exact W.widen (by omega) (by omega) (K _ _ _ _ _ _ _ _ _ _ _ _ _ _ (by omega) hIv hM (lv_sub hl [2, 3, 4, 5, 6] rfl))
set_option maxHeartbeats 4000000 in
set_option maxRecDepth 100000 in
theorem stp_tick (hL : Lw p l s m args c D A y a0 b L xs) {o j ns nt es na N : Nat} {cf rf df : Nat → Nat} (hM : fb_M D y A s (S, V, (sT V), I) H locs) (hI : Iv a0.1 S V I o ns nt es na cf rf df N) (ho : o = 1000) (hj : j + 5 ≤ L) (hN : N ≤ 1600000) (hc : cells + 1100 ≤ room_1.cells) (hs : slots + 14000 ≤ room_1.slots) (hl : lv_has ls 9 [(4, .int (nI j)), (3, .ref (sa S 2000)), (2, .ref (sa S o)), (1, .ref (sa S 0)), (0, .ref b)]) (K : Kont p l e s m args below meth c Q D A y a0.1 o b j N cells slots) : W p l e room_1 s m args below meth c H locs cells slots Q (F0 m 1192 ls []) := by
  obtain ⟨hx, hb, hml, hown, hts, hE, hNc, hfl, hX, hbl, hbA, hL2⟩ := hL
  have hI0 := hI
  obtain ⟨⟨hC, hA, hO⟩, ⟨hEs, hFr⟩, ⟨hF, hG⟩, hR⟩ := hI
  have hns : ns ≤ 12 := hF.2.2.1
  have hnt : nt ≤ 6 := hF.2.2.2.1
  have h03 : 0 ∈ sR S ∧ sk S 0 = 3 := hC.1
  obtain ⟨p0, hp0⟩ : ∃ v, xs (j + 1) = v := ⟨_, rfl⟩
  obtain ⟨p1, hp1⟩ : ∃ v, xs (j + 2) = v := ⟨_, rfl⟩
  refine lv_aload_n hx hb dL_law_1192 rfl (lv_at hl 3 rfl) ?_
  refine law_arg hx hb hX hbl hbA hM.2.2.1 (lv_sub hl [4, 0] rfl) 1 (by decide) (by omega) hL2 hp0 dL_law_1193 dL_law_1194 dL_law_1196 dL_law_1197 dL_law_1198 ?_
  refine law_arg hx hb hX hbl hbA hM.2.2.1 (lv_sub hl [4, 0] rfl) 2 (by decide) (by omega) hL2 hp1 dL_law_1199 dL_law_1200 dL_law_1202 dL_law_1203 dL_law_1204 ?_
  refine lv_aload_n hx hb dL_law_1205 rfl (lv_at hl 1 rfl) ?_
  rcases rg_ix p0 (n := nt) (by omega) with hq0 | ⟨t, ht, rfl⟩
  · skip
    refine fb_callW hx hb hml hown hts hM hE hNc (As := [.ref (sa S 0), .int p0, .int p1, .ref (sa S 2000)]) (rest := []) (c_L_tick_IOE a0 D y l S V I h03 hO p0 p1 (c_X3_tick_x0 a0 D y l hfl S V I a0.1 ns nt es na hC cf rf df hF p0 hq0 p1)) (vx_cwSW 4 hts gL_law_L_tick rfl rfl rfl (by decide +kernel) ⟨Nat.le_of_ble_eq_true rfl, Nat.le_of_ble_eq_true rfl⟩) rfl hl.1 rfl (Nat.le_of_ble_eq_true rfl) dL_law_1206 ⟨by omega, by omega⟩ (fun v1 u H locs hp hM => ?_)
    obtain ⟨hv_, hu_⟩ := hp
    have hv_ : v1 = nI 1 := hv_.trans (by decide)
    have hv_ := hv_.symm
    have hu_ := hu_.symm
    subst hv_
    subst hu_
    refine lv_istore (lv' := [(5, .int (nI 1)), (4, .int (nI j)), (3, .ref (sa S 2000)), (2, .ref (sa S o)), (1, .ref (sa S 0)), (0, .ref b)]) hx hb dL_law_1209 hl (by decide) rfl (fun ls hl => ?_)
    refine lv_aload_n hx hb dL_law_1211 rfl (lv_at hl 3 rfl) ?_
    refine law_arg hx hb hX hbl hbA hM.2.2.1 (lv_sub hl [5, 1] rfl) 1 (by decide) (by omega) hL2 hp0 dL_law_1212 dL_law_1213 dL_law_1215 dL_law_1216 dL_law_1217 ?_
    refine law_arg hx hb hX hbl hbA hM.2.2.1 (lv_sub hl [5, 1] rfl) 2 (by decide) (by omega) hL2 hp1 dL_law_1218 dL_law_1219 dL_law_1221 dL_law_1222 dL_law_1223 ?_
    refine fb_callVi (r := o) hx hb hml hown hts hM (hA.1.1) (ce4 (hA.1.2)) rfl (As := [.int p0, .int p1]) (rest := []) (c_X4_tick_f0o D y l S V I o nt cf rf hA ns df hG p0 hq0 p1) (cwV 2 hts gL_law_X4_tick rfl rfl rfl (by decide +kernel) ⟨Nat.le_of_ble_eq_true rfl, Nat.le_of_ble_eq_true rfl⟩) rfl hl.1 rfl (Nat.le_of_ble_eq_true rfl) dL_law_1224 ⟨by omega, by omega⟩ (fun v3 u H locs hp hM => ?_)
    obtain ⟨hv_, hu_⟩ := hp
    have hu_ := hu_.symm
    subst hu_
    refine lv_istore (lv' := [(6, .int v3), (5, .int (nI 1)), (4, .int (nI j)), (3, .ref (sa S 2000)), (2, .ref (sa S o)), (1, .ref (sa S 0)), (0, .ref b)]) hx hb dL_law_1227 hl (by decide) rfl (fun ls hl => ?_)
    have hIv := hI0.same ho (sam_tf I o 1) (VSame.rf V) hR.2.2.2.2.2
    have hth : tf I o 1 o 0 = nI 1 := by unfold tf; rw [va_up_self]; rfl
    refine law_tail (T := 1229) (off := 386) ⟨dL_law_1229, dL_law_1230, dL_law_1233, dL_law_1235, dL_law_1240, dL_law_1242, dL_law_1245, dL_law_1246, dL_law_1247, dL_law_1248, dL_law_1250, dL_law_1251, dL_law_1252, dL_law_1257, by omega⟩ hx hb hml hown hts hM hIv.1.2.1 hIv.1.2.2 (k := 1) (by decide) (lv_sub hl [4, 3, 1, 0] rfl) hth (fun hz9 => absurd hz9 (by decide)) (by omega) (by omega) (fun H locs hM => ?_) rfl
    exact W.widen (by omega) (by omega) (K _ _ _ _ _ _ _ _ _ _ _ _ _ _ (by omega) hIv hM (lv_sub hl [2, 3, 4, 5, 6] rfl))
  · skip
    have hcr := (hF.2.2.2.2 t ht).le
    have hc1 : 1 ≤ cf t := (hF.2.2.2.2 t ht).2.2.2.2.1
    have hd9 : df t ≤ 9 := (hF.2.2.2.2 t ht).2.2.2.2.2.2.2.2.2
    have hT9 := (hR.2.2.2.2.1 t ht)
    have t6 : t < 6 := by omega
    rcases rg_ix p1 (n := 9) (by decide) with hq1 | ⟨k, hk, rfl⟩
    · skip
      have hr1 : p1 < 0 ∨ 8 < p1 := hq1.imp id (fun z => Int32.lt_of_lt_of_le (by decide) z)
      have hw1 : p1 < 0 ∨ 9 ≤ p1 := hq1
      refine fb_callW hx hb hml hown hts hM hE hNc (As := [.ref (sa S 0), .int (nI t), .int p1, .ref (sa S 2000)]) (rest := []) (c_L_tick_IOE a0 D y l S V I h03 hO (nI t) p1 (c_X3_tick_x1 a0 D y l hfl S V I a0.1 ns nt es na hC cf rf df hF t ht p1 hw1)) (vx_cwSW 4 hts gL_law_L_tick rfl rfl rfl (by decide +kernel) ⟨Nat.le_of_ble_eq_true rfl, Nat.le_of_ble_eq_true rfl⟩) rfl hl.1 rfl (Nat.le_of_ble_eq_true rfl) dL_law_1206 ⟨by omega, by omega⟩ (fun v1 u H locs hp hM => ?_)
      obtain ⟨hv_, hu_⟩ := hp
      have hv_ : v1 = nI 1 := hv_.trans (by decide)
      have hv_ := hv_.symm
      have hu_ := hu_.symm
      subst hv_
      subst hu_
      refine lv_istore (lv' := [(5, .int (nI 1)), (4, .int (nI j)), (3, .ref (sa S 2000)), (2, .ref (sa S o)), (1, .ref (sa S 0)), (0, .ref b)]) hx hb dL_law_1209 hl (by decide) rfl (fun ls hl => ?_)
      refine lv_aload_n hx hb dL_law_1211 rfl (lv_at hl 3 rfl) ?_
      refine law_arg hx hb hX hbl hbA hM.2.2.1 (lv_sub hl [5, 1] rfl) 1 (by decide) (by omega) hL2 hp0 dL_law_1212 dL_law_1213 dL_law_1215 dL_law_1216 dL_law_1217 ?_
      refine law_arg hx hb hX hbl hbA hM.2.2.1 (lv_sub hl [5, 1] rfl) 2 (by decide) (by omega) hL2 hp1 dL_law_1218 dL_law_1219 dL_law_1221 dL_law_1222 dL_law_1223 ?_
      refine fb_callVi (r := o) hx hb hml hown hts hM (hA.1.1) (ce4 (hA.1.2)) rfl (As := [.int (nI t), .int p1]) (rest := []) (c_X4_tick_f1o D y l S V I o nt cf rf hA ns df hG t ht p1 hr1) (cwV 2 hts gL_law_X4_tick rfl rfl rfl (by decide +kernel) ⟨Nat.le_of_ble_eq_true rfl, Nat.le_of_ble_eq_true rfl⟩) rfl hl.1 rfl (Nat.le_of_ble_eq_true rfl) dL_law_1224 ⟨by omega, by omega⟩ (fun v3 u H locs hp hM => ?_)
      obtain ⟨hv_, hu_⟩ := hp
      have hu_ := hu_.symm
      subst hu_
      refine lv_istore (lv' := [(6, .int v3), (5, .int (nI 1)), (4, .int (nI j)), (3, .ref (sa S 2000)), (2, .ref (sa S o)), (1, .ref (sa S 0)), (0, .ref b)]) hx hb dL_law_1227 hl (by decide) rfl (fun ls hl => ?_)
      have hIv := hI0.same ho (sam_tf I o 1) (VSame.rf V) hR.2.2.2.2.2
      have hth : tf I o 1 o 0 = nI 1 := by unfold tf; rw [va_up_self]; rfl
      refine law_tail (T := 1229) (off := 386) ⟨dL_law_1229, dL_law_1230, dL_law_1233, dL_law_1235, dL_law_1240, dL_law_1242, dL_law_1245, dL_law_1246, dL_law_1247, dL_law_1248, dL_law_1250, dL_law_1251, dL_law_1252, dL_law_1257, by omega⟩ hx hb hml hown hts hM hIv.1.2.1 hIv.1.2.2 (k := 1) (by decide) (lv_sub hl [4, 3, 1, 0] rfl) hth (fun hz9 => absurd hz9 (by decide)) (by omega) (by omega) (fun H locs hM => ?_) rfl
      exact W.widen (by omega) (by omega) (K _ _ _ _ _ _ _ _ _ _ _ _ _ _ (by omega) hIv hM (lv_sub hl [2, 3, 4, 5, 6] rfl))
    · skip
      refine fb_callW hx hb hml hown hts hM hE hNc (As := [.ref (sa S 0), .int (nI t), .int (nI k), .ref (sa S 2000)]) (rest := []) (c_L_tick_ok a0 D y l S V I h03 hO (nI t) (nI k) (c_X3_tick_ok D y l S V I a0.1 ns nt es na hC cf rf df hF t ht k hk) (fun v u hq => by obtain ⟨_, _, _, _, hq⟩ := hq; subst hq; exact ⟨hO, rfl⟩)) (vx_cwSW 4 hts gL_law_L_tick rfl rfl rfl (by decide +kernel) ⟨Nat.le_of_ble_eq_true rfl, Nat.le_of_ble_eq_true rfl⟩) rfl hl.1 rfl (Nat.le_of_ble_eq_true rfl) dL_law_1206 ⟨by omega, by omega⟩ (fun v1 u H locs hp hM => ?_)
      obtain ⟨hv_, v2, u1, hq, hu_⟩ := hp
      have hv_ : v1 = nI 0 := hv_
      have hv_ := hv_.symm
      subst hv_
      obtain ⟨pp, gg, hcp, hq1, hq2⟩ := hq
      subst hq2
      obtain ⟨J, eJ⟩ : ∃ J, J = va_up (va_up I (30 + 4 * t + 3) gg) 2000 (upd ((va_up I (30 + 4 * t + 3) gg) 2000) 0 v2) := ⟨_, rfl⟩
      have hM : fb_M D y A s (S, V, (sT V), J) H locs := by rw [hu_] at hM; rw [eJ]; exact hM
      have hG2 : MF J o ns nt cf rf df := by rw [eJ]; exact mf_same ho hG ((sam_p3 I ho t6 gg).trans (sam_out _ ho _))
      refine lv_istore (lv' := [(5, .int (nI 0)), (4, .int (nI j)), (3, .ref (sa S 2000)), (2, .ref (sa S o)), (1, .ref (sa S 0)), (0, .ref b)]) hx hb dL_law_1209 hl (by decide) rfl (fun ls hl => ?_)
      refine lv_aload_n hx hb dL_law_1211 rfl (lv_at hl 3 rfl) ?_
      refine law_arg hx hb hX hbl hbA hM.2.2.1 (lv_sub hl [5, 1] rfl) 1 (by decide) (by omega) hL2 hp0 dL_law_1212 dL_law_1213 dL_law_1215 dL_law_1216 dL_law_1217 ?_
      refine law_arg hx hb hX hbl hbA hM.2.2.1 (lv_sub hl [5, 1] rfl) 2 (by decide) (by omega) hL2 hp1 dL_law_1218 dL_law_1219 dL_law_1221 dL_law_1222 dL_law_1223 ?_
      refine fb_callVi (r := o) hx hb hml hown hts hM (hA.1.1) (ce4 (hA.1.2)) rfl (As := [.int (nI t), .int (nI k)]) (rest := []) (r_tick D y l S V J o nt cf rf hA ns df ho hG2 t ht k hk) (cwV 2 hts gL_law_X4_tick rfl rfl rfl (by decide +kernel) ⟨Nat.le_of_ble_eq_true rfl, Nat.le_of_ble_eq_true rfl⟩) rfl hl.1 rfl (Nat.le_of_ble_eq_true rfl) dL_law_1224 ⟨by omega, by omega⟩ (fun v3 u H locs hp hM => ?_)
      obtain ⟨p2, J2, hpt, hv_, hu_, hsm, h2k, h00⟩ := hp
      have hu_ := hu_.symm
      subst hu_
      refine lv_istore (lv' := [(6, .int v3), (5, .int (nI 0)), (4, .int (nI j)), (3, .ref (sa S 2000)), (2, .ref (sa S o)), (1, .ref (sa S 0)), (0, .ref b)]) hx hb dL_law_1227 hl (by decide) rfl (fun ls hl => ?_)
      have ej20 : J (o + 20 + t) = I (o + 20 + t) := by simp (discharger := omega) only [va_up_ne, va_up_self, t0_ne, t0_f, eJ]
      have ej10 : J (o + 10 + t) = I (o + 10 + t) := by simp (discharger := omega) only [va_up_ne, va_up_self, t0_ne, t0_f, eJ]
      rw [ej20] at hpt hv_
      rw [ej10] at hv_
      have hth : J2 o 0 = nI 0 := h00
      have han : v2 = v3 := by rw [hq1, hv_]; rcases Nat.lt_or_ge k 8 with h8 | h8; exact an_tickL hT9 hcr.1 hcr.2 hc1 pp p2 k h8; exact an_tick hT9 hc1 hcr.1 hcr.2 (hcp (by omega)) (hpt (by omega)) k hk
      have hIv := hI0.same (J := J2) ho ((show Same I J o from by rw [eJ]; exact (sam_p3 I ho t6 gg).trans (sam_out _ ho _)).trans hsm) (VSame.rf V) hR.2.2.2.2.2
      refine law_tail (T := 1229) (off := 386) ⟨dL_law_1229, dL_law_1230, dL_law_1233, dL_law_1235, dL_law_1240, dL_law_1242, dL_law_1245, dL_law_1246, dL_law_1247, dL_law_1248, dL_law_1250, dL_law_1251, dL_law_1252, dL_law_1257, by omega⟩ hx hb hml hown hts hM hIv.1.2.1 hIv.1.2.2 (k := 0) (by decide) (lv_sub hl [4, 3, 1, 0] rfl) hth (fun hz9 => (show J2 2000 0 = v2 from by rw [h2k, eJ, va_up_self]; exact if_pos rfl).trans han) (by omega) (by omega) (fun H locs hM => ?_) rfl
      exact W.widen (by omega) (by omega) (K _ _ _ _ _ _ _ _ _ _ _ _ _ _ (by omega) hIv hM (lv_sub hl [2, 3, 4, 5, 6] rfl))
end LAWS
