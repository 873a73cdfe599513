section LAWS
variable {p : Program} {l : Launch} {e : Env} {s : State} {m : MethodId} {args : Array Value} {below : List Frame} {meth : Method} {c : Code} {H : Heap} {locs : List Loc} {cells slots : Nat} {Q : State → Prop} {D : va_G} {A : Nat → Prop} {y : Nat → ClassId} {a0 : Nat × Nat} {b L : Nat} {xs : Nat → Int32} {S : fb_Sh} {V I : fb_V} {ls : Array Slot}
set_option maxHeartbeats 4000000 in
set_option maxRecDepth 100000 in
theorem stp_sew (hL : Lw p l s m args c D A y a0 b L xs) {o j ns nt es na N : Nat} {cf rf df : Nat → Nat} (hM : fb_M D y A s (S, V, (sT V), I) H locs) (hI : Iv a0.1 S V I o ns nt es na cf rf df N) (ho : o = 1000) (hj : j + 5 ≤ L) (hN : N ≤ 1600000) (hc : cells + 1100 ≤ room_1.cells) (hs : slots + 14000 ≤ room_1.slots) (hl : lv_has ls 9 [(4, .int (nI j)), (3, .ref (sa S 2000)), (2, .ref (sa S o)), (1, .ref (sa S 0)), (0, .ref b)]) (K : Kont p l e s m args below meth c Q D A y a0.1 o b j N cells slots) : W p l e room_1 s m args below meth c H locs cells slots Q (F0 m 820 ls []) := by
  obtain ⟨hx, hb, hml, hown, hts, hE, hNc, hfl, hX, hbl, hbA, hL2⟩ := hL
  have hI0 := hI
  obtain ⟨⟨hC, hA, hO⟩, ⟨hEs, hFr⟩, ⟨hF, hG⟩, hR⟩ := hI
  have hns : ns ≤ 12 := hF.2.2.1
  have hnt : nt ≤ 6 := hF.2.2.2.1
  have h03 : 0 ∈ sR S ∧ sk S 0 = 3 := hC.1
  obtain ⟨p0, hp0⟩ : ∃ v, xs (j + 1) = v := ⟨_, rfl⟩
  obtain ⟨p1, hp1⟩ : ∃ v, xs (j + 2) = v := ⟨_, rfl⟩
  obtain ⟨p2, hp2⟩ : ∃ v, xs (j + 3) = v := ⟨_, rfl⟩
  obtain ⟨p3, hp3⟩ : ∃ v, xs (j + 4) = v := ⟨_, rfl⟩
  refine lv_aload_n hx hb dL_law_820 rfl (lv_at hl 3 rfl) ?_
  refine law_arg hx hb hX hbl hbA hM.2.2.1 (lv_sub hl [4, 0] rfl) 1 (by decide) (by omega) hL2 hp0 dL_law_821 dL_law_822 dL_law_824 dL_law_825 dL_law_826 ?_
  refine law_arg hx hb hX hbl hbA hM.2.2.1 (lv_sub hl [4, 0] rfl) 2 (by decide) (by omega) hL2 hp1 dL_law_827 dL_law_828 dL_law_830 dL_law_831 dL_law_832 ?_
  refine law_arg hx hb hX hbl hbA hM.2.2.1 (lv_sub hl [4, 0] rfl) 3 (by decide) (by omega) hL2 hp2 dL_law_833 dL_law_834 dL_law_836 dL_law_837 dL_law_838 ?_
  refine law_arg hx hb hX hbl hbA hM.2.2.1 (lv_sub hl [4, 0] rfl) 4 (by decide) (by omega) hL2 hp3 dL_law_839 dL_law_840 dL_law_842 dL_law_843 dL_law_844 ?_
  by_cases hz : p3 = 0
  · skip
    refine lv_if_eq (tgt := 852) hx hb dL_law_845 (by decide) (fun _ => ?_) (fun h => absurd hz h)
    refine lv_iconst (v := 0) hx hb dL_law_852 (by decide) ?_
    refine lv_aload_n hx hb dL_law_853 rfl (lv_at hl 1 rfl) ?_
    rcases rg_ix p0 (n := nt) (by omega) with hq0 | ⟨t, ht, rfl⟩
    · skip
      refine fb_callW hx hb hml hown hts hM hE hNc (As := [.ref (sa S 0), .int p0, .int p1, .int p2, .int 0, .ref (sa S 2000)]) (rest := []) (c_L_sew_IOE a0 D y l S V I h03 hO p0 p1 p2 0 (c_X3_sew_x0 a0 D y l hfl S V I a0.1 ns nt es na hC cf rf df hF p0 hq0 p1 p2 0)) (vx_cwSW 6 hts gL_law_L_sew rfl rfl rfl (by decide +kernel) ⟨Nat.le_of_ble_eq_true rfl, Nat.le_of_ble_eq_true rfl⟩) rfl hl.1 rfl (Nat.le_of_ble_eq_true rfl) dL_law_854 ⟨by omega, by omega⟩ (fun v1 u H locs hp hM => ?_)
      obtain ⟨hv_, hu_⟩ := hp
      have hv_ : v1 = nI 1 := hv_.trans (by decide)
      have hv_ := hv_.symm
      have hu_ := hu_.symm
      subst hv_
      subst hu_
      refine lv_istore (lv' := [(5, .int (nI 1)), (4, .int (nI j)), (3, .ref (sa S 2000)), (2, .ref (sa S o)), (1, .ref (sa S 0)), (0, .ref b)]) hx hb dL_law_857 hl (by decide) rfl (fun ls hl => ?_)
      refine lv_aload_n hx hb dL_law_859 rfl (lv_at hl 3 rfl) ?_
      refine law_arg hx hb hX hbl hbA hM.2.2.1 (lv_sub hl [5, 1] rfl) 1 (by decide) (by omega) hL2 hp0 dL_law_860 dL_law_861 dL_law_863 dL_law_864 dL_law_865 ?_
      refine law_arg hx hb hX hbl hbA hM.2.2.1 (lv_sub hl [5, 1] rfl) 2 (by decide) (by omega) hL2 hp1 dL_law_866 dL_law_867 dL_law_869 dL_law_870 dL_law_871 ?_
      refine law_arg hx hb hX hbl hbA hM.2.2.1 (lv_sub hl [5, 1] rfl) 3 (by decide) (by omega) hL2 hp2 dL_law_872 dL_law_873 dL_law_875 dL_law_876 dL_law_877 ?_
      refine law_arg hx hb hX hbl hbA hM.2.2.1 (lv_sub hl [5, 1] rfl) 4 (by decide) (by omega) hL2 hp3 dL_law_878 dL_law_879 dL_law_881 dL_law_882 dL_law_883 ?_
      refine lv_if_eq (tgt := 891) hx hb dL_law_884 (by decide) (fun _ => ?_) (fun h => absurd hz h)
      refine lv_iconst (v := 0) hx hb dL_law_891 (by decide) ?_
      refine fb_callVi (r := o) hx hb hml hown hts hM (hA.1.1) (ce4 (hA.1.2)) rfl (As := [.int p0, .int p1, .int p2, .int 0]) (rest := []) (c_X4_sew_f0t D y l S V I o nt cf rf hA ns df hG p0 hq0 p1 p2 0) (cwV 4 hts gL_law_X4_sew rfl rfl rfl (by decide +kernel) ⟨Nat.le_of_ble_eq_true rfl, Nat.le_of_ble_eq_true rfl⟩) rfl hl.1 rfl (Nat.le_of_ble_eq_true rfl) dL_law_892 ⟨by omega, by omega⟩ (fun v3 u H locs hp hM => ?_)
      obtain ⟨hv_, hu_⟩ := hp
      have hu_ := hu_.symm
      subst hu_
      refine lv_istore (lv' := [(6, .int v3), (5, .int (nI 1)), (4, .int (nI j)), (3, .ref (sa S 2000)), (2, .ref (sa S o)), (1, .ref (sa S 0)), (0, .ref b)]) hx hb dL_law_895 hl (by decide) rfl (fun ls hl => ?_)
      have hIv := hI0.same ho (sam_tf I o 1) (VSame.rf V) hR.2.2.2.2.2
      have hth : tf I o 1 o 0 = nI 1 := by unfold tf; rw [va_up_self]; rfl
      refine law_tail (T := 897) (off := 718) ⟨dL_law_897, dL_law_898, dL_law_901, dL_law_903, dL_law_908, dL_law_910, dL_law_913, dL_law_914, dL_law_915, dL_law_916, dL_law_918, dL_law_919, dL_law_920, dL_law_925, by omega⟩ hx hb hml hown hts hM hIv.1.2.1 hIv.1.2.2 (k := 1) (by decide) (lv_sub hl [4, 3, 1, 0] rfl) hth (fun hz9 => absurd hz9 (by decide)) (by omega) (by omega) (fun H locs hM => ?_) rfl
      exact W.widen (by omega) (by omega) (K _ _ _ _ _ _ _ _ _ _ _ _ _ _ (by omega) hIv hM (lv_sub hl [2, 3, 4, 5, 6] rfl))
    · skip
      have hcr := (hF.2.2.2.2 t ht).le
      have hc1 : 1 ≤ cf t := (hF.2.2.2.2 t ht).2.2.2.2.1
      have hd9 : df t ≤ 9 := (hF.2.2.2.2 t ht).2.2.2.2.2.2.2.2.2
      have hT9 := (hR.2.2.2.2.1 t ht)
      have t6 : t < 6 := by omega
      rcases rg_ix p1 (n := cf t * rf t) (by omega) with hq1 | ⟨q, hq, rfl⟩
      · skip
        refine fb_callW hx hb hml hown hts hM hE hNc (As := [.ref (sa S 0), .int (nI t), .int p1, .int p2, .int 0, .ref (sa S 2000)]) (rest := []) (c_L_sew_IOE a0 D y l S V I h03 hO (nI t) p1 p2 0 (c_X3_sew_x1 a0 D y l hfl S V I a0.1 ns nt es na hC cf rf df hF t ht  p1 hq1 p2 0)) (vx_cwSW 6 hts gL_law_L_sew rfl rfl rfl (by decide +kernel) ⟨Nat.le_of_ble_eq_true rfl, Nat.le_of_ble_eq_true rfl⟩) rfl hl.1 rfl (Nat.le_of_ble_eq_true rfl) dL_law_854 ⟨by omega, by omega⟩ (fun v1 u H locs hp hM => ?_)
        obtain ⟨hv_, hu_⟩ := hp
        have hv_ : v1 = nI 1 := hv_.trans (by decide)
        have hv_ := hv_.symm
        have hu_ := hu_.symm
        subst hv_
        subst hu_
        refine lv_istore (lv' := [(5, .int (nI 1)), (4, .int (nI j)), (3, .ref (sa S 2000)), (2, .ref (sa S o)), (1, .ref (sa S 0)), (0, .ref b)]) hx hb dL_law_857 hl (by decide) rfl (fun ls hl => ?_)
        refine lv_aload_n hx hb dL_law_859 rfl (lv_at hl 3 rfl) ?_
        refine law_arg hx hb hX hbl hbA hM.2.2.1 (lv_sub hl [5, 1] rfl) 1 (by decide) (by omega) hL2 hp0 dL_law_860 dL_law_861 dL_law_863 dL_law_864 dL_law_865 ?_
        refine law_arg hx hb hX hbl hbA hM.2.2.1 (lv_sub hl [5, 1] rfl) 2 (by decide) (by omega) hL2 hp1 dL_law_866 dL_law_867 dL_law_869 dL_law_870 dL_law_871 ?_
        refine law_arg hx hb hX hbl hbA hM.2.2.1 (lv_sub hl [5, 1] rfl) 3 (by decide) (by omega) hL2 hp2 dL_law_872 dL_law_873 dL_law_875 dL_law_876 dL_law_877 ?_
        refine law_arg hx hb hX hbl hbA hM.2.2.1 (lv_sub hl [5, 1] rfl) 4 (by decide) (by omega) hL2 hp3 dL_law_878 dL_law_879 dL_law_881 dL_law_882 dL_law_883 ?_
        refine lv_if_eq (tgt := 891) hx hb dL_law_884 (by decide) (fun _ => ?_) (fun h => absurd hz h)
        refine lv_iconst (v := 0) hx hb dL_law_891 (by decide) ?_
        refine fb_callVi (r := o) hx hb hml hown hts hM (hA.1.1) (ce4 (hA.1.2)) rfl (As := [.int (nI t), .int p1, .int p2, .int 0]) (rest := []) (c_X4_sew_f0q D y l S V I o nt cf rf hA ns df hG t ht  p1 hq1 p2 0) (cwV 4 hts gL_law_X4_sew rfl rfl rfl (by decide +kernel) ⟨Nat.le_of_ble_eq_true rfl, Nat.le_of_ble_eq_true rfl⟩) rfl hl.1 rfl (Nat.le_of_ble_eq_true rfl) dL_law_892 ⟨by omega, by omega⟩ (fun v3 u H locs hp hM => ?_)
        obtain ⟨hv_, hu_⟩ := hp
        have hu_ := hu_.symm
        subst hu_
        refine lv_istore (lv' := [(6, .int v3), (5, .int (nI 1)), (4, .int (nI j)), (3, .ref (sa S 2000)), (2, .ref (sa S o)), (1, .ref (sa S 0)), (0, .ref b)]) hx hb dL_law_895 hl (by decide) rfl (fun ls hl => ?_)
        have hIv := hI0.same ho (sam_tf I o 1) (VSame.rf V) hR.2.2.2.2.2
        have hth : tf I o 1 o 0 = nI 1 := by unfold tf; rw [va_up_self]; rfl
        refine law_tail (T := 897) (off := 718) ⟨dL_law_897, dL_law_898, dL_law_901, dL_law_903, dL_law_908, dL_law_910, dL_law_913, dL_law_914, dL_law_915, dL_law_916, dL_law_918, dL_law_919, dL_law_920, dL_law_925, by omega⟩ hx hb hml hown hts hM hIv.1.2.1 hIv.1.2.2 (k := 1) (by decide) (lv_sub hl [4, 3, 1, 0] rfl) hth (fun hz9 => absurd hz9 (by decide)) (by omega) (by omega) (fun H locs hM => ?_) rfl
        exact W.widen (by omega) (by omega) (K _ _ _ _ _ _ _ _ _ _ _ _ _ _ (by omega) hIv hM (lv_sub hl [2, 3, 4, 5, 6] rfl))
      · skip
        rcases rg_ix p2 (n := 2) (by decide) with hq2 | ⟨k, hk, rfl⟩
        · skip
          have hr2 : p2 < 0 ∨ 1 < p2 := hq2.imp id (fun z => Int32.lt_of_lt_of_le (by decide) z)
          have hoth : oth (cf t) (cf t * rf t) q p2 = -1 := by unfold oth; rw [if_neg (fun z9 => by rw [z9] at hq2; revert hq2; decide), if_neg (fun z9 => by rw [z9] at hq2; revert hq2; decide)]
          refine fb_callW hx hb hml hown hts hM hE hNc (As := [.ref (sa S 0), .int (nI t), .int (nI q), .int p2, .int 0, .ref (sa S 2000)]) (rest := []) (c_L_sew_IAE a0 D y l S V I h03 hO (nI t) (nI q) p2 0 (c_X3_sew_x2 a0 D y l hfl S V I a0.1 ns nt es na hC cf rf df hF t ht q hq p2 hoth 0)) (vx_cwSW 6 hts gL_law_L_sew rfl rfl rfl (by decide +kernel) ⟨Nat.le_of_ble_eq_true rfl, Nat.le_of_ble_eq_true rfl⟩) rfl hl.1 rfl (Nat.le_of_ble_eq_true rfl) dL_law_854 ⟨by omega, by omega⟩ (fun v1 u H locs hp hM => ?_)
          obtain ⟨hv_, hu_⟩ := hp
          have hv_ : v1 = nI 2 := hv_.trans (by decide)
          have hv_ := hv_.symm
          have hu_ := hu_.symm
          subst hv_
          subst hu_
          refine lv_istore (lv' := [(5, .int (nI 2)), (4, .int (nI j)), (3, .ref (sa S 2000)), (2, .ref (sa S o)), (1, .ref (sa S 0)), (0, .ref b)]) hx hb dL_law_857 hl (by decide) rfl (fun ls hl => ?_)
          refine lv_aload_n hx hb dL_law_859 rfl (lv_at hl 3 rfl) ?_
          refine law_arg hx hb hX hbl hbA hM.2.2.1 (lv_sub hl [5, 1] rfl) 1 (by decide) (by omega) hL2 hp0 dL_law_860 dL_law_861 dL_law_863 dL_law_864 dL_law_865 ?_
          refine law_arg hx hb hX hbl hbA hM.2.2.1 (lv_sub hl [5, 1] rfl) 2 (by decide) (by omega) hL2 hp1 dL_law_866 dL_law_867 dL_law_869 dL_law_870 dL_law_871 ?_
          refine law_arg hx hb hX hbl hbA hM.2.2.1 (lv_sub hl [5, 1] rfl) 3 (by decide) (by omega) hL2 hp2 dL_law_872 dL_law_873 dL_law_875 dL_law_876 dL_law_877 ?_
          refine law_arg hx hb hX hbl hbA hM.2.2.1 (lv_sub hl [5, 1] rfl) 4 (by decide) (by omega) hL2 hp3 dL_law_878 dL_law_879 dL_law_881 dL_law_882 dL_law_883 ?_
          refine lv_if_eq (tgt := 891) hx hb dL_law_884 (by decide) (fun _ => ?_) (fun h => absurd hz h)
          refine lv_iconst (v := 0) hx hb dL_law_891 (by decide) ?_
          refine fb_callVi (r := o) hx hb hml hown hts hM (hA.1.1) (ce4 (hA.1.2)) rfl (As := [.int (nI t), .int (nI q), .int p2, .int 0]) (rest := []) (c_X4_sew_f1o D y l S V I o nt cf rf hA ns df hG t ht q hq p2 hr2 0) (cwV 4 hts gL_law_X4_sew rfl rfl rfl (by decide +kernel) ⟨Nat.le_of_ble_eq_true rfl, Nat.le_of_ble_eq_true rfl⟩) rfl hl.1 rfl (Nat.le_of_ble_eq_true rfl) dL_law_892 ⟨by omega, by omega⟩ (fun v3 u H locs hp hM => ?_)
          obtain ⟨hv_, hu_⟩ := hp
          have hu_ := hu_.symm
          subst hu_
          refine lv_istore (lv' := [(6, .int v3), (5, .int (nI 2)), (4, .int (nI j)), (3, .ref (sa S 2000)), (2, .ref (sa S o)), (1, .ref (sa S 0)), (0, .ref b)]) hx hb dL_law_895 hl (by decide) rfl (fun ls hl => ?_)
          have hIv := hI0.same ho (sam_tf I o 2) (VSame.rf V) hR.2.2.2.2.2
          have hth : tf I o 2 o 0 = nI 2 := by unfold tf; rw [va_up_self]; rfl
          refine law_tail (T := 897) (off := 718) ⟨dL_law_897, dL_law_898, dL_law_901, dL_law_903, dL_law_908, dL_law_910, dL_law_913, dL_law_914, dL_law_915, dL_law_916, dL_law_918, dL_law_919, dL_law_920, dL_law_925, by omega⟩ hx hb hml hown hts hM hIv.1.2.1 hIv.1.2.2 (k := 2) (by decide) (lv_sub hl [4, 3, 1, 0] rfl) hth (fun hz9 => absurd hz9 (by decide)) (by omega) (by omega) (fun H locs hM => ?_) rfl
          exact W.widen (by omega) (by omega) (K _ _ _ _ _ _ _ _ _ _ _ _ _ _ (by omega) hIv hM (lv_sub hl [2, 3, 4, 5, 6] rfl))
        · skip
          by_cases hox : ofx (cf t) (cf t * rf t) q k = true
          · skip
            refine fb_callW hx hb hml hown hts hM hE hNc (As := [.ref (sa S 0), .int (nI t), .int (nI q), .int (nI k), .int 0, .ref (sa S 2000)]) (rest := []) (c_L_sew_ok a0 D y l S V I h03 hO (nI t) (nI q) (nI k) 0 (c_X3_sew_ok D y l S V I a0.1 ns nt es na hC cf rf df hF t ht q hq k hk hox 0) (fun v u hq => by obtain ⟨_, hq⟩ := hq; subst hq; exact ⟨hO, rfl⟩)) (vx_cwSW 6 hts gL_law_L_sew rfl rfl rfl (by decide +kernel) ⟨Nat.le_of_ble_eq_true rfl, Nat.le_of_ble_eq_true rfl⟩) rfl hl.1 rfl (Nat.le_of_ble_eq_true rfl) dL_law_854 ⟨by omega, by omega⟩ (fun v1 u H locs hp hM => ?_)
            obtain ⟨hv_, v2, u1, hq, hu_⟩ := hp
            have hv_ : v1 = nI 0 := hv_
            have hv_ := hv_.symm
            subst hv_
            obtain ⟨hq1, hq2⟩ := hq
            subst hq2
            subst hq1
            obtain ⟨J, eJ⟩ : ∃ J, J = va_up (va_up I (30 + 4 * t + 2) (upd (I (30 + 4 * t + 2)) (2 * q + k) (nb 0))) 2000 (upd ((va_up I (30 + 4 * t + 2) (upd (I (30 + 4 * t + 2)) (2 * q + k) (nb 0))) 2000) 0 (opc (cf t) (cf t * rf t) (upd (I (30 + 4 * t + 2)) (2 * q + k) (nb 0)) (2 * (cf t * rf t)))) := ⟨_, rfl⟩
            have hM : fb_M D y A s (S, V, (sT V), J) H locs := by rw [hu_] at hM; rw [eJ]; exact hM
            have hG2 : MF J o ns nt cf rf df := by rw [eJ]; exact mfc hG (by simp (discharger := omega) only [va_up_ne, t0_ne, va_up_self]) (by simp (discharger := omega) only [va_up_ne, t0_ne, va_up_self]) (by simp (discharger := omega) only [va_up_ne, t0_ne, va_up_self]) (by simp (discharger := omega) only [va_up_ne, t0_ne, va_up_self])
            refine lv_istore (lv' := [(5, .int (nI 0)), (4, .int (nI j)), (3, .ref (sa S 2000)), (2, .ref (sa S o)), (1, .ref (sa S 0)), (0, .ref b)]) hx hb dL_law_857 hl (by decide) rfl (fun ls hl => ?_)
            refine lv_aload_n hx hb dL_law_859 rfl (lv_at hl 3 rfl) ?_
            refine law_arg hx hb hX hbl hbA hM.2.2.1 (lv_sub hl [5, 1] rfl) 1 (by decide) (by omega) hL2 hp0 dL_law_860 dL_law_861 dL_law_863 dL_law_864 dL_law_865 ?_
            refine law_arg hx hb hX hbl hbA hM.2.2.1 (lv_sub hl [5, 1] rfl) 2 (by decide) (by omega) hL2 hp1 dL_law_866 dL_law_867 dL_law_869 dL_law_870 dL_law_871 ?_
            refine law_arg hx hb hX hbl hbA hM.2.2.1 (lv_sub hl [5, 1] rfl) 3 (by decide) (by omega) hL2 hp2 dL_law_872 dL_law_873 dL_law_875 dL_law_876 dL_law_877 ?_
            refine law_arg hx hb hX hbl hbA hM.2.2.1 (lv_sub hl [5, 1] rfl) 4 (by decide) (by omega) hL2 hp3 dL_law_878 dL_law_879 dL_law_881 dL_law_882 dL_law_883 ?_
            refine lv_if_eq (tgt := 891) hx hb dL_law_884 (by decide) (fun _ => ?_) (fun h => absurd hz h)
            refine lv_iconst (v := 0) hx hb dL_law_891 (by decide) ?_
            refine fb_callVi (r := o) hx hb hml hown hts hM (hA.1.1) (ce4 (hA.1.2)) rfl (As := [.int (nI t), .int (nI q), .int (nI k), .int 0]) (rest := []) (c_X4_sew_ok D y l S V J o nt cf rf hA ns df hG2 t ht q hq k (Nat.zero_le _) (by omega) hox 0) (cwV 4 hts gL_law_X4_sew rfl rfl rfl (by decide +kernel) ⟨Nat.le_of_ble_eq_true rfl, Nat.le_of_ble_eq_true rfl⟩) rfl hl.1 rfl (Nat.le_of_ble_eq_true rfl) dL_law_892 ⟨by omega, by omega⟩ (fun v3 u H locs hp hM => ?_)
            obtain ⟨hv_, hu_⟩ := hp
            have hu_ := hu_.symm
            subst hu_
            refine lv_istore (lv' := [(6, .int v3), (5, .int (nI 0)), (4, .int (nI j)), (3, .ref (sa S 2000)), (2, .ref (sa S o)), (1, .ref (sa S 0)), (0, .ref b)]) hx hb dL_law_895 hl (by decide) rfl (fun ls hl => ?_)
            have ej20 : J (o + 20 + t) = I (o + 20 + t) := by simp (discharger := omega) only [va_up_ne, va_up_self, t0_ne, t0_f, eJ]
            have hM : fb_M D y A s (S, V, (sT V), (va_up (t0 J o) (o + 20 + t) (upd (I (o + 20 + t)) (2 * q + k) (nb 0)))) H locs := by rw [ej20] at hM; exact hM
            rw [ej20] at hv_
            have hth : (va_up (t0 J o) (o + 20 + t) (upd (I (o + 20 + t)) (2 * q + k) (nb 0))) o 0 = nI 0 := by rw [va_up_ne _ _ (show o ≠ o + 20 + t by omega)]; exact t0_z J o
            have hIv := (Iv.sew ho hI0 ht (b := 0) (j := 2 * q + k) (by simp (discharger := omega) only [va_up_ne, va_up_self, t0_ne, t0_f, eJ]) (by simp (discharger := omega) only [va_up_ne, va_up_self, t0_ne, t0_f]) (by decide) (fun j9 h9 => by simp (discharger := omega) only [va_up_ne, va_up_self, t0_ne, t0_f, eJ]) (fun x9 a9 b9 c9 d9 => by simp (discharger := omega) only [va_up_ne, va_up_self, t0_ne, t0_f, eJ]) : Iv a0.1 S V (va_up (t0 J o) (o + 20 + t) (upd (I (o + 20 + t)) (2 * q + k) (nb 0))) o ns nt es na cf rf df N)
            refine law_tail (T := 897) (off := 718) ⟨dL_law_897, dL_law_898, dL_law_901, dL_law_903, dL_law_908, dL_law_910, dL_law_913, dL_law_914, dL_law_915, dL_law_916, dL_law_918, dL_law_919, dL_law_920, dL_law_925, by omega⟩ hx hb hml hown hts hM hIv.1.2.1 hIv.1.2.2 (k := 0) (by decide) (lv_sub hl [4, 3, 1, 0] rfl) hth (fun hz9 => (show (va_up (t0 J o) (o + 20 + t) (upd (I (o + 20 + t)) (2 * q + k) (nb 0))) 2000 0 = (opc (cf t) (cf t * rf t) (upd (I (30 + 4 * t + 2)) (2 * q + k) (nb 0)) (2 * (cf t * rf t))) from by simp (discharger := omega) only [va_up_ne, va_up_self, t0_ne, eJ]; exact if_pos rfl).trans (by rw [hv_]; exact opc_cg _ (upd_cg (an_B hT9)))) (by omega) (by omega) (fun H locs hM => ?_) rfl
            exact W.widen (by omega) (by omega) (K _ _ _ _ _ _ _ _ _ _ _ _ _ _ (by omega) hIv hM (lv_sub hl [2, 3, 4, 5, 6] rfl))
          · skip
            refine fb_callW hx hb hml hown hts hM hE hNc (As := [.ref (sa S 0), .int (nI t), .int (nI q), .int (nI k), .int 0, .ref (sa S 2000)]) (rest := []) (c_L_sew_IAE a0 D y l S V I h03 hO (nI t) (nI q) (nI k) 0 (c_X3_sew_x2 a0 D y l hfl S V I a0.1 ns nt es na hC cf rf df hF t ht q hq (nI k) (by rw [oth_d hk]; exact if_neg hox) 0)) (vx_cwSW 6 hts gL_law_L_sew rfl rfl rfl (by decide +kernel) ⟨Nat.le_of_ble_eq_true rfl, Nat.le_of_ble_eq_true rfl⟩) rfl hl.1 rfl (Nat.le_of_ble_eq_true rfl) dL_law_854 ⟨by omega, by omega⟩ (fun v1 u H locs hp hM => ?_)
            obtain ⟨hv_, hu_⟩ := hp
            have hv_ : v1 = nI 2 := hv_.trans (by decide)
            have hv_ := hv_.symm
            have hu_ := hu_.symm
            subst hv_
            subst hu_
            refine lv_istore (lv' := [(5, .int (nI 2)), (4, .int (nI j)), (3, .ref (sa S 2000)), (2, .ref (sa S o)), (1, .ref (sa S 0)), (0, .ref b)]) hx hb dL_law_857 hl (by decide) rfl (fun ls hl => ?_)
            refine lv_aload_n hx hb dL_law_859 rfl (lv_at hl 3 rfl) ?_
            refine law_arg hx hb hX hbl hbA hM.2.2.1 (lv_sub hl [5, 1] rfl) 1 (by decide) (by omega) hL2 hp0 dL_law_860 dL_law_861 dL_law_863 dL_law_864 dL_law_865 ?_
            refine law_arg hx hb hX hbl hbA hM.2.2.1 (lv_sub hl [5, 1] rfl) 2 (by decide) (by omega) hL2 hp1 dL_law_866 dL_law_867 dL_law_869 dL_law_870 dL_law_871 ?_
            refine law_arg hx hb hX hbl hbA hM.2.2.1 (lv_sub hl [5, 1] rfl) 3 (by decide) (by omega) hL2 hp2 dL_law_872 dL_law_873 dL_law_875 dL_law_876 dL_law_877 ?_
            refine law_arg hx hb hX hbl hbA hM.2.2.1 (lv_sub hl [5, 1] rfl) 4 (by decide) (by omega) hL2 hp3 dL_law_878 dL_law_879 dL_law_881 dL_law_882 dL_law_883 ?_
            refine lv_if_eq (tgt := 891) hx hb dL_law_884 (by decide) (fun _ => ?_) (fun h => absurd hz h)
            refine lv_iconst (v := 0) hx hb dL_law_891 (by decide) ?_
            refine fb_callVi (r := o) hx hb hml hown hts hM (hA.1.1) (ce4 (hA.1.2)) rfl (As := [.int (nI t), .int (nI q), .int (nI k), .int 0]) (rest := []) (c_X4_sew_f2o D y l S V I o nt cf rf hA ns df hG t ht q hq k (Nat.zero_le _) (by omega) (by cases h9 : ofx (cf t) (cf t * rf t) q k with | false => rfl | true => exact absurd h9 hox) 0) (cwV 4 hts gL_law_X4_sew rfl rfl rfl (by decide +kernel) ⟨Nat.le_of_ble_eq_true rfl, Nat.le_of_ble_eq_true rfl⟩) rfl hl.1 rfl (Nat.le_of_ble_eq_true rfl) dL_law_892 ⟨by omega, by omega⟩ (fun v3 u H locs hp hM => ?_)
            obtain ⟨hv_, hu_⟩ := hp
            have hu_ := hu_.symm
            subst hu_
            refine lv_istore (lv' := [(6, .int v3), (5, .int (nI 2)), (4, .int (nI j)), (3, .ref (sa S 2000)), (2, .ref (sa S o)), (1, .ref (sa S 0)), (0, .ref b)]) hx hb dL_law_895 hl (by decide) rfl (fun ls hl => ?_)
            have hIv := hI0.same ho (sam_tf I o 2) (VSame.rf V) hR.2.2.2.2.2
            have hth : tf I o 2 o 0 = nI 2 := by unfold tf; rw [va_up_self]; rfl
            refine law_tail (T := 897) (off := 718) ⟨dL_law_897, dL_law_898, dL_law_901, dL_law_903, dL_law_908, dL_law_910, dL_law_913, dL_law_914, dL_law_915, dL_law_916, dL_law_918, dL_law_919, dL_law_920, dL_law_925, by omega⟩ hx hb hml hown hts hM hIv.1.2.1 hIv.1.2.2 (k := 2) (by decide) (lv_sub hl [4, 3, 1, 0] rfl) hth (fun hz9 => absurd hz9 (by decide)) (by omega) (by omega) (fun H locs hM => ?_) rfl
            exact W.widen (by omega) (by omega) (K _ _ _ _ _ _ _ _ _ _ _ _ _ _ (by omega) hIv hM (lv_sub hl [2, 3, 4, 5, 6] rfl))
  · skip
    refine lv_if_eq (tgt := 852) hx hb dL_law_845 (by decide) (fun h => absurd h hz) (fun _ => ?_)
    refine lv_iconst (v := 1) hx hb dL_law_848 (by decide) ?_
    refine lv_goto (tgt := 853) hx hb dL_law_849 (by decide) ?_
    refine lv_aload_n hx hb dL_law_853 rfl (lv_at hl 1 rfl) ?_
    rcases rg_ix p0 (n := nt) (by omega) with hq0 | ⟨t, ht, rfl⟩
    · skip
      refine fb_callW hx hb hml hown hts hM hE hNc (As := [.ref (sa S 0), .int p0, .int p1, .int p2, .int 1, .ref (sa S 2000)]) (rest := []) (c_L_sew_IOE a0 D y l S V I h03 hO p0 p1 p2 1 (c_X3_sew_x0 a0 D y l hfl S V I a0.1 ns nt es na hC cf rf df hF p0 hq0 p1 p2 1)) (vx_cwSW 6 hts gL_law_L_sew rfl rfl rfl (by decide +kernel) ⟨Nat.le_of_ble_eq_true rfl, Nat.le_of_ble_eq_true rfl⟩) rfl hl.1 rfl (Nat.le_of_ble_eq_true rfl) dL_law_854 ⟨by omega, by omega⟩ (fun v1 u H locs hp hM => ?_)
      obtain ⟨hv_, hu_⟩ := hp
      have hv_ : v1 = nI 1 := hv_.trans (by decide)
      have hv_ := hv_.symm
      have hu_ := hu_.symm
      subst hv_
      subst hu_
      refine lv_istore (lv' := [(5, .int (nI 1)), (4, .int (nI j)), (3, .ref (sa S 2000)), (2, .ref (sa S o)), (1, .ref (sa S 0)), (0, .ref b)]) hx hb dL_law_857 hl (by decide) rfl (fun ls hl => ?_)
      refine lv_aload_n hx hb dL_law_859 rfl (lv_at hl 3 rfl) ?_
      refine law_arg hx hb hX hbl hbA hM.2.2.1 (lv_sub hl [5, 1] rfl) 1 (by decide) (by omega) hL2 hp0 dL_law_860 dL_law_861 dL_law_863 dL_law_864 dL_law_865 ?_
      refine law_arg hx hb hX hbl hbA hM.2.2.1 (lv_sub hl [5, 1] rfl) 2 (by decide) (by omega) hL2 hp1 dL_law_866 dL_law_867 dL_law_869 dL_law_870 dL_law_871 ?_
      refine law_arg hx hb hX hbl hbA hM.2.2.1 (lv_sub hl [5, 1] rfl) 3 (by decide) (by omega) hL2 hp2 dL_law_872 dL_law_873 dL_law_875 dL_law_876 dL_law_877 ?_
      refine law_arg hx hb hX hbl hbA hM.2.2.1 (lv_sub hl [5, 1] rfl) 4 (by decide) (by omega) hL2 hp3 dL_law_878 dL_law_879 dL_law_881 dL_law_882 dL_law_883 ?_
      refine lv_if_eq (tgt := 891) hx hb dL_law_884 (by decide) (fun h => absurd h hz) (fun _ => ?_)
      refine lv_iconst (v := 1) hx hb dL_law_887 (by decide) ?_
      refine lv_goto (tgt := 892) hx hb dL_law_888 (by decide) ?_
      refine fb_callVi (r := o) hx hb hml hown hts hM (hA.1.1) (ce4 (hA.1.2)) rfl (As := [.int p0, .int p1, .int p2, .int 1]) (rest := []) (c_X4_sew_f0t D y l S V I o nt cf rf hA ns df hG p0 hq0 p1 p2 1) (cwV 4 hts gL_law_X4_sew rfl rfl rfl (by decide +kernel) ⟨Nat.le_of_ble_eq_true rfl, Nat.le_of_ble_eq_true rfl⟩) rfl hl.1 rfl (Nat.le_of_ble_eq_true rfl) dL_law_892 ⟨by omega, by omega⟩ (fun v3 u H locs hp hM => ?_)
      obtain ⟨hv_, hu_⟩ := hp
      have hu_ := hu_.symm
      subst hu_
      refine lv_istore (lv' := [(6, .int v3), (5, .int (nI 1)), (4, .int (nI j)), (3, .ref (sa S 2000)), (2, .ref (sa S o)), (1, .ref (sa S 0)), (0, .ref b)]) hx hb dL_law_895 hl (by decide) rfl (fun ls hl => ?_)
      have hIv := hI0.same ho (sam_tf I o 1) (VSame.rf V) hR.2.2.2.2.2
      have hth : tf I o 1 o 0 = nI 1 := by unfold tf; rw [va_up_self]; rfl
      refine law_tail (T := 897) (off := 718) ⟨dL_law_897, dL_law_898, dL_law_901, dL_law_903, dL_law_908, dL_law_910, dL_law_913, dL_law_914, dL_law_915, dL_law_916, dL_law_918, dL_law_919, dL_law_920, dL_law_925, by omega⟩ hx hb hml hown hts hM hIv.1.2.1 hIv.1.2.2 (k := 1) (by decide) (lv_sub hl [4, 3, 1, 0] rfl) hth (fun hz9 => absurd hz9 (by decide)) (by omega) (by omega) (fun H locs hM => ?_) rfl
      exact W.widen (by omega) (by omega) (K _ _ _ _ _ _ _ _ _ _ _ _ _ _ (by omega) hIv hM (lv_sub hl [2, 3, 4, 5, 6] rfl))
    · skip
      have hcr := (hF.2.2.2.2 t ht).le
      have hc1 : 1 ≤ cf t := (hF.2.2.2.2 t ht).2.2.2.2.1
      have hd9 : df t ≤ 9 := (hF.2.2.2.2 t ht).2.2.2.2.2.2.2.2.2
      have hT9 := (hR.2.2.2.2.1 t ht)
      have t6 : t < 6 := by omega
      rcases rg_ix p1 (n := cf t * rf t) (by omega) with hq1 | ⟨q, hq, rfl⟩
      · skip
        refine fb_callW hx hb hml hown hts hM hE hNc (As := [.ref (sa S 0), .int (nI t), .int p1, .int p2, .int 1, .ref (sa S 2000)]) (rest := []) (c_L_sew_IOE a0 D y l S V I h03 hO (nI t) p1 p2 1 (c_X3_sew_x1 a0 D y l hfl S V I a0.1 ns nt es na hC cf rf df hF t ht  p1 hq1 p2 1)) (vx_cwSW 6 hts gL_law_L_sew rfl rfl rfl (by decide +kernel) ⟨Nat.le_of_ble_eq_true rfl, Nat.le_of_ble_eq_true rfl⟩) rfl hl.1 rfl (Nat.le_of_ble_eq_true rfl) dL_law_854 ⟨by omega, by omega⟩ (fun v1 u H locs hp hM => ?_)
        obtain ⟨hv_, hu_⟩ := hp
        have hv_ : v1 = nI 1 := hv_.trans (by decide)
        have hv_ := hv_.symm
        have hu_ := hu_.symm
        subst hv_
        subst hu_
        refine lv_istore (lv' := [(5, .int (nI 1)), (4, .int (nI j)), (3, .ref (sa S 2000)), (2, .ref (sa S o)), (1, .ref (sa S 0)), (0, .ref b)]) hx hb dL_law_857 hl (by decide) rfl (fun ls hl => ?_)
        refine lv_aload_n hx hb dL_law_859 rfl (lv_at hl 3 rfl) ?_
        refine law_arg hx hb hX hbl hbA hM.2.2.1 (lv_sub hl [5, 1] rfl) 1 (by decide) (by omega) hL2 hp0 dL_law_860 dL_law_861 dL_law_863 dL_law_864 dL_law_865 ?_
        refine law_arg hx hb hX hbl hbA hM.2.2.1 (lv_sub hl [5, 1] rfl) 2 (by decide) (by omega) hL2 hp1 dL_law_866 dL_law_867 dL_law_869 dL_law_870 dL_law_871 ?_
        refine law_arg hx hb hX hbl hbA hM.2.2.1 (lv_sub hl [5, 1] rfl) 3 (by decide) (by omega) hL2 hp2 dL_law_872 dL_law_873 dL_law_875 dL_law_876 dL_law_877 ?_
        refine law_arg hx hb hX hbl hbA hM.2.2.1 (lv_sub hl [5, 1] rfl) 4 (by decide) (by omega) hL2 hp3 dL_law_878 dL_law_879 dL_law_881 dL_law_882 dL_law_883 ?_
        refine lv_if_eq (tgt := 891) hx hb dL_law_884 (by decide) (fun h => absurd h hz) (fun _ => ?_)
        refine lv_iconst (v := 1) hx hb dL_law_887 (by decide) ?_
        refine lv_goto (tgt := 892) hx hb dL_law_888 (by decide) ?_
        refine fb_callVi (r := o) hx hb hml hown hts hM (hA.1.1) (ce4 (hA.1.2)) rfl (As := [.int (nI t), .int p1, .int p2, .int 1]) (rest := []) (c_X4_sew_f0q D y l S V I o nt cf rf hA ns df hG t ht  p1 hq1 p2 1) (cwV 4 hts gL_law_X4_sew rfl rfl rfl (by decide +kernel) ⟨Nat.le_of_ble_eq_true rfl, Nat.le_of_ble_eq_true rfl⟩) rfl hl.1 rfl (Nat.le_of_ble_eq_true rfl) dL_law_892 ⟨by omega, by omega⟩ (fun v3 u H locs hp hM => ?_)
        obtain ⟨hv_, hu_⟩ := hp
        have hu_ := hu_.symm
        subst hu_
        refine lv_istore (lv' := [(6, .int v3), (5, .int (nI 1)), (4, .int (nI j)), (3, .ref (sa S 2000)), (2, .ref (sa S o)), (1, .ref (sa S 0)), (0, .ref b)]) hx hb dL_law_895 hl (by decide) rfl (fun ls hl => ?_)
        have hIv := hI0.same ho (sam_tf I o 1) (VSame.rf V) hR.2.2.2.2.2
        have hth : tf I o 1 o 0 = nI 1 := by unfold tf; rw [va_up_self]; rfl
        refine law_tail (T := 897) (off := 718) ⟨dL_law_897, dL_law_898, dL_law_901, dL_law_903, dL_law_908, dL_law_910, dL_law_913, dL_law_914, dL_law_915, dL_law_916, dL_law_918, dL_law_919, dL_law_920, dL_law_925, by omega⟩ hx hb hml hown hts hM hIv.1.2.1 hIv.1.2.2 (k := 1) (by decide) (lv_sub hl [4, 3, 1, 0] rfl) hth (fun hz9 => absurd hz9 (by decide)) (by omega) (by omega) (fun H locs hM => ?_) rfl
        exact W.widen (by omega) (by omega) (K _ _ _ _ _ _ _ _ _ _ _ _ _ _ (by omega) hIv hM (lv_sub hl [2, 3, 4, 5, 6] rfl))
      · skip
        rcases rg_ix p2 (n := 2) (by decide) with hq2 | ⟨k, hk, rfl⟩
        · skip
          have hr2 : p2 < 0 ∨ 1 < p2 := hq2.imp id (fun z => Int32.lt_of_lt_of_le (by decide) z)
          have hoth : oth (cf t) (cf t * rf t) q p2 = -1 := by unfold oth; rw [if_neg (fun z9 => by rw [z9] at hq2; revert hq2; decide), if_neg (fun z9 => by rw [z9] at hq2; revert hq2; decide)]
          refine fb_callW hx hb hml hown hts hM hE hNc (As := [.ref (sa S 0), .int (nI t), .int (nI q), .int p2, .int 1, .ref (sa S 2000)]) (rest := []) (c_L_sew_IAE a0 D y l S V I h03 hO (nI t) (nI q) p2 1 (c_X3_sew_x2 a0 D y l hfl S V I a0.1 ns nt es na hC cf rf df hF t ht q hq p2 hoth 1)) (vx_cwSW 6 hts gL_law_L_sew rfl rfl rfl (by decide +kernel) ⟨Nat.le_of_ble_eq_true rfl, Nat.le_of_ble_eq_true rfl⟩) rfl hl.1 rfl (Nat.le_of_ble_eq_true rfl) dL_law_854 ⟨by omega, by omega⟩ (fun v1 u H locs hp hM => ?_)
          obtain ⟨hv_, hu_⟩ := hp
          have hv_ : v1 = nI 2 := hv_.trans (by decide)
          have hv_ := hv_.symm
          have hu_ := hu_.symm
          subst hv_
          subst hu_
          refine lv_istore (lv' := [(5, .int (nI 2)), (4, .int (nI j)), (3, .ref (sa S 2000)), (2, .ref (sa S o)), (1, .ref (sa S 0)), (0, .ref b)]) hx hb dL_law_857 hl (by decide) rfl (fun ls hl => ?_)
          refine lv_aload_n hx hb dL_law_859 rfl (lv_at hl 3 rfl) ?_
          refine law_arg hx hb hX hbl hbA hM.2.2.1 (lv_sub hl [5, 1] rfl) 1 (by decide) (by omega) hL2 hp0 dL_law_860 dL_law_861 dL_law_863 dL_law_864 dL_law_865 ?_
          refine law_arg hx hb hX hbl hbA hM.2.2.1 (lv_sub hl [5, 1] rfl) 2 (by decide) (by omega) hL2 hp1 dL_law_866 dL_law_867 dL_law_869 dL_law_870 dL_law_871 ?_
          refine law_arg hx hb hX hbl hbA hM.2.2.1 (lv_sub hl [5, 1] rfl) 3 (by decide) (by omega) hL2 hp2 dL_law_872 dL_law_873 dL_law_875 dL_law_876 dL_law_877 ?_
          refine law_arg hx hb hX hbl hbA hM.2.2.1 (lv_sub hl [5, 1] rfl) 4 (by decide) (by omega) hL2 hp3 dL_law_878 dL_law_879 dL_law_881 dL_law_882 dL_law_883 ?_
          refine lv_if_eq (tgt := 891) hx hb dL_law_884 (by decide) (fun h => absurd h hz) (fun _ => ?_)
          refine lv_iconst (v := 1) hx hb dL_law_887 (by decide) ?_
          refine lv_goto (tgt := 892) hx hb dL_law_888 (by decide) ?_
          refine fb_callVi (r := o) hx hb hml hown hts hM (hA.1.1) (ce4 (hA.1.2)) rfl (As := [.int (nI t), .int (nI q), .int p2, .int 1]) (rest := []) (c_X4_sew_f1o D y l S V I o nt cf rf hA ns df hG t ht q hq p2 hr2 1) (cwV 4 hts gL_law_X4_sew rfl rfl rfl (by decide +kernel) ⟨Nat.le_of_ble_eq_true rfl, Nat.le_of_ble_eq_true rfl⟩) rfl hl.1 rfl (Nat.le_of_ble_eq_true rfl) dL_law_892 ⟨by omega, by omega⟩ (fun v3 u H locs hp hM => ?_)
          obtain ⟨hv_, hu_⟩ := hp
          have hu_ := hu_.symm
          subst hu_
          refine lv_istore (lv' := [(6, .int v3), (5, .int (nI 2)), (4, .int (nI j)), (3, .ref (sa S 2000)), (2, .ref (sa S o)), (1, .ref (sa S 0)), (0, .ref b)]) hx hb dL_law_895 hl (by decide) rfl (fun ls hl => ?_)
          have hIv := hI0.same ho (sam_tf I o 2) (VSame.rf V) hR.2.2.2.2.2
          have hth : tf I o 2 o 0 = nI 2 := by unfold tf; rw [va_up_self]; rfl
          refine law_tail (T := 897) (off := 718) ⟨dL_law_897, dL_law_898, dL_law_901, dL_law_903, dL_law_908, dL_law_910, dL_law_913, dL_law_914, dL_law_915, dL_law_916, dL_law_918, dL_law_919, dL_law_920, dL_law_925, by omega⟩ hx hb hml hown hts hM hIv.1.2.1 hIv.1.2.2 (k := 2) (by decide) (lv_sub hl [4, 3, 1, 0] rfl) hth (fun hz9 => absurd hz9 (by decide)) (by omega) (by omega) (fun H locs hM => ?_) rfl
          exact W.widen (by omega) (by omega) (K _ _ _ _ _ _ _ _ _ _ _ _ _ _ (by omega) hIv hM (lv_sub hl [2, 3, 4, 5, 6] rfl))
        · skip
          by_cases hox : ofx (cf t) (cf t * rf t) q k = true
          · skip
            refine fb_callW hx hb hml hown hts hM hE hNc (As := [.ref (sa S 0), .int (nI t), .int (nI q), .int (nI k), .int 1, .ref (sa S 2000)]) (rest := []) (c_L_sew_ok a0 D y l S V I h03 hO (nI t) (nI q) (nI k) 1 (c_X3_sew_ok D y l S V I a0.1 ns nt es na hC cf rf df hF t ht q hq k hk hox 1) (fun v u hq => by obtain ⟨_, hq⟩ := hq; subst hq; exact ⟨hO, rfl⟩)) (vx_cwSW 6 hts gL_law_L_sew rfl rfl rfl (by decide +kernel) ⟨Nat.le_of_ble_eq_true rfl, Nat.le_of_ble_eq_true rfl⟩) rfl hl.1 rfl (Nat.le_of_ble_eq_true rfl) dL_law_854 ⟨by omega, by omega⟩ (fun v1 u H locs hp hM => ?_)
            obtain ⟨hv_, v2, u1, hq, hu_⟩ := hp
            have hv_ : v1 = nI 0 := hv_
            have hv_ := hv_.symm
            subst hv_
            obtain ⟨hq1, hq2⟩ := hq
            subst hq2
            subst hq1
            obtain ⟨J, eJ⟩ : ∃ J, J = va_up (va_up I (30 + 4 * t + 2) (upd (I (30 + 4 * t + 2)) (2 * q + k) (nb 1))) 2000 (upd ((va_up I (30 + 4 * t + 2) (upd (I (30 + 4 * t + 2)) (2 * q + k) (nb 1))) 2000) 0 (opc (cf t) (cf t * rf t) (upd (I (30 + 4 * t + 2)) (2 * q + k) (nb 1)) (2 * (cf t * rf t)))) := ⟨_, rfl⟩
            have hM : fb_M D y A s (S, V, (sT V), J) H locs := by rw [hu_] at hM; rw [eJ]; exact hM
            have hG2 : MF J o ns nt cf rf df := by rw [eJ]; exact mfc hG (by simp (discharger := omega) only [va_up_ne, t0_ne, va_up_self]) (by simp (discharger := omega) only [va_up_ne, t0_ne, va_up_self]) (by simp (discharger := omega) only [va_up_ne, t0_ne, va_up_self]) (by simp (discharger := omega) only [va_up_ne, t0_ne, va_up_self])
            refine lv_istore (lv' := [(5, .int (nI 0)), (4, .int (nI j)), (3, .ref (sa S 2000)), (2, .ref (sa S o)), (1, .ref (sa S 0)), (0, .ref b)]) hx hb dL_law_857 hl (by decide) rfl (fun ls hl => ?_)
            refine lv_aload_n hx hb dL_law_859 rfl (lv_at hl 3 rfl) ?_
            refine law_arg hx hb hX hbl hbA hM.2.2.1 (lv_sub hl [5, 1] rfl) 1 (by decide) (by omega) hL2 hp0 dL_law_860 dL_law_861 dL_law_863 dL_law_864 dL_law_865 ?_
            refine law_arg hx hb hX hbl hbA hM.2.2.1 (lv_sub hl [5, 1] rfl) 2 (by decide) (by omega) hL2 hp1 dL_law_866 dL_law_867 dL_law_869 dL_law_870 dL_law_871 ?_
            refine law_arg hx hb hX hbl hbA hM.2.2.1 (lv_sub hl [5, 1] rfl) 3 (by decide) (by omega) hL2 hp2 dL_law_872 dL_law_873 dL_law_875 dL_law_876 dL_law_877 ?_
            refine law_arg hx hb hX hbl hbA hM.2.2.1 (lv_sub hl [5, 1] rfl) 4 (by decide) (by omega) hL2 hp3 dL_law_878 dL_law_879 dL_law_881 dL_law_882 dL_law_883 ?_
            refine lv_if_eq (tgt := 891) hx hb dL_law_884 (by decide) (fun h => absurd h hz) (fun _ => ?_)
            refine lv_iconst (v := 1) hx hb dL_law_887 (by decide) ?_
            refine lv_goto (tgt := 892) hx hb dL_law_888 (by decide) ?_
            refine fb_callVi (r := o) hx hb hml hown hts hM (hA.1.1) (ce4 (hA.1.2)) rfl (As := [.int (nI t), .int (nI q), .int (nI k), .int 1]) (rest := []) (c_X4_sew_ok D y l S V J o nt cf rf hA ns df hG2 t ht q hq k (Nat.zero_le _) (by omega) hox 1) (cwV 4 hts gL_law_X4_sew rfl rfl rfl (by decide +kernel) ⟨Nat.le_of_ble_eq_true rfl, Nat.le_of_ble_eq_true rfl⟩) rfl hl.1 rfl (Nat.le_of_ble_eq_true rfl) dL_law_892 ⟨by omega, by omega⟩ (fun v3 u H locs hp hM => ?_)
            obtain ⟨hv_, hu_⟩ := hp
            have hu_ := hu_.symm
            subst hu_
            refine lv_istore (lv' := [(6, .int v3), (5, .int (nI 0)), (4, .int (nI j)), (3, .ref (sa S 2000)), (2, .ref (sa S o)), (1, .ref (sa S 0)), (0, .ref b)]) hx hb dL_law_895 hl (by decide) rfl (fun ls hl => ?_)
            have ej20 : J (o + 20 + t) = I (o + 20 + t) := by simp (discharger := omega) only [va_up_ne, va_up_self, t0_ne, t0_f, eJ]
            have hM : fb_M D y A s (S, V, (sT V), (va_up (t0 J o) (o + 20 + t) (upd (I (o + 20 + t)) (2 * q + k) (nb 1)))) H locs := by rw [ej20] at hM; exact hM
            rw [ej20] at hv_
            have hth : (va_up (t0 J o) (o + 20 + t) (upd (I (o + 20 + t)) (2 * q + k) (nb 1))) o 0 = nI 0 := by rw [va_up_ne _ _ (show o ≠ o + 20 + t by omega)]; exact t0_z J o
            have hIv := (Iv.sew ho hI0 ht (b := 1) (j := 2 * q + k) (by simp (discharger := omega) only [va_up_ne, va_up_self, t0_ne, t0_f, eJ]) (by simp (discharger := omega) only [va_up_ne, va_up_self, t0_ne, t0_f]) (by decide) (fun j9 h9 => by simp (discharger := omega) only [va_up_ne, va_up_self, t0_ne, t0_f, eJ]) (fun x9 a9 b9 c9 d9 => by simp (discharger := omega) only [va_up_ne, va_up_self, t0_ne, t0_f, eJ]) : Iv a0.1 S V (va_up (t0 J o) (o + 20 + t) (upd (I (o + 20 + t)) (2 * q + k) (nb 1))) o ns nt es na cf rf df N)
            refine law_tail (T := 897) (off := 718) ⟨dL_law_897, dL_law_898, dL_law_901, dL_law_903, dL_law_908, dL_law_910, dL_law_913, dL_law_914, dL_law_915, dL_law_916, dL_law_918, dL_law_919, dL_law_920, dL_law_925, by omega⟩ hx hb hml hown hts hM hIv.1.2.1 hIv.1.2.2 (k := 0) (by decide) (lv_sub hl [4, 3, 1, 0] rfl) hth (fun hz9 => (show (va_up (t0 J o) (o + 20 + t) (upd (I (o + 20 + t)) (2 * q + k) (nb 1))) 2000 0 = (opc (cf t) (cf t * rf t) (upd (I (30 + 4 * t + 2)) (2 * q + k) (nb 1)) (2 * (cf t * rf t))) from by simp (discharger := omega) only [va_up_ne, va_up_self, t0_ne, eJ]; exact if_pos rfl).trans (by rw [hv_]; exact opc_cg _ (upd_cg (an_B hT9)))) (by omega) (by omega) (fun H locs hM => ?_) rfl
            exact W.widen (by omega) (by omega) (K _ _ _ _ _ _ _ _ _ _ _ _ _ _ (by omega) hIv hM (lv_sub hl [2, 3, 4, 5, 6] rfl))
          · skip
            refine fb_callW hx hb hml hown hts hM hE hNc (As := [.ref (sa S 0), .int (nI t), .int (nI q), .int (nI k), .int 1, .ref (sa S 2000)]) (rest := []) (c_L_sew_IAE a0 D y l S V I h03 hO (nI t) (nI q) (nI k) 1 (c_X3_sew_x2 a0 D y l hfl S V I a0.1 ns nt es na hC cf rf df hF t ht q hq (nI k) (by rw [oth_d hk]; exact if_neg hox) 1)) (vx_cwSW 6 hts gL_law_L_sew rfl rfl rfl (by decide +kernel) ⟨Nat.le_of_ble_eq_true rfl, Nat.le_of_ble_eq_true rfl⟩) rfl hl.1 rfl (Nat.le_of_ble_eq_true rfl) dL_law_854 ⟨by omega, by omega⟩ (fun v1 u H locs hp hM => ?_)
            obtain ⟨hv_, hu_⟩ := hp
            have hv_ : v1 = nI 2 := hv_.trans (by decide)
            have hv_ := hv_.symm
            have hu_ := hu_.symm
            subst hv_
            subst hu_
            refine lv_istore (lv' := [(5, .int (nI 2)), (4, .int (nI j)), (3, .ref (sa S 2000)), (2, .ref (sa S o)), (1, .ref (sa S 0)), (0, .ref b)]) hx hb dL_law_857 hl (by decide) rfl (fun ls hl => ?_)
            refine lv_aload_n hx hb dL_law_859 rfl (lv_at hl 3 rfl) ?_
            refine law_arg hx hb hX hbl hbA hM.2.2.1 (lv_sub hl [5, 1] rfl) 1 (by decide) (by omega) hL2 hp0 dL_law_860 dL_law_861 dL_law_863 dL_law_864 dL_law_865 ?_
            refine law_arg hx hb hX hbl hbA hM.2.2.1 (lv_sub hl [5, 1] rfl) 2 (by decide) (by omega) hL2 hp1 dL_law_866 dL_law_867 dL_law_869 dL_law_870 dL_law_871 ?_
            refine law_arg hx hb hX hbl hbA hM.2.2.1 (lv_sub hl [5, 1] rfl) 3 (by decide) (by omega) hL2 hp2 dL_law_872 dL_law_873 dL_law_875 dL_law_876 dL_law_877 ?_
            refine law_arg hx hb hX hbl hbA hM.2.2.1 (lv_sub hl [5, 1] rfl) 4 (by decide) (by omega) hL2 hp3 dL_law_878 dL_law_879 dL_law_881 dL_law_882 dL_law_883 ?_
            refine lv_if_eq (tgt := 891) hx hb dL_law_884 (by decide) (fun h => absurd h hz) (fun _ => ?_)
            refine lv_iconst (v := 1) hx hb dL_law_887 (by decide) ?_
            refine lv_goto (tgt := 892) hx hb dL_law_888 (by decide) ?_
            refine fb_callVi (r := o) hx hb hml hown hts hM (hA.1.1) (ce4 (hA.1.2)) rfl (As := [.int (nI t), .int (nI q), .int (nI k), .int 1]) (rest := []) (c_X4_sew_f2o D y l S V I o nt cf rf hA ns df hG t ht q hq k (Nat.zero_le _) (by omega) (by cases h9 : ofx (cf t) (cf t * rf t) q k with | false => rfl | true => exact absurd h9 hox) 1) (cwV 4 hts gL_law_X4_sew rfl rfl rfl (by decide +kernel) ⟨Nat.le_of_ble_eq_true rfl, Nat.le_of_ble_eq_true rfl⟩) rfl hl.1 rfl (Nat.le_of_ble_eq_true rfl) dL_law_892 ⟨by omega, by omega⟩ (fun v3 u H locs hp hM => ?_)
            obtain ⟨hv_, hu_⟩ := hp
            have hu_ := hu_.symm
            subst hu_
            refine lv_istore (lv' := [(6, .int v3), (5, .int (nI 2)), (4, .int (nI j)), (3, .ref (sa S 2000)), (2, .ref (sa S o)), (1, .ref (sa S 0)), (0, .ref b)]) hx hb dL_law_895 hl (by decide) rfl (fun ls hl => ?_)
            have hIv := hI0.same ho (sam_tf I o 2) (VSame.rf V) hR.2.2.2.2.2
            have hth : tf I o 2 o 0 = nI 2 := by unfold tf; rw [va_up_self]; rfl
            refine law_tail (T := 897) (off := 718) ⟨dL_law_897, dL_law_898, dL_law_901, dL_law_903, dL_law_908, dL_law_910, dL_law_913, dL_law_914, dL_law_915, dL_law_916, dL_law_918, dL_law_919, dL_law_920, dL_law_925, by omega⟩ hx hb hml hown hts hM hIv.1.2.1 hIv.1.2.2 (k := 2) (by decide) (lv_sub hl [4, 3, 1, 0] rfl) hth (fun hz9 => absurd hz9 (by decide)) (by omega) (by omega) (fun H locs hM => ?_) rfl
            exact W.widen (by omega) (by omega) (K _ _ _ _ _ _ _ _ _ _ _ _ _ _ (by omega) hIv hM (lv_sub hl [2, 3, 4, 5, 6] rfl))
set_option maxHeartbeats 4000000 in
set_option maxRecDepth 100000 in
theorem stp_addSack (hL : Lw p l s m args c D A y a0 b L xs) {o j ns nt es na N : Nat} {cf rf df : Nat → Nat} (hM : fb_M D y A s (S, V, (sT V), I) H locs) (hI : Iv a0.1 S V I o ns nt es na cf rf df N) (ho : o = 1000) (hj : j + 5 ≤ L) (hN : N ≤ 1600000) (hc : cells + 1100 ≤ room_1.cells) (hs : slots + 14000 ≤ room_1.slots) (hl : lv_has ls 9 [(4, .int (nI j)), (3, .ref (sa S 2000)), (2, .ref (sa S o)), (1, .ref (sa S 0)), (0, .ref b)]) (K : Kont p l e s m args below meth c Q D A y a0.1 o b j N cells slots) : W p l e room_1 s m args below meth c H locs cells slots Q (F0 m 140 ls []) := by
  obtain ⟨hx, hb, hml, hown, hts, hE, hNc, hfl, hX, hbl, hbA, hL2⟩ := hL
  have hI0 := hI
  obtain ⟨⟨hC, hA, hO⟩, ⟨hEs, hFr⟩, ⟨hF, hG⟩, hR⟩ := hI
  have hns : ns ≤ 12 := hF.2.2.1
  have hnt : nt ≤ 6 := hF.2.2.2.1
  have h03 : 0 ∈ sR S ∧ sk S 0 = 3 := hC.1
  obtain ⟨p0, hp0⟩ : ∃ v, xs (j + 1) = v := ⟨_, rfl⟩
  refine lv_aload_n hx hb dL_law_140 rfl (lv_at hl 3 rfl) ?_
  refine law_arg hx hb hX hbl hbA hM.2.2.1 (lv_sub hl [4, 0] rfl) 1 (by decide) (by omega) hL2 hp0 dL_law_141 dL_law_142 dL_law_144 dL_law_145 dL_law_146 ?_
  refine lv_aload_n hx hb dL_law_147 rfl (lv_at hl 1 rfl) ?_
  rcases rg_lh p0 0 9 (by decide) (by decide) with hq0 | ⟨dm, hdma, hdm, rfl⟩
  · skip
    have hw0 : p0 < 0 ∨ 9 < p0 := hq0
    refine fb_callW hx hb hml hown hts hM hE hNc (As := [.ref (sa S 0), .int p0, .ref (sa S 2000)]) (rest := []) (c_L_addSack_IAE a0 D y l S V I h03 hO p0 (c_X3_addSack_x0 a0 D y l hfl S V I ns nt es na hC cf rf df hF p0 hw0)) (vx_cwSW 3 hts gL_law_L_addSack rfl rfl rfl (by decide +kernel) ⟨Nat.le_of_ble_eq_true rfl, Nat.le_of_ble_eq_true rfl⟩) rfl hl.1 rfl (Nat.le_of_ble_eq_true rfl) dL_law_148 ⟨by omega, by omega⟩ (fun v1 u H locs hp hM => ?_)
    obtain ⟨hv_, hu_⟩ := hp
    have hv_ : v1 = nI 1 := hv_.trans (by decide)
    have hv_ := hv_.symm
    have hu_ := hu_.symm
    subst hv_
    subst hu_
    refine lv_istore (lv' := [(5, .int (nI 1)), (4, .int (nI j)), (3, .ref (sa S 2000)), (2, .ref (sa S o)), (1, .ref (sa S 0)), (0, .ref b)]) hx hb dL_law_151 hl (by decide) rfl (fun ls hl => ?_)
    refine lv_aload_n hx hb dL_law_153 rfl (lv_at hl 3 rfl) ?_
    refine law_arg hx hb hX hbl hbA hM.2.2.1 (lv_sub hl [5, 1] rfl) 1 (by decide) (by omega) hL2 hp0 dL_law_154 dL_law_155 dL_law_157 dL_law_158 dL_law_159 ?_
    refine fb_callVi (r := o) hx hb hml hown hts hM (hA.1.1) (ce4 (hA.1.2)) rfl (As := [.int p0]) (rest := []) (c_X4_addSack_f0o D y l S V I o nt cf rf hA ns df hG p0 hw0) (cwV 1 hts gL_law_X4_addSack rfl rfl rfl (by decide +kernel) ⟨Nat.le_of_ble_eq_true rfl, Nat.le_of_ble_eq_true rfl⟩) rfl hl.1 rfl (Nat.le_of_ble_eq_true rfl) dL_law_160 ⟨by omega, by omega⟩ (fun v3 u H locs hp hM => ?_)
    obtain ⟨hv_, hu_⟩ := hp
    have hu_ := hu_.symm
    subst hu_
    refine lv_istore (lv' := [(6, .int v3), (5, .int (nI 1)), (4, .int (nI j)), (3, .ref (sa S 2000)), (2, .ref (sa S o)), (1, .ref (sa S 0)), (0, .ref b)]) hx hb dL_law_163 hl (by decide) rfl (fun ls hl => ?_)
    have hIv := hI0.same ho (sam_tf I o 1) (VSame.rf V) hR.2.2.2.2.2
    have hth : tf I o 1 o 0 = nI 1 := by unfold tf; rw [va_up_self]; rfl
    refine law_tail (T := 165) (off := 1450) ⟨dL_law_165, dL_law_166, dL_law_169, dL_law_171, dL_law_176, dL_law_178, dL_law_181, dL_law_182, dL_law_183, dL_law_184, dL_law_186, dL_law_187, dL_law_188, dL_law_193, by omega⟩ hx hb hml hown hts hM hIv.1.2.1 hIv.1.2.2 (k := 1) (by decide) (lv_sub hl [4, 3, 1, 0] rfl) hth (fun hz9 => absurd hz9 (by decide)) (by omega) (by omega) (fun H locs hM => ?_) rfl
    exact W.widen (by omega) (by omega) (K _ _ _ _ _ _ _ _ _ _ _ _ _ _ (by omega) hIv hM (lv_sub hl [2, 3, 4, 5, 6] rfl))
  · skip
    by_cases h12 : ns = 12
    · skip
      refine fb_callW hx hb hml hown hts hM hE hNc (As := [.ref (sa S 0), .int (nI dm), .ref (sa S 2000)]) (rest := []) (c_L_addSack_ISE a0 D y l S V I h03 hO (nI dm) (c_X3_addSack_x1 a0 D y l hfl S V I ns nt es na hC cf rf df hF dm hdma hdm h12)) (vx_cwSW 3 hts gL_law_L_addSack rfl rfl rfl (by decide +kernel) ⟨Nat.le_of_ble_eq_true rfl, Nat.le_of_ble_eq_true rfl⟩) rfl hl.1 rfl (Nat.le_of_ble_eq_true rfl) dL_law_148 ⟨by omega, by omega⟩ (fun v1 u H locs hp hM => ?_)
      obtain ⟨hv_, hu_⟩ := hp
      have hv_ : v1 = nI 2 := hv_.trans (by decide)
      have hv_ := hv_.symm
      have hu_ := hu_.symm
      subst hv_
      subst hu_
      refine lv_istore (lv' := [(5, .int (nI 2)), (4, .int (nI j)), (3, .ref (sa S 2000)), (2, .ref (sa S o)), (1, .ref (sa S 0)), (0, .ref b)]) hx hb dL_law_151 hl (by decide) rfl (fun ls hl => ?_)
      refine lv_aload_n hx hb dL_law_153 rfl (lv_at hl 3 rfl) ?_
      refine law_arg hx hb hX hbl hbA hM.2.2.1 (lv_sub hl [5, 1] rfl) 1 (by decide) (by omega) hL2 hp0 dL_law_154 dL_law_155 dL_law_157 dL_law_158 dL_law_159 ?_
      refine fb_callVi (r := o) hx hb hml hown hts hM (hA.1.1) (ce4 (hA.1.2)) rfl (As := [.int (nI dm)]) (rest := []) (c_X4_addSack_f1o D y l S V I o nt cf rf hA ns df hG dm hdma hdm h12) (cwV 1 hts gL_law_X4_addSack rfl rfl rfl (by decide +kernel) ⟨Nat.le_of_ble_eq_true rfl, Nat.le_of_ble_eq_true rfl⟩) rfl hl.1 rfl (Nat.le_of_ble_eq_true rfl) dL_law_160 ⟨by omega, by omega⟩ (fun v3 u H locs hp hM => ?_)
      obtain ⟨hv_, hu_⟩ := hp
      have hu_ := hu_.symm
      subst hu_
      refine lv_istore (lv' := [(6, .int v3), (5, .int (nI 2)), (4, .int (nI j)), (3, .ref (sa S 2000)), (2, .ref (sa S o)), (1, .ref (sa S 0)), (0, .ref b)]) hx hb dL_law_163 hl (by decide) rfl (fun ls hl => ?_)
      have hIv := hI0.same ho (sam_tf I o 2) (VSame.rf V) hR.2.2.2.2.2
      have hth : tf I o 2 o 0 = nI 2 := by unfold tf; rw [va_up_self]; rfl
      refine law_tail (T := 165) (off := 1450) ⟨dL_law_165, dL_law_166, dL_law_169, dL_law_171, dL_law_176, dL_law_178, dL_law_181, dL_law_182, dL_law_183, dL_law_184, dL_law_186, dL_law_187, dL_law_188, dL_law_193, by omega⟩ hx hb hml hown hts hM hIv.1.2.1 hIv.1.2.2 (k := 2) (by decide) (lv_sub hl [4, 3, 1, 0] rfl) hth (fun hz9 => absurd hz9 (by decide)) (by omega) (by omega) (fun H locs hM => ?_) rfl
      exact W.widen (by omega) (by omega) (K _ _ _ _ _ _ _ _ _ _ _ _ _ _ (by omega) hIv hM (lv_sub hl [2, 3, 4, 5, 6] rfl))
    · skip
      have hlt : ns < 12 := by omega
      obtain ⟨fr1, fr2, fr3⟩ := hFr.2.2.2.1 ns (Nat.le_refl _) hlt
      have hes : es = 4 ∨ es = 6 := by rcases Nat.lt_or_ge 10 ns with q9 | q9; exact Or.inr (hEs.2 q9).1; exact Or.inl (hEs.1 q9).1
      rcases (show ns = 0 ∨ ns = 10 ∨ (ns ≠ 0 ∧ ns ≠ 10) by omega) with h0 | h10 | ⟨hnz, hnt10⟩
      · skip
        refine fb_callW hx hb hml hown hts hM hE hNc (As := [.ref (sa S 0), .int (nI dm), .ref (sa S 2000)]) (rest := []) (c_L_addSack_ok a0 D y l S V I h03 hO (nI dm) (c_X3_addSack_0 a0 D y l S V I ns nt es na hC cf rf df hF dm hdma hdm hlt hes fr1 fr2 fr3 h0 (hFr.1 h0)) (fun v u hq => by obtain ⟨_, S2, hq, _, hX9⟩ := hq; subst hq; exact ⟨hO.ext hX9 (by omega), AA.ext hX9 (by omega)⟩)) (vx_cwSW 3 hts gL_law_L_addSack rfl rfl rfl (by decide +kernel) ⟨Nat.le_of_ble_eq_true rfl, Nat.le_of_ble_eq_true rfl⟩) rfl hl.1 rfl (Nat.le_of_ble_eq_true rfl) dL_law_148 ⟨by omega, by omega⟩ (fun v1 u H locs hp hM => ?_)
        obtain ⟨hv_, v2, u1, hq, hu_⟩ := hp
        have hv_ : v1 = nI 0 := hv_
        have hv_ := hv_.symm
        subst hv_
        obtain ⟨hq1, S2, hq2, hC2, hX2⟩ := hq
        subst hq2
        subst hq1
        obtain ⟨J, eJ⟩ : ∃ J, J = va_up (va_up (va_up I (10 + ns) (upd (fun _ => 0) 1 (nI dm))) 1 (upd (upd (I 1) 0 (I 1 0 + 1)) 2 (nI (ns + 1)))) 2000 (upd ((va_up (va_up I (10 + ns) (upd (fun _ => 0) 1 (nI dm))) 1 (upd (upd (I 1) 0 (I 1 0 + 1)) 2 (nI (ns + 1)))) 2000) 0 (nI ns)) := ⟨_, rfl⟩
        have hM : fb_M D y A s (S2, (va_up V (200 + 2 * ns) (fun _ => 0)), (sT (va_up V (200 + 2 * ns) (fun _ => 0))), J) H locs := by rw [hu_] at hM; rw [eJ]; exact hM
        have hG2 : MF J o ns nt cf rf df := by rw [eJ]; exact mfc hG (by simp (discharger := omega) only [va_up_ne, t0_ne, va_up_self]) (by simp (discharger := omega) only [va_up_ne, t0_ne, va_up_self]) (by simp (discharger := omega) only [va_up_ne, t0_ne, va_up_self]) (by simp (discharger := omega) only [va_up_ne, t0_ne, va_up_self])
        have hA := hA.ext hX2 hnt (fun x a b => by omega) (fun t ht => ⟨by omega, by omega⟩)
        rw [← (AA.ext hX2 (by omega) : sa S2 0 = sa S 0), ← (AA.ext hX2 (by omega) : sa S2 o = sa S o), ← (AA.ext hX2 (by omega) : sa S2 2000 = sa S 2000)] at hl
        refine lv_istore (lv' := [(5, .int (nI 0)), (4, .int (nI j)), (3, .ref (sa S2 2000)), (2, .ref (sa S2 o)), (1, .ref (sa S2 0)), (0, .ref b)]) hx hb dL_law_151 hl (by decide) rfl (fun ls hl => ?_)
        refine lv_aload_n hx hb dL_law_153 rfl (lv_at hl 3 rfl) ?_
        refine law_arg hx hb hX hbl hbA hM.2.2.1 (lv_sub hl [5, 1] rfl) 1 (by decide) (by omega) hL2 hp0 dL_law_154 dL_law_155 dL_law_157 dL_law_158 dL_law_159 ?_
        refine fb_callVi (r := o) hx hb hml hown hts hM (hA.1.1) (ce4 (hA.1.2)) rfl (As := [.int (nI dm)]) (rest := []) (c_X4_addSack_ok D y l S2 (va_up V (200 + 2 * ns) (fun _ => 0)) J o nt cf rf hA ns df hG2 dm hdma hdm hlt) (cwV 1 hts gL_law_X4_addSack rfl rfl rfl (by decide +kernel) ⟨Nat.le_of_ble_eq_true rfl, Nat.le_of_ble_eq_true rfl⟩) rfl hl.1 rfl (Nat.le_of_ble_eq_true rfl) dL_law_160 ⟨by omega, by omega⟩ (fun v3 u H locs hp hM => ?_)
        obtain ⟨hv_, hu_⟩ := hp
        have hu_ := hu_.symm
        subst hu_
        refine lv_istore (lv' := [(6, .int v3), (5, .int (nI 0)), (4, .int (nI j)), (3, .ref (sa S2 2000)), (2, .ref (sa S2 o)), (1, .ref (sa S2 0)), (0, .ref b)]) hx hb dL_law_163 hl (by decide) rfl (fun ls hl => ?_)
        have hth : (va_up (va_up (t0 J o) (o + 2) (upd (t0 J o (o + 2)) ns (nI dm))) o (upd (t0 J o o) 1 (nI (ns + 1)))) o 0 = nI 0 := by rw [va_up_self]; exact (if_neg (by decide)).trans (t0_z J o)
        have hIv : Iv a0.1 S2 (va_up V (200 + 2 * ns) (fun _ => 0)) (va_up (va_up (t0 J o) (o + 2) (upd (t0 J o (o + 2)) ns (nI dm))) o (upd (t0 J o o) 1 (nI (ns + 1)))) o (ns + 1) nt 4 10 cf rf df N := Iv.addSack ho hI0 hlt hdm hC2 (⟨fun _ => ⟨rfl, rfl⟩, fun h => absurd h (by omega)⟩ : EsN (ns + 1) 4 10) hX2 (Or.inl ⟨rfl, by omega⟩) rfl (by simp (discharger := omega) only [va_up_ne, va_up_self, t0_ne, t0_f, eJ]) (by rw [eJ]; simp (discharger := omega) only [va_up_ne, va_up_self, t0_ne]; rfl) (by simp (discharger := omega) only [va_up_ne, va_up_self]; rw [t0_ne J (show o + 2 ≠ o by omega), eJ]; simp (discharger := omega) only [va_up_ne]) (fun j9 h9 => by rw [va_up_self]; exact upd_pt (by simp (discharger := omega) only [va_up_ne, va_up_self, t0_ne, t0_f, eJ])) (fun x9 a9 b9 c9 d9 e9 => by simp (discharger := omega) only [va_up_ne, va_up_self, t0_ne, t0_f, eJ])
        refine law_tail (T := 165) (off := 1450) ⟨dL_law_165, dL_law_166, dL_law_169, dL_law_171, dL_law_176, dL_law_178, dL_law_181, dL_law_182, dL_law_183, dL_law_184, dL_law_186, dL_law_187, dL_law_188, dL_law_193, by omega⟩ hx hb hml hown hts hM hIv.1.2.1 hIv.1.2.2 (k := 0) (by decide) (lv_sub hl [4, 3, 1, 0] rfl) hth (fun hz9 => (show (va_up (va_up (t0 J o) (o + 2) (upd (t0 J o (o + 2)) ns (nI dm))) o (upd (t0 J o o) 1 (nI (ns + 1)))) 2000 0 = nI ns from by simp (discharger := omega) only [va_up_ne, va_up_self, t0_ne, eJ]; exact if_pos rfl).trans hv_.symm) (by omega) (by omega) (fun H locs hM => ?_) rfl
        exact W.widen (by omega) (by omega) (K _ _ _ _ _ _ _ _ _ _ _ _ _ _ (by omega) hIv hM (lv_sub hl [2, 3, 4, 5, 6] rfl))
      · skip
        refine fb_callW hx hb hml hown hts hM hE hNc (As := [.ref (sa S 0), .int (nI dm), .ref (sa S 2000)]) (rest := []) (c_L_addSack_ok a0 D y l S V I h03 hO (nI dm) (c_X3_addSack_g a0 D y l S V I ns nt es na hC cf rf df hF dm hdma hdm hlt hes fr1 fr2 fr3 h10 (hEs.1 (by omega)).2 (hFr.2.2.1 (by omega))) (fun v u hq => by obtain ⟨_, S2, hq, _, hX9⟩ := hq; subst hq; exact ⟨hO.ext hX9 (by omega), AA.ext hX9 (by omega)⟩)) (vx_cwSW 3 hts gL_law_L_addSack rfl rfl rfl (by decide +kernel) ⟨Nat.le_of_ble_eq_true rfl, Nat.le_of_ble_eq_true rfl⟩) rfl hl.1 rfl (Nat.le_of_ble_eq_true rfl) dL_law_148 ⟨by omega, by omega⟩ (fun v1 u H locs hp hM => ?_)
        obtain ⟨hv_, v2, u1, hq, hu_⟩ := hp
        have hv_ : v1 = nI 0 := hv_
        have hv_ := hv_.symm
        subst hv_
        obtain ⟨hq1, S2, hq2, hC2, hX2⟩ := hq
        subst hq2
        subst hq1
        obtain ⟨J, eJ⟩ : ∃ J, J = va_up (va_up (va_up I (10 + ns) (upd (fun _ => 0) 1 (nI dm))) 1 (upd (upd (I 1) 0 (I 1 0 + 1)) 2 (nI (ns + 1)))) 2000 (upd ((va_up (va_up I (10 + ns) (upd (fun _ => 0) 1 (nI dm))) 1 (upd (upd (I 1) 0 (I 1 0 + 1)) 2 (nI (ns + 1)))) 2000) 0 (nI ns)) := ⟨_, rfl⟩
        have hM : fb_M D y A s (S2, (va_up V (200 + 2 * ns) (fun _ => 0)), (sT (va_up V (200 + 2 * ns) (fun _ => 0))), J) H locs := by rw [hu_] at hM; rw [eJ]; exact hM
        have hG2 : MF J o ns nt cf rf df := by rw [eJ]; exact mfc hG (by simp (discharger := omega) only [va_up_ne, t0_ne, va_up_self]) (by simp (discharger := omega) only [va_up_ne, t0_ne, va_up_self]) (by simp (discharger := omega) only [va_up_ne, t0_ne, va_up_self]) (by simp (discharger := omega) only [va_up_ne, t0_ne, va_up_self])
        have hA := hA.ext hX2 hnt (fun x a b => by omega) (fun t ht => ⟨by omega, by omega⟩)
        rw [← (AA.ext hX2 (by omega) : sa S2 0 = sa S 0), ← (AA.ext hX2 (by omega) : sa S2 o = sa S o), ← (AA.ext hX2 (by omega) : sa S2 2000 = sa S 2000)] at hl
        refine lv_istore (lv' := [(5, .int (nI 0)), (4, .int (nI j)), (3, .ref (sa S2 2000)), (2, .ref (sa S2 o)), (1, .ref (sa S2 0)), (0, .ref b)]) hx hb dL_law_151 hl (by decide) rfl (fun ls hl => ?_)
        refine lv_aload_n hx hb dL_law_153 rfl (lv_at hl 3 rfl) ?_
        refine law_arg hx hb hX hbl hbA hM.2.2.1 (lv_sub hl [5, 1] rfl) 1 (by decide) (by omega) hL2 hp0 dL_law_154 dL_law_155 dL_law_157 dL_law_158 dL_law_159 ?_
        refine fb_callVi (r := o) hx hb hml hown hts hM (hA.1.1) (ce4 (hA.1.2)) rfl (As := [.int (nI dm)]) (rest := []) (c_X4_addSack_ok D y l S2 (va_up V (200 + 2 * ns) (fun _ => 0)) J o nt cf rf hA ns df hG2 dm hdma hdm hlt) (cwV 1 hts gL_law_X4_addSack rfl rfl rfl (by decide +kernel) ⟨Nat.le_of_ble_eq_true rfl, Nat.le_of_ble_eq_true rfl⟩) rfl hl.1 rfl (Nat.le_of_ble_eq_true rfl) dL_law_160 ⟨by omega, by omega⟩ (fun v3 u H locs hp hM => ?_)
        obtain ⟨hv_, hu_⟩ := hp
        have hu_ := hu_.symm
        subst hu_
        refine lv_istore (lv' := [(6, .int v3), (5, .int (nI 0)), (4, .int (nI j)), (3, .ref (sa S2 2000)), (2, .ref (sa S2 o)), (1, .ref (sa S2 0)), (0, .ref b)]) hx hb dL_law_163 hl (by decide) rfl (fun ls hl => ?_)
        have hth : (va_up (va_up (t0 J o) (o + 2) (upd (t0 J o (o + 2)) ns (nI dm))) o (upd (t0 J o o) 1 (nI (ns + 1)))) o 0 = nI 0 := by rw [va_up_self]; exact (if_neg (by decide)).trans (t0_z J o)
        have hIv : Iv a0.1 S2 (va_up V (200 + 2 * ns) (fun _ => 0)) (va_up (va_up (t0 J o) (o + 2) (upd (t0 J o (o + 2)) ns (nI dm))) o (upd (t0 J o o) 1 (nI (ns + 1)))) o (ns + 1) nt 6 15 cf rf df N := Iv.addSack ho hI0 hlt hdm hC2 (⟨fun h => absurd h (by omega), fun _ => ⟨rfl, rfl⟩⟩ : EsN (ns + 1) 6 15) hX2 (Or.inr ⟨rfl, by omega⟩) rfl (by simp (discharger := omega) only [va_up_ne, va_up_self, t0_ne, t0_f, eJ]) (by rw [eJ]; simp (discharger := omega) only [va_up_ne, va_up_self, t0_ne]; rfl) (by simp (discharger := omega) only [va_up_ne, va_up_self]; rw [t0_ne J (show o + 2 ≠ o by omega), eJ]; simp (discharger := omega) only [va_up_ne]) (fun j9 h9 => by rw [va_up_self]; exact upd_pt (by simp (discharger := omega) only [va_up_ne, va_up_self, t0_ne, t0_f, eJ])) (fun x9 a9 b9 c9 d9 e9 => by simp (discharger := omega) only [va_up_ne, va_up_self, t0_ne, t0_f, eJ])
        refine law_tail (T := 165) (off := 1450) ⟨dL_law_165, dL_law_166, dL_law_169, dL_law_171, dL_law_176, dL_law_178, dL_law_181, dL_law_182, dL_law_183, dL_law_184, dL_law_186, dL_law_187, dL_law_188, dL_law_193, by omega⟩ hx hb hml hown hts hM hIv.1.2.1 hIv.1.2.2 (k := 0) (by decide) (lv_sub hl [4, 3, 1, 0] rfl) hth (fun hz9 => (show (va_up (va_up (t0 J o) (o + 2) (upd (t0 J o (o + 2)) ns (nI dm))) o (upd (t0 J o o) 1 (nI (ns + 1)))) 2000 0 = nI ns from by simp (discharger := omega) only [va_up_ne, va_up_self, t0_ne, eJ]; exact if_pos rfl).trans hv_.symm) (by omega) (by omega) (fun H locs hM => ?_) rfl
        exact W.widen (by omega) (by omega) (K _ _ _ _ _ _ _ _ _ _ _ _ _ _ (by omega) hIv hM (lv_sub hl [2, 3, 4, 5, 6] rfl))
      · skip
        have hlna : ns < na := by rcases Nat.lt_or_ge 10 ns with q9 | q9; (have := (hEs.2 q9).2; omega); (have := (hEs.1 q9).2; omega)
        have h46 : (es = 4 ∧ ns ≤ 9) ∨ (es = 6 ∧ 10 ≤ ns) := by rcases Nat.lt_or_ge 10 ns with q9 | q9; (have := (hEs.2 q9).1; omega); (have := (hEs.1 q9).1; omega)
        refine fb_callW hx hb hml hown hts hM hE hNc (As := [.ref (sa S 0), .int (nI dm), .ref (sa S 2000)]) (rest := []) (c_L_addSack_ok a0 D y l S V I h03 hO (nI dm) (c_X3_addSack_n a0 D y l S V I ns nt es na hC cf rf df hF dm hdma hdm hlt hes fr1 fr2 fr3 (by omega) hlna) (fun v u hq => by obtain ⟨_, S2, hq, _, hX9⟩ := hq; subst hq; exact ⟨hO.ext hX9 (by omega), AA.ext hX9 (by omega)⟩)) (vx_cwSW 3 hts gL_law_L_addSack rfl rfl rfl (by decide +kernel) ⟨Nat.le_of_ble_eq_true rfl, Nat.le_of_ble_eq_true rfl⟩) rfl hl.1 rfl (Nat.le_of_ble_eq_true rfl) dL_law_148 ⟨by omega, by omega⟩ (fun v1 u H locs hp hM => ?_)
        obtain ⟨hv_, v2, u1, hq, hu_⟩ := hp
        have hv_ : v1 = nI 0 := hv_
        have hv_ := hv_.symm
        subst hv_
        obtain ⟨hq1, S2, hq2, hC2, hX2⟩ := hq
        subst hq2
        subst hq1
        obtain ⟨J, eJ⟩ : ∃ J, J = va_up (va_up (va_up I (10 + ns) (upd (fun _ => 0) 1 (nI dm))) 1 (upd (upd (I 1) 0 (I 1 0 + 1)) 2 (nI (ns + 1)))) 2000 (upd ((va_up (va_up I (10 + ns) (upd (fun _ => 0) 1 (nI dm))) 1 (upd (upd (I 1) 0 (I 1 0 + 1)) 2 (nI (ns + 1)))) 2000) 0 (nI ns)) := ⟨_, rfl⟩
        have hM : fb_M D y A s (S2, (va_up V (200 + 2 * ns) (fun _ => 0)), (sT (va_up V (200 + 2 * ns) (fun _ => 0))), J) H locs := by rw [hu_] at hM; rw [eJ]; exact hM
        have hG2 : MF J o ns nt cf rf df := by rw [eJ]; exact mfc hG (by simp (discharger := omega) only [va_up_ne, t0_ne, va_up_self]) (by simp (discharger := omega) only [va_up_ne, t0_ne, va_up_self]) (by simp (discharger := omega) only [va_up_ne, t0_ne, va_up_self]) (by simp (discharger := omega) only [va_up_ne, t0_ne, va_up_self])
        have hA := hA.ext hX2 hnt (fun x a b => by omega) (fun t ht => ⟨by omega, by omega⟩)
        rw [← (AA.ext hX2 (by omega) : sa S2 0 = sa S 0), ← (AA.ext hX2 (by omega) : sa S2 o = sa S o), ← (AA.ext hX2 (by omega) : sa S2 2000 = sa S 2000)] at hl
        refine lv_istore (lv' := [(5, .int (nI 0)), (4, .int (nI j)), (3, .ref (sa S2 2000)), (2, .ref (sa S2 o)), (1, .ref (sa S2 0)), (0, .ref b)]) hx hb dL_law_151 hl (by decide) rfl (fun ls hl => ?_)
        refine lv_aload_n hx hb dL_law_153 rfl (lv_at hl 3 rfl) ?_
        refine law_arg hx hb hX hbl hbA hM.2.2.1 (lv_sub hl [5, 1] rfl) 1 (by decide) (by omega) hL2 hp0 dL_law_154 dL_law_155 dL_law_157 dL_law_158 dL_law_159 ?_
        refine fb_callVi (r := o) hx hb hml hown hts hM (hA.1.1) (ce4 (hA.1.2)) rfl (As := [.int (nI dm)]) (rest := []) (c_X4_addSack_ok D y l S2 (va_up V (200 + 2 * ns) (fun _ => 0)) J o nt cf rf hA ns df hG2 dm hdma hdm hlt) (cwV 1 hts gL_law_X4_addSack rfl rfl rfl (by decide +kernel) ⟨Nat.le_of_ble_eq_true rfl, Nat.le_of_ble_eq_true rfl⟩) rfl hl.1 rfl (Nat.le_of_ble_eq_true rfl) dL_law_160 ⟨by omega, by omega⟩ (fun v3 u H locs hp hM => ?_)
        obtain ⟨hv_, hu_⟩ := hp
        have hu_ := hu_.symm
        subst hu_
        refine lv_istore (lv' := [(6, .int v3), (5, .int (nI 0)), (4, .int (nI j)), (3, .ref (sa S2 2000)), (2, .ref (sa S2 o)), (1, .ref (sa S2 0)), (0, .ref b)]) hx hb dL_law_163 hl (by decide) rfl (fun ls hl => ?_)
        have hth : (va_up (va_up (t0 J o) (o + 2) (upd (t0 J o (o + 2)) ns (nI dm))) o (upd (t0 J o o) 1 (nI (ns + 1)))) o 0 = nI 0 := by rw [va_up_self]; exact (if_neg (by decide)).trans (t0_z J o)
        have hIv : Iv a0.1 S2 (va_up V (200 + 2 * ns) (fun _ => 0)) (va_up (va_up (t0 J o) (o + 2) (upd (t0 J o (o + 2)) ns (nI dm))) o (upd (t0 J o o) 1 (nI (ns + 1)))) o (ns + 1) nt es na cf rf df N := Iv.addSack ho hI0 hlt hdm hC2 (⟨fun h => hEs.1 (by omega), fun h => hEs.2 (by omega)⟩ : EsN (ns + 1) es na) hX2 h46 rfl (by simp (discharger := omega) only [va_up_ne, va_up_self, t0_ne, t0_f, eJ]) (by rw [eJ]; simp (discharger := omega) only [va_up_ne, va_up_self, t0_ne]; rfl) (by simp (discharger := omega) only [va_up_ne, va_up_self]; rw [t0_ne J (show o + 2 ≠ o by omega), eJ]; simp (discharger := omega) only [va_up_ne]) (fun j9 h9 => by rw [va_up_self]; exact upd_pt (by simp (discharger := omega) only [va_up_ne, va_up_self, t0_ne, t0_f, eJ])) (fun x9 a9 b9 c9 d9 e9 => by simp (discharger := omega) only [va_up_ne, va_up_self, t0_ne, t0_f, eJ])
        refine law_tail (T := 165) (off := 1450) ⟨dL_law_165, dL_law_166, dL_law_169, dL_law_171, dL_law_176, dL_law_178, dL_law_181, dL_law_182, dL_law_183, dL_law_184, dL_law_186, dL_law_187, dL_law_188, dL_law_193, by omega⟩ hx hb hml hown hts hM hIv.1.2.1 hIv.1.2.2 (k := 0) (by decide) (lv_sub hl [4, 3, 1, 0] rfl) hth (fun hz9 => (show (va_up (va_up (t0 J o) (o + 2) (upd (t0 J o (o + 2)) ns (nI dm))) o (upd (t0 J o o) 1 (nI (ns + 1)))) 2000 0 = nI ns from by simp (discharger := omega) only [va_up_ne, va_up_self, t0_ne, eJ]; exact if_pos rfl).trans hv_.symm) (by omega) (by omega) (fun H locs hM => ?_) rfl
        exact W.widen (by omega) (by omega) (K _ _ _ _ _ _ _ _ _ _ _ _ _ _ (by omega) hIv hM (lv_sub hl [2, 3, 4, 5, 6] rfl))
set_option maxHeartbeats 4000000 in
set_option maxRecDepth 100000 in
theorem stp_addTick (hL : Lw p l s m args c D A y a0 b L xs) {o j ns nt es na N : Nat} {cf rf df : Nat → Nat} (hM : fb_M D y A s (S, V, (sT V), I) H locs) (hI : Iv a0.1 S V I o ns nt es na cf rf df N) (ho : o = 1000) (hj : j + 5 ≤ L) (hN : N ≤ 1600000) (hc : cells + 1100 ≤ room_1.cells) (hs : slots + 14000 ≤ room_1.slots) (hl : lv_has ls 9 [(4, .int (nI j)), (3, .ref (sa S 2000)), (2, .ref (sa S o)), (1, .ref (sa S 0)), (0, .ref b)]) (K : Kont p l e s m args below meth c Q D A y a0.1 o b j N cells slots) : W p l e room_1 s m args below meth c H locs cells slots Q (F0 m 740 ls []) := by
  obtain ⟨hx, hb, hml, hown, hts, hE, hNc, hfl, hX, hbl, hbA, hL2⟩ := hL
  have hI0 := hI
  obtain ⟨⟨hC, hA, hO⟩, ⟨hEs, hFr⟩, ⟨hF, hG⟩, hR⟩ := hI
  have hns : ns ≤ 12 := hF.2.2.1
  have hnt : nt ≤ 6 := hF.2.2.2.1
  have h03 : 0 ∈ sR S ∧ sk S 0 = 3 := hC.1
  obtain ⟨p0, hp0⟩ : ∃ v, xs (j + 1) = v := ⟨_, rfl⟩
  obtain ⟨p1, hp1⟩ : ∃ v, xs (j + 2) = v := ⟨_, rfl⟩
  obtain ⟨p2, hp2⟩ : ∃ v, xs (j + 3) = v := ⟨_, rfl⟩
  refine lv_aload_n hx hb dL_law_740 rfl (lv_at hl 3 rfl) ?_
  refine law_arg hx hb hX hbl hbA hM.2.2.1 (lv_sub hl [4, 0] rfl) 1 (by decide) (by omega) hL2 hp0 dL_law_741 dL_law_742 dL_law_744 dL_law_745 dL_law_746 ?_
  refine law_arg hx hb hX hbl hbA hM.2.2.1 (lv_sub hl [4, 0] rfl) 2 (by decide) (by omega) hL2 hp1 dL_law_747 dL_law_748 dL_law_750 dL_law_751 dL_law_752 ?_
  refine law_arg hx hb hX hbl hbA hM.2.2.1 (lv_sub hl [4, 0] rfl) 3 (by decide) (by omega) hL2 hp2 dL_law_753 dL_law_754 dL_law_756 dL_law_757 dL_law_758 ?_
  refine lv_aload_n hx hb dL_law_759 rfl (lv_at hl 1 rfl) ?_
  rcases rg_lh p0 1 6 (by decide) (by decide) with hq0 | ⟨c9, hc9a, hc9, rfl⟩
  · skip
    have hw0 : p0 < 1 ∨ 6 < p0 := hq0
    refine fb_callW hx hb hml hown hts hM hE hNc (As := [.ref (sa S 0), .int p0, .int p1, .int p2, .ref (sa S 2000)]) (rest := []) (c_L_addTick_IAE a0 D y l S V I h03 hO p0 p1 p2 (c_X3_addTick_x0 a0 D y l hfl S V I ns nt es na hC cf rf df hF p0 hw0 p1 p2)) (vx_cwSW 5 hts gL_law_L_addTick rfl rfl rfl (by decide +kernel) ⟨Nat.le_of_ble_eq_true rfl, Nat.le_of_ble_eq_true rfl⟩) rfl hl.1 rfl (Nat.le_of_ble_eq_true rfl) dL_law_760 ⟨by omega, by omega⟩ (fun v1 u H locs hp hM => ?_)
    obtain ⟨hv_, hu_⟩ := hp
    have hv_ : v1 = nI 1 := hv_.trans (by decide)
    have hv_ := hv_.symm
    have hu_ := hu_.symm
    subst hv_
    subst hu_
    refine lv_istore (lv' := [(5, .int (nI 1)), (4, .int (nI j)), (3, .ref (sa S 2000)), (2, .ref (sa S o)), (1, .ref (sa S 0)), (0, .ref b)]) hx hb dL_law_763 hl (by decide) rfl (fun ls hl => ?_)
    refine lv_aload_n hx hb dL_law_765 rfl (lv_at hl 3 rfl) ?_
    refine law_arg hx hb hX hbl hbA hM.2.2.1 (lv_sub hl [5, 1] rfl) 1 (by decide) (by omega) hL2 hp0 dL_law_766 dL_law_767 dL_law_769 dL_law_770 dL_law_771 ?_
    refine law_arg hx hb hX hbl hbA hM.2.2.1 (lv_sub hl [5, 1] rfl) 2 (by decide) (by omega) hL2 hp1 dL_law_772 dL_law_773 dL_law_775 dL_law_776 dL_law_777 ?_
    refine law_arg hx hb hX hbl hbA hM.2.2.1 (lv_sub hl [5, 1] rfl) 3 (by decide) (by omega) hL2 hp2 dL_law_778 dL_law_779 dL_law_781 dL_law_782 dL_law_783 ?_
    refine fb_callVi (r := o) hx hb hml hown hts hM (hA.1.1) (ce4 (hA.1.2)) rfl (As := [.int p0, .int p1, .int p2]) (rest := []) (CI.grow (mc' := 3) (ms' := 300) (c_X4_addTick_f0o D y l S V I o nt cf rf hA ns df hG p0 hw0 p1 p2) (Nat.zero_le _) (Nat.zero_le _)) (cwV 3 hts gL_law_X4_addTick rfl rfl rfl (by decide +kernel) ⟨Nat.le_of_ble_eq_true rfl, Nat.le_of_ble_eq_true rfl⟩) rfl hl.1 rfl (Nat.le_of_ble_eq_true rfl) dL_law_784 ⟨by omega, by omega⟩ (fun v3 u H locs hp hM => ?_)
    obtain ⟨hv_, hu_⟩ := hp
    have hu_ := hu_.symm
    subst hu_
    refine lv_istore (lv' := [(6, .int v3), (5, .int (nI 1)), (4, .int (nI j)), (3, .ref (sa S 2000)), (2, .ref (sa S o)), (1, .ref (sa S 0)), (0, .ref b)]) hx hb dL_law_787 hl (by decide) rfl (fun ls hl => ?_)
    have hIv := hI0.same ho (sam_tf I o 1) (VSame.rf V) hR.2.2.2.2.2
    have hth : tf I o 1 o 0 = nI 1 := by unfold tf; rw [va_up_self]; rfl
    refine law_tail (T := 789) (off := 826) ⟨dL_law_789, dL_law_790, dL_law_793, dL_law_795, dL_law_800, dL_law_802, dL_law_805, dL_law_806, dL_law_807, dL_law_808, dL_law_810, dL_law_811, dL_law_812, dL_law_817, by omega⟩ hx hb hml hown hts hM hIv.1.2.1 hIv.1.2.2 (k := 1) (by decide) (lv_sub hl [4, 3, 1, 0] rfl) hth (fun hz9 => absurd hz9 (by decide)) (by omega) (by omega) (fun H locs hM => ?_) rfl
    exact W.widen (by omega) (by omega) (K _ _ _ _ _ _ _ _ _ _ _ _ _ _ (by omega) hIv hM (lv_sub hl [2, 3, 4, 5, 6] rfl))
  · skip
    rcases rg_lh p1 1 6 (by decide) (by decide) with hq1 | ⟨rr, hrra, hrr, rfl⟩
    · skip
      have hw1 : p1 < 1 ∨ 6 < p1 := hq1
      refine fb_callW hx hb hml hown hts hM hE hNc (As := [.ref (sa S 0), .int (nI c9), .int p1, .int p2, .ref (sa S 2000)]) (rest := []) (c_L_addTick_IAE a0 D y l S V I h03 hO (nI c9) p1 p2 (c_X3_addTick_x1 a0 D y l hfl S V I ns nt es na hC cf rf df hF c9 hc9a hc9 p1 hw1 p2)) (vx_cwSW 5 hts gL_law_L_addTick rfl rfl rfl (by decide +kernel) ⟨Nat.le_of_ble_eq_true rfl, Nat.le_of_ble_eq_true rfl⟩) rfl hl.1 rfl (Nat.le_of_ble_eq_true rfl) dL_law_760 ⟨by omega, by omega⟩ (fun v1 u H locs hp hM => ?_)
      obtain ⟨hv_, hu_⟩ := hp
      have hv_ : v1 = nI 1 := hv_.trans (by decide)
      have hv_ := hv_.symm
      have hu_ := hu_.symm
      subst hv_
      subst hu_
      refine lv_istore (lv' := [(5, .int (nI 1)), (4, .int (nI j)), (3, .ref (sa S 2000)), (2, .ref (sa S o)), (1, .ref (sa S 0)), (0, .ref b)]) hx hb dL_law_763 hl (by decide) rfl (fun ls hl => ?_)
      refine lv_aload_n hx hb dL_law_765 rfl (lv_at hl 3 rfl) ?_
      refine law_arg hx hb hX hbl hbA hM.2.2.1 (lv_sub hl [5, 1] rfl) 1 (by decide) (by omega) hL2 hp0 dL_law_766 dL_law_767 dL_law_769 dL_law_770 dL_law_771 ?_
      refine law_arg hx hb hX hbl hbA hM.2.2.1 (lv_sub hl [5, 1] rfl) 2 (by decide) (by omega) hL2 hp1 dL_law_772 dL_law_773 dL_law_775 dL_law_776 dL_law_777 ?_
      refine law_arg hx hb hX hbl hbA hM.2.2.1 (lv_sub hl [5, 1] rfl) 3 (by decide) (by omega) hL2 hp2 dL_law_778 dL_law_779 dL_law_781 dL_law_782 dL_law_783 ?_
      refine fb_callVi (r := o) hx hb hml hown hts hM (hA.1.1) (ce4 (hA.1.2)) rfl (As := [.int (nI c9), .int p1, .int p2]) (rest := []) (CI.grow (mc' := 3) (ms' := 300) (c_X4_addTick_f1o D y l S V I o nt cf rf hA ns df hG c9 hc9a hc9 p1 hw1 p2) (Nat.zero_le _) (Nat.zero_le _)) (cwV 3 hts gL_law_X4_addTick rfl rfl rfl (by decide +kernel) ⟨Nat.le_of_ble_eq_true rfl, Nat.le_of_ble_eq_true rfl⟩) rfl hl.1 rfl (Nat.le_of_ble_eq_true rfl) dL_law_784 ⟨by omega, by omega⟩ (fun v3 u H locs hp hM => ?_)
      obtain ⟨hv_, hu_⟩ := hp
      have hu_ := hu_.symm
      subst hu_
      refine lv_istore (lv' := [(6, .int v3), (5, .int (nI 1)), (4, .int (nI j)), (3, .ref (sa S 2000)), (2, .ref (sa S o)), (1, .ref (sa S 0)), (0, .ref b)]) hx hb dL_law_787 hl (by decide) rfl (fun ls hl => ?_)
      have hIv := hI0.same ho (sam_tf I o 1) (VSame.rf V) hR.2.2.2.2.2
      have hth : tf I o 1 o 0 = nI 1 := by unfold tf; rw [va_up_self]; rfl
      refine law_tail (T := 789) (off := 826) ⟨dL_law_789, dL_law_790, dL_law_793, dL_law_795, dL_law_800, dL_law_802, dL_law_805, dL_law_806, dL_law_807, dL_law_808, dL_law_810, dL_law_811, dL_law_812, dL_law_817, by omega⟩ hx hb hml hown hts hM hIv.1.2.1 hIv.1.2.2 (k := 1) (by decide) (lv_sub hl [4, 3, 1, 0] rfl) hth (fun hz9 => absurd hz9 (by decide)) (by omega) (by omega) (fun H locs hM => ?_) rfl
      exact W.widen (by omega) (by omega) (K _ _ _ _ _ _ _ _ _ _ _ _ _ _ (by omega) hIv hM (lv_sub hl [2, 3, 4, 5, 6] rfl))
    · skip
      rcases rg_lh p2 1 9 (by decide) (by decide) with hq2 | ⟨dd, hdda, hdd, rfl⟩
      · skip
        have hw2 : p2 < 1 ∨ 9 < p2 := hq2
        refine fb_callW hx hb hml hown hts hM hE hNc (As := [.ref (sa S 0), .int (nI c9), .int (nI rr), .int p2, .ref (sa S 2000)]) (rest := []) (c_L_addTick_IAE a0 D y l S V I h03 hO (nI c9) (nI rr) p2 (c_X3_addTick_x2 a0 D y l hfl S V I ns nt es na hC cf rf df hF c9 hc9a hc9 rr hrra hrr p2 hw2)) (vx_cwSW 5 hts gL_law_L_addTick rfl rfl rfl (by decide +kernel) ⟨Nat.le_of_ble_eq_true rfl, Nat.le_of_ble_eq_true rfl⟩) rfl hl.1 rfl (Nat.le_of_ble_eq_true rfl) dL_law_760 ⟨by omega, by omega⟩ (fun v1 u H locs hp hM => ?_)
        obtain ⟨hv_, hu_⟩ := hp
        have hv_ : v1 = nI 1 := hv_.trans (by decide)
        have hv_ := hv_.symm
        have hu_ := hu_.symm
        subst hv_
        subst hu_
        refine lv_istore (lv' := [(5, .int (nI 1)), (4, .int (nI j)), (3, .ref (sa S 2000)), (2, .ref (sa S o)), (1, .ref (sa S 0)), (0, .ref b)]) hx hb dL_law_763 hl (by decide) rfl (fun ls hl => ?_)
        refine lv_aload_n hx hb dL_law_765 rfl (lv_at hl 3 rfl) ?_
        refine law_arg hx hb hX hbl hbA hM.2.2.1 (lv_sub hl [5, 1] rfl) 1 (by decide) (by omega) hL2 hp0 dL_law_766 dL_law_767 dL_law_769 dL_law_770 dL_law_771 ?_
        refine law_arg hx hb hX hbl hbA hM.2.2.1 (lv_sub hl [5, 1] rfl) 2 (by decide) (by omega) hL2 hp1 dL_law_772 dL_law_773 dL_law_775 dL_law_776 dL_law_777 ?_
        refine law_arg hx hb hX hbl hbA hM.2.2.1 (lv_sub hl [5, 1] rfl) 3 (by decide) (by omega) hL2 hp2 dL_law_778 dL_law_779 dL_law_781 dL_law_782 dL_law_783 ?_
        refine fb_callVi (r := o) hx hb hml hown hts hM (hA.1.1) (ce4 (hA.1.2)) rfl (As := [.int (nI c9), .int (nI rr), .int p2]) (rest := []) (CI.grow (mc' := 3) (ms' := 300) (c_X4_addTick_f2o D y l S V I o nt cf rf hA ns df hG c9 hc9a hc9 rr hrra hrr p2 hw2) (Nat.zero_le _) (Nat.zero_le _)) (cwV 3 hts gL_law_X4_addTick rfl rfl rfl (by decide +kernel) ⟨Nat.le_of_ble_eq_true rfl, Nat.le_of_ble_eq_true rfl⟩) rfl hl.1 rfl (Nat.le_of_ble_eq_true rfl) dL_law_784 ⟨by omega, by omega⟩ (fun v3 u H locs hp hM => ?_)
        obtain ⟨hv_, hu_⟩ := hp
        have hu_ := hu_.symm
        subst hu_
        refine lv_istore (lv' := [(6, .int v3), (5, .int (nI 1)), (4, .int (nI j)), (3, .ref (sa S 2000)), (2, .ref (sa S o)), (1, .ref (sa S 0)), (0, .ref b)]) hx hb dL_law_787 hl (by decide) rfl (fun ls hl => ?_)
        have hIv := hI0.same ho (sam_tf I o 1) (VSame.rf V) hR.2.2.2.2.2
        have hth : tf I o 1 o 0 = nI 1 := by unfold tf; rw [va_up_self]; rfl
        refine law_tail (T := 789) (off := 826) ⟨dL_law_789, dL_law_790, dL_law_793, dL_law_795, dL_law_800, dL_law_802, dL_law_805, dL_law_806, dL_law_807, dL_law_808, dL_law_810, dL_law_811, dL_law_812, dL_law_817, by omega⟩ hx hb hml hown hts hM hIv.1.2.1 hIv.1.2.2 (k := 1) (by decide) (lv_sub hl [4, 3, 1, 0] rfl) hth (fun hz9 => absurd hz9 (by decide)) (by omega) (by omega) (fun H locs hM => ?_) rfl
        exact W.widen (by omega) (by omega) (K _ _ _ _ _ _ _ _ _ _ _ _ _ _ (by omega) hIv hM (lv_sub hl [2, 3, 4, 5, 6] rfl))
      · skip
        by_cases h6 : nt = 6
        · skip
          refine fb_callW hx hb hml hown hts hM hE hNc (As := [.ref (sa S 0), .int (nI c9), .int (nI rr), .int (nI dd), .ref (sa S 2000)]) (rest := []) (c_L_addTick_ISE a0 D y l S V I h03 hO (nI c9) (nI rr) (nI dd) (c_X3_addTick_x3 a0 D y l hfl S V I ns nt es na hC cf rf df hF c9 hc9a hc9 rr hrra hrr dd hdda hdd h6)) (vx_cwSW 5 hts gL_law_L_addTick rfl rfl rfl (by decide +kernel) ⟨Nat.le_of_ble_eq_true rfl, Nat.le_of_ble_eq_true rfl⟩) rfl hl.1 rfl (Nat.le_of_ble_eq_true rfl) dL_law_760 ⟨by omega, by omega⟩ (fun v1 u H locs hp hM => ?_)
          obtain ⟨hv_, hu_⟩ := hp
          have hv_ : v1 = nI 2 := hv_.trans (by decide)
          have hv_ := hv_.symm
          have hu_ := hu_.symm
          subst hv_
          subst hu_
          refine lv_istore (lv' := [(5, .int (nI 2)), (4, .int (nI j)), (3, .ref (sa S 2000)), (2, .ref (sa S o)), (1, .ref (sa S 0)), (0, .ref b)]) hx hb dL_law_763 hl (by decide) rfl (fun ls hl => ?_)
          refine lv_aload_n hx hb dL_law_765 rfl (lv_at hl 3 rfl) ?_
          refine law_arg hx hb hX hbl hbA hM.2.2.1 (lv_sub hl [5, 1] rfl) 1 (by decide) (by omega) hL2 hp0 dL_law_766 dL_law_767 dL_law_769 dL_law_770 dL_law_771 ?_
          refine law_arg hx hb hX hbl hbA hM.2.2.1 (lv_sub hl [5, 1] rfl) 2 (by decide) (by omega) hL2 hp1 dL_law_772 dL_law_773 dL_law_775 dL_law_776 dL_law_777 ?_
          refine law_arg hx hb hX hbl hbA hM.2.2.1 (lv_sub hl [5, 1] rfl) 3 (by decide) (by omega) hL2 hp2 dL_law_778 dL_law_779 dL_law_781 dL_law_782 dL_law_783 ?_
          refine fb_callVi (r := o) hx hb hml hown hts hM (hA.1.1) (ce4 (hA.1.2)) rfl (As := [.int (nI c9), .int (nI rr), .int (nI dd)]) (rest := []) (CI.grow (mc' := 3) (ms' := 300) (c_X4_addTick_f3o D y l S V I o nt cf rf hA ns df hG c9 hc9a hc9 rr hrra hrr dd hdda hdd h6) (Nat.zero_le _) (Nat.zero_le _)) (cwV 3 hts gL_law_X4_addTick rfl rfl rfl (by decide +kernel) ⟨Nat.le_of_ble_eq_true rfl, Nat.le_of_ble_eq_true rfl⟩) rfl hl.1 rfl (Nat.le_of_ble_eq_true rfl) dL_law_784 ⟨by omega, by omega⟩ (fun v3 u H locs hp hM => ?_)
          obtain ⟨hv_, hu_⟩ := hp
          have hu_ := hu_.symm
          subst hu_
          refine lv_istore (lv' := [(6, .int v3), (5, .int (nI 2)), (4, .int (nI j)), (3, .ref (sa S 2000)), (2, .ref (sa S o)), (1, .ref (sa S 0)), (0, .ref b)]) hx hb dL_law_787 hl (by decide) rfl (fun ls hl => ?_)
          have hIv := hI0.same ho (sam_tf I o 2) (VSame.rf V) hR.2.2.2.2.2
          have hth : tf I o 2 o 0 = nI 2 := by unfold tf; rw [va_up_self]; rfl
          refine law_tail (T := 789) (off := 826) ⟨dL_law_789, dL_law_790, dL_law_793, dL_law_795, dL_law_800, dL_law_802, dL_law_805, dL_law_806, dL_law_807, dL_law_808, dL_law_810, dL_law_811, dL_law_812, dL_law_817, by omega⟩ hx hb hml hown hts hM hIv.1.2.1 hIv.1.2.2 (k := 2) (by decide) (lv_sub hl [4, 3, 1, 0] rfl) hth (fun hz9 => absurd hz9 (by decide)) (by omega) (by omega) (fun H locs hM => ?_) rfl
          exact W.widen (by omega) (by omega) (K _ _ _ _ _ _ _ _ _ _ _ _ _ _ (by omega) hIv hM (lv_sub hl [2, 3, 4, 5, 6] rfl))
        · skip
          have hlt : nt < 6 := by omega
          obtain ⟨fr1, fr2, fr3, fr4⟩ := hFr.2.2.2.2.1 nt (Nat.le_refl _) hlt
          have hes : es = 4 ∨ es = 6 := by rcases Nat.lt_or_ge 10 ns with q9 | q9; exact Or.inr (hEs.2 q9).1; exact Or.inl (hEs.1 q9).1
          rcases (show nt = 0 ∨ 0 < nt by omega) with h0 | hpos
          · skip
            refine fb_callW hx hb hml hown hts hM hE hNc (As := [.ref (sa S 0), .int (nI c9), .int (nI rr), .int (nI dd), .ref (sa S 2000)]) (rest := []) (c_L_addTick_ok a0 D y l S V I h03 hO (nI c9) (nI rr) (nI dd) (c_X3_addTick_0 a0 D y l S V I ns nt es na hC cf rf df hF c9 hc9a hc9 rr hrra hrr dd hdda hdd hlt hes fr1 fr2 h0 (hFr.2.1 h0)) (fun v u hq => by obtain ⟨_, S2, hq, _, hX9⟩ := hq; subst hq; exact ⟨hO.ext hX9 (by omega), AA.ext hX9 (by omega)⟩)) (vx_cwSW 5 hts gL_law_L_addTick rfl rfl rfl (by decide +kernel) ⟨Nat.le_of_ble_eq_true rfl, Nat.le_of_ble_eq_true rfl⟩) rfl hl.1 rfl (Nat.le_of_ble_eq_true rfl) dL_law_760 ⟨by omega, by omega⟩ (fun v1 u H locs hp hM => ?_)
            obtain ⟨hv_, v2, u1, hq, hu_⟩ := hp
            have hv_ : v1 = nI 0 := hv_
            have hv_ := hv_.symm
            subst hv_
            obtain ⟨hq1, S2, hq2, hC2, hX2⟩ := hq
            subst hq2
            subst hq1
            obtain ⟨J, eJ⟩ : ∃ J, J = va_up (va_up (itk I nt c9 rr dd) 2 (upd (upd (I 2) 0 (I 2 0 + 1)) 2 (nI (nt + 1)))) 2000 (upd ((va_up (itk I nt c9 rr dd) 2 (upd (upd (I 2) 0 (I 2 0 + 1)) 2 (nI (nt + 1)))) 2000) 0 (nI nt)) := ⟨_, rfl⟩
            have hM : fb_M D y A s (S2, (zV V (300 + 72 * nt) 36), (sT (zV V (300 + 72 * nt) 36)), J) H locs := by rw [hu_] at hM; rw [eJ]; exact hM
            have hG2 : MF J o ns nt cf rf df := by rw [eJ]; exact mfc hG (by simp (discharger := omega) only [va_up_ne, itk_out]) (by simp (discharger := omega) only [va_up_ne, itk_out]) (by simp (discharger := omega) only [va_up_ne, itk_out]) (by simp (discharger := omega) only [va_up_ne, itk_out])
            have hA := hA.ext hX2 hnt (fun x a b => by omega) (fun t ht => ⟨by omega, by omega⟩)
            rw [← (AA.ext hX2 (by omega) : sa S2 0 = sa S 0), ← (AA.ext hX2 (by omega) : sa S2 o = sa S o), ← (AA.ext hX2 (by omega) : sa S2 2000 = sa S 2000)] at hl
            refine lv_istore (lv' := [(5, .int (nI 0)), (4, .int (nI j)), (3, .ref (sa S2 2000)), (2, .ref (sa S2 o)), (1, .ref (sa S2 0)), (0, .ref b)]) hx hb dL_law_763 hl (by decide) rfl (fun ls hl => ?_)
            refine lv_aload_n hx hb dL_law_765 rfl (lv_at hl 3 rfl) ?_
            refine law_arg hx hb hX hbl hbA hM.2.2.1 (lv_sub hl [5, 1] rfl) 1 (by decide) (by omega) hL2 hp0 dL_law_766 dL_law_767 dL_law_769 dL_law_770 dL_law_771 ?_
            refine law_arg hx hb hX hbl hbA hM.2.2.1 (lv_sub hl [5, 1] rfl) 2 (by decide) (by omega) hL2 hp1 dL_law_772 dL_law_773 dL_law_775 dL_law_776 dL_law_777 ?_
            refine law_arg hx hb hX hbl hbA hM.2.2.1 (lv_sub hl [5, 1] rfl) 3 (by decide) (by omega) hL2 hp2 dL_law_778 dL_law_779 dL_law_781 dL_law_782 dL_law_783 ?_
            refine fb_callVi (r := o) hx hb hml hown hts hM (hA.1.1) (ce4 (hA.1.2)) rfl (As := [.int (nI c9), .int (nI rr), .int (nI dd)]) (rest := []) (c_X4_addTick_ok D y l S2 (zV V (300 + 72 * nt) 36) J o nt cf rf hA ns df hG2 c9 hc9a hc9 rr hrra hrr dd hdda hdd hlt (NA.ext hX2 (by omega) fr3) (NA.ext hX2 (by omega) fr4) (NA.ext hX2 (by omega) hFr.2.2.2.2.2.2)) (cwV 3 hts gL_law_X4_addTick rfl rfl rfl (by decide +kernel) ⟨Nat.le_of_ble_eq_true rfl, Nat.le_of_ble_eq_true rfl⟩) rfl hl.1 rfl (Nat.le_of_ble_eq_true rfl) dL_law_784 ⟨by omega, by omega⟩ (fun v3 u H locs hp hM => ?_)
            obtain ⟨hv_, S3, I3, hu_, hA3, hX3, h31, hI3⟩ := hp
            have hu_ := hu_.symm
            subst hu_
            rw [← (AA.ext hX3 (by omega) : sa S3 0 = sa S2 0), ← (AA.ext hX3 (by omega) : sa S3 o = sa S2 o), ← (AA.ext hX3 (by omega) : sa S3 2000 = sa S2 2000)] at hl
            refine lv_istore (lv' := [(6, .int v3), (5, .int (nI 0)), (4, .int (nI j)), (3, .ref (sa S3 2000)), (2, .ref (sa S3 o)), (1, .ref (sa S3 0)), (0, .ref b)]) hx hb dL_law_787 hl (by decide) rfl (fun ls hl => ?_)
            have hth : I3 o 0 = nI 0 := by rw [hI3 o (by omega)]; unfold tkI; rw [va_up_self]; exact (if_neg (by decide)).trans (t0_z J o)
            have hIv : Iv a0.1 S3 (zV V (300 + 72 * nt) 36) I3 o ns (nt + 1) es na (va_up cf nt c9) (va_up rf nt rr) (va_up df nt dd) N := Iv.addTick ho hI0 hlt hc9a hc9 hrra hrr hdda hdd hC2 hX2 hA3 hX3 h31 rfl (by rw [hI3 _ (by omega)]; unfold tkI; rw [eJ]; unfold itk; simp (discharger := omega) only [va_up_ne, va_up_self, t0_ne]) (by rw [hI3 _ (by omega)]; unfold tkI; rw [eJ]; unfold itk; simp (discharger := omega) only [va_up_ne, va_up_self, t0_ne]) (by rw [hI3 _ (by omega)]; unfold tkI; rw [eJ]; unfold itk; simp (discharger := omega) only [va_up_ne, va_up_self, t0_ne]; rfl) (by rw [hI3 _ (by omega)]; unfold tkI; rw [eJ]; unfold itk; simp (discharger := omega) only [va_up_ne, va_up_self, t0_ne]) (by rw [hI3 _ (by omega)]; unfold tkI; rw [eJ]; unfold itk; simp (discharger := omega) only [va_up_ne, va_up_self, t0_ne]) (mfc (mf_succ hG2 hlt ⟨hc9a, hc9⟩ ⟨hrra, hrr⟩ ⟨hdda, hdd⟩) (congrFun (hI3 o (by omega)) 1) (congrFun (hI3 o (by omega)) 6) (hI3 (o + 4) (by omega)) (hI3 (o + 2) (by omega))) (fun j9 h9 k9 => by rw [hI3 o (by omega)]; unfold tkI; rw [va_up_self]; exact (if_neg k9).trans ((t0_f J o h9).trans (by rw [eJ]; simp (discharger := omega) only [va_up_ne, itk_out]))) (fun x9 a9 b9 c9 d9 e9 f9 g9 h9 => by rw [hI3 x9 f9]; unfold tkI; rw [eJ]; unfold itk; simp (discharger := omega) only [va_up_ne, t0_ne])
            refine law_tail (T := 789) (off := 826) ⟨dL_law_789, dL_law_790, dL_law_793, dL_law_795, dL_law_800, dL_law_802, dL_law_805, dL_law_806, dL_law_807, dL_law_808, dL_law_810, dL_law_811, dL_law_812, dL_law_817, by omega⟩ hx hb hml hown hts hM hIv.1.2.1 hIv.1.2.2 (k := 0) (by decide) (lv_sub hl [4, 3, 1, 0] rfl) hth (fun hz9 => (show I3 2000 0 = nI nt from by rw [hI3 2000 (by omega)]; unfold tkI; rw [eJ]; simp (discharger := omega) only [va_up_ne, va_up_self, t0_ne]; exact if_pos rfl).trans hv_.symm) (by omega) (by omega) (fun H locs hM => ?_) rfl
            exact W.widen (by omega) (by omega) (K _ _ _ _ _ _ _ _ _ _ _ _ _ _ (by omega) hIv hM (lv_sub hl [2, 3, 4, 5, 6] rfl))
          · skip
            refine fb_callW hx hb hml hown hts hM hE hNc (As := [.ref (sa S 0), .int (nI c9), .int (nI rr), .int (nI dd), .ref (sa S 2000)]) (rest := []) (c_L_addTick_ok a0 D y l S V I h03 hO (nI c9) (nI rr) (nI dd) (c_X3_addTick_n a0 D y l S V I ns nt es na hC cf rf df hF c9 hc9a hc9 rr hrra hrr dd hdda hdd hlt hes fr1 fr2 hpos) (fun v u hq => by obtain ⟨_, S2, hq, _, hX9⟩ := hq; subst hq; exact ⟨hO.ext hX9 (by omega), AA.ext hX9 (by omega)⟩)) (vx_cwSW 5 hts gL_law_L_addTick rfl rfl rfl (by decide +kernel) ⟨Nat.le_of_ble_eq_true rfl, Nat.le_of_ble_eq_true rfl⟩) rfl hl.1 rfl (Nat.le_of_ble_eq_true rfl) dL_law_760 ⟨by omega, by omega⟩ (fun v1 u H locs hp hM => ?_)
            obtain ⟨hv_, v2, u1, hq, hu_⟩ := hp
            have hv_ : v1 = nI 0 := hv_
            have hv_ := hv_.symm
            subst hv_
            obtain ⟨hq1, S2, hq2, hC2, hX2⟩ := hq
            subst hq2
            subst hq1
            obtain ⟨J, eJ⟩ : ∃ J, J = va_up (va_up (itk I nt c9 rr dd) 2 (upd (upd (I 2) 0 (I 2 0 + 1)) 2 (nI (nt + 1)))) 2000 (upd ((va_up (itk I nt c9 rr dd) 2 (upd (upd (I 2) 0 (I 2 0 + 1)) 2 (nI (nt + 1)))) 2000) 0 (nI nt)) := ⟨_, rfl⟩
            have hM : fb_M D y A s (S2, (zV V (300 + 72 * nt) 36), (sT (zV V (300 + 72 * nt) 36)), J) H locs := by rw [hu_] at hM; rw [eJ]; exact hM
            have hG2 : MF J o ns nt cf rf df := by rw [eJ]; exact mfc hG (by simp (discharger := omega) only [va_up_ne, itk_out]) (by simp (discharger := omega) only [va_up_ne, itk_out]) (by simp (discharger := omega) only [va_up_ne, itk_out]) (by simp (discharger := omega) only [va_up_ne, itk_out])
            have hA := hA.ext hX2 hnt (fun x a b => by omega) (fun t ht => ⟨by omega, by omega⟩)
            rw [← (AA.ext hX2 (by omega) : sa S2 0 = sa S 0), ← (AA.ext hX2 (by omega) : sa S2 o = sa S o), ← (AA.ext hX2 (by omega) : sa S2 2000 = sa S 2000)] at hl
            refine lv_istore (lv' := [(5, .int (nI 0)), (4, .int (nI j)), (3, .ref (sa S2 2000)), (2, .ref (sa S2 o)), (1, .ref (sa S2 0)), (0, .ref b)]) hx hb dL_law_763 hl (by decide) rfl (fun ls hl => ?_)
            refine lv_aload_n hx hb dL_law_765 rfl (lv_at hl 3 rfl) ?_
            refine law_arg hx hb hX hbl hbA hM.2.2.1 (lv_sub hl [5, 1] rfl) 1 (by decide) (by omega) hL2 hp0 dL_law_766 dL_law_767 dL_law_769 dL_law_770 dL_law_771 ?_
            refine law_arg hx hb hX hbl hbA hM.2.2.1 (lv_sub hl [5, 1] rfl) 2 (by decide) (by omega) hL2 hp1 dL_law_772 dL_law_773 dL_law_775 dL_law_776 dL_law_777 ?_
            refine law_arg hx hb hX hbl hbA hM.2.2.1 (lv_sub hl [5, 1] rfl) 3 (by decide) (by omega) hL2 hp2 dL_law_778 dL_law_779 dL_law_781 dL_law_782 dL_law_783 ?_
            refine fb_callVi (r := o) hx hb hml hown hts hM (hA.1.1) (ce4 (hA.1.2)) rfl (As := [.int (nI c9), .int (nI rr), .int (nI dd)]) (rest := []) (c_X4_addTick_ok D y l S2 (zV V (300 + 72 * nt) 36) J o nt cf rf hA ns df hG2 c9 hc9a hc9 rr hrra hrr dd hdda hdd hlt (NA.ext hX2 (by omega) fr3) (NA.ext hX2 (by omega) fr4) (NA.ext hX2 (by omega) hFr.2.2.2.2.2.2)) (cwV 3 hts gL_law_X4_addTick rfl rfl rfl (by decide +kernel) ⟨Nat.le_of_ble_eq_true rfl, Nat.le_of_ble_eq_true rfl⟩) rfl hl.1 rfl (Nat.le_of_ble_eq_true rfl) dL_law_784 ⟨by omega, by omega⟩ (fun v3 u H locs hp hM => ?_)
            obtain ⟨hv_, S3, I3, hu_, hA3, hX3, h31, hI3⟩ := hp
            have hu_ := hu_.symm
            subst hu_
            rw [← (AA.ext hX3 (by omega) : sa S3 0 = sa S2 0), ← (AA.ext hX3 (by omega) : sa S3 o = sa S2 o), ← (AA.ext hX3 (by omega) : sa S3 2000 = sa S2 2000)] at hl
            refine lv_istore (lv' := [(6, .int v3), (5, .int (nI 0)), (4, .int (nI j)), (3, .ref (sa S3 2000)), (2, .ref (sa S3 o)), (1, .ref (sa S3 0)), (0, .ref b)]) hx hb dL_law_787 hl (by decide) rfl (fun ls hl => ?_)
            have hth : I3 o 0 = nI 0 := by rw [hI3 o (by omega)]; unfold tkI; rw [va_up_self]; exact (if_neg (by decide)).trans (t0_z J o)
            have hIv : Iv a0.1 S3 (zV V (300 + 72 * nt) 36) I3 o ns (nt + 1) es na (va_up cf nt c9) (va_up rf nt rr) (va_up df nt dd) N := Iv.addTick ho hI0 hlt hc9a hc9 hrra hrr hdda hdd hC2 hX2 hA3 hX3 h31 rfl (by rw [hI3 _ (by omega)]; unfold tkI; rw [eJ]; unfold itk; simp (discharger := omega) only [va_up_ne, va_up_self, t0_ne]) (by rw [hI3 _ (by omega)]; unfold tkI; rw [eJ]; unfold itk; simp (discharger := omega) only [va_up_ne, va_up_self, t0_ne]) (by rw [hI3 _ (by omega)]; unfold tkI; rw [eJ]; unfold itk; simp (discharger := omega) only [va_up_ne, va_up_self, t0_ne]; rfl) (by rw [hI3 _ (by omega)]; unfold tkI; rw [eJ]; unfold itk; simp (discharger := omega) only [va_up_ne, va_up_self, t0_ne]) (by rw [hI3 _ (by omega)]; unfold tkI; rw [eJ]; unfold itk; simp (discharger := omega) only [va_up_ne, va_up_self, t0_ne]) (mfc (mf_succ hG2 hlt ⟨hc9a, hc9⟩ ⟨hrra, hrr⟩ ⟨hdda, hdd⟩) (congrFun (hI3 o (by omega)) 1) (congrFun (hI3 o (by omega)) 6) (hI3 (o + 4) (by omega)) (hI3 (o + 2) (by omega))) (fun j9 h9 k9 => by rw [hI3 o (by omega)]; unfold tkI; rw [va_up_self]; exact (if_neg k9).trans ((t0_f J o h9).trans (by rw [eJ]; simp (discharger := omega) only [va_up_ne, itk_out]))) (fun x9 a9 b9 c9 d9 e9 f9 g9 h9 => by rw [hI3 x9 f9]; unfold tkI; rw [eJ]; unfold itk; simp (discharger := omega) only [va_up_ne, t0_ne])
            refine law_tail (T := 789) (off := 826) ⟨dL_law_789, dL_law_790, dL_law_793, dL_law_795, dL_law_800, dL_law_802, dL_law_805, dL_law_806, dL_law_807, dL_law_808, dL_law_810, dL_law_811, dL_law_812, dL_law_817, by omega⟩ hx hb hml hown hts hM hIv.1.2.1 hIv.1.2.2 (k := 0) (by decide) (lv_sub hl [4, 3, 1, 0] rfl) hth (fun hz9 => (show I3 2000 0 = nI nt from by rw [hI3 2000 (by omega)]; unfold tkI; rw [eJ]; simp (discharger := omega) only [va_up_ne, va_up_self, t0_ne]; exact if_pos rfl).trans hv_.symm) (by omega) (by omega) (fun H locs hM => ?_) rfl
            exact W.widen (by omega) (by omega) (K _ _ _ _ _ _ _ _ _ _ _ _ _ _ (by omega) hIv hM (lv_sub hl [2, 3, 4, 5, 6] rfl))
end LAWS
