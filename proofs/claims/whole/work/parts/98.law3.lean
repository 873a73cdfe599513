section LAWS
variable {p : Program} {l : Launch} {e : Env} {s : State} {m : MethodId} {args : Array Value} {below : List Frame} {meth : Method} {c : Code} {H : Heap} {locs : List Loc} {cells slots : Nat} {Q : State → Prop} {D : va_G} {A : Nat → Prop} {y : Nat → ClassId} {a0 : Nat × Nat} {b L : Nat} {xs : Nat → Int32} {S : fb_Sh} {V I : fb_V} {ls : Array Slot}
set_option maxHeartbeats 4000000 in
set_option maxRecDepth 100000 in
theorem stp_put (hL : Lw p l s m args c D A y a0 b L xs) {o j ns nt es na N : Nat} {cf rf df : Nat → Nat} (hM : fb_M D y A s (S, V, (sT V), I) H locs) (hI : Iv a0.1 S V I o ns nt es na cf rf df N) (ho : o = 1000) (hj : j + 5 ≤ L) (hN : N ≤ 1600000) (hc : cells + 1100 ≤ room_1.cells) (hs : slots + 14000 ≤ room_1.slots) (hl : lv_has ls 9 [(4, .int (nI j)), (3, .ref (sa S 2000)), (2, .ref (sa S o)), (1, .ref (sa S 0)), (0, .ref b)]) (K : Kont p l e s m args below meth c Q D A y a0.1 o b j N cells slots) : W p l e room_1 s m args below meth c H locs cells slots Q (F0 m 196 ls []) := by
  obtain ⟨hx, hb, hml, hown, hts, hE, hNc, hfl, hX, hbl, hbA, hL2⟩ := hL
  have hI0 := hI
  obtain ⟨⟨hC, hA, hO⟩, ⟨hEs, hFr⟩, ⟨hF, hG⟩, hR⟩ := hI
  have hns : ns ≤ 12 := hF.2.2.1
  have hnt : nt ≤ 6 := hF.2.2.2.1
  have h03 : 0 ∈ sR S ∧ sk S 0 = 3 := hC.1
  obtain ⟨p0, hp0⟩ : ∃ v, xs (j + 1) = v := ⟨_, rfl⟩
  obtain ⟨p1, hp1⟩ : ∃ v, xs (j + 2) = v := ⟨_, rfl⟩
  obtain ⟨p2, hp2⟩ : ∃ v, xs (j + 3) = v := ⟨_, rfl⟩
  refine lv_aload_n hx hb dL_law_196 rfl (lv_at hl 3 rfl) ?_
  refine law_arg hx hb hX hbl hbA hM.2.2.1 (lv_sub hl [4, 0] rfl) 1 (by decide) (by omega) hL2 hp0 dL_law_197 dL_law_198 dL_law_200 dL_law_201 dL_law_202 ?_
  refine law_arg hx hb hX hbl hbA hM.2.2.1 (lv_sub hl [4, 0] rfl) 2 (by decide) (by omega) hL2 hp1 dL_law_203 dL_law_204 dL_law_206 dL_law_207 dL_law_208 ?_
  refine law_arg hx hb hX hbl hbA hM.2.2.1 (lv_sub hl [4, 0] rfl) 3 (by decide) (by omega) hL2 hp2 dL_law_209 dL_law_210 dL_law_212 dL_law_213 dL_law_214 ?_
  refine lv_aload_n hx hb dL_law_215 rfl (lv_at hl 1 rfl) ?_
  rcases rg_ix p0 (n := ns) (by omega) with hq0 | ⟨i, hi, rfl⟩
  · skip
    refine fb_callW hx hb hml hown hts hM hE hNc (As := [.ref (sa S 0), .int p0, .int p1, .int p2, .ref (sa S 2000)]) (rest := []) (c_L_put_IOE a0 D y l S V I h03 hO p0 p1 p2 (c_X3_put_x0 a0 D y l hfl S V I a0.1 ns nt es na hC cf rf df hF p0 hq0 p1 p2)) (vx_cwSW 5 hts gL_law_L_put rfl rfl rfl (by decide +kernel) ⟨Nat.le_of_ble_eq_true rfl, Nat.le_of_ble_eq_true rfl⟩) rfl hl.1 rfl (Nat.le_of_ble_eq_true rfl) dL_law_216 ⟨by omega, by omega⟩ (fun v1 u H locs hp hM => ?_)
    obtain ⟨hv_, hu_⟩ := hp
    have hv_ : v1 = nI 1 := hv_.trans (by decide)
    have hv_ := hv_.symm
    have hu_ := hu_.symm
    subst hv_
    subst hu_
    refine lv_istore (lv' := [(5, .int (nI 1)), (4, .int (nI j)), (3, .ref (sa S 2000)), (2, .ref (sa S o)), (1, .ref (sa S 0)), (0, .ref b)]) hx hb dL_law_219 hl (by decide) rfl (fun ls hl => ?_)
    refine lv_aload_n hx hb dL_law_221 rfl (lv_at hl 3 rfl) ?_
    refine law_arg hx hb hX hbl hbA hM.2.2.1 (lv_sub hl [5, 1] rfl) 1 (by decide) (by omega) hL2 hp0 dL_law_222 dL_law_223 dL_law_225 dL_law_226 dL_law_227 ?_
    refine law_arg hx hb hX hbl hbA hM.2.2.1 (lv_sub hl [5, 1] rfl) 2 (by decide) (by omega) hL2 hp1 dL_law_228 dL_law_229 dL_law_231 dL_law_232 dL_law_233 ?_
    refine law_arg hx hb hX hbl hbA hM.2.2.1 (lv_sub hl [5, 1] rfl) 3 (by decide) (by omega) hL2 hp2 dL_law_234 dL_law_235 dL_law_237 dL_law_238 dL_law_239 ?_
    refine fb_callVi (r := o) hx hb hml hown hts hM (hA.1.1) (ce4 (hA.1.2)) rfl (As := [.int p0, .int p1, .int p2]) (rest := []) (c_X4_put_f0o D y l S V I o nt cf rf hA ns df hG p0 hq0 p1 p2) (cwV 3 hts gL_law_X4_put rfl rfl rfl (by decide +kernel) ⟨Nat.le_of_ble_eq_true rfl, Nat.le_of_ble_eq_true rfl⟩) rfl hl.1 rfl (Nat.le_of_ble_eq_true rfl) dL_law_240 ⟨by omega, by omega⟩ (fun v3 u H locs hp hM => ?_)
    obtain ⟨hv_, hu_⟩ := hp
    have hu_ := hu_.symm
    subst hu_
    refine lv_istore (lv' := [(6, .int v3), (5, .int (nI 1)), (4, .int (nI j)), (3, .ref (sa S 2000)), (2, .ref (sa S o)), (1, .ref (sa S 0)), (0, .ref b)]) hx hb dL_law_243 hl (by decide) rfl (fun ls hl => ?_)
    have hIv := hI0.same ho (sam_tf I o 1) (VSame.rf V) hR.2.2.2.2.2
    have hth : tf I o 1 o 0 = nI 1 := by unfold tf; rw [va_up_self]; rfl
    refine law_tail (T := 245) (off := 1370) ⟨dL_law_245, dL_law_246, dL_law_249, dL_law_251, dL_law_256, dL_law_258, dL_law_261, dL_law_262, dL_law_263, dL_law_264, dL_law_266, dL_law_267, dL_law_268, dL_law_273, by omega⟩ hx hb hml hown hts hM hIv.1.2.1 hIv.1.2.2 (k := 1) (by decide) (lv_sub hl [4, 3, 1, 0] rfl) hth (fun hz9 => absurd hz9 (by decide)) (by omega) (by omega) (fun H locs hM => ?_) rfl
    exact W.widen (by omega) (by omega) (K _ _ _ _ _ _ _ _ _ _ _ _ _ _ (by omega) hIv hM (lv_sub hl [2, 3, 4, 5, 6] rfl))
  · skip
    rcases rg_ix p1 (n := 6) (by decide) with hq1 | ⟨k, hk, rfl⟩
    · skip
      have hr1 : p1 < 0 ∨ 5 < p1 := hq1.imp id (fun z => Int32.lt_of_lt_of_le (by decide) z)
      have hw1 : p1 < 0 ∨ 6 ≤ p1 := hq1
      refine fb_callW hx hb hml hown hts hM hE hNc (As := [.ref (sa S 0), .int (nI i), .int p1, .int p2, .ref (sa S 2000)]) (rest := []) (c_L_put_IOE a0 D y l S V I h03 hO (nI i) p1 p2 (c_X3_put_x1 a0 D y l hfl S V I a0.1 ns nt es na hC cf rf df hF i hi p1 hw1 p2)) (vx_cwSW 5 hts gL_law_L_put rfl rfl rfl (by decide +kernel) ⟨Nat.le_of_ble_eq_true rfl, Nat.le_of_ble_eq_true rfl⟩) rfl hl.1 rfl (Nat.le_of_ble_eq_true rfl) dL_law_216 ⟨by omega, by omega⟩ (fun v1 u H locs hp hM => ?_)
      obtain ⟨hv_, hu_⟩ := hp
      have hv_ : v1 = nI 1 := hv_.trans (by decide)
      have hv_ := hv_.symm
      have hu_ := hu_.symm
      subst hv_
      subst hu_
      refine lv_istore (lv' := [(5, .int (nI 1)), (4, .int (nI j)), (3, .ref (sa S 2000)), (2, .ref (sa S o)), (1, .ref (sa S 0)), (0, .ref b)]) hx hb dL_law_219 hl (by decide) rfl (fun ls hl => ?_)
      refine lv_aload_n hx hb dL_law_221 rfl (lv_at hl 3 rfl) ?_
      refine law_arg hx hb hX hbl hbA hM.2.2.1 (lv_sub hl [5, 1] rfl) 1 (by decide) (by omega) hL2 hp0 dL_law_222 dL_law_223 dL_law_225 dL_law_226 dL_law_227 ?_
      refine law_arg hx hb hX hbl hbA hM.2.2.1 (lv_sub hl [5, 1] rfl) 2 (by decide) (by omega) hL2 hp1 dL_law_228 dL_law_229 dL_law_231 dL_law_232 dL_law_233 ?_
      refine law_arg hx hb hX hbl hbA hM.2.2.1 (lv_sub hl [5, 1] rfl) 3 (by decide) (by omega) hL2 hp2 dL_law_234 dL_law_235 dL_law_237 dL_law_238 dL_law_239 ?_
      refine fb_callVi (r := o) hx hb hml hown hts hM (hA.1.1) (ce4 (hA.1.2)) rfl (As := [.int (nI i), .int p1, .int p2]) (rest := []) (c_X4_put_f1o D y l S V I o nt cf rf hA ns df hG i hi p1 hr1 p2) (cwV 3 hts gL_law_X4_put rfl rfl rfl (by decide +kernel) ⟨Nat.le_of_ble_eq_true rfl, Nat.le_of_ble_eq_true rfl⟩) rfl hl.1 rfl (Nat.le_of_ble_eq_true rfl) dL_law_240 ⟨by omega, by omega⟩ (fun v3 u H locs hp hM => ?_)
      obtain ⟨hv_, hu_⟩ := hp
      have hu_ := hu_.symm
      subst hu_
      refine lv_istore (lv' := [(6, .int v3), (5, .int (nI 1)), (4, .int (nI j)), (3, .ref (sa S 2000)), (2, .ref (sa S o)), (1, .ref (sa S 0)), (0, .ref b)]) hx hb dL_law_243 hl (by decide) rfl (fun ls hl => ?_)
      have hIv := hI0.same ho (sam_tf I o 1) (VSame.rf V) hR.2.2.2.2.2
      have hth : tf I o 1 o 0 = nI 1 := by unfold tf; rw [va_up_self]; rfl
      refine law_tail (T := 245) (off := 1370) ⟨dL_law_245, dL_law_246, dL_law_249, dL_law_251, dL_law_256, dL_law_258, dL_law_261, dL_law_262, dL_law_263, dL_law_264, dL_law_266, dL_law_267, dL_law_268, dL_law_273, by omega⟩ hx hb hml hown hts hM hIv.1.2.1 hIv.1.2.2 (k := 1) (by decide) (lv_sub hl [4, 3, 1, 0] rfl) hth (fun hz9 => absurd hz9 (by decide)) (by omega) (by omega) (fun H locs hM => ?_) rfl
      exact W.widen (by omega) (by omega) (K _ _ _ _ _ _ _ _ _ _ _ _ _ _ (by omega) hIv hM (lv_sub hl [2, 3, 4, 5, 6] rfl))
    · skip
      rcases rg_lh p2 1 500 (by decide) (by decide) with hq2 | ⟨w, hwa, hw, rfl⟩
      · skip
        have hw2 : p2 < 1 ∨ 500 < p2 := hq2
        refine fb_callW hx hb hml hown hts hM hE hNc (As := [.ref (sa S 0), .int (nI i), .int (nI k), .int p2, .ref (sa S 2000)]) (rest := []) (c_L_put_IAE a0 D y l S V I h03 hO (nI i) (nI k) p2 (c_X3_put_x2 a0 D y l hfl S V I a0.1 ns nt es na hC cf rf df hF i hi k hk p2 hw2)) (vx_cwSW 5 hts gL_law_L_put rfl rfl rfl (by decide +kernel) ⟨Nat.le_of_ble_eq_true rfl, Nat.le_of_ble_eq_true rfl⟩) rfl hl.1 rfl (Nat.le_of_ble_eq_true rfl) dL_law_216 ⟨by omega, by omega⟩ (fun v1 u H locs hp hM => ?_)
        obtain ⟨hv_, hu_⟩ := hp
        have hv_ : v1 = nI 2 := hv_.trans (by decide)
        have hv_ := hv_.symm
        have hu_ := hu_.symm
        subst hv_
        subst hu_
        refine lv_istore (lv' := [(5, .int (nI 2)), (4, .int (nI j)), (3, .ref (sa S 2000)), (2, .ref (sa S o)), (1, .ref (sa S 0)), (0, .ref b)]) hx hb dL_law_219 hl (by decide) rfl (fun ls hl => ?_)
        refine lv_aload_n hx hb dL_law_221 rfl (lv_at hl 3 rfl) ?_
        refine law_arg hx hb hX hbl hbA hM.2.2.1 (lv_sub hl [5, 1] rfl) 1 (by decide) (by omega) hL2 hp0 dL_law_222 dL_law_223 dL_law_225 dL_law_226 dL_law_227 ?_
        refine law_arg hx hb hX hbl hbA hM.2.2.1 (lv_sub hl [5, 1] rfl) 2 (by decide) (by omega) hL2 hp1 dL_law_228 dL_law_229 dL_law_231 dL_law_232 dL_law_233 ?_
        refine law_arg hx hb hX hbl hbA hM.2.2.1 (lv_sub hl [5, 1] rfl) 3 (by decide) (by omega) hL2 hp2 dL_law_234 dL_law_235 dL_law_237 dL_law_238 dL_law_239 ?_
        refine fb_callVi (r := o) hx hb hml hown hts hM (hA.1.1) (ce4 (hA.1.2)) rfl (As := [.int (nI i), .int (nI k), .int p2]) (rest := []) (c_X4_put_f2o D y l S V I o nt cf rf hA ns df hG i hi k (Nat.zero_le _) (by omega) p2 hw2) (cwV 3 hts gL_law_X4_put rfl rfl rfl (by decide +kernel) ⟨Nat.le_of_ble_eq_true rfl, Nat.le_of_ble_eq_true rfl⟩) rfl hl.1 rfl (Nat.le_of_ble_eq_true rfl) dL_law_240 ⟨by omega, by omega⟩ (fun v3 u H locs hp hM => ?_)
        obtain ⟨hv_, hu_⟩ := hp
        have hu_ := hu_.symm
        subst hu_
        refine lv_istore (lv' := [(6, .int v3), (5, .int (nI 2)), (4, .int (nI j)), (3, .ref (sa S 2000)), (2, .ref (sa S o)), (1, .ref (sa S 0)), (0, .ref b)]) hx hb dL_law_243 hl (by decide) rfl (fun ls hl => ?_)
        have hIv := hI0.same ho (sam_tf I o 2) (VSame.rf V) hR.2.2.2.2.2
        have hth : tf I o 2 o 0 = nI 2 := by unfold tf; rw [va_up_self]; rfl
        refine law_tail (T := 245) (off := 1370) ⟨dL_law_245, dL_law_246, dL_law_249, dL_law_251, dL_law_256, dL_law_258, dL_law_261, dL_law_262, dL_law_263, dL_law_264, dL_law_266, dL_law_267, dL_law_268, dL_law_273, by omega⟩ hx hb hml hown hts hM hIv.1.2.1 hIv.1.2.2 (k := 2) (by decide) (lv_sub hl [4, 3, 1, 0] rfl) hth (fun hz9 => absurd hz9 (by decide)) (by omega) (by omega) (fun H locs hM => ?_) rfl
        exact W.widen (by omega) (by omega) (K _ _ _ _ _ _ _ _ _ _ _ _ _ _ (by omega) hIv hM (lv_sub hl [2, 3, 4, 5, 6] rfl))
      · skip
        obtain ⟨⟨f, hf1, hf2⟩, hV9, -⟩ := hR.2.1 i (by omega)
        have hfk : f k ≤ 500 := hf2 k hk
        have hvk : I (o + 1) (6 * i + k) = nI (f k) := by rw [← mx_k (I (o + 1)) i hk, hf1, nv_k f hk]
        have hVk : V (200 + 2 * i) k = nI (f k) := by rw [hV9 hi, hf1, nv_k f hk]
        by_cases hsum : 500 < f k + w
        · skip
          refine fb_callW hx hb hml hown hts hM hE hNc (As := [.ref (sa S 0), .int (nI i), .int (nI k), .int (nI w), .ref (sa S 2000)]) (rest := []) (c_L_put_ISE a0 D y l S V I h03 hO (nI i) (nI k) (nI w) (c_X3_put_x3 a0 D y l hfl S V I a0.1 ns nt es na hC cf rf df hF i hi k hk w hwa hw (by rw [hVk, nI_add]; exact nI_lt (a := 500) hsum (by omega)))) (vx_cwSW 5 hts gL_law_L_put rfl rfl rfl (by decide +kernel) ⟨Nat.le_of_ble_eq_true rfl, Nat.le_of_ble_eq_true rfl⟩) rfl hl.1 rfl (Nat.le_of_ble_eq_true rfl) dL_law_216 ⟨by omega, by omega⟩ (fun v1 u H locs hp hM => ?_)
          obtain ⟨hv_, hu_⟩ := hp
          have hv_ : v1 = nI 3 := hv_.trans (by decide)
          have hv_ := hv_.symm
          have hu_ := hu_.symm
          subst hv_
          subst hu_
          refine lv_istore (lv' := [(5, .int (nI 3)), (4, .int (nI j)), (3, .ref (sa S 2000)), (2, .ref (sa S o)), (1, .ref (sa S 0)), (0, .ref b)]) hx hb dL_law_219 hl (by decide) rfl (fun ls hl => ?_)
          refine lv_aload_n hx hb dL_law_221 rfl (lv_at hl 3 rfl) ?_
          refine law_arg hx hb hX hbl hbA hM.2.2.1 (lv_sub hl [5, 1] rfl) 1 (by decide) (by omega) hL2 hp0 dL_law_222 dL_law_223 dL_law_225 dL_law_226 dL_law_227 ?_
          refine law_arg hx hb hX hbl hbA hM.2.2.1 (lv_sub hl [5, 1] rfl) 2 (by decide) (by omega) hL2 hp1 dL_law_228 dL_law_229 dL_law_231 dL_law_232 dL_law_233 ?_
          refine law_arg hx hb hX hbl hbA hM.2.2.1 (lv_sub hl [5, 1] rfl) 3 (by decide) (by omega) hL2 hp2 dL_law_234 dL_law_235 dL_law_237 dL_law_238 dL_law_239 ?_
          refine fb_callVi (r := o) hx hb hml hown hts hM (hA.1.1) (ce4 (hA.1.2)) rfl (As := [.int (nI i), .int (nI k), .int (nI w)]) (rest := []) (c_X4_put_f3o D y l S V I o nt cf rf hA ns df hG i hi k (Nat.zero_le _) (by omega) w hwa hw (f k) hvk hfk hsum) (cwV 3 hts gL_law_X4_put rfl rfl rfl (by decide +kernel) ⟨Nat.le_of_ble_eq_true rfl, Nat.le_of_ble_eq_true rfl⟩) rfl hl.1 rfl (Nat.le_of_ble_eq_true rfl) dL_law_240 ⟨by omega, by omega⟩ (fun v3 u H locs hp hM => ?_)
          obtain ⟨hv_, hu_⟩ := hp
          have hu_ := hu_.symm
          subst hu_
          refine lv_istore (lv' := [(6, .int v3), (5, .int (nI 3)), (4, .int (nI j)), (3, .ref (sa S 2000)), (2, .ref (sa S o)), (1, .ref (sa S 0)), (0, .ref b)]) hx hb dL_law_243 hl (by decide) rfl (fun ls hl => ?_)
          have hIv := hI0.same ho (sam_tf I o 3) (VSame.rf V) hR.2.2.2.2.2
          have hth : tf I o 3 o 0 = nI 3 := by unfold tf; rw [va_up_self]; rfl
          refine law_tail (T := 245) (off := 1370) ⟨dL_law_245, dL_law_246, dL_law_249, dL_law_251, dL_law_256, dL_law_258, dL_law_261, dL_law_262, dL_law_263, dL_law_264, dL_law_266, dL_law_267, dL_law_268, dL_law_273, by omega⟩ hx hb hml hown hts hM hIv.1.2.1 hIv.1.2.2 (k := 3) (by decide) (lv_sub hl [4, 3, 1, 0] rfl) hth (fun hz9 => absurd hz9 (by decide)) (by omega) (by omega) (fun H locs hM => ?_) rfl
          exact W.widen (by omega) (by omega) (K _ _ _ _ _ _ _ _ _ _ _ _ _ _ (by omega) hIv hM (lv_sub hl [2, 3, 4, 5, 6] rfl))
        · skip
          refine fb_callW hx hb hml hown hts hM hE hNc (As := [.ref (sa S 0), .int (nI i), .int (nI k), .int (nI w), .ref (sa S 2000)]) (rest := []) (c_L_put_ok a0 D y l S V I h03 hO (nI i) (nI k) (nI w) (c_X3_put_ok D y l S V I a0.1 ns nt es na hC cf rf df hF i hi k hk w hwa hw (by rw [hVk, nI_add]; exact nI_nlt (a := 500) (by omega) (by omega))) (fun v u hq => by obtain ⟨_, hq⟩ := hq; subst hq; exact ⟨hO, rfl⟩)) (vx_cwSW 5 hts gL_law_L_put rfl rfl rfl (by decide +kernel) ⟨Nat.le_of_ble_eq_true rfl, Nat.le_of_ble_eq_true rfl⟩) rfl hl.1 rfl (Nat.le_of_ble_eq_true rfl) dL_law_216 ⟨by omega, by omega⟩ (fun v1 u H locs hp hM => ?_)
          obtain ⟨hv_, v2, u1, hq, hu_⟩ := hp
          have hv_ : v1 = nI 0 := hv_
          have hv_ := hv_.symm
          subst hv_
          obtain ⟨hq1, hq2⟩ := hq
          subst hq2
          subst hq1
          obtain ⟨J, eJ⟩ : ∃ J, J = va_up I 2000 (upd (I 2000) 0 (V (200 + 2 * i) k + nI w)) := ⟨_, rfl⟩
          have hM : fb_M D y A s (S, (va_up V (200 + 2 * i) (chv (V (200 + 2 * i)) k (nI w))), (sT (va_up V (200 + 2 * i) (chv (V (200 + 2 * i)) k (nI w)))), J) H locs := by rw [hu_] at hM; rw [eJ]; exact hM
          have hG2 : MF J o ns nt cf rf df := by rw [eJ]; exact mfc hG (by simp (discharger := omega) only [va_up_ne, t0_ne, va_up_self]) (by simp (discharger := omega) only [va_up_ne, t0_ne, va_up_self]) (by simp (discharger := omega) only [va_up_ne, t0_ne, va_up_self]) (by simp (discharger := omega) only [va_up_ne, t0_ne, va_up_self])
          refine lv_istore (lv' := [(5, .int (nI 0)), (4, .int (nI j)), (3, .ref (sa S 2000)), (2, .ref (sa S o)), (1, .ref (sa S 0)), (0, .ref b)]) hx hb dL_law_219 hl (by decide) rfl (fun ls hl => ?_)
          refine lv_aload_n hx hb dL_law_221 rfl (lv_at hl 3 rfl) ?_
          refine law_arg hx hb hX hbl hbA hM.2.2.1 (lv_sub hl [5, 1] rfl) 1 (by decide) (by omega) hL2 hp0 dL_law_222 dL_law_223 dL_law_225 dL_law_226 dL_law_227 ?_
          refine law_arg hx hb hX hbl hbA hM.2.2.1 (lv_sub hl [5, 1] rfl) 2 (by decide) (by omega) hL2 hp1 dL_law_228 dL_law_229 dL_law_231 dL_law_232 dL_law_233 ?_
          refine law_arg hx hb hX hbl hbA hM.2.2.1 (lv_sub hl [5, 1] rfl) 3 (by decide) (by omega) hL2 hp2 dL_law_234 dL_law_235 dL_law_237 dL_law_238 dL_law_239 ?_
          refine fb_callVi (r := o) hx hb hml hown hts hM (hA.1.1) (ce4 (hA.1.2)) rfl (As := [.int (nI i), .int (nI k), .int (nI w)]) (rest := []) (c_X4_put_ok D y l S (va_up V (200 + 2 * i) (chv (V (200 + 2 * i)) k (nI w))) J o nt cf rf hA ns df hG2 i hi k (Nat.zero_le _) (by omega) w hwa hw (f k) (by rw [eJ, va_up_ne _ _ (show o + 1 ≠ 2000 by omega)]; exact hvk) hfk (by omega)) (cwV 3 hts gL_law_X4_put rfl rfl rfl (by decide +kernel) ⟨Nat.le_of_ble_eq_true rfl, Nat.le_of_ble_eq_true rfl⟩) rfl hl.1 rfl (Nat.le_of_ble_eq_true rfl) dL_law_240 ⟨by omega, by omega⟩ (fun v3 u H locs hp hM => ?_)
          obtain ⟨hv_, hu_⟩ := hp
          have hu_ := hu_.symm
          subst hu_
          refine lv_istore (lv' := [(6, .int v3), (5, .int (nI 0)), (4, .int (nI j)), (3, .ref (sa S 2000)), (2, .ref (sa S o)), (1, .ref (sa S 0)), (0, .ref b)]) hx hb dL_law_243 hl (by decide) rfl (fun ls hl => ?_)
          have hth : (va_up (t0 J o) (o + 1) (upd (t0 J o (o + 1)) (6 * i + k) (nI (f k + w)))) o 0 = nI 0 := by rw [va_up_ne _ _ (show o ≠ o + 1 by omega)]; exact t0_z J o
          have hIv := (Iv.put ho hI0 hi hk hvk (by omega) rfl (by simp (discharger := omega) only [va_up_ne, va_up_self, t0_ne, t0_f, eJ]) (fun j9 h9 => by simp (discharger := omega) only [va_up_ne, va_up_self, t0_ne, t0_f, eJ]) (fun x9 a9 b9 c9 => by simp (discharger := omega) only [va_up_ne, va_up_self, t0_ne, t0_f, eJ]) : Iv a0.1 S (va_up V (200 + 2 * i) (chv (V (200 + 2 * i)) k (nI w))) (va_up (t0 J o) (o + 1) (upd (t0 J o (o + 1)) (6 * i + k) (nI (f k + w)))) o ns nt es na cf rf df N)
          refine law_tail (T := 245) (off := 1370) ⟨dL_law_245, dL_law_246, dL_law_249, dL_law_251, dL_law_256, dL_law_258, dL_law_261, dL_law_262, dL_law_263, dL_law_264, dL_law_266, dL_law_267, dL_law_268, dL_law_273, by omega⟩ hx hb hml hown hts hM hIv.1.2.1 hIv.1.2.2 (k := 0) (by decide) (lv_sub hl [4, 3, 1, 0] rfl) hth (fun hz9 => (show (va_up (t0 J o) (o + 1) (upd (t0 J o (o + 1)) (6 * i + k) (nI (f k + w)))) 2000 0 = (V (200 + 2 * i) k + nI w) from by simp (discharger := omega) only [va_up_ne, va_up_self, t0_ne, eJ]; exact if_pos rfl).trans (by rw [hv_, hVk, nI_add])) (by omega) (by omega) (fun H locs hM => ?_) rfl
          exact W.widen (by omega) (by omega) (K _ _ _ _ _ _ _ _ _ _ _ _ _ _ (by omega) hIv hM (lv_sub hl [2, 3, 4, 5, 6] rfl))
set_option maxHeartbeats 4000000 in
set_option maxRecDepth 100000 in
theorem stp_dry (hL : Lw p l s m args c D A y a0 b L xs) {o j ns nt es na N : Nat} {cf rf df : Nat → Nat} (hM : fb_M D y A s (S, V, (sT V), I) H locs) (hI : Iv a0.1 S V I o ns nt es na cf rf df N) (ho : o = 1000) (hj : j + 5 ≤ L) (hN : N ≤ 1600000) (hc : cells + 1100 ≤ room_1.cells) (hs : slots + 14000 ≤ room_1.slots) (hl : lv_has ls 9 [(4, .int (nI j)), (3, .ref (sa S 2000)), (2, .ref (sa S o)), (1, .ref (sa S 0)), (0, .ref b)]) (K : Kont p l e s m args below meth c Q D A y a0.1 o b j N cells slots) : W p l e room_1 s m args below meth c H locs cells slots Q (F0 m 276 ls []) := by
  obtain ⟨hx, hb, hml, hown, hts, hE, hNc, hfl, hX, hbl, hbA, hL2⟩ := hL
  have hI0 := hI
  obtain ⟨⟨hC, hA, hO⟩, ⟨hEs, hFr⟩, ⟨hF, hG⟩, hR⟩ := hI
  have hns : ns ≤ 12 := hF.2.2.1
  have hnt : nt ≤ 6 := hF.2.2.2.1
  have h03 : 0 ∈ sR S ∧ sk S 0 = 3 := hC.1
  obtain ⟨p0, hp0⟩ : ∃ v, xs (j + 1) = v := ⟨_, rfl⟩
  obtain ⟨p1, hp1⟩ : ∃ v, xs (j + 2) = v := ⟨_, rfl⟩
  refine lv_aload_n hx hb dL_law_276 rfl (lv_at hl 3 rfl) ?_
  refine law_arg hx hb hX hbl hbA hM.2.2.1 (lv_sub hl [4, 0] rfl) 1 (by decide) (by omega) hL2 hp0 dL_law_277 dL_law_278 dL_law_280 dL_law_281 dL_law_282 ?_
  refine law_arg hx hb hX hbl hbA hM.2.2.1 (lv_sub hl [4, 0] rfl) 2 (by decide) (by omega) hL2 hp1 dL_law_283 dL_law_284 dL_law_286 dL_law_287 dL_law_288 ?_
  refine lv_aload_n hx hb dL_law_289 rfl (lv_at hl 1 rfl) ?_
  rcases rg_ix p0 (n := ns) (by omega) with hq0 | ⟨i, hi, rfl⟩
  · skip
    refine fb_callW hx hb hml hown hts hM hE hNc (As := [.ref (sa S 0), .int p0, .int p1, .ref (sa S 2000)]) (rest := []) (c_L_dry_IOE a0 D y l S V I h03 hO p0 p1 (c_X3_dry_x0 a0 D y l hfl S V I a0.1 ns nt es na hC cf rf df hF p0 hq0 p1)) (vx_cwSW 4 hts gL_law_L_dry rfl rfl rfl (by decide +kernel) ⟨Nat.le_of_ble_eq_true rfl, Nat.le_of_ble_eq_true rfl⟩) rfl hl.1 rfl (Nat.le_of_ble_eq_true rfl) dL_law_290 ⟨by omega, by omega⟩ (fun v1 u H locs hp hM => ?_)
    obtain ⟨hv_, hu_⟩ := hp
    have hv_ : v1 = nI 1 := hv_.trans (by decide)
    have hv_ := hv_.symm
    have hu_ := hu_.symm
    subst hv_
    subst hu_
    refine lv_istore (lv' := [(5, .int (nI 1)), (4, .int (nI j)), (3, .ref (sa S 2000)), (2, .ref (sa S o)), (1, .ref (sa S 0)), (0, .ref b)]) hx hb dL_law_293 hl (by decide) rfl (fun ls hl => ?_)
    refine lv_aload_n hx hb dL_law_295 rfl (lv_at hl 3 rfl) ?_
    refine law_arg hx hb hX hbl hbA hM.2.2.1 (lv_sub hl [5, 1] rfl) 1 (by decide) (by omega) hL2 hp0 dL_law_296 dL_law_297 dL_law_299 dL_law_300 dL_law_301 ?_
    refine law_arg hx hb hX hbl hbA hM.2.2.1 (lv_sub hl [5, 1] rfl) 2 (by decide) (by omega) hL2 hp1 dL_law_302 dL_law_303 dL_law_305 dL_law_306 dL_law_307 ?_
    refine fb_callVi (r := o) hx hb hml hown hts hM (hA.1.1) (ce4 (hA.1.2)) rfl (As := [.int p0, .int p1]) (rest := []) (c_X4_dry_f0o D y l S V I o nt cf rf hA ns df hG p0 hq0 p1) (cwV 2 hts gL_law_X4_dry rfl rfl rfl (by decide +kernel) ⟨Nat.le_of_ble_eq_true rfl, Nat.le_of_ble_eq_true rfl⟩) rfl hl.1 rfl (Nat.le_of_ble_eq_true rfl) dL_law_308 ⟨by omega, by omega⟩ (fun v3 u H locs hp hM => ?_)
    obtain ⟨hv_, hu_⟩ := hp
    have hu_ := hu_.symm
    subst hu_
    refine lv_istore (lv' := [(6, .int v3), (5, .int (nI 1)), (4, .int (nI j)), (3, .ref (sa S 2000)), (2, .ref (sa S o)), (1, .ref (sa S 0)), (0, .ref b)]) hx hb dL_law_311 hl (by decide) rfl (fun ls hl => ?_)
    have hIv := hI0.same ho (sam_tf I o 1) (VSame.rf V) hR.2.2.2.2.2
    have hth : tf I o 1 o 0 = nI 1 := by unfold tf; rw [va_up_self]; rfl
    refine law_tail (T := 313) (off := 1302) ⟨dL_law_313, dL_law_314, dL_law_317, dL_law_319, dL_law_324, dL_law_326, dL_law_329, dL_law_330, dL_law_331, dL_law_332, dL_law_334, dL_law_335, dL_law_336, dL_law_341, by omega⟩ hx hb hml hown hts hM hIv.1.2.1 hIv.1.2.2 (k := 1) (by decide) (lv_sub hl [4, 3, 1, 0] rfl) hth (fun hz9 => absurd hz9 (by decide)) (by omega) (by omega) (fun H locs hM => ?_) rfl
    exact W.widen (by omega) (by omega) (K _ _ _ _ _ _ _ _ _ _ _ _ _ _ (by omega) hIv hM (lv_sub hl [2, 3, 4, 5, 6] rfl))
  · skip
    rcases rg_lh p1 1 9 (by decide) (by decide) with hq1 | ⟨w, hwa, hw, rfl⟩
    · skip
      have hw1 : p1 < 1 ∨ 9 < p1 := hq1
      refine fb_callW hx hb hml hown hts hM hE hNc (As := [.ref (sa S 0), .int (nI i), .int p1, .ref (sa S 2000)]) (rest := []) (c_L_dry_IAE a0 D y l S V I h03 hO (nI i) p1 (c_X3_dry_x1 a0 D y l hfl S V I a0.1 ns nt es na hC cf rf df hF i hi p1 hw1)) (vx_cwSW 4 hts gL_law_L_dry rfl rfl rfl (by decide +kernel) ⟨Nat.le_of_ble_eq_true rfl, Nat.le_of_ble_eq_true rfl⟩) rfl hl.1 rfl (Nat.le_of_ble_eq_true rfl) dL_law_290 ⟨by omega, by omega⟩ (fun v1 u H locs hp hM => ?_)
      obtain ⟨hv_, hu_⟩ := hp
      have hv_ : v1 = nI 2 := hv_.trans (by decide)
      have hv_ := hv_.symm
      have hu_ := hu_.symm
      subst hv_
      subst hu_
      refine lv_istore (lv' := [(5, .int (nI 2)), (4, .int (nI j)), (3, .ref (sa S 2000)), (2, .ref (sa S o)), (1, .ref (sa S 0)), (0, .ref b)]) hx hb dL_law_293 hl (by decide) rfl (fun ls hl => ?_)
      refine lv_aload_n hx hb dL_law_295 rfl (lv_at hl 3 rfl) ?_
      refine law_arg hx hb hX hbl hbA hM.2.2.1 (lv_sub hl [5, 1] rfl) 1 (by decide) (by omega) hL2 hp0 dL_law_296 dL_law_297 dL_law_299 dL_law_300 dL_law_301 ?_
      refine law_arg hx hb hX hbl hbA hM.2.2.1 (lv_sub hl [5, 1] rfl) 2 (by decide) (by omega) hL2 hp1 dL_law_302 dL_law_303 dL_law_305 dL_law_306 dL_law_307 ?_
      refine fb_callVi (r := o) hx hb hml hown hts hM (hA.1.1) (ce4 (hA.1.2)) rfl (As := [.int (nI i), .int p1]) (rest := []) (c_X4_dry_f1o D y l S V I o nt cf rf hA ns df hG i hi p1 hw1) (cwV 2 hts gL_law_X4_dry rfl rfl rfl (by decide +kernel) ⟨Nat.le_of_ble_eq_true rfl, Nat.le_of_ble_eq_true rfl⟩) rfl hl.1 rfl (Nat.le_of_ble_eq_true rfl) dL_law_308 ⟨by omega, by omega⟩ (fun v3 u H locs hp hM => ?_)
      obtain ⟨hv_, hu_⟩ := hp
      have hu_ := hu_.symm
      subst hu_
      refine lv_istore (lv' := [(6, .int v3), (5, .int (nI 2)), (4, .int (nI j)), (3, .ref (sa S 2000)), (2, .ref (sa S o)), (1, .ref (sa S 0)), (0, .ref b)]) hx hb dL_law_311 hl (by decide) rfl (fun ls hl => ?_)
      have hIv := hI0.same ho (sam_tf I o 2) (VSame.rf V) hR.2.2.2.2.2
      have hth : tf I o 2 o 0 = nI 2 := by unfold tf; rw [va_up_self]; rfl
      refine law_tail (T := 313) (off := 1302) ⟨dL_law_313, dL_law_314, dL_law_317, dL_law_319, dL_law_324, dL_law_326, dL_law_329, dL_law_330, dL_law_331, dL_law_332, dL_law_334, dL_law_335, dL_law_336, dL_law_341, by omega⟩ hx hb hml hown hts hM hIv.1.2.1 hIv.1.2.2 (k := 2) (by decide) (lv_sub hl [4, 3, 1, 0] rfl) hth (fun hz9 => absurd hz9 (by decide)) (by omega) (by omega) (fun H locs hM => ?_) rfl
      exact W.widen (by omega) (by omega) (K _ _ _ _ _ _ _ _ _ _ _ _ _ _ (by omega) hIv hM (lv_sub hl [2, 3, 4, 5, 6] rfl))
    · skip
      obtain ⟨e9, dm, hd1, hd2⟩ := hR.2.2.1 i hi
      have hcd := c_X3_dry_ok D y l S V I a0.1 ns nt es na hC cf rf df hF i hi w hwa hw
      rw [e9, hd2, dry_nI hd1 hw] at hcd
      refine fb_callW hx hb hml hown hts hM hE hNc (As := [.ref (sa S 0), .int (nI i), .int (nI w), .ref (sa S 2000)]) (rest := []) (c_L_dry_ok a0 D y l S V I h03 hO (nI i) (nI w) (hcd) (fun v u hq => by obtain ⟨_, hq⟩ := hq; subst hq; exact ⟨hO, rfl⟩)) (vx_cwSW 4 hts gL_law_L_dry rfl rfl rfl (by decide +kernel) ⟨Nat.le_of_ble_eq_true rfl, Nat.le_of_ble_eq_true rfl⟩) rfl hl.1 rfl (Nat.le_of_ble_eq_true rfl) dL_law_290 ⟨by omega, by omega⟩ (fun v1 u H locs hp hM => ?_)
      obtain ⟨hv_, v2, u1, hq, hu_⟩ := hp
      have hv_ : v1 = nI 0 := hv_
      have hv_ := hv_.symm
      subst hv_
      obtain ⟨hq1, hq2⟩ := hq
      subst hq2
      subst hq1
      obtain ⟨J, eJ⟩ : ∃ J, J = va_up (va_up I (10 + i) (upd (I (10 + i)) 1 (nI (dm - w)))) 2000 (upd ((va_up I (10 + i) (upd (I (10 + i)) 1 (nI (dm - w)))) 2000) 0 (nI (dm - w))) := ⟨_, rfl⟩
      have hM : fb_M D y A s (S, V, (sT V), J) H locs := by rw [hu_] at hM; rw [eJ]; exact hM
      have hG2 : MF J o ns nt cf rf df := by rw [eJ]; exact mfc hG (by simp (discharger := omega) only [va_up_ne, t0_ne, va_up_self]) (by simp (discharger := omega) only [va_up_ne, t0_ne, va_up_self]) (by simp (discharger := omega) only [va_up_ne, t0_ne, va_up_self]) (by simp (discharger := omega) only [va_up_ne, t0_ne, va_up_self])
      refine lv_istore (lv' := [(5, .int (nI 0)), (4, .int (nI j)), (3, .ref (sa S 2000)), (2, .ref (sa S o)), (1, .ref (sa S 0)), (0, .ref b)]) hx hb dL_law_293 hl (by decide) rfl (fun ls hl => ?_)
      refine lv_aload_n hx hb dL_law_295 rfl (lv_at hl 3 rfl) ?_
      refine law_arg hx hb hX hbl hbA hM.2.2.1 (lv_sub hl [5, 1] rfl) 1 (by decide) (by omega) hL2 hp0 dL_law_296 dL_law_297 dL_law_299 dL_law_300 dL_law_301 ?_
      refine law_arg hx hb hX hbl hbA hM.2.2.1 (lv_sub hl [5, 1] rfl) 2 (by decide) (by omega) hL2 hp1 dL_law_302 dL_law_303 dL_law_305 dL_law_306 dL_law_307 ?_
      have hrd := c_X4_dry_ok D y l S V J o nt cf rf hA ns df hG2 i hi w hwa hw dm (by rw [eJ]; simp (discharger := omega) only [va_up_ne]; exact hd2)
      rw [dry_nI hd1 hw] at hrd
      refine fb_callVi (r := o) hx hb hml hown hts hM (hA.1.1) (ce4 (hA.1.2)) rfl (As := [.int (nI i), .int (nI w)]) (rest := []) (hrd) (cwV 2 hts gL_law_X4_dry rfl rfl rfl (by decide +kernel) ⟨Nat.le_of_ble_eq_true rfl, Nat.le_of_ble_eq_true rfl⟩) rfl hl.1 rfl (Nat.le_of_ble_eq_true rfl) dL_law_308 ⟨by omega, by omega⟩ (fun v3 u H locs hp hM => ?_)
      obtain ⟨hv_, hu_⟩ := hp
      have hu_ := hu_.symm
      subst hu_
      refine lv_istore (lv' := [(6, .int v3), (5, .int (nI 0)), (4, .int (nI j)), (3, .ref (sa S 2000)), (2, .ref (sa S o)), (1, .ref (sa S 0)), (0, .ref b)]) hx hb dL_law_311 hl (by decide) rfl (fun ls hl => ?_)
      have hth : (va_up (t0 J o) (o + 2) (upd (t0 J o (o + 2)) i (nI (dm - w)))) o 0 = nI 0 := by rw [va_up_ne _ _ (show o ≠ o + 2 by omega)]; exact t0_z J o
      have hIv := (Iv.dry ho hI0 hi (show dm - w ≤ 9 by omega) (by simp (discharger := omega) only [va_up_ne, va_up_self, t0_ne, t0_f, eJ]) (by simp (discharger := omega) only [va_up_ne, va_up_self, t0_ne, t0_f, eJ]) (fun j9 h9 => by simp (discharger := omega) only [va_up_ne, va_up_self, t0_ne, t0_f, eJ]) (fun x9 a9 b9 c9 d9 => by simp (discharger := omega) only [va_up_ne, va_up_self, t0_ne, t0_f, eJ]) : Iv a0.1 S V (va_up (t0 J o) (o + 2) (upd (t0 J o (o + 2)) i (nI (dm - w)))) o ns nt es na cf rf df N)
      refine law_tail (T := 313) (off := 1302) ⟨dL_law_313, dL_law_314, dL_law_317, dL_law_319, dL_law_324, dL_law_326, dL_law_329, dL_law_330, dL_law_331, dL_law_332, dL_law_334, dL_law_335, dL_law_336, dL_law_341, by omega⟩ hx hb hml hown hts hM hIv.1.2.1 hIv.1.2.2 (k := 0) (by decide) (lv_sub hl [4, 3, 1, 0] rfl) hth (fun hz9 => (show (va_up (t0 J o) (o + 2) (upd (t0 J o (o + 2)) i (nI (dm - w)))) 2000 0 = (nI (dm - w)) from by simp (discharger := omega) only [va_up_ne, va_up_self, t0_ne, eJ]; exact if_pos rfl).trans (hv_.symm)) (by omega) (by omega) (fun H locs hM => ?_) rfl
      exact W.widen (by omega) (by omega) (K _ _ _ _ _ _ _ _ _ _ _ _ _ _ (by omega) hIv hM (lv_sub hl [2, 3, 4, 5, 6] rfl))
set_option maxHeartbeats 4000000 in
set_option maxRecDepth 100000 in
theorem stp_blow (hL : Lw p l s m args c D A y a0 b L xs) {o j ns nt es na N : Nat} {cf rf df : Nat → Nat} (hM : fb_M D y A s (S, V, (sT V), I) H locs) (hI : Iv a0.1 S V I o ns nt es na cf rf df N) (ho : o = 1000) (hj : j + 5 ≤ L) (hN : N ≤ 1600000) (hc : cells + 1100 ≤ room_1.cells) (hs : slots + 14000 ≤ room_1.slots) (hl : lv_has ls 9 [(4, .int (nI j)), (3, .ref (sa S 2000)), (2, .ref (sa S o)), (1, .ref (sa S 0)), (0, .ref b)]) (K : Kont p l e s m args below meth c Q D A y a0.1 o b j N cells slots) : W p l e room_1 s m args below meth c H locs cells slots Q (F0 m 468 ls []) := by
  obtain ⟨hx, hb, hml, hown, hts, hE, hNc, hfl, hX, hbl, hbA, hL2⟩ := hL
  have hI0 := hI
  obtain ⟨⟨hC, hA, hO⟩, ⟨hEs, hFr⟩, ⟨hF, hG⟩, hR⟩ := hI
  have hns : ns ≤ 12 := hF.2.2.1
  have hnt : nt ≤ 6 := hF.2.2.2.1
  have h03 : 0 ∈ sR S ∧ sk S 0 = 3 := hC.1
  obtain ⟨p0, hp0⟩ : ∃ v, xs (j + 1) = v := ⟨_, rfl⟩
  refine lv_aload_n hx hb dL_law_468 rfl (lv_at hl 3 rfl) ?_
  refine law_arg hx hb hX hbl hbA hM.2.2.1 (lv_sub hl [4, 0] rfl) 1 (by decide) (by omega) hL2 hp0 dL_law_469 dL_law_470 dL_law_472 dL_law_473 dL_law_474 ?_
  refine lv_aload_n hx hb dL_law_475 rfl (lv_at hl 1 rfl) ?_
  rcases rg_ix p0 (n := ns) (by omega) with hq0 | ⟨i, hi, rfl⟩
  · skip
    refine fb_callW hx hb hml hown hts hM hE hNc (As := [.ref (sa S 0), .int p0, .ref (sa S 2000)]) (rest := []) (c_L_blow_IOE a0 D y l S V I h03 hO p0 (c_X3_blow_x0 a0 D y l hfl S V I a0.1 ns nt es na hC cf rf df hF p0 hq0)) (vx_cwSW 3 hts gL_law_L_blow rfl rfl rfl (by decide +kernel) ⟨Nat.le_of_ble_eq_true rfl, Nat.le_of_ble_eq_true rfl⟩) rfl hl.1 rfl (Nat.le_of_ble_eq_true rfl) dL_law_476 ⟨by omega, by omega⟩ (fun v1 u H locs hp hM => ?_)
    obtain ⟨hv_, hu_⟩ := hp
    have hv_ : v1 = nI 1 := hv_.trans (by decide)
    have hv_ := hv_.symm
    have hu_ := hu_.symm
    subst hv_
    subst hu_
    refine lv_istore (lv' := [(5, .int (nI 1)), (4, .int (nI j)), (3, .ref (sa S 2000)), (2, .ref (sa S o)), (1, .ref (sa S 0)), (0, .ref b)]) hx hb dL_law_479 hl (by decide) rfl (fun ls hl => ?_)
    refine lv_aload_n hx hb dL_law_481 rfl (lv_at hl 3 rfl) ?_
    refine law_arg hx hb hX hbl hbA hM.2.2.1 (lv_sub hl [5, 1] rfl) 1 (by decide) (by omega) hL2 hp0 dL_law_482 dL_law_483 dL_law_485 dL_law_486 dL_law_487 ?_
    refine fb_callVi (r := o) hx hb hml hown hts hM (hA.1.1) (ce4 (hA.1.2)) rfl (As := [.int p0]) (rest := []) (c_X4_blow_f0o D y l S V I o nt cf rf hA ns df hG p0 hq0) (cwV 1 hts gL_law_X4_blow rfl rfl rfl (by decide +kernel) ⟨Nat.le_of_ble_eq_true rfl, Nat.le_of_ble_eq_true rfl⟩) rfl hl.1 rfl (Nat.le_of_ble_eq_true rfl) dL_law_488 ⟨by omega, by omega⟩ (fun v3 u H locs hp hM => ?_)
    obtain ⟨hv_, hu_⟩ := hp
    have hu_ := hu_.symm
    subst hu_
    refine lv_istore (lv' := [(6, .int v3), (5, .int (nI 1)), (4, .int (nI j)), (3, .ref (sa S 2000)), (2, .ref (sa S o)), (1, .ref (sa S 0)), (0, .ref b)]) hx hb dL_law_491 hl (by decide) rfl (fun ls hl => ?_)
    have hIv := hI0.same ho (sam_tf I o 1) (VSame.rf V) hR.2.2.2.2.2
    have hth : tf I o 1 o 0 = nI 1 := by unfold tf; rw [va_up_self]; rfl
    refine law_tail (T := 493) (off := 1122) ⟨dL_law_493, dL_law_494, dL_law_497, dL_law_499, dL_law_504, dL_law_506, dL_law_509, dL_law_510, dL_law_511, dL_law_512, dL_law_514, dL_law_515, dL_law_516, dL_law_521, by omega⟩ hx hb hml hown hts hM hIv.1.2.1 hIv.1.2.2 (k := 1) (by decide) (lv_sub hl [4, 3, 1, 0] rfl) hth (fun hz9 => absurd hz9 (by decide)) (by omega) (by omega) (fun H locs hM => ?_) rfl
    exact W.widen (by omega) (by omega) (K _ _ _ _ _ _ _ _ _ _ _ _ _ _ (by omega) hIv hM (lv_sub hl [2, 3, 4, 5, 6] rfl))
  · skip
    obtain ⟨e9, dm, hd1, hd2⟩ := hR.2.2.1 i hi
    obtain ⟨w4, ⟨ww, hww1, hww2, hww3⟩, -, w6, -⟩ := hR.1
    refine fb_callW hx hb hml hown hts hM hE hNc (As := [.ref (sa S 0), .int (nI i), .ref (sa S 2000)]) (rest := []) (c_L_blow_ok a0 D y l S V I h03 hO (nI i) (c_X3_blow_ok D y l S V I a0.1 ns nt es na hC cf rf df hF i hi) (fun v u hq => by obtain ⟨_, hq⟩ := hq; subst hq; exact ⟨hO, rfl⟩)) (vx_cwSW 3 hts gL_law_L_blow rfl rfl rfl (by decide +kernel) ⟨Nat.le_of_ble_eq_true rfl, Nat.le_of_ble_eq_true rfl⟩) rfl hl.1 rfl (Nat.le_of_ble_eq_true rfl) dL_law_476 ⟨by omega, by omega⟩ (fun v1 u H locs hp hM => ?_)
    obtain ⟨hv_, v2, u1, hq, hu_⟩ := hp
    have hv_ : v1 = nI 0 := hv_
    have hv_ := hv_.symm
    subst hv_
    obtain ⟨hq1, hq2⟩ := hq
    subst hq2
    subst hq1
    obtain ⟨J, eJ⟩ : ∃ J, J = va_up (va_up I 0 (upd (I 0) 6 (bly (V (200 + 2 * i)) (fun j => fl (I (10 + i) 1) (nI j) (I 0 4)) (I 0 6) 6))) 2000 (upd ((va_up I 0 (upd (I 0) 6 (bly (V (200 + 2 * i)) (fun j => fl (I (10 + i) 1) (nI j) (I 0 4)) (I 0 6) 6))) 2000) 0 (bls (V (200 + 2 * i)) (fun j => fl (I (10 + i) 1) (nI j) (I 0 4)) 6)) := ⟨_, rfl⟩
    have hM : fb_M D y A s (S, (blV V i (V (200 + 2 * i)) (fun j => fl (I (10 + i) 1) (nI j) (I 0 4)) 6 0), (sT (blV V i (V (200 + 2 * i)) (fun j => fl (I (10 + i) 1) (nI j) (I 0 4)) 6 0)), J) H locs := by rw [hu_] at hM; rw [eJ]; exact hM
    have hG2 : MF J o ns nt cf rf df := by rw [eJ]; exact mfc hG (by simp (discharger := omega) only [va_up_ne, t0_ne, va_up_self]) (by simp (discharger := omega) only [va_up_ne, t0_ne, va_up_self]) (by simp (discharger := omega) only [va_up_ne, t0_ne, va_up_self]) (by simp (discharger := omega) only [va_up_ne, t0_ne, va_up_self])
    refine lv_istore (lv' := [(5, .int (nI 0)), (4, .int (nI j)), (3, .ref (sa S 2000)), (2, .ref (sa S o)), (1, .ref (sa S 0)), (0, .ref b)]) hx hb dL_law_479 hl (by decide) rfl (fun ls hl => ?_)
    refine lv_aload_n hx hb dL_law_481 rfl (lv_at hl 3 rfl) ?_
    refine law_arg hx hb hX hbl hbA hM.2.2.1 (lv_sub hl [5, 1] rfl) 1 (by decide) (by omega) hL2 hp0 dL_law_482 dL_law_483 dL_law_485 dL_law_486 dL_law_487 ?_
    refine fb_callVi (r := o) hx hb hml hown hts hM (hA.1.1) (ce4 (hA.1.2)) rfl (As := [.int (nI i)]) (rest := []) (c_X4_blow_ok D y l S (blV V i (V (200 + 2 * i)) (fun j => fl (I (10 + i) 1) (nI j) (I 0 4)) 6 0) J o nt cf rf hA ns df hG2 i hi) (cwV 1 hts gL_law_X4_blow rfl rfl rfl (by decide +kernel) ⟨Nat.le_of_ble_eq_true rfl, Nat.le_of_ble_eq_true rfl⟩) rfl hl.1 rfl (Nat.le_of_ble_eq_true rfl) dL_law_488 ⟨by omega, by omega⟩ (fun v3 u H locs hp hM => ?_)
    obtain ⟨hv_, hu_⟩ := hp
    have hu_ := hu_.symm
    subst hu_
    refine lv_istore (lv' := [(6, .int v3), (5, .int (nI 0)), (4, .int (nI j)), (3, .ref (sa S 2000)), (2, .ref (sa S o)), (1, .ref (sa S 0)), (0, .ref b)]) hx hb dL_law_491 hl (by decide) rfl (fun ls hl => ?_)
    have hx9 : ∀ k, k < 6 → (V (200 + 2 * i)) k = blx J o i k := fun k9 hk9 => by unfold blx; rw [(hR.2.1 i (by omega)).2.1 hi, mx_k _ _ hk9, eJ]; simp (discharger := omega) only [va_up_ne]
    have ht9 : ∀ k, k < 6 → (fun j => fl (I (10 + i) 1) (nI j) (I 0 4)) k = blt J o i k := fun k9 hk9 => by show fl (I (10 + i) 1) (nI k9) (I 0 4) = flm (J o 4) (nI k9) (J (o + 2) i); rw [eJ]; simp (discharger := omega) only [va_up_ne]; rw [e9, hd2, w4, flm_fl (I o 4) hk9 hd1]
    have ej1 : J (o + 1) = I (o + 1) := by simp (discharger := omega) only [va_up_ne, va_up_self, t0_ne, t0_f, eJ]
    have ej3 : J (o + 3) = I (o + 3) := by simp (discharger := omega) only [va_up_ne, va_up_self, t0_ne, t0_f, eJ]
    have e11 : J o 11 = I o 11 := by simp (discharger := omega) only [va_up_ne, va_up_self, t0_ne, t0_f, eJ]
    have hth : (va_up (va_up (va_up (t0 J o) (o + 1) (blH (blx J o i) (blt J o i) (J (o + 1)) i 6)) (o + 3) (blC (blx J o i) (blt J o i) (J (o + 3)) 6 0)) o (upd (t0 J o o) 11 (bly (blx J o i) (blt J o i) (J o 11) 6))) o 0 = nI 0 := by rw [va_up_self]; exact (if_neg (by decide)).trans (t0_z J o)
    have hIv := (Iv.blow ho hI0 hi rfl hx9 ht9 rfl (by simp (discharger := omega) only [va_up_ne, va_up_self, t0_ne, t0_f]; rw [eJ]; simp (discharger := omega) only [va_up_ne, va_up_self, t0_ne, t0_f]) (by simp (discharger := omega) only [va_up_ne, va_up_self, t0_ne, t0_f]; rw [ej1]) (by simp (discharger := omega) only [va_up_ne, va_up_self, t0_ne, t0_f]; rw [ej3]) (fun j9 h9 => by rw [va_up_self, e11]; exact upd_pt (by simp (discharger := omega) only [va_up_ne, va_up_self, t0_ne, t0_f, eJ])) (fun x9 a9 b9 c9 d9 e9 => by simp (discharger := omega) only [va_up_ne, va_up_self, t0_ne, t0_f, eJ]) : Iv a0.1 S (blV V i (V (200 + 2 * i)) (fun j => fl (I (10 + i) 1) (nI j) (I 0 4)) 6 0) (va_up (va_up (va_up (t0 J o) (o + 1) (blH (blx J o i) (blt J o i) (J (o + 1)) i 6)) (o + 3) (blC (blx J o i) (blt J o i) (J (o + 3)) 6 0)) o (upd (t0 J o o) 11 (bly (blx J o i) (blt J o i) (J o 11) 6))) o ns nt es na cf rf df (N + 3000))
    refine law_tail (T := 493) (off := 1122) ⟨dL_law_493, dL_law_494, dL_law_497, dL_law_499, dL_law_504, dL_law_506, dL_law_509, dL_law_510, dL_law_511, dL_law_512, dL_law_514, dL_law_515, dL_law_516, dL_law_521, by omega⟩ hx hb hml hown hts hM hIv.1.2.1 hIv.1.2.2 (k := 0) (by decide) (lv_sub hl [4, 3, 1, 0] rfl) hth (fun hz9 => (show (va_up (va_up (va_up (t0 J o) (o + 1) (blH (blx J o i) (blt J o i) (J (o + 1)) i 6)) (o + 3) (blC (blx J o i) (blt J o i) (J (o + 3)) 6 0)) o (upd (t0 J o o) 11 (bly (blx J o i) (blt J o i) (J o 11) 6))) 2000 0 = (bls (V (200 + 2 * i)) (fun j => fl (I (10 + i) 1) (nI j) (I 0 4)) 6) from by simp (discharger := omega) only [va_up_ne, va_up_self, t0_ne, eJ]; exact if_pos rfl).trans (by rw [hv_]; exact bls_cg hx9 ht9 6 (Nat.le_refl _))) (by omega) (by omega) (fun H locs hM => ?_) rfl
    exact W.widen (by omega) (by omega) (K _ _ _ _ _ _ _ _ _ _ _ _ _ _ (by omega) hIv hM (lv_sub hl [2, 3, 4, 5, 6] rfl))
set_option maxHeartbeats 4000000 in
set_option maxRecDepth 100000 in
theorem stp_sweep (hL : Lw p l s m args c D A y a0 b L xs) {o j ns nt es na N : Nat} {cf rf df : Nat → Nat} (hM : fb_M D y A s (S, V, (sT V), I) H locs) (hI : Iv a0.1 S V I o ns nt es na cf rf df N) (ho : o = 1000) (hj : j + 5 ≤ L) (hN : N ≤ 1600000) (hc : cells + 1100 ≤ room_1.cells) (hs : slots + 14000 ≤ room_1.slots) (hl : lv_has ls 9 [(4, .int (nI j)), (3, .ref (sa S 2000)), (2, .ref (sa S o)), (1, .ref (sa S 0)), (0, .ref b)]) (K : Kont p l e s m args below meth c Q D A y a0.1 o b j N cells slots) : W p l e room_1 s m args below meth c H locs cells slots Q (F0 m 524 ls []) := by
  obtain ⟨hx, hb, hml, hown, hts, hE, hNc, hfl, hX, hbl, hbA, hL2⟩ := hL
  have hI0 := hI
  obtain ⟨⟨hC, hA, hO⟩, ⟨hEs, hFr⟩, ⟨hF, hG⟩, hR⟩ := hI
  have hns : ns ≤ 12 := hF.2.2.1
  have hnt : nt ≤ 6 := hF.2.2.2.1
  have h03 : 0 ∈ sR S ∧ sk S 0 = 3 := hC.1
  obtain ⟨p0, hp0⟩ : ∃ v, xs (j + 1) = v := ⟨_, rfl⟩
  obtain ⟨p1, hp1⟩ : ∃ v, xs (j + 2) = v := ⟨_, rfl⟩
  refine lv_aload_n hx hb dL_law_524 rfl (lv_at hl 3 rfl) ?_
  refine law_arg hx hb hX hbl hbA hM.2.2.1 (lv_sub hl [4, 0] rfl) 1 (by decide) (by omega) hL2 hp0 dL_law_525 dL_law_526 dL_law_528 dL_law_529 dL_law_530 ?_
  refine law_arg hx hb hX hbl hbA hM.2.2.1 (lv_sub hl [4, 0] rfl) 2 (by decide) (by omega) hL2 hp1 dL_law_531 dL_law_532 dL_law_534 dL_law_535 dL_law_536 ?_
  refine lv_aload_n hx hb dL_law_537 rfl (lv_at hl 1 rfl) ?_
  rcases rg_ix p0 (n := 5) (by decide) with hq0 | ⟨q, hq, rfl⟩
  · skip
    have hr0 : p0 < 0 ∨ 4 < p0 := hq0.imp id (fun z => Int32.lt_of_lt_of_le (by decide) z)
    refine fb_callW hx hb hml hown hts hM hE hNc (As := [.ref (sa S 0), .int p0, .int p1, .ref (sa S 2000)]) (rest := []) (c_L_sweep_IOE a0 D y l S V I h03 hO p0 p1 (c_X3_sweep_x0 a0 D y l hfl S V I a0.1 ns nt es na hC cf rf df hF p0 hq0 p1)) (vx_cwSW 4 hts gL_law_L_sweep rfl rfl rfl (by decide +kernel) ⟨Nat.le_of_ble_eq_true rfl, Nat.le_of_ble_eq_true rfl⟩) rfl hl.1 rfl (Nat.le_of_ble_eq_true rfl) dL_law_538 ⟨by omega, by omega⟩ (fun v1 u H locs hp hM => ?_)
    obtain ⟨hv_, hu_⟩ := hp
    have hv_ : v1 = nI 1 := hv_.trans (by decide)
    have hv_ := hv_.symm
    have hu_ := hu_.symm
    subst hv_
    subst hu_
    refine lv_istore (lv' := [(5, .int (nI 1)), (4, .int (nI j)), (3, .ref (sa S 2000)), (2, .ref (sa S o)), (1, .ref (sa S 0)), (0, .ref b)]) hx hb dL_law_541 hl (by decide) rfl (fun ls hl => ?_)
    refine lv_aload_n hx hb dL_law_543 rfl (lv_at hl 3 rfl) ?_
    refine law_arg hx hb hX hbl hbA hM.2.2.1 (lv_sub hl [5, 1] rfl) 1 (by decide) (by omega) hL2 hp0 dL_law_544 dL_law_545 dL_law_547 dL_law_548 dL_law_549 ?_
    refine law_arg hx hb hX hbl hbA hM.2.2.1 (lv_sub hl [5, 1] rfl) 2 (by decide) (by omega) hL2 hp1 dL_law_550 dL_law_551 dL_law_553 dL_law_554 dL_law_555 ?_
    refine fb_callVi (r := o) hx hb hml hown hts hM (hA.1.1) (ce4 (hA.1.2)) rfl (As := [.int p0, .int p1]) (rest := []) (c_X4_sweep_f0o D y l S V I o nt cf rf hA ns df hG p0 hr0 p1) (cwV 2 hts gL_law_X4_sweep rfl rfl rfl (by decide +kernel) ⟨Nat.le_of_ble_eq_true rfl, Nat.le_of_ble_eq_true rfl⟩) rfl hl.1 rfl (Nat.le_of_ble_eq_true rfl) dL_law_556 ⟨by omega, by omega⟩ (fun v3 u H locs hp hM => ?_)
    obtain ⟨hv_, hu_⟩ := hp
    have hu_ := hu_.symm
    subst hu_
    refine lv_istore (lv' := [(6, .int v3), (5, .int (nI 1)), (4, .int (nI j)), (3, .ref (sa S 2000)), (2, .ref (sa S o)), (1, .ref (sa S 0)), (0, .ref b)]) hx hb dL_law_559 hl (by decide) rfl (fun ls hl => ?_)
    have hIv := hI0.same ho (sam_tf I o 1) (VSame.rf V) hR.2.2.2.2.2
    have hth : tf I o 1 o 0 = nI 1 := by unfold tf; rw [va_up_self]; rfl
    refine law_tail (T := 561) (off := 1054) ⟨dL_law_561, dL_law_562, dL_law_565, dL_law_567, dL_law_572, dL_law_574, dL_law_577, dL_law_578, dL_law_579, dL_law_580, dL_law_582, dL_law_583, dL_law_584, dL_law_589, by omega⟩ hx hb hml hown hts hM hIv.1.2.1 hIv.1.2.2 (k := 1) (by decide) (lv_sub hl [4, 3, 1, 0] rfl) hth (fun hz9 => absurd hz9 (by decide)) (by omega) (by omega) (fun H locs hM => ?_) rfl
    exact W.widen (by omega) (by omega) (K _ _ _ _ _ _ _ _ _ _ _ _ _ _ (by omega) hIv hM (lv_sub hl [2, 3, 4, 5, 6] rfl))
  · skip
    rcases rg_ix p1 (n := ns) (by omega) with hq1 | ⟨i, hi, rfl⟩
    · skip
      refine fb_callW hx hb hml hown hts hM hE hNc (As := [.ref (sa S 0), .int (nI q), .int p1, .ref (sa S 2000)]) (rest := []) (c_L_sweep_IOE a0 D y l S V I h03 hO (nI q) p1 (c_X3_sweep_x1 a0 D y l hfl S V I a0.1 ns nt es na hC cf rf df hF q hq p1 hq1)) (vx_cwSW 4 hts gL_law_L_sweep rfl rfl rfl (by decide +kernel) ⟨Nat.le_of_ble_eq_true rfl, Nat.le_of_ble_eq_true rfl⟩) rfl hl.1 rfl (Nat.le_of_ble_eq_true rfl) dL_law_538 ⟨by omega, by omega⟩ (fun v1 u H locs hp hM => ?_)
      obtain ⟨hv_, hu_⟩ := hp
      have hv_ : v1 = nI 1 := hv_.trans (by decide)
      have hv_ := hv_.symm
      have hu_ := hu_.symm
      subst hv_
      subst hu_
      refine lv_istore (lv' := [(5, .int (nI 1)), (4, .int (nI j)), (3, .ref (sa S 2000)), (2, .ref (sa S o)), (1, .ref (sa S 0)), (0, .ref b)]) hx hb dL_law_541 hl (by decide) rfl (fun ls hl => ?_)
      refine lv_aload_n hx hb dL_law_543 rfl (lv_at hl 3 rfl) ?_
      refine law_arg hx hb hX hbl hbA hM.2.2.1 (lv_sub hl [5, 1] rfl) 1 (by decide) (by omega) hL2 hp0 dL_law_544 dL_law_545 dL_law_547 dL_law_548 dL_law_549 ?_
      refine law_arg hx hb hX hbl hbA hM.2.2.1 (lv_sub hl [5, 1] rfl) 2 (by decide) (by omega) hL2 hp1 dL_law_550 dL_law_551 dL_law_553 dL_law_554 dL_law_555 ?_
      refine fb_callVi (r := o) hx hb hml hown hts hM (hA.1.1) (ce4 (hA.1.2)) rfl (As := [.int (nI q), .int p1]) (rest := []) (c_X4_sweep_f1o D y l S V I o nt cf rf hA ns df hG q (Nat.zero_le _) (by omega) p1 hq1) (cwV 2 hts gL_law_X4_sweep rfl rfl rfl (by decide +kernel) ⟨Nat.le_of_ble_eq_true rfl, Nat.le_of_ble_eq_true rfl⟩) rfl hl.1 rfl (Nat.le_of_ble_eq_true rfl) dL_law_556 ⟨by omega, by omega⟩ (fun v3 u H locs hp hM => ?_)
      obtain ⟨hv_, hu_⟩ := hp
      have hu_ := hu_.symm
      subst hu_
      refine lv_istore (lv' := [(6, .int v3), (5, .int (nI 1)), (4, .int (nI j)), (3, .ref (sa S 2000)), (2, .ref (sa S o)), (1, .ref (sa S 0)), (0, .ref b)]) hx hb dL_law_559 hl (by decide) rfl (fun ls hl => ?_)
      have hIv := hI0.same ho (sam_tf I o 1) (VSame.rf V) hR.2.2.2.2.2
      have hth : tf I o 1 o 0 = nI 1 := by unfold tf; rw [va_up_self]; rfl
      refine law_tail (T := 561) (off := 1054) ⟨dL_law_561, dL_law_562, dL_law_565, dL_law_567, dL_law_572, dL_law_574, dL_law_577, dL_law_578, dL_law_579, dL_law_580, dL_law_582, dL_law_583, dL_law_584, dL_law_589, by omega⟩ hx hb hml hown hts hM hIv.1.2.1 hIv.1.2.2 (k := 1) (by decide) (lv_sub hl [4, 3, 1, 0] rfl) hth (fun hz9 => absurd hz9 (by decide)) (by omega) (by omega) (fun H locs hM => ?_) rfl
      exact W.widen (by omega) (by omega) (K _ _ _ _ _ _ _ _ _ _ _ _ _ _ (by omega) hIv hM (lv_sub hl [2, 3, 4, 5, 6] rfl))
    · skip
      refine fb_callW hx hb hml hown hts hM hE hNc (As := [.ref (sa S 0), .int (nI q), .int (nI i), .ref (sa S 2000)]) (rest := []) (c_L_sweep_ok a0 D y l S V I h03 hO (nI q) (nI i) (c_X3_sweep_ok D y l S V I a0.1 ns nt es na hC cf rf df hF q hq i hi) (fun v u hq => by obtain ⟨_, hq⟩ := hq; subst hq; exact ⟨hO, rfl⟩)) (vx_cwSW 4 hts gL_law_L_sweep rfl rfl rfl (by decide +kernel) ⟨Nat.le_of_ble_eq_true rfl, Nat.le_of_ble_eq_true rfl⟩) rfl hl.1 rfl (Nat.le_of_ble_eq_true rfl) dL_law_538 ⟨by omega, by omega⟩ (fun v1 u H locs hp hM => ?_)
      obtain ⟨hv_, v2, u1, hq, hu_⟩ := hp
      have hv_ : v1 = nI 0 := hv_
      have hv_ := hv_.symm
      subst hv_
      obtain ⟨hq1, hq2⟩ := hq
      subst hq2
      subst hq1
      obtain ⟨J, eJ⟩ : ∃ J, J = va_up I 2000 (upd (I 2000) 0 (sws (V (100 + 2 * q)) (V (200 + 2 * i)) 6)) := ⟨_, rfl⟩
      have hM : fb_M D y A s (S, (va_up (va_up V (100 + 2 * q) (swa (V (100 + 2 * q)) (V (200 + 2 * i)) 6)) (200 + 2 * i) (swb (V (100 + 2 * q)) (V (200 + 2 * i)) 6)), (sT (va_up (va_up V (100 + 2 * q) (swa (V (100 + 2 * q)) (V (200 + 2 * i)) 6)) (200 + 2 * i) (swb (V (100 + 2 * q)) (V (200 + 2 * i)) 6))), J) H locs := by rw [hu_] at hM; rw [eJ]; exact hM
      have hG2 : MF J o ns nt cf rf df := by rw [eJ]; exact mfc hG (by simp (discharger := omega) only [va_up_ne, t0_ne, va_up_self]) (by simp (discharger := omega) only [va_up_ne, t0_ne, va_up_self]) (by simp (discharger := omega) only [va_up_ne, t0_ne, va_up_self]) (by simp (discharger := omega) only [va_up_ne, t0_ne, va_up_self])
      refine lv_istore (lv' := [(5, .int (nI 0)), (4, .int (nI j)), (3, .ref (sa S 2000)), (2, .ref (sa S o)), (1, .ref (sa S 0)), (0, .ref b)]) hx hb dL_law_541 hl (by decide) rfl (fun ls hl => ?_)
      refine lv_aload_n hx hb dL_law_543 rfl (lv_at hl 3 rfl) ?_
      refine law_arg hx hb hX hbl hbA hM.2.2.1 (lv_sub hl [5, 1] rfl) 1 (by decide) (by omega) hL2 hp0 dL_law_544 dL_law_545 dL_law_547 dL_law_548 dL_law_549 ?_
      refine law_arg hx hb hX hbl hbA hM.2.2.1 (lv_sub hl [5, 1] rfl) 2 (by decide) (by omega) hL2 hp1 dL_law_550 dL_law_551 dL_law_553 dL_law_554 dL_law_555 ?_
      refine fb_callVi (r := o) hx hb hml hown hts hM (hA.1.1) (ce4 (hA.1.2)) rfl (As := [.int (nI q), .int (nI i)]) (rest := []) (c_X4_sweep_ok D y l S (va_up (va_up V (100 + 2 * q) (swa (V (100 + 2 * q)) (V (200 + 2 * i)) 6)) (200 + 2 * i) (swb (V (100 + 2 * q)) (V (200 + 2 * i)) 6)) J o nt cf rf hA ns df hG2 q (Nat.zero_le _) (by omega) i hi) (cwV 2 hts gL_law_X4_sweep rfl rfl rfl (by decide +kernel) ⟨Nat.le_of_ble_eq_true rfl, Nat.le_of_ble_eq_true rfl⟩) rfl hl.1 rfl (Nat.le_of_ble_eq_true rfl) dL_law_556 ⟨by omega, by omega⟩ (fun v3 u H locs hp hM => ?_)
      obtain ⟨hv_, hu_⟩ := hp
      have hu_ := hu_.symm
      subst hu_
      refine lv_istore (lv' := [(6, .int v3), (5, .int (nI 0)), (4, .int (nI j)), (3, .ref (sa S 2000)), (2, .ref (sa S o)), (1, .ref (sa S 0)), (0, .ref b)]) hx hb dL_law_559 hl (by decide) rfl (fun ls hl => ?_)
      have ej1 : J (o + 1) = I (o + 1) := by simp (discharger := omega) only [va_up_ne, va_up_self, t0_ne, t0_f, eJ]
      have ej3 : J (o + 3) = I (o + 3) := by simp (discharger := omega) only [va_up_ne, va_up_self, t0_ne, t0_f, eJ]
      rw [ej1, ej3, ← (hR.2.1 i (by omega)).2.1 hi, ← (hR.2.2.2.1 q hq).1] at hM hv_
      have hsw := SWE (A := (V (100 + 2 * q))) (B := (V (200 + 2 * i))) (N := N) (by rw [(hR.2.2.2.1 q hq).1]; exact (hR.2.2.2.1 q hq).2) (by omega) (by rw [(hR.2.1 i (by omega)).2.1 hi]; exact (hR.2.1 i (by omega)).1)
      have hth : (va_up (va_up (t0 J o) (o + 3) (bk (I (o + 3)) q (swa (V (100 + 2 * q)) (V (200 + 2 * i)) 6))) (o + 1) (bk (I (o + 1)) i (swb (V (100 + 2 * q)) (V (200 + 2 * i)) 6))) o 0 = nI 0 := by rw [va_up_ne _ _ (show o ≠ o + 1 by omega), va_up_ne _ _ (show o ≠ o + 3 by omega)]; exact t0_z J o
      have hIv := (Iv.sweep ho hI0 hi hq hsw.1 hsw.2 rfl (by simp (discharger := omega) only [va_up_ne, va_up_self, t0_ne, t0_f]) (by simp (discharger := omega) only [va_up_ne, va_up_self, t0_ne, t0_f]) (fun j9 h9 => by simp (discharger := omega) only [va_up_ne, va_up_self, t0_ne, t0_f, eJ]) (fun x9 a9 b9 c9 d9 => by simp (discharger := omega) only [va_up_ne, va_up_self, t0_ne, t0_f, eJ]) : Iv a0.1 S (va_up (va_up V (100 + 2 * q) (swa (V (100 + 2 * q)) (V (200 + 2 * i)) 6)) (200 + 2 * i) (swb (V (100 + 2 * q)) (V (200 + 2 * i)) 6)) (va_up (va_up (t0 J o) (o + 3) (bk (I (o + 3)) q (swa (V (100 + 2 * q)) (V (200 + 2 * i)) 6))) (o + 1) (bk (I (o + 1)) i (swb (V (100 + 2 * q)) (V (200 + 2 * i)) 6))) o ns nt es na cf rf df N)
      refine law_tail (T := 561) (off := 1054) ⟨dL_law_561, dL_law_562, dL_law_565, dL_law_567, dL_law_572, dL_law_574, dL_law_577, dL_law_578, dL_law_579, dL_law_580, dL_law_582, dL_law_583, dL_law_584, dL_law_589, by omega⟩ hx hb hml hown hts hM hIv.1.2.1 hIv.1.2.2 (k := 0) (by decide) (lv_sub hl [4, 3, 1, 0] rfl) hth (fun hz9 => (show (va_up (va_up (t0 J o) (o + 3) (bk (I (o + 3)) q (swa (V (100 + 2 * q)) (V (200 + 2 * i)) 6))) (o + 1) (bk (I (o + 1)) i (swb (V (100 + 2 * q)) (V (200 + 2 * i)) 6))) 2000 0 = (sws (V (100 + 2 * q)) (V (200 + 2 * i)) 6) from by simp (discharger := omega) only [va_up_ne, va_up_self, t0_ne, eJ]; exact if_pos rfl).trans (hv_.symm)) (by omega) (by omega) (fun H locs hM => ?_) rfl
      exact W.widen (by omega) (by omega) (K _ _ _ _ _ _ _ _ _ _ _ _ _ _ (by omega) hIv hM (lv_sub hl [2, 3, 4, 5, 6] rfl))
end LAWS
