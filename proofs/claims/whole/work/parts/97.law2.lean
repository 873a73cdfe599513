theorem r_chamber (D : va_G) (y : Nat → ClassId) (l : Launch) (S : fb_Sh) (V I : fb_V) (o nt : Nat) (cf rf : Nat → Nat) (hA : MdAt S o nt cf rf) (ns : Nat) (df : Nat → Nat) (hF : MF I o ns nt cf rf df) (q : Nat) (hq : q < 5) (k : Nat) (hk : k < 9) : CI D y l yX4_chamber wsX4_chamber rm_X4_chamber [.ref (sa S o), .int (nI q), .int (nI k)] (S, V, (sT V), I) (fun z u => z = chTm (I (o + 3)) q k ∧ u = (S, V, sT V, t0 I o)) 0 0 := by
  match k, hk with
  | 0, _ => exact c_X4_chamber_0 D y l S V I o nt cf rf hA ns df hF q hq
  | 1, _ => exact c_X4_chamber_1 D y l S V I o nt cf rf hA ns df hF q hq
  | 2, _ => exact c_X4_chamber_2 D y l S V I o nt cf rf hA ns df hF q hq
  | 3, _ => exact c_X4_chamber_3 D y l S V I o nt cf rf hA ns df hF q hq
  | 4, _ => exact c_X4_chamber_4 D y l S V I o nt cf rf hA ns df hF q hq
  | 5, _ => exact c_X4_chamber_5 D y l S V I o nt cf rf hA ns df hF q hq
  | 6, _ => exact c_X4_chamber_6 D y l S V I o nt cf rf hA ns df hF q hq
  | 7, _ => exact c_X4_chamber_7 D y l S V I o nt cf rf hA ns df hF q hq
  | 8, _ => exact c_X4_chamber_8 D y l S V I o nt cf rf hA ns df hF q hq
  | k + 9, h => exact absurd h (by omega)
theorem r_square (D : va_G) (y : Nat → ClassId) (l : Launch) (S : fb_Sh) (V I : fb_V) (o nt : Nat) (cf rf : Nat → Nat) (hA : MdAt S o nt cf rf) (ns : Nat) (df : Nat → Nat) (hF : MF I o ns nt cf rf df) (t : Nat) (ht : t < nt) (q : Nat) (hq : q < cf t * rf t) (k : Nat) (hk : k < 10) : CI D y l yX4_square wsX4_square rm_X4_square [.ref (sa S o), .int (nI t), .int (nI q), .int (nI k)] (S, V, (sT V), I) (fun z u => z = sqv (cf t) (cf t * rf t) (I (o + 20 + t)) (I (o + 10 + t)) q k ∧ u = (S, V, sT V, t0 I o)) 0 0 := by
  match k, hk with
  | 0, _ => exact c_X4_square_0 D y l S V I o nt cf rf hA ns df hF t ht q hq
  | 1, _ => exact c_X4_square_1 D y l S V I o nt cf rf hA ns df hF t ht q hq
  | 2, _ => exact c_X4_square_2 D y l S V I o nt cf rf hA ns df hF t ht q hq
  | 3, _ => exact c_X4_square_3 D y l S V I o nt cf rf hA ns df hF t ht q hq
  | 4, _ => exact c_X4_square_4 D y l S V I o nt cf rf hA ns df hF t ht q hq
  | 5, _ => exact c_X4_square_5 D y l S V I o nt cf rf hA ns df hF t ht q hq
  | 6, _ => exact c_X4_square_6 D y l S V I o nt cf rf hA ns df hF t ht q hq
  | 7, _ => exact c_X4_square_7 D y l S V I o nt cf rf hA ns df hF t ht q hq
  | 8, _ => exact c_X4_square_8 D y l S V I o nt cf rf hA ns df hF t ht q hq
  | 9, _ => exact c_X4_square_9 D y l S V I o nt cf rf hA ns df hF t ht q hq
  | k + 10, h => exact absurd h (by omega)
theorem r_count (D : va_G) (y : Nat → ClassId) (l : Launch) (S : fb_Sh) (V I : fb_V) (o nt : Nat) (cf rf : Nat → Nat) (hA : MdAt S o nt cf rf) (ns : Nat) (df : Nat → Nat) (hF : MF I o ns nt cf rf df)  (k : Nat) (hk : k < 9) : CI D y l yX4_count wsX4_count rm_X4_count [.ref (sa S o), .int (nI k)] (S, V, (sT V), I) (fun z u => z = cnm (t0 I o) o ns nt cf rf k ∧ u = (S, V, sT V, t0 I o)) 0 0 := by
  match k, hk with
  | 0, _ => exact c_X4_count_0 D y l S V I o nt cf rf hA ns df hF 
  | 1, _ => exact c_X4_count_1 D y l S V I o nt cf rf hA ns df hF 
  | 2, _ => exact c_X4_count_2 D y l S V I o nt cf rf hA ns df hF 
  | 3, _ => exact c_X4_count_3 D y l S V I o nt cf rf hA ns df hF 
  | 4, _ => exact c_X4_count_4 D y l S V I o nt cf rf hA ns df hF 
  | 5, _ => exact c_X4_count_5 D y l S V I o nt cf rf hA ns df hF 
  | 6, _ => exact c_X4_count_6 D y l S V I o nt cf rf hA ns df hF 
  | 7, _ => exact c_X4_count_7 D y l S V I o nt cf rf hA ns df hF 
  | 8, _ => exact c_X4_count_8 D y l S V I o nt cf rf hA ns df hF 
  | k + 9, h => exact absurd h (by omega)
theorem r_tick (D : va_G) (y : Nat → ClassId) (l : Launch) (S : fb_Sh) (V I : fb_V) (o nt : Nat) (cf rf : Nat → Nat) (hA : MdAt S o nt cf rf) (ns : Nat) (df : Nat → Nat) (ho9 : o = 1000) (hF : MF I o ns nt cf rf df) (t : Nat) (ht : t < nt) (k : Nat) (hk : k < 9) : CI D y l yX4_tick wsX4_tick rm_X4_tick [.ref (sa S o), .int (nI t), .int (nI k)] (S, V, (sT V), I) (fun z u => ∃ p J, (k = 8 → pts (cf t) (cf t * rf t) (I (o + 20 + t)) p) ∧ z = tkv (cf t) (rf t) (df t) (I (o + 20 + t)) (I (o + 10 + t)) p k ∧ u = (S, V, sT V, J) ∧ Same I J o ∧ J 2000 = I 2000 ∧ J o 0 = 0) 0 0 := by
  match k, hk with
  | 0, _ => exact (c_X4_tick_0 D y l S V I o nt cf rf hA ns df hF t ht).mono (fun v u h => ⟨0, _, fun e => absurd e (by decide), h.1, h.2, sam_t0 I o, t0_ne I (by omega), by unfold t0; rw [va_up_self]; rfl⟩)
  | 1, _ => exact (c_X4_tick_1 D y l S V I o nt cf rf hA ns df hF t ht).mono (fun v u h => ⟨0, _, fun e => absurd e (by decide), h.1, h.2, sam_t0 I o, t0_ne I (by omega), by unfold t0; rw [va_up_self]; rfl⟩)
  | 2, _ => exact (c_X4_tick_2 D y l S V I o nt cf rf hA ns df hF t ht).mono (fun v u h => ⟨0, _, fun e => absurd e (by decide), h.1, h.2, sam_t0 I o, t0_ne I (by omega), by unfold t0; rw [va_up_self]; rfl⟩)
  | 3, _ => exact (c_X4_tick_3 D y l S V I o nt cf rf hA ns df hF t ht).mono (fun v u h => ⟨0, _, fun e => absurd e (by decide), h.1, h.2, sam_t0 I o, t0_ne I (by omega), by unfold t0; rw [va_up_self]; rfl⟩)
  | 4, _ => exact (c_X4_tick_4 D y l S V I o nt cf rf hA ns df hF t ht).mono (fun v u h => ⟨0, _, fun e => absurd e (by decide), h.1, h.2, sam_t0 I o, t0_ne I (by omega), by unfold t0; rw [va_up_self]; rfl⟩)
  | 5, _ => exact (c_X4_tick_5 D y l S V I o nt cf rf hA ns df hF t ht).mono (fun v u h => ⟨0, _, fun e => absurd e (by decide), h.1, h.2, sam_t0 I o, t0_ne I (by omega), by unfold t0; rw [va_up_self]; rfl⟩)
  | 6, _ => exact (c_X4_tick_6 D y l S V I o nt cf rf hA ns df hF t ht).mono (fun v u h => ⟨0, _, fun e => absurd e (by decide), h.1, h.2, sam_t0 I o, t0_ne I (by omega), by unfold t0; rw [va_up_self]; rfl⟩)
  | 7, _ => exact (c_X4_tick_7 D y l S V I o nt cf rf hA ns df hF t ht).mono (fun v u h => ⟨0, _, fun e => absurd e (by decide), h.1, h.2, sam_t0 I o, t0_ne I (by omega), by unfold t0; rw [va_up_self]; rfl⟩)
  | 8, _ => exact (c_X4_tick_8 D y l S V I o nt cf rf hA ns df hF t ht).mono (fun v u h => by obtain ⟨L, h1, h2, h3, h4, g, h5⟩ := h; exact ⟨v, _, fun _ => ⟨L, h1, h2, h3, h4⟩, rfl, h5, (sam_t0 I o).trans (sam_7 _ g), by rw [va_up_ne _ _ (show 2000 ≠ o + 7 by omega)]; exact t0_ne I (by omega), by rw [va_up_ne _ _ (show o ≠ o + 7 by omega)]; unfold t0; rw [va_up_self]; rfl⟩)
  | k + 9, h => exact absurd h (by omega)
def Kont (p : Program) (l : Launch) (e : Env) (s : State) (m : MethodId) (args : Array Value) (below : List Frame) (meth : Method) (c : Code) (Q : State → Prop) (D : va_G) (A : Nat → Prop) (y : Nat → ClassId) (a1 o b j N cells slots : Nat) : Prop := ∀ (S : fb_Sh) (V I : fb_V) (ns nt es na : Nat) (cf rf df : Nat → Nat) (N' : Nat) (H : Heap) (locs : List Loc) (ls : Array Slot), N' ≤ N + 3000 → Iv a1 S V I o ns nt es na cf rf df N' → fb_M D y A s (S, V, sT V, I) H locs → lv_has ls 9 [(4, .int (nI j)), (3, .ref (sa S 2000)), (2, .ref (sa S o)), (1, .ref (sa S 0)), (0, .ref b)] → W p l e room_1 s m args below meth c H locs (cells + 1100) (slots + 14000) Q (F0 m 1643 ls [])
section LAWS
variable {p : Program} {l : Launch} {e : Env} {s : State} {m : MethodId} {args : Array Value} {below : List Frame} {meth : Method} {c : Code} {H : Heap} {locs : List Loc} {cells slots : Nat} {Q : State → Prop} {D : va_G} {A : Nat → Prop} {y : Nat → ClassId} {a0 : Nat × Nat} {b L : Nat} {xs : Nat → Int32} {S : fb_Sh} {V I : fb_V} {ls : Array Slot}
set_option maxHeartbeats 4000000 in
set_option maxRecDepth 100000 in
theorem stp_sack (hL : Lw p l s m args c D A y a0 b L xs) {o j ns nt es na N : Nat} {cf rf df : Nat → Nat} (hM : fb_M D y A s (S, V, (sT V), I) H locs) (hI : Iv a0.1 S V I o ns nt es na cf rf df N) (ho : o = 1000) (hj : j + 5 ≤ L) (hN : N ≤ 1600000) (hc : cells + 1100 ≤ room_1.cells) (hs : slots + 14000 ≤ room_1.slots) (hl : lv_has ls 9 [(4, .int (nI j)), (3, .ref (sa S 2000)), (2, .ref (sa S o)), (1, .ref (sa S 0)), (0, .ref b)]) (K : Kont p l e s m args below meth c Q D A y a0.1 o b j N cells slots) : W p l e room_1 s m args below meth c H locs cells slots Q (F0 m 344 ls []) := by
  obtain ⟨hx, hb, hml, hown, hts, hE, hNc, hfl, hX, hbl, hbA, hL2⟩ := hL
  have hI0 := hI
  obtain ⟨⟨hC, hA, hO⟩, ⟨hEs, hFr⟩, ⟨hF, hG⟩, hR⟩ := hI
  have hns : ns ≤ 12 := hF.2.2.1
  have hnt : nt ≤ 6 := hF.2.2.2.1
  have h03 : 0 ∈ sR S ∧ sk S 0 = 3 := hC.1
  obtain ⟨p0, hp0⟩ : ∃ v, xs (j + 1) = v := ⟨_, rfl⟩
  obtain ⟨p1, hp1⟩ : ∃ v, xs (j + 2) = v := ⟨_, rfl⟩
  refine lv_aload_n hx hb dL_law_344 rfl (lv_at hl 3 rfl) ?_
  refine law_arg hx hb hX hbl hbA hM.2.2.1 (lv_sub hl [4, 0] rfl) 1 (by decide) (by omega) hL2 hp0 dL_law_345 dL_law_346 dL_law_348 dL_law_349 dL_law_350 ?_
  refine law_arg hx hb hX hbl hbA hM.2.2.1 (lv_sub hl [4, 0] rfl) 2 (by decide) (by omega) hL2 hp1 dL_law_351 dL_law_352 dL_law_354 dL_law_355 dL_law_356 ?_
  refine lv_aload_n hx hb dL_law_357 rfl (lv_at hl 1 rfl) ?_
  rcases rg_ix p0 (n := ns) (by omega) with hq0 | ⟨i, hi, rfl⟩
  · skip
    refine fb_callW hx hb hml hown hts hM hE hNc (As := [.ref (sa S 0), .int p0, .int p1, .ref (sa S 2000)]) (rest := []) (c_L_sack_IOE a0 D y l S V I h03 hO p0 p1 (c_X3_sack_x0 a0 D y l hfl S V I a0.1 ns nt es na hC cf rf df hF p0 hq0 p1)) (vx_cwSW 4 hts gL_law_L_sack rfl rfl rfl (by decide +kernel) ⟨Nat.le_of_ble_eq_true rfl, Nat.le_of_ble_eq_true rfl⟩) rfl hl.1 rfl (Nat.le_of_ble_eq_true rfl) dL_law_358 ⟨by omega, by omega⟩ (fun v1 u H locs hp hM => ?_)
    obtain ⟨hv_, hu_⟩ := hp
    have hv_ : v1 = nI 1 := hv_.trans (by decide)
    have hv_ := hv_.symm
    have hu_ := hu_.symm
    subst hv_
    subst hu_
    refine lv_istore (lv' := [(5, .int (nI 1)), (4, .int (nI j)), (3, .ref (sa S 2000)), (2, .ref (sa S o)), (1, .ref (sa S 0)), (0, .ref b)]) hx hb dL_law_361 hl (by decide) rfl (fun ls hl => ?_)
    refine lv_aload_n hx hb dL_law_363 rfl (lv_at hl 3 rfl) ?_
    refine law_arg hx hb hX hbl hbA hM.2.2.1 (lv_sub hl [5, 1] rfl) 1 (by decide) (by omega) hL2 hp0 dL_law_364 dL_law_365 dL_law_367 dL_law_368 dL_law_369 ?_
    refine law_arg hx hb hX hbl hbA hM.2.2.1 (lv_sub hl [5, 1] rfl) 2 (by decide) (by omega) hL2 hp1 dL_law_370 dL_law_371 dL_law_373 dL_law_374 dL_law_375 ?_
    refine fb_callVi (r := o) hx hb hml hown hts hM (hA.1.1) (ce4 (hA.1.2)) rfl (As := [.int p0, .int p1]) (rest := []) (c_X4_sack_f0o D y l S V I o nt cf rf hA ns df hG p0 hq0 p1) (cwV 2 hts gL_law_X4_sack rfl rfl rfl (by decide +kernel) ⟨Nat.le_of_ble_eq_true rfl, Nat.le_of_ble_eq_true rfl⟩) rfl hl.1 rfl (Nat.le_of_ble_eq_true rfl) dL_law_376 ⟨by omega, by omega⟩ (fun v3 u H locs hp hM => ?_)
    obtain ⟨hv_, hu_⟩ := hp
    have hu_ := hu_.symm
    subst hu_
    refine lv_istore (lv' := [(6, .int v3), (5, .int (nI 1)), (4, .int (nI j)), (3, .ref (sa S 2000)), (2, .ref (sa S o)), (1, .ref (sa S 0)), (0, .ref b)]) hx hb dL_law_379 hl (by decide) rfl (fun ls hl => ?_)
    have hIv := hI0.same ho (sam_tf I o 1) (VSame.rf V) hR.2.2.2.2.2
    have hth : tf I o 1 o 0 = nI 1 := by unfold tf; rw [va_up_self]; rfl
    refine law_tail (T := 381) (off := 1234) ⟨dL_law_381, dL_law_382, dL_law_385, dL_law_387, dL_law_392, dL_law_394, dL_law_397, dL_law_398, dL_law_399, dL_law_400, dL_law_402, dL_law_403, dL_law_404, dL_law_409, by omega⟩ hx hb hml hown hts hM hIv.1.2.1 hIv.1.2.2 (k := 1) (by decide) (lv_sub hl [4, 3, 1, 0] rfl) hth (fun hz9 => absurd hz9 (by decide)) (by omega) (by omega) (fun H locs hM => ?_) rfl
    exact W.widen (by omega) (by omega) (K _ _ _ _ _ _ _ _ _ _ _ _ _ _ (by omega) hIv hM (lv_sub hl [2, 3, 4, 5, 6] rfl))
  · skip
    rcases rg_ix p1 (n := 8) (by decide) with hq1 | ⟨k, hk, rfl⟩
    · skip
      have hr1 : p1 < 0 ∨ 7 < p1 := hq1.imp id (fun z => Int32.lt_of_lt_of_le (by decide) z)
      have hw1 : p1 < 0 ∨ 8 ≤ p1 := hq1
      refine fb_callW hx hb hml hown hts hM hE hNc (As := [.ref (sa S 0), .int (nI i), .int p1, .ref (sa S 2000)]) (rest := []) (c_L_sack_IOE a0 D y l S V I h03 hO (nI i) p1 (c_X3_sack_x1 a0 D y l hfl S V I a0.1 ns nt es na hC cf rf df hF i hi p1 hw1)) (vx_cwSW 4 hts gL_law_L_sack rfl rfl rfl (by decide +kernel) ⟨Nat.le_of_ble_eq_true rfl, Nat.le_of_ble_eq_true rfl⟩) rfl hl.1 rfl (Nat.le_of_ble_eq_true rfl) dL_law_358 ⟨by omega, by omega⟩ (fun v1 u H locs hp hM => ?_)
      obtain ⟨hv_, hu_⟩ := hp
      have hv_ : v1 = nI 1 := hv_.trans (by decide)
      have hv_ := hv_.symm
      have hu_ := hu_.symm
      subst hv_
      subst hu_
      refine lv_istore (lv' := [(5, .int (nI 1)), (4, .int (nI j)), (3, .ref (sa S 2000)), (2, .ref (sa S o)), (1, .ref (sa S 0)), (0, .ref b)]) hx hb dL_law_361 hl (by decide) rfl (fun ls hl => ?_)
      refine lv_aload_n hx hb dL_law_363 rfl (lv_at hl 3 rfl) ?_
      refine law_arg hx hb hX hbl hbA hM.2.2.1 (lv_sub hl [5, 1] rfl) 1 (by decide) (by omega) hL2 hp0 dL_law_364 dL_law_365 dL_law_367 dL_law_368 dL_law_369 ?_
      refine law_arg hx hb hX hbl hbA hM.2.2.1 (lv_sub hl [5, 1] rfl) 2 (by decide) (by omega) hL2 hp1 dL_law_370 dL_law_371 dL_law_373 dL_law_374 dL_law_375 ?_
      refine fb_callVi (r := o) hx hb hml hown hts hM (hA.1.1) (ce4 (hA.1.2)) rfl (As := [.int (nI i), .int p1]) (rest := []) (c_X4_sack_f1o D y l S V I o nt cf rf hA ns df hG i hi p1 hr1) (cwV 2 hts gL_law_X4_sack rfl rfl rfl (by decide +kernel) ⟨Nat.le_of_ble_eq_true rfl, Nat.le_of_ble_eq_true rfl⟩) rfl hl.1 rfl (Nat.le_of_ble_eq_true rfl) dL_law_376 ⟨by omega, by omega⟩ (fun v3 u H locs hp hM => ?_)
      obtain ⟨hv_, hu_⟩ := hp
      have hu_ := hu_.symm
      subst hu_
      refine lv_istore (lv' := [(6, .int v3), (5, .int (nI 1)), (4, .int (nI j)), (3, .ref (sa S 2000)), (2, .ref (sa S o)), (1, .ref (sa S 0)), (0, .ref b)]) hx hb dL_law_379 hl (by decide) rfl (fun ls hl => ?_)
      have hIv := hI0.same ho (sam_tf I o 1) (VSame.rf V) hR.2.2.2.2.2
      have hth : tf I o 1 o 0 = nI 1 := by unfold tf; rw [va_up_self]; rfl
      refine law_tail (T := 381) (off := 1234) ⟨dL_law_381, dL_law_382, dL_law_385, dL_law_387, dL_law_392, dL_law_394, dL_law_397, dL_law_398, dL_law_399, dL_law_400, dL_law_402, dL_law_403, dL_law_404, dL_law_409, by omega⟩ hx hb hml hown hts hM hIv.1.2.1 hIv.1.2.2 (k := 1) (by decide) (lv_sub hl [4, 3, 1, 0] rfl) hth (fun hz9 => absurd hz9 (by decide)) (by omega) (by omega) (fun H locs hM => ?_) rfl
      exact W.widen (by omega) (by omega) (K _ _ _ _ _ _ _ _ _ _ _ _ _ _ (by omega) hIv hM (lv_sub hl [2, 3, 4, 5, 6] rfl))
    · skip
      refine fb_callW hx hb hml hown hts hM hE hNc (As := [.ref (sa S 0), .int (nI i), .int (nI k), .ref (sa S 2000)]) (rest := []) (c_L_sack_ok a0 D y l S V I h03 hO (nI i) (nI k) (c_X3_sack_ok D y l S V I a0.1 ns nt es na hC cf rf df hF i hi k hk) (fun v u hq => by obtain ⟨_, hq⟩ := hq; subst hq; exact ⟨hO, rfl⟩)) (vx_cwSW 4 hts gL_law_L_sack rfl rfl rfl (by decide +kernel) ⟨Nat.le_of_ble_eq_true rfl, Nat.le_of_ble_eq_true rfl⟩) rfl hl.1 rfl (Nat.le_of_ble_eq_true rfl) dL_law_358 ⟨by omega, by omega⟩ (fun v1 u H locs hp hM => ?_)
      obtain ⟨hv_, v2, u1, hq, hu_⟩ := hp
      have hv_ : v1 = nI 0 := hv_
      have hv_ := hv_.symm
      subst hv_
      obtain ⟨hq1, hq2⟩ := hq
      subst hq2
      subst hq1
      obtain ⟨J, eJ⟩ : ∃ J, J = va_up I 2000 (upd (I 2000) 0 (sckT (V (200 + 2 * i)) (I (10 + i) 1) (nI k))) := ⟨_, rfl⟩
      have hM : fb_M D y A s (S, V, (sT V), J) H locs := by rw [hu_] at hM; rw [eJ]; exact hM
      have hG2 : MF J o ns nt cf rf df := by rw [eJ]; exact mf_same ho hG (sam_out I ho _)
      refine lv_istore (lv' := [(5, .int (nI 0)), (4, .int (nI j)), (3, .ref (sa S 2000)), (2, .ref (sa S o)), (1, .ref (sa S 0)), (0, .ref b)]) hx hb dL_law_361 hl (by decide) rfl (fun ls hl => ?_)
      refine lv_aload_n hx hb dL_law_363 rfl (lv_at hl 3 rfl) ?_
      refine law_arg hx hb hX hbl hbA hM.2.2.1 (lv_sub hl [5, 1] rfl) 1 (by decide) (by omega) hL2 hp0 dL_law_364 dL_law_365 dL_law_367 dL_law_368 dL_law_369 ?_
      refine law_arg hx hb hX hbl hbA hM.2.2.1 (lv_sub hl [5, 1] rfl) 2 (by decide) (by omega) hL2 hp1 dL_law_370 dL_law_371 dL_law_373 dL_law_374 dL_law_375 ?_
      refine fb_callVi (r := o) hx hb hml hown hts hM (hA.1.1) (ce4 (hA.1.2)) rfl (As := [.int (nI i), .int (nI k)]) (rest := []) (c_X4_sack_ok D y l S V J o nt cf rf hA ns df hG2 i hi k (Nat.zero_le _) (by omega)) (cwV 2 hts gL_law_X4_sack rfl rfl rfl (by decide +kernel) ⟨Nat.le_of_ble_eq_true rfl, Nat.le_of_ble_eq_true rfl⟩) rfl hl.1 rfl (Nat.le_of_ble_eq_true rfl) dL_law_376 ⟨by omega, by omega⟩ (fun v3 u H locs hp hM => ?_)
      obtain ⟨hv_, hu_⟩ := hp
      have hu_ := hu_.symm
      subst hu_
      refine lv_istore (lv' := [(6, .int v3), (5, .int (nI 0)), (4, .int (nI j)), (3, .ref (sa S 2000)), (2, .ref (sa S o)), (1, .ref (sa S 0)), (0, .ref b)]) hx hb dL_law_379 hl (by decide) rfl (fun ls hl => ?_)
      have hth : t0 J o o 0 = nI 0 := by unfold t0; rw [va_up_self]; rfl
      have hIv := hI0.same (J := t0 J o) ho (by rw [eJ]; exact (sam_out I ho _).trans (sam_t0 _ o)) (VSame.rf V) hR.2.2.2.2.2
      refine law_tail (T := 381) (off := 1234) ⟨dL_law_381, dL_law_382, dL_law_385, dL_law_387, dL_law_392, dL_law_394, dL_law_397, dL_law_398, dL_law_399, dL_law_400, dL_law_402, dL_law_403, dL_law_404, dL_law_409, by omega⟩ hx hb hml hown hts hM hIv.1.2.1 hIv.1.2.2 (k := 0) (by decide) (lv_sub hl [4, 3, 1, 0] rfl) hth (fun hz9 => (show t0 J o 2000 0 = (sckT (V (200 + 2 * i)) (I (10 + i) 1) (nI k)) from by simp (discharger := omega) only [va_up_ne, va_up_self, t0_ne, eJ]; exact if_pos rfl).trans (by rw [hv_, eJ, va_up_ne _ _ (show o + 1 ≠ 2000 by omega), va_up_ne _ _ (show o + 2 ≠ 2000 by omega), (hR.2.1 i (by omega)).2.1 hi, (hR.2.2.1 i hi).1])) (by omega) (by omega) (fun H locs hM => ?_) rfl
      exact W.widen (by omega) (by omega) (K _ _ _ _ _ _ _ _ _ _ _ _ _ _ (by omega) hIv hM (lv_sub hl [2, 3, 4, 5, 6] rfl))
set_option maxHeartbeats 4000000 in
set_option maxRecDepth 100000 in
theorem stp_setWind (hL : Lw p l s m args c D A y a0 b L xs) {o j ns nt es na N : Nat} {cf rf df : Nat → Nat} (hM : fb_M D y A s (S, V, (sT V), I) H locs) (hI : Iv a0.1 S V I o ns nt es na cf rf df N) (ho : o = 1000) (hj : j + 5 ≤ L) (hN : N ≤ 1600000) (hc : cells + 1100 ≤ room_1.cells) (hs : slots + 14000 ≤ room_1.slots) (hl : lv_has ls 9 [(4, .int (nI j)), (3, .ref (sa S 2000)), (2, .ref (sa S o)), (1, .ref (sa S 0)), (0, .ref b)]) (K : Kont p l e s m args below meth c Q D A y a0.1 o b j N cells slots) : W p l e room_1 s m args below meth c H locs cells slots Q (F0 m 412 ls []) := by
  obtain ⟨hx, hb, hml, hown, hts, hE, hNc, hfl, hX, hbl, hbA, hL2⟩ := hL
  have hI0 := hI
  obtain ⟨⟨hC, hA, hO⟩, ⟨hEs, hFr⟩, ⟨hF, hG⟩, hR⟩ := hI
  have hns : ns ≤ 12 := hF.2.2.1
  have hnt : nt ≤ 6 := hF.2.2.2.1
  have h03 : 0 ∈ sR S ∧ sk S 0 = 3 := hC.1
  obtain ⟨p0, hp0⟩ : ∃ v, xs (j + 1) = v := ⟨_, rfl⟩
  refine lv_aload_n hx hb dL_law_412 rfl (lv_at hl 3 rfl) ?_
  refine law_arg hx hb hX hbl hbA hM.2.2.1 (lv_sub hl [4, 0] rfl) 1 (by decide) (by omega) hL2 hp0 dL_law_413 dL_law_414 dL_law_416 dL_law_417 dL_law_418 ?_
  refine lv_aload_n hx hb dL_law_419 rfl (lv_at hl 1 rfl) ?_
  rcases rg_lh p0 1 20 (by decide) (by decide) with hq0 | ⟨w, hwa, hw, rfl⟩
  · skip
    have hw0 : p0 < 1 ∨ 20 < p0 := hq0
    refine fb_callW hx hb hml hown hts hM hE hNc (As := [.ref (sa S 0), .int p0, .ref (sa S 2000)]) (rest := []) (c_L_setWind_IAE a0 D y l S V I h03 hO p0 (c_X3_setWind_x0 a0 D y l hfl S V I a0.1 ns nt es na hC cf rf df hF p0 hw0)) (vx_cwSW 3 hts gL_law_L_setWind rfl rfl rfl (by decide +kernel) ⟨Nat.le_of_ble_eq_true rfl, Nat.le_of_ble_eq_true rfl⟩) rfl hl.1 rfl (Nat.le_of_ble_eq_true rfl) dL_law_420 ⟨by omega, by omega⟩ (fun v1 u H locs hp hM => ?_)
    obtain ⟨hv_, hu_⟩ := hp
    have hv_ : v1 = nI 1 := hv_.trans (by decide)
    have hv_ := hv_.symm
    have hu_ := hu_.symm
    subst hv_
    subst hu_
    refine lv_istore (lv' := [(5, .int (nI 1)), (4, .int (nI j)), (3, .ref (sa S 2000)), (2, .ref (sa S o)), (1, .ref (sa S 0)), (0, .ref b)]) hx hb dL_law_423 hl (by decide) rfl (fun ls hl => ?_)
    refine lv_aload_n hx hb dL_law_425 rfl (lv_at hl 3 rfl) ?_
    refine law_arg hx hb hX hbl hbA hM.2.2.1 (lv_sub hl [5, 1] rfl) 1 (by decide) (by omega) hL2 hp0 dL_law_426 dL_law_427 dL_law_429 dL_law_430 dL_law_431 ?_
    refine fb_callVi (r := o) hx hb hml hown hts hM (hA.1.1) (ce4 (hA.1.2)) rfl (As := [.int p0]) (rest := []) (c_X4_setWind_f0o D y l S V I o nt cf rf hA ns df hG p0 hw0) (cwV 1 hts gL_law_X4_setWind rfl rfl rfl (by decide +kernel) ⟨Nat.le_of_ble_eq_true rfl, Nat.le_of_ble_eq_true rfl⟩) rfl hl.1 rfl (Nat.le_of_ble_eq_true rfl) dL_law_432 ⟨by omega, by omega⟩ (fun v3 u H locs hp hM => ?_)
    obtain ⟨hv_, hu_⟩ := hp
    have hu_ := hu_.symm
    subst hu_
    refine lv_istore (lv' := [(6, .int v3), (5, .int (nI 1)), (4, .int (nI j)), (3, .ref (sa S 2000)), (2, .ref (sa S o)), (1, .ref (sa S 0)), (0, .ref b)]) hx hb dL_law_435 hl (by decide) rfl (fun ls hl => ?_)
    have hIv := hI0.same ho (sam_tf I o 1) (VSame.rf V) hR.2.2.2.2.2
    have hth : tf I o 1 o 0 = nI 1 := by unfold tf; rw [va_up_self]; rfl
    refine law_tail (T := 437) (off := 1178) ⟨dL_law_437, dL_law_438, dL_law_441, dL_law_443, dL_law_448, dL_law_450, dL_law_453, dL_law_454, dL_law_455, dL_law_456, dL_law_458, dL_law_459, dL_law_460, dL_law_465, by omega⟩ hx hb hml hown hts hM hIv.1.2.1 hIv.1.2.2 (k := 1) (by decide) (lv_sub hl [4, 3, 1, 0] rfl) hth (fun hz9 => absurd hz9 (by decide)) (by omega) (by omega) (fun H locs hM => ?_) rfl
    exact W.widen (by omega) (by omega) (K _ _ _ _ _ _ _ _ _ _ _ _ _ _ (by omega) hIv hM (lv_sub hl [2, 3, 4, 5, 6] rfl))
  · skip
    refine fb_callW hx hb hml hown hts hM hE hNc (As := [.ref (sa S 0), .int (nI w), .ref (sa S 2000)]) (rest := []) (c_L_setWind_ok a0 D y l S V I h03 hO (nI w) (c_X3_setWind_ok D y l S V I a0.1 ns nt es na hC cf rf df hF w hwa hw) (fun v u hq => by obtain ⟨_, hq⟩ := hq; subst hq; exact ⟨hO, rfl⟩)) (vx_cwSW 3 hts gL_law_L_setWind rfl rfl rfl (by decide +kernel) ⟨Nat.le_of_ble_eq_true rfl, Nat.le_of_ble_eq_true rfl⟩) rfl hl.1 rfl (Nat.le_of_ble_eq_true rfl) dL_law_420 ⟨by omega, by omega⟩ (fun v1 u H locs hp hM => ?_)
    obtain ⟨hv_, v2, u1, hq, hu_⟩ := hp
    have hv_ : v1 = nI 0 := hv_
    have hv_ := hv_.symm
    subst hv_
    obtain ⟨hq1, hq2⟩ := hq
    subst hq2
    subst hq1
    obtain ⟨J, eJ⟩ : ∃ J, J = va_up (va_up I 0 (upd (I 0) 4 (nI w))) 2000 (upd ((va_up I 0 (upd (I 0) 4 (nI w))) 2000) 0 (I 0 4)) := ⟨_, rfl⟩
    have hM : fb_M D y A s (S, V, (sT V), J) H locs := by rw [hu_] at hM; rw [eJ]; exact hM
    have hG2 : MF J o ns nt cf rf df := by rw [eJ]; exact mfc hG (by simp (discharger := omega) only [va_up_ne, t0_ne, va_up_self]) (by simp (discharger := omega) only [va_up_ne, t0_ne, va_up_self]) (by simp (discharger := omega) only [va_up_ne, t0_ne, va_up_self]) (by simp (discharger := omega) only [va_up_ne, t0_ne, va_up_self])
    refine lv_istore (lv' := [(5, .int (nI 0)), (4, .int (nI j)), (3, .ref (sa S 2000)), (2, .ref (sa S o)), (1, .ref (sa S 0)), (0, .ref b)]) hx hb dL_law_423 hl (by decide) rfl (fun ls hl => ?_)
    refine lv_aload_n hx hb dL_law_425 rfl (lv_at hl 3 rfl) ?_
    refine law_arg hx hb hX hbl hbA hM.2.2.1 (lv_sub hl [5, 1] rfl) 1 (by decide) (by omega) hL2 hp0 dL_law_426 dL_law_427 dL_law_429 dL_law_430 dL_law_431 ?_
    refine fb_callVi (r := o) hx hb hml hown hts hM (hA.1.1) (ce4 (hA.1.2)) rfl (As := [.int (nI w)]) (rest := []) (c_X4_setWind_ok D y l S V J o nt cf rf hA ns df hG2 w hwa hw) (cwV 1 hts gL_law_X4_setWind rfl rfl rfl (by decide +kernel) ⟨Nat.le_of_ble_eq_true rfl, Nat.le_of_ble_eq_true rfl⟩) rfl hl.1 rfl (Nat.le_of_ble_eq_true rfl) dL_law_432 ⟨by omega, by omega⟩ (fun v3 u H locs hp hM => ?_)
    obtain ⟨hv_, hu_⟩ := hp
    have hu_ := hu_.symm
    subst hu_
    refine lv_istore (lv' := [(6, .int v3), (5, .int (nI 0)), (4, .int (nI j)), (3, .ref (sa S 2000)), (2, .ref (sa S o)), (1, .ref (sa S 0)), (0, .ref b)]) hx hb dL_law_435 hl (by decide) rfl (fun ls hl => ?_)
    have hth : (va_up (t0 J o) o (upd (t0 J o o) 4 (nI w))) o 0 = nI 0 := by rw [va_up_self]; exact (if_neg (by decide)).trans (t0_z J o)
    have hIv := (Iv.setWind ho hI0 hwa hw (by simp (discharger := omega) only [va_up_ne, va_up_self, t0_ne, t0_f, eJ]) (fun j9 h9 => by rw [va_up_self]; exact upd_pt (by simp (discharger := omega) only [va_up_ne, va_up_self, t0_ne, t0_f, eJ])) (fun x9 a9 b9 c9 => by simp (discharger := omega) only [va_up_ne, va_up_self, t0_ne, t0_f, eJ]) : Iv a0.1 S V (va_up (t0 J o) o (upd (t0 J o o) 4 (nI w))) o ns nt es na cf rf df N)
    refine law_tail (T := 437) (off := 1178) ⟨dL_law_437, dL_law_438, dL_law_441, dL_law_443, dL_law_448, dL_law_450, dL_law_453, dL_law_454, dL_law_455, dL_law_456, dL_law_458, dL_law_459, dL_law_460, dL_law_465, by omega⟩ hx hb hml hown hts hM hIv.1.2.1 hIv.1.2.2 (k := 0) (by decide) (lv_sub hl [4, 3, 1, 0] rfl) hth (fun hz9 => (show (va_up (t0 J o) o (upd (t0 J o o) 4 (nI w))) 2000 0 = (I 0 4) from by simp (discharger := omega) only [va_up_ne, va_up_self, t0_ne, eJ]; exact if_pos rfl).trans (by rw [hv_]; rw [hR.1.1]; simp (discharger := omega) only [va_up_ne, va_up_self, t0_ne, t0_f, eJ])) (by omega) (by omega) (fun H locs hM => ?_) rfl
    exact W.widen (by omega) (by omega) (K _ _ _ _ _ _ _ _ _ _ _ _ _ _ (by omega) hIv hM (lv_sub hl [2, 3, 4, 5, 6] rfl))
set_option maxHeartbeats 4000000 in
set_option maxRecDepth 100000 in
theorem stp_chamber (hL : Lw p l s m args c D A y a0 b L xs) {o j ns nt es na N : Nat} {cf rf df : Nat → Nat} (hM : fb_M D y A s (S, V, (sT V), I) H locs) (hI : Iv a0.1 S V I o ns nt es na cf rf df N) (ho : o = 1000) (hj : j + 5 ≤ L) (hN : N ≤ 1600000) (hc : cells + 1100 ≤ room_1.cells) (hs : slots + 14000 ≤ room_1.slots) (hl : lv_has ls 9 [(4, .int (nI j)), (3, .ref (sa S 2000)), (2, .ref (sa S o)), (1, .ref (sa S 0)), (0, .ref b)]) (K : Kont p l e s m args below meth c Q D A y a0.1 o b j N cells slots) : W p l e room_1 s m args below meth c H locs cells slots Q (F0 m 592 ls []) := by
  obtain ⟨hx, hb, hml, hown, hts, hE, hNc, hfl, hX, hbl, hbA, hL2⟩ := hL
  have hI0 := hI
  obtain ⟨⟨hC, hA, hO⟩, ⟨hEs, hFr⟩, ⟨hF, hG⟩, hR⟩ := hI
  have hns : ns ≤ 12 := hF.2.2.1
  have hnt : nt ≤ 6 := hF.2.2.2.1
  have h03 : 0 ∈ sR S ∧ sk S 0 = 3 := hC.1
  obtain ⟨p0, hp0⟩ : ∃ v, xs (j + 1) = v := ⟨_, rfl⟩
  obtain ⟨p1, hp1⟩ : ∃ v, xs (j + 2) = v := ⟨_, rfl⟩
  refine lv_aload_n hx hb dL_law_592 rfl (lv_at hl 3 rfl) ?_
  refine law_arg hx hb hX hbl hbA hM.2.2.1 (lv_sub hl [4, 0] rfl) 1 (by decide) (by omega) hL2 hp0 dL_law_593 dL_law_594 dL_law_596 dL_law_597 dL_law_598 ?_
  refine law_arg hx hb hX hbl hbA hM.2.2.1 (lv_sub hl [4, 0] rfl) 2 (by decide) (by omega) hL2 hp1 dL_law_599 dL_law_600 dL_law_602 dL_law_603 dL_law_604 ?_
  refine lv_aload_n hx hb dL_law_605 rfl (lv_at hl 1 rfl) ?_
  rcases rg_ix p0 (n := 5) (by decide) with hq0 | ⟨q, hq, rfl⟩
  · skip
    have hr0 : p0 < 0 ∨ 4 < p0 := hq0.imp id (fun z => Int32.lt_of_lt_of_le (by decide) z)
    refine fb_callW hx hb hml hown hts hM hE hNc (As := [.ref (sa S 0), .int p0, .int p1, .ref (sa S 2000)]) (rest := []) (c_L_chamber_IOE a0 D y l S V I h03 hO p0 p1 (c_X3_chamber_x0 a0 D y l hfl S V I a0.1 ns nt es na hC cf rf df hF p0 hq0 p1)) (vx_cwSW 4 hts gL_law_L_chamber rfl rfl rfl (by decide +kernel) ⟨Nat.le_of_ble_eq_true rfl, Nat.le_of_ble_eq_true rfl⟩) rfl hl.1 rfl (Nat.le_of_ble_eq_true rfl) dL_law_606 ⟨by omega, by omega⟩ (fun v1 u H locs hp hM => ?_)
    obtain ⟨hv_, hu_⟩ := hp
    have hv_ : v1 = nI 1 := hv_.trans (by decide)
    have hv_ := hv_.symm
    have hu_ := hu_.symm
    subst hv_
    subst hu_
    refine lv_istore (lv' := [(5, .int (nI 1)), (4, .int (nI j)), (3, .ref (sa S 2000)), (2, .ref (sa S o)), (1, .ref (sa S 0)), (0, .ref b)]) hx hb dL_law_609 hl (by decide) rfl (fun ls hl => ?_)
    refine lv_aload_n hx hb dL_law_611 rfl (lv_at hl 3 rfl) ?_
    refine law_arg hx hb hX hbl hbA hM.2.2.1 (lv_sub hl [5, 1] rfl) 1 (by decide) (by omega) hL2 hp0 dL_law_612 dL_law_613 dL_law_615 dL_law_616 dL_law_617 ?_
    refine law_arg hx hb hX hbl hbA hM.2.2.1 (lv_sub hl [5, 1] rfl) 2 (by decide) (by omega) hL2 hp1 dL_law_618 dL_law_619 dL_law_621 dL_law_622 dL_law_623 ?_
    refine fb_callVi (r := o) hx hb hml hown hts hM (hA.1.1) (ce4 (hA.1.2)) rfl (As := [.int p0, .int p1]) (rest := []) (c_X4_chamber_f0o D y l S V I o nt cf rf hA ns df hG p0 hr0 p1) (cwV 2 hts gL_law_X4_chamber rfl rfl rfl (by decide +kernel) ⟨Nat.le_of_ble_eq_true rfl, Nat.le_of_ble_eq_true rfl⟩) rfl hl.1 rfl (Nat.le_of_ble_eq_true rfl) dL_law_624 ⟨by omega, by omega⟩ (fun v3 u H locs hp hM => ?_)
    obtain ⟨hv_, hu_⟩ := hp
    have hu_ := hu_.symm
    subst hu_
    refine lv_istore (lv' := [(6, .int v3), (5, .int (nI 1)), (4, .int (nI j)), (3, .ref (sa S 2000)), (2, .ref (sa S o)), (1, .ref (sa S 0)), (0, .ref b)]) hx hb dL_law_627 hl (by decide) rfl (fun ls hl => ?_)
    have hIv := hI0.same ho (sam_tf I o 1) (VSame.rf V) hR.2.2.2.2.2
    have hth : tf I o 1 o 0 = nI 1 := by unfold tf; rw [va_up_self]; rfl
    refine law_tail (T := 629) (off := 986) ⟨dL_law_629, dL_law_630, dL_law_633, dL_law_635, dL_law_640, dL_law_642, dL_law_645, dL_law_646, dL_law_647, dL_law_648, dL_law_650, dL_law_651, dL_law_652, dL_law_657, by omega⟩ hx hb hml hown hts hM hIv.1.2.1 hIv.1.2.2 (k := 1) (by decide) (lv_sub hl [4, 3, 1, 0] rfl) hth (fun hz9 => absurd hz9 (by decide)) (by omega) (by omega) (fun H locs hM => ?_) rfl
    exact W.widen (by omega) (by omega) (K _ _ _ _ _ _ _ _ _ _ _ _ _ _ (by omega) hIv hM (lv_sub hl [2, 3, 4, 5, 6] rfl))
  · skip
    rcases rg_ix p1 (n := 9) (by decide) with hq1 | ⟨k, hk, rfl⟩
    · skip
      have hr1 : p1 < 0 ∨ 8 < p1 := hq1.imp id (fun z => Int32.lt_of_lt_of_le (by decide) z)
      have hw1 : p1 < 0 ∨ 9 ≤ p1 := hq1
      refine fb_callW hx hb hml hown hts hM hE hNc (As := [.ref (sa S 0), .int (nI q), .int p1, .ref (sa S 2000)]) (rest := []) (c_L_chamber_IOE a0 D y l S V I h03 hO (nI q) p1 (c_X3_chamber_x1 a0 D y l hfl S V I a0.1 ns nt es na hC cf rf df hF q hq p1 hw1)) (vx_cwSW 4 hts gL_law_L_chamber rfl rfl rfl (by decide +kernel) ⟨Nat.le_of_ble_eq_true rfl, Nat.le_of_ble_eq_true rfl⟩) rfl hl.1 rfl (Nat.le_of_ble_eq_true rfl) dL_law_606 ⟨by omega, by omega⟩ (fun v1 u H locs hp hM => ?_)
      obtain ⟨hv_, hu_⟩ := hp
      have hv_ : v1 = nI 1 := hv_.trans (by decide)
      have hv_ := hv_.symm
      have hu_ := hu_.symm
      subst hv_
      subst hu_
      refine lv_istore (lv' := [(5, .int (nI 1)), (4, .int (nI j)), (3, .ref (sa S 2000)), (2, .ref (sa S o)), (1, .ref (sa S 0)), (0, .ref b)]) hx hb dL_law_609 hl (by decide) rfl (fun ls hl => ?_)
      refine lv_aload_n hx hb dL_law_611 rfl (lv_at hl 3 rfl) ?_
      refine law_arg hx hb hX hbl hbA hM.2.2.1 (lv_sub hl [5, 1] rfl) 1 (by decide) (by omega) hL2 hp0 dL_law_612 dL_law_613 dL_law_615 dL_law_616 dL_law_617 ?_
      refine law_arg hx hb hX hbl hbA hM.2.2.1 (lv_sub hl [5, 1] rfl) 2 (by decide) (by omega) hL2 hp1 dL_law_618 dL_law_619 dL_law_621 dL_law_622 dL_law_623 ?_
      refine fb_callVi (r := o) hx hb hml hown hts hM (hA.1.1) (ce4 (hA.1.2)) rfl (As := [.int (nI q), .int p1]) (rest := []) (c_X4_chamber_f1o D y l S V I o nt cf rf hA ns df hG q (Nat.zero_le _) (by omega) p1 hr1) (cwV 2 hts gL_law_X4_chamber rfl rfl rfl (by decide +kernel) ⟨Nat.le_of_ble_eq_true rfl, Nat.le_of_ble_eq_true rfl⟩) rfl hl.1 rfl (Nat.le_of_ble_eq_true rfl) dL_law_624 ⟨by omega, by omega⟩ (fun v3 u H locs hp hM => ?_)
      obtain ⟨hv_, hu_⟩ := hp
      have hu_ := hu_.symm
      subst hu_
      refine lv_istore (lv' := [(6, .int v3), (5, .int (nI 1)), (4, .int (nI j)), (3, .ref (sa S 2000)), (2, .ref (sa S o)), (1, .ref (sa S 0)), (0, .ref b)]) hx hb dL_law_627 hl (by decide) rfl (fun ls hl => ?_)
      have hIv := hI0.same ho (sam_tf I o 1) (VSame.rf V) hR.2.2.2.2.2
      have hth : tf I o 1 o 0 = nI 1 := by unfold tf; rw [va_up_self]; rfl
      refine law_tail (T := 629) (off := 986) ⟨dL_law_629, dL_law_630, dL_law_633, dL_law_635, dL_law_640, dL_law_642, dL_law_645, dL_law_646, dL_law_647, dL_law_648, dL_law_650, dL_law_651, dL_law_652, dL_law_657, by omega⟩ hx hb hml hown hts hM hIv.1.2.1 hIv.1.2.2 (k := 1) (by decide) (lv_sub hl [4, 3, 1, 0] rfl) hth (fun hz9 => absurd hz9 (by decide)) (by omega) (by omega) (fun H locs hM => ?_) rfl
      exact W.widen (by omega) (by omega) (K _ _ _ _ _ _ _ _ _ _ _ _ _ _ (by omega) hIv hM (lv_sub hl [2, 3, 4, 5, 6] rfl))
    · skip
      refine fb_callW hx hb hml hown hts hM hE hNc (As := [.ref (sa S 0), .int (nI q), .int (nI k), .ref (sa S 2000)]) (rest := []) (c_L_chamber_ok a0 D y l S V I h03 hO (nI q) (nI k) (c_X3_chamber_ok D y l S V I a0.1 ns nt es na hC cf rf df hF q hq k hk) (fun v u hq => by obtain ⟨_, hq⟩ := hq; subst hq; exact ⟨hO, rfl⟩)) (vx_cwSW 4 hts gL_law_L_chamber rfl rfl rfl (by decide +kernel) ⟨Nat.le_of_ble_eq_true rfl, Nat.le_of_ble_eq_true rfl⟩) rfl hl.1 rfl (Nat.le_of_ble_eq_true rfl) dL_law_606 ⟨by omega, by omega⟩ (fun v1 u H locs hp hM => ?_)
      obtain ⟨hv_, v2, u1, hq, hu_⟩ := hp
      have hv_ : v1 = nI 0 := hv_
      have hv_ := hv_.symm
      subst hv_
      obtain ⟨hq1, hq2⟩ := hq
      subst hq2
      subst hq1
      obtain ⟨J, eJ⟩ : ∃ J, J = va_up I 2000 (upd (I 2000) 0 (ctl (V (100 + 2 * q)) k)) := ⟨_, rfl⟩
      have hM : fb_M D y A s (S, V, (sT V), J) H locs := by rw [hu_] at hM; rw [eJ]; exact hM
      have hG2 : MF J o ns nt cf rf df := by rw [eJ]; exact mf_same ho hG (sam_out I ho _)
      refine lv_istore (lv' := [(5, .int (nI 0)), (4, .int (nI j)), (3, .ref (sa S 2000)), (2, .ref (sa S o)), (1, .ref (sa S 0)), (0, .ref b)]) hx hb dL_law_609 hl (by decide) rfl (fun ls hl => ?_)
      refine lv_aload_n hx hb dL_law_611 rfl (lv_at hl 3 rfl) ?_
      refine law_arg hx hb hX hbl hbA hM.2.2.1 (lv_sub hl [5, 1] rfl) 1 (by decide) (by omega) hL2 hp0 dL_law_612 dL_law_613 dL_law_615 dL_law_616 dL_law_617 ?_
      refine law_arg hx hb hX hbl hbA hM.2.2.1 (lv_sub hl [5, 1] rfl) 2 (by decide) (by omega) hL2 hp1 dL_law_618 dL_law_619 dL_law_621 dL_law_622 dL_law_623 ?_
      refine fb_callVi (r := o) hx hb hml hown hts hM (hA.1.1) (ce4 (hA.1.2)) rfl (As := [.int (nI q), .int (nI k)]) (rest := []) (r_chamber D y l S V J o nt cf rf hA ns df hG2 q hq k hk) (cwV 2 hts gL_law_X4_chamber rfl rfl rfl (by decide +kernel) ⟨Nat.le_of_ble_eq_true rfl, Nat.le_of_ble_eq_true rfl⟩) rfl hl.1 rfl (Nat.le_of_ble_eq_true rfl) dL_law_624 ⟨by omega, by omega⟩ (fun v3 u H locs hp hM => ?_)
      obtain ⟨hv_, hu_⟩ := hp
      have hu_ := hu_.symm
      subst hu_
      refine lv_istore (lv' := [(6, .int v3), (5, .int (nI 0)), (4, .int (nI j)), (3, .ref (sa S 2000)), (2, .ref (sa S o)), (1, .ref (sa S 0)), (0, .ref b)]) hx hb dL_law_627 hl (by decide) rfl (fun ls hl => ?_)
      have hth : t0 J o o 0 = nI 0 := by unfold t0; rw [va_up_self]; rfl
      have hIv := hI0.same (J := t0 J o) ho (by rw [eJ]; exact (sam_out I ho _).trans (sam_t0 _ o)) (VSame.rf V) hR.2.2.2.2.2
      refine law_tail (T := 629) (off := 986) ⟨dL_law_629, dL_law_630, dL_law_633, dL_law_635, dL_law_640, dL_law_642, dL_law_645, dL_law_646, dL_law_647, dL_law_648, dL_law_650, dL_law_651, dL_law_652, dL_law_657, by omega⟩ hx hb hml hown hts hM hIv.1.2.1 hIv.1.2.2 (k := 0) (by decide) (lv_sub hl [4, 3, 1, 0] rfl) hth (fun hz9 => (show t0 J o 2000 0 = (ctl (V (100 + 2 * q)) k) from by simp (discharger := omega) only [va_up_ne, va_up_self, t0_ne, eJ]; exact if_pos rfl).trans (by rw [hv_]; rw [eJ, va_up_ne _ _ (show o + 3 ≠ 2000 by omega)]; rw [(hR.2.2.2.1 q hq).1]; exact ctl_ch (hR.2.2.2.1 q hq).2 (by omega) k hk)) (by omega) (by omega) (fun H locs hM => ?_) rfl
      exact W.widen (by omega) (by omega) (K _ _ _ _ _ _ _ _ _ _ _ _ _ _ (by omega) hIv hM (lv_sub hl [2, 3, 4, 5, 6] rfl))
set_option maxHeartbeats 4000000 in
set_option maxRecDepth 100000 in
theorem stp_square (hL : Lw p l s m args c D A y a0 b L xs) {o j ns nt es na N : Nat} {cf rf df : Nat → Nat} (hM : fb_M D y A s (S, V, (sT V), I) H locs) (hI : Iv a0.1 S V I o ns nt es na cf rf df N) (ho : o = 1000) (hj : j + 5 ≤ L) (hN : N ≤ 1600000) (hc : cells + 1100 ≤ room_1.cells) (hs : slots + 14000 ≤ room_1.slots) (hl : lv_has ls 9 [(4, .int (nI j)), (3, .ref (sa S 2000)), (2, .ref (sa S o)), (1, .ref (sa S 0)), (0, .ref b)]) (K : Kont p l e s m args below meth c Q D A y a0.1 o b j N cells slots) : W p l e room_1 s m args below meth c H locs cells slots Q (F0 m 1112 ls []) := by
  obtain ⟨hx, hb, hml, hown, hts, hE, hNc, hfl, hX, hbl, hbA, hL2⟩ := hL
  have hI0 := hI
  obtain ⟨⟨hC, hA, hO⟩, ⟨hEs, hFr⟩, ⟨hF, hG⟩, hR⟩ := hI
  have hns : ns ≤ 12 := hF.2.2.1
  have hnt : nt ≤ 6 := hF.2.2.2.1
  have h03 : 0 ∈ sR S ∧ sk S 0 = 3 := hC.1
  obtain ⟨p0, hp0⟩ : ∃ v, xs (j + 1) = v := ⟨_, rfl⟩
  obtain ⟨p1, hp1⟩ : ∃ v, xs (j + 2) = v := ⟨_, rfl⟩
  obtain ⟨p2, hp2⟩ : ∃ v, xs (j + 3) = v := ⟨_, rfl⟩
  refine lv_aload_n hx hb dL_law_1112 rfl (lv_at hl 3 rfl) ?_
  refine law_arg hx hb hX hbl hbA hM.2.2.1 (lv_sub hl [4, 0] rfl) 1 (by decide) (by omega) hL2 hp0 dL_law_1113 dL_law_1114 dL_law_1116 dL_law_1117 dL_law_1118 ?_
  refine law_arg hx hb hX hbl hbA hM.2.2.1 (lv_sub hl [4, 0] rfl) 2 (by decide) (by omega) hL2 hp1 dL_law_1119 dL_law_1120 dL_law_1122 dL_law_1123 dL_law_1124 ?_
  refine law_arg hx hb hX hbl hbA hM.2.2.1 (lv_sub hl [4, 0] rfl) 3 (by decide) (by omega) hL2 hp2 dL_law_1125 dL_law_1126 dL_law_1128 dL_law_1129 dL_law_1130 ?_
  refine lv_aload_n hx hb dL_law_1131 rfl (lv_at hl 1 rfl) ?_
  rcases rg_ix p0 (n := nt) (by omega) with hq0 | ⟨t, ht, rfl⟩
  · skip
    refine fb_callW hx hb hml hown hts hM hE hNc (As := [.ref (sa S 0), .int p0, .int p1, .int p2, .ref (sa S 2000)]) (rest := []) (c_L_square_IOE a0 D y l S V I h03 hO p0 p1 p2 (c_X3_square_x0 a0 D y l hfl S V I a0.1 ns nt es na hC cf rf df hF p0 hq0 p1 p2)) (vx_cwSW 5 hts gL_law_L_square rfl rfl rfl (by decide +kernel) ⟨Nat.le_of_ble_eq_true rfl, Nat.le_of_ble_eq_true rfl⟩) rfl hl.1 rfl (Nat.le_of_ble_eq_true rfl) dL_law_1132 ⟨by omega, by omega⟩ (fun v1 u H locs hp hM => ?_)
    obtain ⟨hv_, hu_⟩ := hp
    have hv_ : v1 = nI 1 := hv_.trans (by decide)
    have hv_ := hv_.symm
    have hu_ := hu_.symm
    subst hv_
    subst hu_
    refine lv_istore (lv' := [(5, .int (nI 1)), (4, .int (nI j)), (3, .ref (sa S 2000)), (2, .ref (sa S o)), (1, .ref (sa S 0)), (0, .ref b)]) hx hb dL_law_1135 hl (by decide) rfl (fun ls hl => ?_)
    refine lv_aload_n hx hb dL_law_1137 rfl (lv_at hl 3 rfl) ?_
    refine law_arg hx hb hX hbl hbA hM.2.2.1 (lv_sub hl [5, 1] rfl) 1 (by decide) (by omega) hL2 hp0 dL_law_1138 dL_law_1139 dL_law_1141 dL_law_1142 dL_law_1143 ?_
    refine law_arg hx hb hX hbl hbA hM.2.2.1 (lv_sub hl [5, 1] rfl) 2 (by decide) (by omega) hL2 hp1 dL_law_1144 dL_law_1145 dL_law_1147 dL_law_1148 dL_law_1149 ?_
    refine law_arg hx hb hX hbl hbA hM.2.2.1 (lv_sub hl [5, 1] rfl) 3 (by decide) (by omega) hL2 hp2 dL_law_1150 dL_law_1151 dL_law_1153 dL_law_1154 dL_law_1155 ?_
    refine fb_callVi (r := o) hx hb hml hown hts hM (hA.1.1) (ce4 (hA.1.2)) rfl (As := [.int p0, .int p1, .int p2]) (rest := []) (c_X4_square_f0t D y l S V I o nt cf rf hA ns df hG p0 hq0 p1 p2) (cwV 3 hts gL_law_X4_square rfl rfl rfl (by decide +kernel) ⟨Nat.le_of_ble_eq_true rfl, Nat.le_of_ble_eq_true rfl⟩) rfl hl.1 rfl (Nat.le_of_ble_eq_true rfl) dL_law_1156 ⟨by omega, by omega⟩ (fun v3 u H locs hp hM => ?_)
    obtain ⟨hv_, hu_⟩ := hp
    have hu_ := hu_.symm
    subst hu_
    refine lv_istore (lv' := [(6, .int v3), (5, .int (nI 1)), (4, .int (nI j)), (3, .ref (sa S 2000)), (2, .ref (sa S o)), (1, .ref (sa S 0)), (0, .ref b)]) hx hb dL_law_1159 hl (by decide) rfl (fun ls hl => ?_)
    have hIv := hI0.same ho (sam_tf I o 1) (VSame.rf V) hR.2.2.2.2.2
    have hth : tf I o 1 o 0 = nI 1 := by unfold tf; rw [va_up_self]; rfl
    refine law_tail (T := 1161) (off := 454) ⟨dL_law_1161, dL_law_1162, dL_law_1165, dL_law_1167, dL_law_1172, dL_law_1174, dL_law_1177, dL_law_1178, dL_law_1179, dL_law_1180, dL_law_1182, dL_law_1183, dL_law_1184, dL_law_1189, by omega⟩ hx hb hml hown hts hM hIv.1.2.1 hIv.1.2.2 (k := 1) (by decide) (lv_sub hl [4, 3, 1, 0] rfl) hth (fun hz9 => absurd hz9 (by decide)) (by omega) (by omega) (fun H locs hM => ?_) rfl
    exact W.widen (by omega) (by omega) (K _ _ _ _ _ _ _ _ _ _ _ _ _ _ (by omega) hIv hM (lv_sub hl [2, 3, 4, 5, 6] rfl))
  · skip
    have hcr := (hF.2.2.2.2 t ht).le
    have hc1 : 1 ≤ cf t := (hF.2.2.2.2 t ht).2.2.2.2.1
    have hd9 : df t ≤ 9 := (hF.2.2.2.2 t ht).2.2.2.2.2.2.2.2.2
    have hT9 := (hR.2.2.2.2.1 t ht)
    have t6 : t < 6 := by omega
    rcases rg_ix p1 (n := cf t * rf t) (by omega) with hq1 | ⟨q, hq, rfl⟩
    · skip
      refine fb_callW hx hb hml hown hts hM hE hNc (As := [.ref (sa S 0), .int (nI t), .int p1, .int p2, .ref (sa S 2000)]) (rest := []) (c_L_square_IOE a0 D y l S V I h03 hO (nI t) p1 p2 (c_X3_square_x1 a0 D y l hfl S V I a0.1 ns nt es na hC cf rf df hF t ht  p1 hq1 p2)) (vx_cwSW 5 hts gL_law_L_square rfl rfl rfl (by decide +kernel) ⟨Nat.le_of_ble_eq_true rfl, Nat.le_of_ble_eq_true rfl⟩) rfl hl.1 rfl (Nat.le_of_ble_eq_true rfl) dL_law_1132 ⟨by omega, by omega⟩ (fun v1 u H locs hp hM => ?_)
      obtain ⟨hv_, hu_⟩ := hp
      have hv_ : v1 = nI 1 := hv_.trans (by decide)
      have hv_ := hv_.symm
      have hu_ := hu_.symm
      subst hv_
      subst hu_
      refine lv_istore (lv' := [(5, .int (nI 1)), (4, .int (nI j)), (3, .ref (sa S 2000)), (2, .ref (sa S o)), (1, .ref (sa S 0)), (0, .ref b)]) hx hb dL_law_1135 hl (by decide) rfl (fun ls hl => ?_)
      refine lv_aload_n hx hb dL_law_1137 rfl (lv_at hl 3 rfl) ?_
      refine law_arg hx hb hX hbl hbA hM.2.2.1 (lv_sub hl [5, 1] rfl) 1 (by decide) (by omega) hL2 hp0 dL_law_1138 dL_law_1139 dL_law_1141 dL_law_1142 dL_law_1143 ?_
      refine law_arg hx hb hX hbl hbA hM.2.2.1 (lv_sub hl [5, 1] rfl) 2 (by decide) (by omega) hL2 hp1 dL_law_1144 dL_law_1145 dL_law_1147 dL_law_1148 dL_law_1149 ?_
      refine law_arg hx hb hX hbl hbA hM.2.2.1 (lv_sub hl [5, 1] rfl) 3 (by decide) (by omega) hL2 hp2 dL_law_1150 dL_law_1151 dL_law_1153 dL_law_1154 dL_law_1155 ?_
      refine fb_callVi (r := o) hx hb hml hown hts hM (hA.1.1) (ce4 (hA.1.2)) rfl (As := [.int (nI t), .int p1, .int p2]) (rest := []) (c_X4_square_f0q D y l S V I o nt cf rf hA ns df hG t ht  p1 hq1 p2) (cwV 3 hts gL_law_X4_square rfl rfl rfl (by decide +kernel) ⟨Nat.le_of_ble_eq_true rfl, Nat.le_of_ble_eq_true rfl⟩) rfl hl.1 rfl (Nat.le_of_ble_eq_true rfl) dL_law_1156 ⟨by omega, by omega⟩ (fun v3 u H locs hp hM => ?_)
      obtain ⟨hv_, hu_⟩ := hp
      have hu_ := hu_.symm
      subst hu_
      refine lv_istore (lv' := [(6, .int v3), (5, .int (nI 1)), (4, .int (nI j)), (3, .ref (sa S 2000)), (2, .ref (sa S o)), (1, .ref (sa S 0)), (0, .ref b)]) hx hb dL_law_1159 hl (by decide) rfl (fun ls hl => ?_)
      have hIv := hI0.same ho (sam_tf I o 1) (VSame.rf V) hR.2.2.2.2.2
      have hth : tf I o 1 o 0 = nI 1 := by unfold tf; rw [va_up_self]; rfl
      refine law_tail (T := 1161) (off := 454) ⟨dL_law_1161, dL_law_1162, dL_law_1165, dL_law_1167, dL_law_1172, dL_law_1174, dL_law_1177, dL_law_1178, dL_law_1179, dL_law_1180, dL_law_1182, dL_law_1183, dL_law_1184, dL_law_1189, by omega⟩ hx hb hml hown hts hM hIv.1.2.1 hIv.1.2.2 (k := 1) (by decide) (lv_sub hl [4, 3, 1, 0] rfl) hth (fun hz9 => absurd hz9 (by decide)) (by omega) (by omega) (fun H locs hM => ?_) rfl
      exact W.widen (by omega) (by omega) (K _ _ _ _ _ _ _ _ _ _ _ _ _ _ (by omega) hIv hM (lv_sub hl [2, 3, 4, 5, 6] rfl))
    · skip
      rcases rg_ix p2 (n := 10) (by decide) with hq2 | ⟨k, hk, rfl⟩
      · skip
        have hr2 : p2 < 0 ∨ 9 < p2 := hq2.imp id (fun z => Int32.lt_of_lt_of_le (by decide) z)
        have hw2 : p2 < 0 ∨ 10 ≤ p2 := hq2
        refine fb_callW hx hb hml hown hts hM hE hNc (As := [.ref (sa S 0), .int (nI t), .int (nI q), .int p2, .ref (sa S 2000)]) (rest := []) (c_L_square_IOE a0 D y l S V I h03 hO (nI t) (nI q) p2 (c_X3_square_x2 a0 D y l hfl S V I a0.1 ns nt es na hC cf rf df hF t ht q hq p2 hw2)) (vx_cwSW 5 hts gL_law_L_square rfl rfl rfl (by decide +kernel) ⟨Nat.le_of_ble_eq_true rfl, Nat.le_of_ble_eq_true rfl⟩) rfl hl.1 rfl (Nat.le_of_ble_eq_true rfl) dL_law_1132 ⟨by omega, by omega⟩ (fun v1 u H locs hp hM => ?_)
        obtain ⟨hv_, hu_⟩ := hp
        have hv_ : v1 = nI 1 := hv_.trans (by decide)
        have hv_ := hv_.symm
        have hu_ := hu_.symm
        subst hv_
        subst hu_
        refine lv_istore (lv' := [(5, .int (nI 1)), (4, .int (nI j)), (3, .ref (sa S 2000)), (2, .ref (sa S o)), (1, .ref (sa S 0)), (0, .ref b)]) hx hb dL_law_1135 hl (by decide) rfl (fun ls hl => ?_)
        refine lv_aload_n hx hb dL_law_1137 rfl (lv_at hl 3 rfl) ?_
        refine law_arg hx hb hX hbl hbA hM.2.2.1 (lv_sub hl [5, 1] rfl) 1 (by decide) (by omega) hL2 hp0 dL_law_1138 dL_law_1139 dL_law_1141 dL_law_1142 dL_law_1143 ?_
        refine law_arg hx hb hX hbl hbA hM.2.2.1 (lv_sub hl [5, 1] rfl) 2 (by decide) (by omega) hL2 hp1 dL_law_1144 dL_law_1145 dL_law_1147 dL_law_1148 dL_law_1149 ?_
        refine law_arg hx hb hX hbl hbA hM.2.2.1 (lv_sub hl [5, 1] rfl) 3 (by decide) (by omega) hL2 hp2 dL_law_1150 dL_law_1151 dL_law_1153 dL_law_1154 dL_law_1155 ?_
        refine fb_callVi (r := o) hx hb hml hown hts hM (hA.1.1) (ce4 (hA.1.2)) rfl (As := [.int (nI t), .int (nI q), .int p2]) (rest := []) (c_X4_square_f1o D y l S V I o nt cf rf hA ns df hG t ht q hq p2 hr2) (cwV 3 hts gL_law_X4_square rfl rfl rfl (by decide +kernel) ⟨Nat.le_of_ble_eq_true rfl, Nat.le_of_ble_eq_true rfl⟩) rfl hl.1 rfl (Nat.le_of_ble_eq_true rfl) dL_law_1156 ⟨by omega, by omega⟩ (fun v3 u H locs hp hM => ?_)
        obtain ⟨hv_, hu_⟩ := hp
        have hu_ := hu_.symm
        subst hu_
        refine lv_istore (lv' := [(6, .int v3), (5, .int (nI 1)), (4, .int (nI j)), (3, .ref (sa S 2000)), (2, .ref (sa S o)), (1, .ref (sa S 0)), (0, .ref b)]) hx hb dL_law_1159 hl (by decide) rfl (fun ls hl => ?_)
        have hIv := hI0.same ho (sam_tf I o 1) (VSame.rf V) hR.2.2.2.2.2
        have hth : tf I o 1 o 0 = nI 1 := by unfold tf; rw [va_up_self]; rfl
        refine law_tail (T := 1161) (off := 454) ⟨dL_law_1161, dL_law_1162, dL_law_1165, dL_law_1167, dL_law_1172, dL_law_1174, dL_law_1177, dL_law_1178, dL_law_1179, dL_law_1180, dL_law_1182, dL_law_1183, dL_law_1184, dL_law_1189, by omega⟩ hx hb hml hown hts hM hIv.1.2.1 hIv.1.2.2 (k := 1) (by decide) (lv_sub hl [4, 3, 1, 0] rfl) hth (fun hz9 => absurd hz9 (by decide)) (by omega) (by omega) (fun H locs hM => ?_) rfl
        exact W.widen (by omega) (by omega) (K _ _ _ _ _ _ _ _ _ _ _ _ _ _ (by omega) hIv hM (lv_sub hl [2, 3, 4, 5, 6] rfl))
      · skip
        refine fb_callW hx hb hml hown hts hM hE hNc (As := [.ref (sa S 0), .int (nI t), .int (nI q), .int (nI k), .ref (sa S 2000)]) (rest := []) (c_L_square_ok a0 D y l S V I h03 hO (nI t) (nI q) (nI k) (c_X3_square_ok D y l S V I a0.1 ns nt es na hC cf rf df hF t ht q hq k hk) (fun v u hq => by obtain ⟨_, hq⟩ := hq; subst hq; exact ⟨hO, rfl⟩)) (vx_cwSW 5 hts gL_law_L_square rfl rfl rfl (by decide +kernel) ⟨Nat.le_of_ble_eq_true rfl, Nat.le_of_ble_eq_true rfl⟩) rfl hl.1 rfl (Nat.le_of_ble_eq_true rfl) dL_law_1132 ⟨by omega, by omega⟩ (fun v1 u H locs hp hM => ?_)
        obtain ⟨hv_, v2, u1, hq, hu_⟩ := hp
        have hv_ : v1 = nI 0 := hv_
        have hv_ := hv_.symm
        subst hv_
        obtain ⟨hq1, hq2⟩ := hq
        subst hq2
        subst hq1
        obtain ⟨J, eJ⟩ : ∃ J, J = va_up I 2000 (upd (I 2000) 0 (csq (cf t) (cf t * rf t) (I (30 + 4 * t + 2)) (tv V (300 + 72 * t)) q k)) := ⟨_, rfl⟩
        have hM : fb_M D y A s (S, V, (sT V), J) H locs := by rw [hu_] at hM; rw [eJ]; exact hM
        have hG2 : MF J o ns nt cf rf df := by rw [eJ]; exact mf_same ho hG (sam_out I ho _)
        refine lv_istore (lv' := [(5, .int (nI 0)), (4, .int (nI j)), (3, .ref (sa S 2000)), (2, .ref (sa S o)), (1, .ref (sa S 0)), (0, .ref b)]) hx hb dL_law_1135 hl (by decide) rfl (fun ls hl => ?_)
        refine lv_aload_n hx hb dL_law_1137 rfl (lv_at hl 3 rfl) ?_
        refine law_arg hx hb hX hbl hbA hM.2.2.1 (lv_sub hl [5, 1] rfl) 1 (by decide) (by omega) hL2 hp0 dL_law_1138 dL_law_1139 dL_law_1141 dL_law_1142 dL_law_1143 ?_
        refine law_arg hx hb hX hbl hbA hM.2.2.1 (lv_sub hl [5, 1] rfl) 2 (by decide) (by omega) hL2 hp1 dL_law_1144 dL_law_1145 dL_law_1147 dL_law_1148 dL_law_1149 ?_
        refine law_arg hx hb hX hbl hbA hM.2.2.1 (lv_sub hl [5, 1] rfl) 3 (by decide) (by omega) hL2 hp2 dL_law_1150 dL_law_1151 dL_law_1153 dL_law_1154 dL_law_1155 ?_
        refine fb_callVi (r := o) hx hb hml hown hts hM (hA.1.1) (ce4 (hA.1.2)) rfl (As := [.int (nI t), .int (nI q), .int (nI k)]) (rest := []) (r_square D y l S V J o nt cf rf hA ns df hG2 t ht q hq k hk) (cwV 3 hts gL_law_X4_square rfl rfl rfl (by decide +kernel) ⟨Nat.le_of_ble_eq_true rfl, Nat.le_of_ble_eq_true rfl⟩) rfl hl.1 rfl (Nat.le_of_ble_eq_true rfl) dL_law_1156 ⟨by omega, by omega⟩ (fun v3 u H locs hp hM => ?_)
        obtain ⟨hv_, hu_⟩ := hp
        have hu_ := hu_.symm
        subst hu_
        refine lv_istore (lv' := [(6, .int v3), (5, .int (nI 0)), (4, .int (nI j)), (3, .ref (sa S 2000)), (2, .ref (sa S o)), (1, .ref (sa S 0)), (0, .ref b)]) hx hb dL_law_1159 hl (by decide) rfl (fun ls hl => ?_)
        have hth : t0 J o o 0 = nI 0 := by unfold t0; rw [va_up_self]; rfl
        have hIv := hI0.same (J := t0 J o) ho (by rw [eJ]; exact (sam_out I ho _).trans (sam_t0 _ o)) (VSame.rf V) hR.2.2.2.2.2
        refine law_tail (T := 1161) (off := 454) ⟨dL_law_1161, dL_law_1162, dL_law_1165, dL_law_1167, dL_law_1172, dL_law_1174, dL_law_1177, dL_law_1178, dL_law_1179, dL_law_1180, dL_law_1182, dL_law_1183, dL_law_1184, dL_law_1189, by omega⟩ hx hb hml hown hts hM hIv.1.2.1 hIv.1.2.2 (k := 0) (by decide) (lv_sub hl [4, 3, 1, 0] rfl) hth (fun hz9 => (show t0 J o 2000 0 = (csq (cf t) (cf t * rf t) (I (30 + 4 * t + 2)) (tv V (300 + 72 * t)) q k) from by simp (discharger := omega) only [va_up_ne, va_up_self, t0_ne, eJ]; exact if_pos rfl).trans (by rw [hv_]; rw [eJ, va_up_ne _ _ (show o + 20 + t ≠ 2000 by omega), va_up_ne _ _ (show o + 10 + t ≠ 2000 by omega)]; exact an_square hT9 hcr.2 hq k hk)) (by omega) (by omega) (fun H locs hM => ?_) rfl
        exact W.widen (by omega) (by omega) (K _ _ _ _ _ _ _ _ _ _ _ _ _ _ (by omega) hIv hM (lv_sub hl [2, 3, 4, 5, 6] rfl))
set_option maxHeartbeats 4000000 in
set_option maxRecDepth 100000 in
theorem stp_count (hL : Lw p l s m args c D A y a0 b L xs) {o j ns nt es na N : Nat} {cf rf df : Nat → Nat} (hM : fb_M D y A s (S, V, (sT V), I) H locs) (hI : Iv a0.1 S V I o ns nt es na cf rf df N) (ho : o = 1000) (hj : j + 5 ≤ L) (hN : N ≤ 1600000) (hc : cells + 1100 ≤ room_1.cells) (hs : slots + 14000 ≤ room_1.slots) (hl : lv_has ls 9 [(4, .int (nI j)), (3, .ref (sa S 2000)), (2, .ref (sa S o)), (1, .ref (sa S 0)), (0, .ref b)]) (K : Kont p l e s m args below meth c Q D A y a0.1 o b j N cells slots) : W p l e room_1 s m args below meth c H locs cells slots Q (F0 m 1316 ls []) := by
  obtain ⟨hx, hb, hml, hown, hts, hE, hNc, hfl, hX, hbl, hbA, hL2⟩ := hL
  have hI0 := hI
  obtain ⟨⟨hC, hA, hO⟩, ⟨hEs, hFr⟩, ⟨hF, hG⟩, hR⟩ := hI
  have hns : ns ≤ 12 := hF.2.2.1
  have hnt : nt ≤ 6 := hF.2.2.2.1
  have h03 : 0 ∈ sR S ∧ sk S 0 = 3 := hC.1
  obtain ⟨p0, hp0⟩ : ∃ v, xs (j + 1) = v := ⟨_, rfl⟩
  refine lv_aload_n hx hb dL_law_1316 rfl (lv_at hl 3 rfl) ?_
  refine law_arg hx hb hX hbl hbA hM.2.2.1 (lv_sub hl [4, 0] rfl) 1 (by decide) (by omega) hL2 hp0 dL_law_1317 dL_law_1318 dL_law_1320 dL_law_1321 dL_law_1322 ?_
  refine lv_aload_n hx hb dL_law_1323 rfl (lv_at hl 1 rfl) ?_
  rcases rg_ix p0 (n := 9) (by decide) with hq0 | ⟨k, hk, rfl⟩
  · skip
    have hr0 : p0 < 0 ∨ 8 < p0 := hq0.imp id (fun z => Int32.lt_of_lt_of_le (by decide) z)
    have hw0 : p0 < 0 ∨ 9 ≤ p0 := hq0
    refine fb_callW hx hb hml hown hts hM hE hNc (As := [.ref (sa S 0), .int p0, .ref (sa S 2000)]) (rest := []) (c_L_count_IOE a0 D y l S V I h03 hO p0 (c_X3_count_x0 a0 D y l hfl S V I a0.1 ns nt es na hC cf rf df hF p0 hw0)) (vx_cwSW 3 hts gL_law_L_count rfl rfl rfl (by decide +kernel) ⟨Nat.le_of_ble_eq_true rfl, Nat.le_of_ble_eq_true rfl⟩) rfl hl.1 rfl (Nat.le_of_ble_eq_true rfl) dL_law_1324 ⟨by omega, by omega⟩ (fun v1 u H locs hp hM => ?_)
    obtain ⟨hv_, hu_⟩ := hp
    have hv_ : v1 = nI 1 := hv_.trans (by decide)
    have hv_ := hv_.symm
    have hu_ := hu_.symm
    subst hv_
    subst hu_
    refine lv_istore (lv' := [(5, .int (nI 1)), (4, .int (nI j)), (3, .ref (sa S 2000)), (2, .ref (sa S o)), (1, .ref (sa S 0)), (0, .ref b)]) hx hb dL_law_1327 hl (by decide) rfl (fun ls hl => ?_)
    refine lv_aload_n hx hb dL_law_1329 rfl (lv_at hl 3 rfl) ?_
    refine law_arg hx hb hX hbl hbA hM.2.2.1 (lv_sub hl [5, 1] rfl) 1 (by decide) (by omega) hL2 hp0 dL_law_1330 dL_law_1331 dL_law_1333 dL_law_1334 dL_law_1335 ?_
    refine fb_callVi (r := o) hx hb hml hown hts hM (hA.1.1) (ce4 (hA.1.2)) rfl (As := [.int p0]) (rest := []) (c_X4_count_f0o D y l S V I o nt cf rf hA ns df hG p0 hr0) (cwV 1 hts gL_law_X4_count rfl rfl rfl (by decide +kernel) ⟨Nat.le_of_ble_eq_true rfl, Nat.le_of_ble_eq_true rfl⟩) rfl hl.1 rfl (Nat.le_of_ble_eq_true rfl) dL_law_1336 ⟨by omega, by omega⟩ (fun v3 u H locs hp hM => ?_)
    obtain ⟨hv_, hu_⟩ := hp
    have hu_ := hu_.symm
    subst hu_
    refine lv_istore (lv' := [(6, .int v3), (5, .int (nI 1)), (4, .int (nI j)), (3, .ref (sa S 2000)), (2, .ref (sa S o)), (1, .ref (sa S 0)), (0, .ref b)]) hx hb dL_law_1339 hl (by decide) rfl (fun ls hl => ?_)
    have hIv := hI0.same ho (sam_tf I o 1) (VSame.rf V) hR.2.2.2.2.2
    have hth : tf I o 1 o 0 = nI 1 := by unfold tf; rw [va_up_self]; rfl
    refine law_tail (T := 1341) (off := 274) ⟨dL_law_1341, dL_law_1342, dL_law_1345, dL_law_1347, dL_law_1352, dL_law_1354, dL_law_1357, dL_law_1358, dL_law_1359, dL_law_1360, dL_law_1362, dL_law_1363, dL_law_1364, dL_law_1369, by omega⟩ hx hb hml hown hts hM hIv.1.2.1 hIv.1.2.2 (k := 1) (by decide) (lv_sub hl [4, 3, 1, 0] rfl) hth (fun hz9 => absurd hz9 (by decide)) (by omega) (by omega) (fun H locs hM => ?_) rfl
    exact W.widen (by omega) (by omega) (K _ _ _ _ _ _ _ _ _ _ _ _ _ _ (by omega) hIv hM (lv_sub hl [2, 3, 4, 5, 6] rfl))
  · skip
    refine fb_callW hx hb hml hown hts hM hE hNc (As := [.ref (sa S 0), .int (nI k), .ref (sa S 2000)]) (rest := []) (c_L_count_ok a0 D y l S V I h03 hO (nI k) (c_X3_count_ok D y l S V I a0.1 ns nt es na hC cf rf df hF k hk) (fun v u hq => by obtain ⟨_, hq⟩ := hq; subst hq; exact ⟨hO, rfl⟩)) (vx_cwSW 3 hts gL_law_L_count rfl rfl rfl (by decide +kernel) ⟨Nat.le_of_ble_eq_true rfl, Nat.le_of_ble_eq_true rfl⟩) rfl hl.1 rfl (Nat.le_of_ble_eq_true rfl) dL_law_1324 ⟨by omega, by omega⟩ (fun v1 u H locs hp hM => ?_)
    obtain ⟨hv_, v2, u1, hq, hu_⟩ := hp
    have hv_ : v1 = nI 0 := hv_
    have hv_ := hv_.symm
    subst hv_
    obtain ⟨hq1, hq2⟩ := hq
    subst hq2
    subst hq1
    obtain ⟨J, eJ⟩ : ∃ J, J = va_up I 2000 (upd (I 2000) 0 (cnc V I ns nt k)) := ⟨_, rfl⟩
    have hM : fb_M D y A s (S, V, (sT V), J) H locs := by rw [hu_] at hM; rw [eJ]; exact hM
    have hG2 : MF J o ns nt cf rf df := by rw [eJ]; exact mf_same ho hG (sam_out I ho _)
    refine lv_istore (lv' := [(5, .int (nI 0)), (4, .int (nI j)), (3, .ref (sa S 2000)), (2, .ref (sa S o)), (1, .ref (sa S 0)), (0, .ref b)]) hx hb dL_law_1327 hl (by decide) rfl (fun ls hl => ?_)
    refine lv_aload_n hx hb dL_law_1329 rfl (lv_at hl 3 rfl) ?_
    refine law_arg hx hb hX hbl hbA hM.2.2.1 (lv_sub hl [5, 1] rfl) 1 (by decide) (by omega) hL2 hp0 dL_law_1330 dL_law_1331 dL_law_1333 dL_law_1334 dL_law_1335 ?_
    refine fb_callVi (r := o) hx hb hml hown hts hM (hA.1.1) (ce4 (hA.1.2)) rfl (As := [.int (nI k)]) (rest := []) (r_count D y l S V J o nt cf rf hA ns df hG2 k hk) (cwV 1 hts gL_law_X4_count rfl rfl rfl (by decide +kernel) ⟨Nat.le_of_ble_eq_true rfl, Nat.le_of_ble_eq_true rfl⟩) rfl hl.1 rfl (Nat.le_of_ble_eq_true rfl) dL_law_1336 ⟨by omega, by omega⟩ (fun v3 u H locs hp hM => ?_)
    obtain ⟨hv_, hu_⟩ := hp
    have hu_ := hu_.symm
    subst hu_
    refine lv_istore (lv' := [(6, .int v3), (5, .int (nI 0)), (4, .int (nI j)), (3, .ref (sa S 2000)), (2, .ref (sa S o)), (1, .ref (sa S 0)), (0, .ref b)]) hx hb dL_law_1339 hl (by decide) rfl (fun ls hl => ?_)
    have hth : t0 J o o 0 = nI 0 := by unfold t0; rw [va_up_self]; rfl
    have hIv := hI0.same (J := t0 J o) ho (by rw [eJ]; exact (sam_out I ho _).trans (sam_t0 _ o)) (VSame.rf V) hR.2.2.2.2.2
    refine law_tail (T := 1341) (off := 274) ⟨dL_law_1341, dL_law_1342, dL_law_1345, dL_law_1347, dL_law_1352, dL_law_1354, dL_law_1357, dL_law_1358, dL_law_1359, dL_law_1360, dL_law_1362, dL_law_1363, dL_law_1364, dL_law_1369, by omega⟩ hx hb hml hown hts hM hIv.1.2.1 hIv.1.2.2 (k := 0) (by decide) (lv_sub hl [4, 3, 1, 0] rfl) hth (fun hz9 => (show t0 J o 2000 0 = (cnc V I ns nt k) from by simp (discharger := omega) only [va_up_ne, va_up_self, t0_ne, eJ]; exact if_pos rfl).trans (by rw [hv_, cnm_t0]; have hRJ := (hI0.same (J := J) ho (by rw [eJ]; exact sam_out I ho _) (VSame.rf V) hR.2.2.2.2.2).2.2.2; have ha := an_count hRJ hns (fun t ht => (hF.2.2.2.2 t ht).le.2) k hk; rw [← ha]; exact cnc_out V I ns nt k _ eJ)) (by omega) (by omega) (fun H locs hM => ?_) rfl
    exact W.widen (by omega) (by omega) (K _ _ _ _ _ _ _ _ _ _ _ _ _ _ (by omega) hIv hM (lv_sub hl [2, 3, 4, 5, 6] rfl))
set_option maxHeartbeats 4000000 in
set_option maxRecDepth 100000 in
theorem stp_bestWind (hL : Lw p l s m args c D A y a0 b L xs) {o j ns nt es na N : Nat} {cf rf df : Nat → Nat} (hM : fb_M D y A s (S, V, (sT V), I) H locs) (hI : Iv a0.1 S V I o ns nt es na cf rf df N) (ho : o = 1000) (hj : j + 5 ≤ L) (hN : N ≤ 1600000) (hc : cells + 1100 ≤ room_1.cells) (hs : slots + 14000 ≤ room_1.slots) (hl : lv_has ls 9 [(4, .int (nI j)), (3, .ref (sa S 2000)), (2, .ref (sa S o)), (1, .ref (sa S 0)), (0, .ref b)]) (K : Kont p l e s m args below meth c Q D A y a0.1 o b j N cells slots) : W p l e room_1 s m args below meth c H locs cells slots Q (F0 m 660 ls []) := by
  obtain ⟨hx, hb, hml, hown, hts, hE, hNc, hfl, hX, hbl, hbA, hL2⟩ := hL
  have hI0 := hI
  obtain ⟨⟨hC, hA, hO⟩, ⟨hEs, hFr⟩, ⟨hF, hG⟩, hR⟩ := hI
  have hns : ns ≤ 12 := hF.2.2.1
  have hnt : nt ≤ 6 := hF.2.2.2.1
  have h03 : 0 ∈ sR S ∧ sk S 0 = 3 := hC.1
  obtain ⟨p0, hp0⟩ : ∃ v, xs (j + 1) = v := ⟨_, rfl⟩
  obtain ⟨p1, hp1⟩ : ∃ v, xs (j + 2) = v := ⟨_, rfl⟩
  obtain ⟨p2, hp2⟩ : ∃ v, xs (j + 3) = v := ⟨_, rfl⟩
  refine lv_aload_n hx hb dL_law_660 rfl (lv_at hl 3 rfl) ?_
  refine law_arg hx hb hX hbl hbA hM.2.2.1 (lv_sub hl [4, 0] rfl) 1 (by decide) (by omega) hL2 hp0 dL_law_661 dL_law_662 dL_law_664 dL_law_665 dL_law_666 ?_
  refine law_arg hx hb hX hbl hbA hM.2.2.1 (lv_sub hl [4, 0] rfl) 2 (by decide) (by omega) hL2 hp1 dL_law_667 dL_law_668 dL_law_670 dL_law_671 dL_law_672 ?_
  refine law_arg hx hb hX hbl hbA hM.2.2.1 (lv_sub hl [4, 0] rfl) 3 (by decide) (by omega) hL2 hp2 dL_law_673 dL_law_674 dL_law_676 dL_law_677 dL_law_678 ?_
  refine lv_aload_n hx hb dL_law_679 rfl (lv_at hl 1 rfl) ?_
  rcases rg_ix p0 (n := ns) (by omega) with hq0 | ⟨i, hi, rfl⟩
  · skip
    refine fb_callW hx hb hml hown hts hM hE hNc (As := [.ref (sa S 0), .int p0, .int p1, .int p2, .ref (sa S 2000)]) (rest := []) (c_L_bestWind_IOE a0 D y l S V I h03 hO p0 p1 p2 (c_X3_bestWind_x0 a0 D y l hfl S V I a0.1 ns nt es na hC cf rf df hF p0 hq0 p1 p2)) (vx_cwSW 5 hts gL_law_L_bestWind rfl rfl rfl (by decide +kernel) ⟨Nat.le_of_ble_eq_true rfl, Nat.le_of_ble_eq_true rfl⟩) rfl hl.1 rfl (Nat.le_of_ble_eq_true rfl) dL_law_680 ⟨by omega, by omega⟩ (fun v1 u H locs hp hM => ?_)
    obtain ⟨hv_, hu_⟩ := hp
    have hv_ : v1 = nI 1 := hv_.trans (by decide)
    have hv_ := hv_.symm
    have hu_ := hu_.symm
    subst hv_
    subst hu_
    refine lv_istore (lv' := [(5, .int (nI 1)), (4, .int (nI j)), (3, .ref (sa S 2000)), (2, .ref (sa S o)), (1, .ref (sa S 0)), (0, .ref b)]) hx hb dL_law_683 hl (by decide) rfl (fun ls hl => ?_)
    refine lv_aload_n hx hb dL_law_685 rfl (lv_at hl 3 rfl) ?_
    refine law_arg hx hb hX hbl hbA hM.2.2.1 (lv_sub hl [5, 1] rfl) 1 (by decide) (by omega) hL2 hp0 dL_law_686 dL_law_687 dL_law_689 dL_law_690 dL_law_691 ?_
    refine law_arg hx hb hX hbl hbA hM.2.2.1 (lv_sub hl [5, 1] rfl) 2 (by decide) (by omega) hL2 hp1 dL_law_692 dL_law_693 dL_law_695 dL_law_696 dL_law_697 ?_
    refine law_arg hx hb hX hbl hbA hM.2.2.1 (lv_sub hl [5, 1] rfl) 3 (by decide) (by omega) hL2 hp2 dL_law_698 dL_law_699 dL_law_701 dL_law_702 dL_law_703 ?_
    refine fb_callVi (r := o) hx hb hml hown hts hM (hA.1.1) (ce4 (hA.1.2)) rfl (As := [.int p0, .int p1, .int p2]) (rest := []) (c_X4_bestWind_f0o D y l S V I o nt cf rf hA ns df hG p0 hq0 p1 p2) (cwV 3 hts gL_law_X4_bestWind rfl rfl rfl (by decide +kernel) ⟨Nat.le_of_ble_eq_true rfl, Nat.le_of_ble_eq_true rfl⟩) rfl hl.1 rfl (Nat.le_of_ble_eq_true rfl) dL_law_704 ⟨by omega, by omega⟩ (fun v3 u H locs hp hM => ?_)
    obtain ⟨hv_, hu_⟩ := hp
    have hu_ := hu_.symm
    subst hu_
    refine lv_istore (lv' := [(6, .int v3), (5, .int (nI 1)), (4, .int (nI j)), (3, .ref (sa S 2000)), (2, .ref (sa S o)), (1, .ref (sa S 0)), (0, .ref b)]) hx hb dL_law_707 hl (by decide) rfl (fun ls hl => ?_)
    have hIv := hI0.same ho (sam_tf I o 1) (VSame.rf V) hR.2.2.2.2.2
    have hth : tf I o 1 o 0 = nI 1 := by unfold tf; rw [va_up_self]; rfl
    refine law_tail (T := 709) (off := 906) ⟨dL_law_709, dL_law_710, dL_law_713, dL_law_715, dL_law_720, dL_law_722, dL_law_725, dL_law_726, dL_law_727, dL_law_728, dL_law_730, dL_law_731, dL_law_732, dL_law_737, by omega⟩ hx hb hml hown hts hM hIv.1.2.1 hIv.1.2.2 (k := 1) (by decide) (lv_sub hl [4, 3, 1, 0] rfl) hth (fun hz9 => absurd hz9 (by decide)) (by omega) (by omega) (fun H locs hM => ?_) rfl
    exact W.widen (by omega) (by omega) (K _ _ _ _ _ _ _ _ _ _ _ _ _ _ (by omega) hIv hM (lv_sub hl [2, 3, 4, 5, 6] rfl))
  · skip
    rcases rg_ix p1 (n := 5) (by decide) with hq1 | ⟨q, hq, rfl⟩
    · skip
      have hr1 : p1 < 0 ∨ 4 < p1 := hq1.imp id (fun z => Int32.lt_of_lt_of_le (by decide) z)
      have hw1 : p1 < 0 ∨ 5 ≤ p1 := hq1
      refine fb_callW hx hb hml hown hts hM hE hNc (As := [.ref (sa S 0), .int (nI i), .int p1, .int p2, .ref (sa S 2000)]) (rest := []) (c_L_bestWind_IOE a0 D y l S V I h03 hO (nI i) p1 p2 (c_X3_bestWind_x1 a0 D y l hfl S V I a0.1 ns nt es na hC cf rf df hF i hi p1 hw1 p2)) (vx_cwSW 5 hts gL_law_L_bestWind rfl rfl rfl (by decide +kernel) ⟨Nat.le_of_ble_eq_true rfl, Nat.le_of_ble_eq_true rfl⟩) rfl hl.1 rfl (Nat.le_of_ble_eq_true rfl) dL_law_680 ⟨by omega, by omega⟩ (fun v1 u H locs hp hM => ?_)
      obtain ⟨hv_, hu_⟩ := hp
      have hv_ : v1 = nI 1 := hv_.trans (by decide)
      have hv_ := hv_.symm
      have hu_ := hu_.symm
      subst hv_
      subst hu_
      refine lv_istore (lv' := [(5, .int (nI 1)), (4, .int (nI j)), (3, .ref (sa S 2000)), (2, .ref (sa S o)), (1, .ref (sa S 0)), (0, .ref b)]) hx hb dL_law_683 hl (by decide) rfl (fun ls hl => ?_)
      refine lv_aload_n hx hb dL_law_685 rfl (lv_at hl 3 rfl) ?_
      refine law_arg hx hb hX hbl hbA hM.2.2.1 (lv_sub hl [5, 1] rfl) 1 (by decide) (by omega) hL2 hp0 dL_law_686 dL_law_687 dL_law_689 dL_law_690 dL_law_691 ?_
      refine law_arg hx hb hX hbl hbA hM.2.2.1 (lv_sub hl [5, 1] rfl) 2 (by decide) (by omega) hL2 hp1 dL_law_692 dL_law_693 dL_law_695 dL_law_696 dL_law_697 ?_
      refine law_arg hx hb hX hbl hbA hM.2.2.1 (lv_sub hl [5, 1] rfl) 3 (by decide) (by omega) hL2 hp2 dL_law_698 dL_law_699 dL_law_701 dL_law_702 dL_law_703 ?_
      refine fb_callVi (r := o) hx hb hml hown hts hM (hA.1.1) (ce4 (hA.1.2)) rfl (As := [.int (nI i), .int p1, .int p2]) (rest := []) (c_X4_bestWind_f1o D y l S V I o nt cf rf hA ns df hG i hi p1 hr1 p2) (cwV 3 hts gL_law_X4_bestWind rfl rfl rfl (by decide +kernel) ⟨Nat.le_of_ble_eq_true rfl, Nat.le_of_ble_eq_true rfl⟩) rfl hl.1 rfl (Nat.le_of_ble_eq_true rfl) dL_law_704 ⟨by omega, by omega⟩ (fun v3 u H locs hp hM => ?_)
      obtain ⟨hv_, hu_⟩ := hp
      have hu_ := hu_.symm
      subst hu_
      refine lv_istore (lv' := [(6, .int v3), (5, .int (nI 1)), (4, .int (nI j)), (3, .ref (sa S 2000)), (2, .ref (sa S o)), (1, .ref (sa S 0)), (0, .ref b)]) hx hb dL_law_707 hl (by decide) rfl (fun ls hl => ?_)
      have hIv := hI0.same ho (sam_tf I o 1) (VSame.rf V) hR.2.2.2.2.2
      have hth : tf I o 1 o 0 = nI 1 := by unfold tf; rw [va_up_self]; rfl
      refine law_tail (T := 709) (off := 906) ⟨dL_law_709, dL_law_710, dL_law_713, dL_law_715, dL_law_720, dL_law_722, dL_law_725, dL_law_726, dL_law_727, dL_law_728, dL_law_730, dL_law_731, dL_law_732, dL_law_737, by omega⟩ hx hb hml hown hts hM hIv.1.2.1 hIv.1.2.2 (k := 1) (by decide) (lv_sub hl [4, 3, 1, 0] rfl) hth (fun hz9 => absurd hz9 (by decide)) (by omega) (by omega) (fun H locs hM => ?_) rfl
      exact W.widen (by omega) (by omega) (K _ _ _ _ _ _ _ _ _ _ _ _ _ _ (by omega) hIv hM (lv_sub hl [2, 3, 4, 5, 6] rfl))
    · skip
      rcases rg_ix p2 (n := 6) (by decide) with hq2 | ⟨z, hz, rfl⟩
      · skip
        have hr2 : p2 < 0 ∨ 5 < p2 := hq2.imp id (fun z => Int32.lt_of_lt_of_le (by decide) z)
        have hw2 : p2 < 0 ∨ 6 ≤ p2 := hq2
        refine fb_callW hx hb hml hown hts hM hE hNc (As := [.ref (sa S 0), .int (nI i), .int (nI q), .int p2, .ref (sa S 2000)]) (rest := []) (c_L_bestWind_IOE a0 D y l S V I h03 hO (nI i) (nI q) p2 (c_X3_bestWind_x2 a0 D y l hfl S V I a0.1 ns nt es na hC cf rf df hF i hi q hq p2 hw2)) (vx_cwSW 5 hts gL_law_L_bestWind rfl rfl rfl (by decide +kernel) ⟨Nat.le_of_ble_eq_true rfl, Nat.le_of_ble_eq_true rfl⟩) rfl hl.1 rfl (Nat.le_of_ble_eq_true rfl) dL_law_680 ⟨by omega, by omega⟩ (fun v1 u H locs hp hM => ?_)
        obtain ⟨hv_, hu_⟩ := hp
        have hv_ : v1 = nI 1 := hv_.trans (by decide)
        have hv_ := hv_.symm
        have hu_ := hu_.symm
        subst hv_
        subst hu_
        refine lv_istore (lv' := [(5, .int (nI 1)), (4, .int (nI j)), (3, .ref (sa S 2000)), (2, .ref (sa S o)), (1, .ref (sa S 0)), (0, .ref b)]) hx hb dL_law_683 hl (by decide) rfl (fun ls hl => ?_)
        refine lv_aload_n hx hb dL_law_685 rfl (lv_at hl 3 rfl) ?_
        refine law_arg hx hb hX hbl hbA hM.2.2.1 (lv_sub hl [5, 1] rfl) 1 (by decide) (by omega) hL2 hp0 dL_law_686 dL_law_687 dL_law_689 dL_law_690 dL_law_691 ?_
        refine law_arg hx hb hX hbl hbA hM.2.2.1 (lv_sub hl [5, 1] rfl) 2 (by decide) (by omega) hL2 hp1 dL_law_692 dL_law_693 dL_law_695 dL_law_696 dL_law_697 ?_
        refine law_arg hx hb hX hbl hbA hM.2.2.1 (lv_sub hl [5, 1] rfl) 3 (by decide) (by omega) hL2 hp2 dL_law_698 dL_law_699 dL_law_701 dL_law_702 dL_law_703 ?_
        refine fb_callVi (r := o) hx hb hml hown hts hM (hA.1.1) (ce4 (hA.1.2)) rfl (As := [.int (nI i), .int (nI q), .int p2]) (rest := []) (c_X4_bestWind_f2o D y l S V I o nt cf rf hA ns df hG i hi q (Nat.zero_le _) (by omega) p2 hr2) (cwV 3 hts gL_law_X4_bestWind rfl rfl rfl (by decide +kernel) ⟨Nat.le_of_ble_eq_true rfl, Nat.le_of_ble_eq_true rfl⟩) rfl hl.1 rfl (Nat.le_of_ble_eq_true rfl) dL_law_704 ⟨by omega, by omega⟩ (fun v3 u H locs hp hM => ?_)
        obtain ⟨hv_, hu_⟩ := hp
        have hu_ := hu_.symm
        subst hu_
        refine lv_istore (lv' := [(6, .int v3), (5, .int (nI 1)), (4, .int (nI j)), (3, .ref (sa S 2000)), (2, .ref (sa S o)), (1, .ref (sa S 0)), (0, .ref b)]) hx hb dL_law_707 hl (by decide) rfl (fun ls hl => ?_)
        have hIv := hI0.same ho (sam_tf I o 1) (VSame.rf V) hR.2.2.2.2.2
        have hth : tf I o 1 o 0 = nI 1 := by unfold tf; rw [va_up_self]; rfl
        refine law_tail (T := 709) (off := 906) ⟨dL_law_709, dL_law_710, dL_law_713, dL_law_715, dL_law_720, dL_law_722, dL_law_725, dL_law_726, dL_law_727, dL_law_728, dL_law_730, dL_law_731, dL_law_732, dL_law_737, by omega⟩ hx hb hml hown hts hM hIv.1.2.1 hIv.1.2.2 (k := 1) (by decide) (lv_sub hl [4, 3, 1, 0] rfl) hth (fun hz9 => absurd hz9 (by decide)) (by omega) (by omega) (fun H locs hM => ?_) rfl
        exact W.widen (by omega) (by omega) (K _ _ _ _ _ _ _ _ _ _ _ _ _ _ (by omega) hIv hM (lv_sub hl [2, 3, 4, 5, 6] rfl))
      · skip
        refine fb_callW hx hb hml hown hts hM hE hNc (As := [.ref (sa S 0), .int (nI i), .int (nI q), .int (nI z), .ref (sa S 2000)]) (rest := []) (c_L_bestWind_ok a0 D y l S V I h03 hO (nI i) (nI q) (nI z) (c_X3_bestWind_ok D y l S V I a0.1 ns nt es na hC cf rf df hF i hi q hq z hz) (fun v u hq => by obtain ⟨_, hq⟩ := hq; subst hq; exact ⟨hO, rfl⟩)) (vx_cwSW 5 hts gL_law_L_bestWind rfl rfl rfl (by decide +kernel) ⟨Nat.le_of_ble_eq_true rfl, Nat.le_of_ble_eq_true rfl⟩) rfl hl.1 rfl (Nat.le_of_ble_eq_true rfl) dL_law_680 ⟨by omega, by omega⟩ (fun v1 u H locs hp hM => ?_)
        obtain ⟨hv_, v2, u1, hq, hu_⟩ := hp
        have hv_ : v1 = nI 0 := hv_
        have hv_ := hv_.symm
        subst hv_
        obtain ⟨hq1, hq2⟩ := hq
        subst hq2
        subst hq1
        obtain ⟨J, eJ⟩ : ∃ J, J = va_up I 2000 (upd (I 2000) 0 (cbw (V (200 + 2 * i)) (I (10 + i) 1) (nI q) z 20).1) := ⟨_, rfl⟩
        have hM : fb_M D y A s (S, V, (sT V), J) H locs := by rw [hu_] at hM; rw [eJ]; exact hM
        have hG2 : MF J o ns nt cf rf df := by rw [eJ]; exact mf_same ho hG (sam_out I ho _)
        refine lv_istore (lv' := [(5, .int (nI 0)), (4, .int (nI j)), (3, .ref (sa S 2000)), (2, .ref (sa S o)), (1, .ref (sa S 0)), (0, .ref b)]) hx hb dL_law_683 hl (by decide) rfl (fun ls hl => ?_)
        refine lv_aload_n hx hb dL_law_685 rfl (lv_at hl 3 rfl) ?_
        refine law_arg hx hb hX hbl hbA hM.2.2.1 (lv_sub hl [5, 1] rfl) 1 (by decide) (by omega) hL2 hp0 dL_law_686 dL_law_687 dL_law_689 dL_law_690 dL_law_691 ?_
        refine law_arg hx hb hX hbl hbA hM.2.2.1 (lv_sub hl [5, 1] rfl) 2 (by decide) (by omega) hL2 hp1 dL_law_692 dL_law_693 dL_law_695 dL_law_696 dL_law_697 ?_
        refine law_arg hx hb hX hbl hbA hM.2.2.1 (lv_sub hl [5, 1] rfl) 3 (by decide) (by omega) hL2 hp2 dL_law_698 dL_law_699 dL_law_701 dL_law_702 dL_law_703 ?_
        refine fb_callVi (r := o) hx hb hml hown hts hM (hA.1.1) (ce4 (hA.1.2)) rfl (As := [.int (nI i), .int (nI q), .int (nI z)]) (rest := []) (c_X4_bestWind_ok D y l S V J o nt cf rf hA ns df hG2 i hi q (Nat.zero_le _) (by omega) z (Nat.zero_le _) (by omega)) (cwV 3 hts gL_law_X4_bestWind rfl rfl rfl (by decide +kernel) ⟨Nat.le_of_ble_eq_true rfl, Nat.le_of_ble_eq_true rfl⟩) rfl hl.1 rfl (Nat.le_of_ble_eq_true rfl) dL_law_704 ⟨by omega, by omega⟩ (fun v3 u H locs hp hM => ?_)
        obtain ⟨hv_, hu_⟩ := hp
        have hu_ := hu_.symm
        subst hu_
        refine lv_istore (lv' := [(6, .int v3), (5, .int (nI 0)), (4, .int (nI j)), (3, .ref (sa S 2000)), (2, .ref (sa S o)), (1, .ref (sa S 0)), (0, .ref b)]) hx hb dL_law_707 hl (by decide) rfl (fun ls hl => ?_)
        have hth : t0 J o o 0 = nI 0 := by unfold t0; rw [va_up_self]; rfl
        have hIv := hI0.same (J := t0 J o) ho (by rw [eJ]; exact (sam_out I ho _).trans (sam_t0 _ o)) (VSame.rf V) hR.2.2.2.2.2
        refine law_tail (T := 709) (off := 906) ⟨dL_law_709, dL_law_710, dL_law_713, dL_law_715, dL_law_720, dL_law_722, dL_law_725, dL_law_726, dL_law_727, dL_law_728, dL_law_730, dL_law_731, dL_law_732, dL_law_737, by omega⟩ hx hb hml hown hts hM hIv.1.2.1 hIv.1.2.2 (k := 0) (by decide) (lv_sub hl [4, 3, 1, 0] rfl) hth (fun hz9 => (show t0 J o 2000 0 = (cbw (V (200 + 2 * i)) (I (10 + i) 1) (nI q) z 20).1 from by simp (discharger := omega) only [va_up_ne, va_up_self, t0_ne, eJ]; exact if_pos rfl).trans (by rw [hv_]; obtain ⟨e9, dm, d1, d2⟩ := hR.2.2.1 i hi; rw [e9]; unfold blx; rw [eJ, va_up_ne _ _ (show o + 1 ≠ 2000 by omega), va_up_ne _ _ (show o + 2 ≠ 2000 by omega)]; rw [d2, cbw_bwm d1 hz (nI q) (u := fun k9 => I (o + 1) (6 * i + k9)) (fun j9 hj9 => by rw [(hR.2.1 i (by omega)).2.1 hi]; exact mx_k _ _ hj9) 20])) (by omega) (by omega) (fun H locs hM => ?_) rfl
        exact W.widen (by omega) (by omega) (K _ _ _ _ _ _ _ _ _ _ _ _ _ _ (by omega) hIv hM (lv_sub hl [2, 3, 4, 5, 6] rfl))
end LAWS
