/-! the law: thirty nights -/
set_option maxHeartbeats 4000000 in
set_option maxRecDepth 100000 in
theorem lw_main {pv : Program} {l : Launch} {ev : Env} {s : State} {mv : MethodId} {ar : Array Value} {below : List Frame} {meth : Method} {cv : Code} {A : Nat → Prop} {D : va_G} {y : Nat → ClassId} {a0 : Nat × Nat} {sc : Nat × Nat × (Nat → Int32)} {Q : State → Prop} (hx : pv.tables.exec = Jvm.exec) (hb : cv.code = cL_law) (hml : cv.maxLocals = 25) (hown : s.vm.findClass RL = some mv.cls) (hts : ∀ x ∈ wsL_law, x.before ar s = true) (hE : fb_E a0 A s) (hSc : fb_Sc sc A s) (a1 ns nt : Nat) (rho cf rf df : Nat → Nat) (F ce sl : Nat) (S : fb_Sh) (V I : fb_V) (hI : Iv a1 S V I ns nt rho cf rf df 72000 F) (hn1 : 1 ≤ ns) (ht1 : 1 ≤ nt) (h5 : I 0 5 = nI 0) (hce : ce ≤ 10000) (hsl : sl ≤ 100000) (hend : ∀ (S : fb_Sh) (V I : fb_V) (H : Heap) (locs : List Loc) (ls : Array Slot), fb_M D y A s (S, V, sT V, I) H locs → W pv l ev rm_L_law s mv ar below meth cv H locs (ce + 420000) (sl + 2550000) Q (F0 mv 1039 ls [])) (H : Heap) (locs : List Loc) (hM : fb_M D y A s (S, V, sT V, I) H locs) (ls : Array Slot) (hl : lv_has ls 25 [(4, .int (nI 0)), (3, .int (tot V I ns nt + I 0 7)), (2, .ref (sa S 1000)), (1, .ref (sa S 0)), (0, .ref sc.1)]) : W pv l ev rm_L_law s mv ar below meth cv H locs (ce) (sl) Q (F0 mv 29 ls []) := by
  have LP_29 : ∀ (n : Nat) (time : Nat) (S9 : fb_Sh) (V9 I9 : fb_V) (rho9 : Nat → Nat) (F9 : Nat) (ht30 : time ≤ 30) (hI9 : Iv a1 S9 V9 I9 ns nt rho9 cf rf df (72000 + 12000 * time) F9) (h59 : I9 0 5 = nI time), 30 - time < n → ∀ (H : Heap) (locs : List Loc), fb_M D y A s (S9, V9, (sT V9), I9) H locs → ∀ ls, lv_has ls 25 [(4, .int (nI time)), (3, .int (tot V9 I9 ns nt + I9 0 7)), (2, .ref (sa S9 1000)), (1, .ref (sa S9 0)), (0, .ref sc.1)] → W pv l ev rm_L_law s mv ar below meth cv H locs (ce + 14000 * time) (sl + 85000 * time) Q (F0 mv 29 ls []) := by
    intro n_29
    induction n_29 with
    | zero => intro time S9 V9 I9 rho9 F9 ht30 hI9 h59 hmu; exact absurd hmu (Nat.not_lt_zero _)
    | succ n_29 ih_29 =>
      intro time S9 V9 I9 rho9 F9 ht30 hI9 h59 hmu H locs hM ls hl
      refine lv_iload hx hb dL_law_29 (lv_at hl 0 rfl) ?_
      refine lv_bipush (v := 30) hx hb dL_law_31 (by decide) ?_
      refine lv_icmp_ge (tgt := 1039) hx hb dL_law_33 (by decide) (fun c_1 => ?_) (fun c_1 => ?_)
      · skip
        have e_time : time = 30 := by have := (nI_leI (a := 30) (b := time) (by omega) (by omega)).mp c_1; omega
        have e_time := Eq.symm e_time
        subst e_time
        exact hend S9 V9 I9 _ _ ls hM
      · skip
        have ht3 : time < 30 := Nat.lt_of_not_le (fun z => c_1 (nI_le z (by omega)))
        refine lv_aload_n hx hb dL_law_36 rfl (lv_at hl 4 rfl) ?_
        refine lv_iload hx hb dL_law_37 (lv_at hl 0 rfl) ?_
        refine lv_bipush (v := 16) hx hb dL_law_39 (by decide) ?_
        refine lv_irem hx hb dL_law_41 (by decide) ?_
        refine W.eq (g2 := F0 mv _ ls (.int (nI (time % 16)) :: .ref sc.1 :: [])) (by rw [show ((nI time) - (nI time) / 16 * 16 : Int32) = nI (time % 16) from pk_rem (by omega) (by decide) (by decide)]) ?_
        refine fb_callSSi hx hb hml hown hts hM hE hSc (As := [.ref sc.1, .int (nI (time % 16))]) (rest := []) (c_L_cell sc a0 D y l S9 V9 I9 (time % 16) (by omega)) (va_cwS 2 hts gL_law_L_cell rfl rfl rfl (by decide +kernel) ⟨Nat.le_of_ble_eq_true rfl, Nat.le_of_ble_eq_true rfl⟩) rfl hl.1 rfl (Nat.le_of_ble_eq_true rfl) dL_law_42 ⟨(by show _ ≤ 626107; omega), (by show _ ≤ 7223304; omega)⟩ (fun v_2 u_ H locs hp hM => ?_)
        have hu_ := Eq.symm hp
        subst hu_
        refine lv_iload hx hb dL_law_45 (lv_at hl 0 rfl) ?_
        refine lv_bipush (v := 16) hx hb dL_law_47 (by decide) ?_
        refine lv_idiv hx hb dL_law_49 (by decide) ?_
        refine W.eq (g2 := F0 mv _ ls (.int (nI (time / 16)) :: .int v_2 :: [])) (by rw [show ((nI time) / 16 : Int32) = nI (time / 16) from pk_div (by omega) (by decide) (by decide)]) ?_
        refine lv_iconst (v := 3) hx hb dL_law_50 (by decide) ?_
        refine lv_imul hx hb dL_law_51 ?_
        refine lv_ishr hx hb dL_law_52 ?_
        refine lv_bipush (v := 97) hx hb dL_law_53 (by decide) ?_
        refine lv_iload hx hb dL_law_55 (lv_at hl 0 rfl) ?_
        refine lv_imul hx hb dL_law_57 ?_
        refine lv_iadd hx hb dL_law_58 ?_
        obtain ⟨x, ex⟩ : ∃ x : Int32, x = (v_2 >>> (((nI (time / 16)) * 3) &&& 31)) + (97 * (nI time)) := ⟨_, rfl⟩
        rw [← ex]
        refine lv_istore (lv' := [(5, .int x), (4, .int (nI time)), (3, .int (tot V9 I9 ns nt + I9 0 7)), (2, .ref (sa S9 1000)), (1, .ref (sa S9 0)), (0, .ref sc.1)]) hx hb dL_law_59 hl (by decide) rfl (fun ls hl => ?_)
        refine lw_acts hx hb hml hown hts hE hSc a1 ns nt (72000 + 12000 * time) F9 rho9 cf rf df S9 V9 I9 x time (ce + 14000 * time) (sl + 85000 * time) hI9 hn1 ht1 (by omega) h59 (by omega) (by omega) (fun S1 V1 I1 rho1 F1 hI1 h51 H locs hM ls hl => ?_) _ _ hM ls (lv_sub hl [0, 1, 2, 3, 4, 5] rfl)
        refine lw_night hx hb hml hown hts hE hSc a1 ns nt (72000 + 12000 * time + 12000) F1 rho1 cf rf df S1 V1 I1 x time (ce + 14000 * time + 72) (sl + 85000 * time + 432) hI1 hn1 ht1 h51 (by omega) (by omega) (fun S2 V2 J2 t B0 X U R0 T5 T L v ht h5 eU hW hls hZ H locs hM ls hl => ?_) _ _ hM ls hl
        have hG := hI1.2.1.2.1
        refine lw_check hx hb hml hown hts hE hSc a1 ns nt (72000 + 12000 * time + 12000) F1 rho1 cf rf df time (ce + 14000 * time + 72 + 1000) (sl + 85000 * time + 432 + 6000) S2 V2 J2 t B0 X U R0 T5 T L v ht h5 eU hW hls hZ hG (by omega) (by omega) (fun V3 J3 hZ3 H locs hM ls hl => ?_) _ _ hM ls hl
        refine lw_squares hx hb hml hown hts hE hSc a1 ns nt (72000 + 12000 * time + 12000) F1 (F1 + 1 + cf t * rf t) rho1 cf rf df time t (ce + 14000 * time + 72 + 1000 + 100) (sl + 85000 * time + 432 + 6000 + 600) B0 X U (upd (upd R0 5 (R0 5 + 1)) 7 (R0 7 + L)) (T5 - L) (T - L) (T + R0 7) S2 V3 J3 ht eU hG (Nat.le_refl _) hW hZ3 (by omega) (by omega) (fun S3 J4 hrE hS hZ4 hs4 H locs hM ls hl => ?_) _ _ hM ls hl
        refine lw_sums hx hb hml hown hts hE hSc a1 ns nt (72000 + 12000 * time + 12000) F1 (F1 + 1 + cf t * rf t) rho1 cf rf df time t (ce + 14000 * time + 72 + 1000 + 100 + 12400) (sl + 85000 * time + 432 + 6000 + 600 + 74000) B0 X U (upd (upd R0 5 (R0 5 + 1)) 7 (R0 7 + L)) (T5 - L) (T - L) (T + R0 7) S3 V3 J4 ht hG (Nat.le_refl _) hS hZ4 hs4 (show (T - L) + (R0 7 + L) = T + R0 7 by grind) (by omega) (by omega) (fun J5 hZ5 H locs hM ls hl => ?_) _ _ hM ls (lv_sub hl [0, 1, 2, 3, 7, 8, 9, 10, 11, 12] rfl)
        have eP : T + R0 7 = tot V3 J5 ns nt + J5 0 7 := by
          rw [hZ5.2.2.2.2.2, hZ5.2.2.2.1]
          show T + R0 7 = (T - L) + (R0 7 + L)
          grind
        rw [eP] at hl
        refine lv_iinc (v := nI (time + 1)) (lv' := [(4, .int (nI (time + 1))), (3, .int (tot V3 J5 ns nt + J5 0 7)), (2, .ref (sa S3 1000)), (1, .ref (sa S3 0)), (0, .ref sc.1)]) hx hb dL_law_1033 hl (k := 0) rfl (nI_1 _) (by decide) rfl (fun ls hl => ?_)
        refine lv_goto (tgt := 29) hx hb dL_law_1036 (by decide) ?_
        refine W.widen (show _ ≤ ce + 14000 * (time + 1) by omega) (show _ ≤ sl + 85000 * (time + 1) by omega) ?_
        exact ih_29 (time + 1) S3 V3 J5 rho1 _ (by omega) (hZ5.1.le (by omega)) ((congrFun hZ5.2.2.2.1 5).trans (show R0 5 + 1 = nI (time + 1) by rw [h5, nI_1])) (by omega) _ _ hM ls (lv_sub hl [0, 1, 2, 3, 4] rfl)
  refine W.widen (show _ ≤ ce + 14000 * 0 by omega) (show _ ≤ sl + 85000 * 0 by omega) ?_
  exact LP_29 _ 0 S V I rho F (by omega) hI h5 (Nat.lt_succ_self _) _ _ hM ls (lv_sub hl [0, 1, 2, 3, 4] rfl)
