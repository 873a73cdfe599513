/-! the law: is a square open -/
theorem gs_up {f : Nat → Nat → Int32} {R : Nat → Int32} {q k : Nat} {v : Int32} (h : ∀ j, j < 6 → R j = gsum (f j) (q + if j < k then 1 else 0)) (hk : k < 6) (hv : v = R k + f k q) : ∀ j, j < 6 → upd R k v j = gsum (f j) (q + if j < k + 1 then 1 else 0) := fun j hj => by
  unfold upd
  by_cases e : j = k
  · subst e
    rw [if_pos rfl, if_pos (by omega), hv, h j hk, if_neg (Nat.lt_irrefl _)]
    rfl
  · rw [if_neg e, h j hj]
    by_cases h2 : j < k
    · rw [if_pos h2, if_pos (by omega)]
    · rw [if_neg h2, if_neg (by omega)]
set_option maxHeartbeats 4000000 in
set_option maxRecDepth 100000 in
theorem lw_open {pv : Program} {l : Launch} {ev : Env} {s : State} {mv : MethodId} {ar : Array Value} {below : List Frame} {meth : Method} {cv : Code} {A : Nat → Prop} {D : va_G} {y : Nat → ClassId} {a0 : Nat × Nat} {sc : Nat × Nat × (Nat → Int32)} {Q : State → Prop} (hx : pv.tables.exec = Jvm.exec) (hb : cv.code = cL_law) (hml : cv.maxLocals = 25) (hown : s.vm.findClass RL = some mv.cls) (hts : ∀ x ∈ wsL_law, x.before ar s = true) (hE : fb_E a0 A s) (hSc : fb_Sc sc A s) (a1 ns nt N G E : Nat) (rho cf rf df : Nat → Nat) (time t ce sl : Nat) (B0 : Nat → Int32) (X U : fb_V) (RR : Nat → Int32) (A5 AA_ PP : Int32) (S : fb_Sh) (V J : fb_V) (b : Int32) (q : Nat) (ht : t < nt) (eU : U = fun q => csq (cf t) (cf t * rf t) B0 X q) (hG : 4000 ≤ G) (hGE : G + 1 + cf t * rf t ≤ E) (hrE : ∀ i, i < ns → rho i ≠ E) (hW : RA S G 10 (cf t * rf t) ∧ ∀ q, q < (cf t * rf t) → PA S G q (G + 1 + q) ∧ RA S (G + 1 + q) 6 8) (hS : RA S E 6 6) (hZ : Zt a1 S V J ns nt rho cf rf df N (E + 1) t B0 (ngt (cf t) (cf t * rf t) (df t) B0 X) G U RR A5 AA_) (hqn : q < cf t * rf t) (hb9 : b = 0 → ob (cf t) (cf t * rf t) B0 q 0 ≠ 1 ∧ ob (cf t) (cf t * rf t) B0 q 1 ≠ 1) (hce : ce + 300 ≤ 626107) (hsl : sl + 1800 ≤ 7223304) (kk : (∀ (J9 : fb_V) (hZ9 : Zt a1 S V J9 ns nt rho cf rf df N (E + 1) t B0 (ngt (cf t) (cf t * rf t) (df t) B0 X) G U RR A5 AA_) (hE9 : J9 E = J E) (H : Heap) (locs : List Loc), fb_M D y A s (S, V, sT V, J9) H locs → ∀ ls, lv_has ls 25 [(21, .int (nI q)), (20, .ref (sa S E)), (19, .int (wsm (ngt (cf t) (cf t * rf t) (df t) B0 X) (q + 1))), (18, .int (fsum (ngt (cf t) (cf t * rf t) (df t) B0 X) (q + 1))), (17, .int (nI (df t))), (10, .int (cwk (cf t) (cf t * rf t) (df t) B0 X 1)), (8, .ref (sa S G)), (7, .int (nI (cf t * rf t))), (6, .int (nI t)), (4, .int (nI time)), (3, .int PP), (2, .ref (sa S 1000)), (1, .ref (sa S 0)), (0, .ref sc.1)] → W pv l ev rm_L_law s mv ar below meth cv H locs (ce + 300) (sl + 1800) Q (F0 mv 882 ls []))) (H : Heap) (locs : List Loc) (hM : fb_M D y A s (S, V, sT V, J) H locs) (ls : Array Slot) (hl : lv_has ls 25 [(22, .int b), (21, .int (nI q)), (20, .ref (sa S E)), (19, .int (wsm (ngt (cf t) (cf t * rf t) (df t) B0 X) (q + 1))), (18, .int (fsum (ngt (cf t) (cf t * rf t) (df t) B0 X) (q + 1))), (17, .int (nI (df t))), (10, .int (cwk (cf t) (cf t * rf t) (df t) B0 X 1)), (8, .ref (sa S G)), (7, .int (nI (cf t * rf t))), (6, .int (nI t)), (4, .int (nI time)), (3, .int PP), (2, .ref (sa S 1000)), (1, .ref (sa S 0)), (0, .ref sc.1)]) : W pv l ev rm_L_law s mv ar below meth cv H locs (ce) (sl) Q (F0 mv 737 ls []) := by
  have hkt := hZ.1.2.2.2.1.2.2.2.1 t ht
  have hcr := hkt.n36
  have hd9 := hkt.c1.2
  have hBY : ∀ q, q < 36 → Bd ((ngt (cf t) (cf t * rf t) (df t) B0 X) q) 300 := fun q hq => by rw [← hZ.2.1.2 q hq]; exact hkt.2.1 q hq
  refine lv_iconst (v := 0) hx hb dL_law_737 (by decide) ?_
  refine lv_istore (lv' := [(23, .int 0), (22, .int b), (21, .int (nI q)), (20, .ref (sa S E)), (19, .int (wsm (ngt (cf t) (cf t * rf t) (df t) B0 X) (q + 1))), (18, .int (fsum (ngt (cf t) (cf t * rf t) (df t) B0 X) (q + 1))), (17, .int (nI (df t))), (10, .int (cwk (cf t) (cf t * rf t) (df t) B0 X 1)), (8, .ref (sa S G)), (7, .int (nI (cf t * rf t))), (6, .int (nI t)), (4, .int (nI time)), (3, .int PP), (2, .ref (sa S 1000)), (1, .ref (sa S 0)), (0, .ref sc.1)]) hx hb dL_law_738 hl (by decide) rfl (fun ls hl => ?_)
  have LP_740 : ∀ (n : Nat) (z : Nat) (b9 : Int32) (J9 : fb_V) (hz : z ≤ cf t * rf t) (hbz : b9 = 0 → Tc (cf t) (cf t * rf t) B0 q z) (hZ9 : Zt a1 S V J9 ns nt rho cf rf df N (E + 1) t B0 (ngt (cf t) (cf t * rf t) (df t) B0 X) G U RR A5 AA_) (hE9 : J9 E = J E), cf t * rf t - z < n → ∀ (H : Heap) (locs : List Loc), fb_M D y A s (S, V, sT V, J9) H locs → ∀ ls, lv_has ls 25 [(23, .int (nI z)), (22, .int b9), (21, .int (nI q)), (20, .ref (sa S E)), (19, .int (wsm (ngt (cf t) (cf t * rf t) (df t) B0 X) (q + 1))), (18, .int (fsum (ngt (cf t) (cf t * rf t) (df t) B0 X) (q + 1))), (17, .int (nI (df t))), (10, .int (cwk (cf t) (cf t * rf t) (df t) B0 X 1)), (8, .ref (sa S G)), (7, .int (nI (cf t * rf t))), (6, .int (nI t)), (4, .int (nI time)), (3, .int PP), (2, .ref (sa S 1000)), (1, .ref (sa S 0)), (0, .ref sc.1)] → W pv l ev rm_L_law s mv ar below meth cv H locs (ce + 8 * z) (sl + 48 * z) Q (F0 mv 740 ls []) := by
    intro n_740
    induction n_740 with
    | zero => intro z b9 J9 hz hbz hZ9 hE9 hmu; exact absurd hmu (Nat.not_lt_zero _)
    | succ n_740 ih_740 =>
      intro z b9 J9 hz hbz hZ9 hE9 hmu H locs hM ls hl
      refine lv_iload hx hb dL_law_740 (lv_at hl 0 rfl) ?_
      refine lv_iload hx hb dL_law_742 (lv_at hl 9 rfl) ?_
      refine lv_icmp_ge (tgt := 817) hx hb dL_law_744 (by decide) (fun c_1 => ?_) (fun c_1 => ?_)
      · skip
        have e_z : z = cf t * rf t := by have := (nI_leI (a := cf t * rf t) (b := z) (by omega) (by omega)).mp c_1; omega
        have e_z := Eq.symm e_z
        subst e_z
        refine lv_iload hx hb dL_law_817 (lv_at hl 1 rfl) ?_
        refine lv_if_ne (tgt := 882) hx hb dL_law_819 (by decide) (fun c_2 => ?_) (fun c_2 => ?_)
        · skip
          refine W.widen (show _ ≤ ce + 300 by omega) (show _ ≤ sl + 1800 by omega) ?_
          exact kk J9 hZ9 hE9 _ _ hM ls (lv_sub hl [2, 3, 4, 5, 6, 7, 8, 9, 10, 11, 12, 13, 14, 15] rfl)
        · skip
          have hT9 := hbz c_2
          have hk9 := ngt_t0 (d := df t) (X := X) hd9 (show q < 36 by omega) hT9
          refine lv_aload_n hx hb dL_law_822 rfl (lv_at hl 14 rfl) ?_
          refine lv_iload hx hb dL_law_823 (lv_at hl 10 rfl) ?_
          refine lv_iload hx hb dL_law_825 (lv_at hl 2 rfl) ?_
          refine lv_iconst (v := 0) hx hb dL_law_827 (by decide) ?_
          refine fb_callVi (r := 0) hx hb hml hown hts hM (hZ9.1.1.1.1.1) (ce3 (hZ9.1.1.1.1.2)) rfl (As := [.int (nI t), .int (nI q), .int 0]) (rest := []) (z_sq D y l hZ9 ht q hqn 0 (by decide)) (cwV 3 hts gL_law_X3_square rfl rfl rfl (by decide +kernel) ⟨Nat.le_of_ble_eq_true rfl, Nat.le_of_ble_eq_true rfl⟩) rfl hl.1 rfl (Nat.le_of_ble_eq_true rfl) dL_law_828 ⟨(by show _ ≤ 626107; omega), (by show _ ≤ 7223304; omega)⟩ (fun v_3 u_ H locs hp hM => ?_)
          obtain ⟨hv_, hu_⟩ := hp
          have hv_ := Eq.symm hv_
          have hu_ := Eq.symm hu_
          subst hv_
          subst hu_
          refine W.eq (g2 := F0 mv _ ls (.int ((ngt (cf t) (cf t * rf t) (df t) B0 X) q 0) :: [])) (rfl) ?_
          refine lv_aload hx hb dL_law_831 (lv_at hl 8 rfl) ?_
          refine lv_iload hx hb dL_law_833 (lv_at hl 2 rfl) ?_
          refine fb_aaldA (r := G) hx hb hM (hW.1.1) (ce10 (hW.1.2.1)) 4 rfl (k := q) (nI_clamp (by omega)) (b := sa S (G + 1 + q)) ((hW.2 q (by omega)).1) (by rw [hW.1.2.2]; exact vp_in_nI (by omega) (by omega)) dL_law_835 ?_
          refine lv_iconst (v := 0) hx hb dL_law_836 (by decide) ?_
          refine fb_iald (r := (G + 1 + q)) hx hb hM (((hW.2 q (by omega)).2).1) (ce6 (((hW.2 q (by omega)).2).2.1)) (k := 0) (by decide) (by rw [((hW.2 q (by omega)).2).2.2]; exact pk_in 0 _ (by omega) (by decide) (by omega)) dL_law_837 ?_
          refine W.eq (g2 := F0 mv _ ls (.int (X q 0) :: .int ((ngt (cf t) (cf t * rf t) (df t) B0 X) q 0) :: [])) (by rw [show (J9 (G + 1 + q) 0 : Int32) = X q 0 from (hZ9.2.2.1 q hqn 0 (Nat.lt_of_lt_of_le (show 0 < 6 from (by decide)) (by decide))).trans (by rw [eU]; exact csq_6 _ _ _ _ _ (by decide))]) ?_
          refine lv_icmp_ne (tgt := 880) hx hb dL_law_838 (by decide) (fun c_4 => absurd (hk9.1) c_4) (fun c_4 => ?_)
          refine lv_aload_n hx hb dL_law_841 rfl (lv_at hl 14 rfl) ?_
          refine lv_iload hx hb dL_law_842 (lv_at hl 10 rfl) ?_
          refine lv_iload hx hb dL_law_844 (lv_at hl 2 rfl) ?_
          refine lv_iconst (v := 1) hx hb dL_law_846 (by decide) ?_
          refine fb_callVi (r := 0) hx hb hml hown hts hM (hZ9.1.1.1.1.1) (ce3 (hZ9.1.1.1.1.2)) rfl (As := [.int (nI t), .int (nI q), .int 1]) (rest := []) (z_sq D y l hZ9 ht q hqn 1 (by decide)) (cwV 3 hts gL_law_X3_square rfl rfl rfl (by decide +kernel) ⟨Nat.le_of_ble_eq_true rfl, Nat.le_of_ble_eq_true rfl⟩) rfl hl.1 rfl (Nat.le_of_ble_eq_true rfl) dL_law_847 ⟨(by show _ ≤ 626107; omega), (by show _ ≤ 7223304; omega)⟩ (fun v_5 u_ H locs hp hM => ?_)
          obtain ⟨hv_, hu_⟩ := hp
          have hv_ := Eq.symm hv_
          have hu_ := Eq.symm hu_
          subst hv_
          subst hu_
          refine W.eq (g2 := F0 mv _ ls (.int ((ngt (cf t) (cf t * rf t) (df t) B0 X) q 1) :: [])) (rfl) ?_
          refine lv_aload hx hb dL_law_850 (lv_at hl 8 rfl) ?_
          refine lv_iload hx hb dL_law_852 (lv_at hl 2 rfl) ?_
          refine fb_aaldA (r := G) hx hb hM (hW.1.1) (ce10 (hW.1.2.1)) 4 rfl (k := q) (nI_clamp (by omega)) (b := sa S (G + 1 + q)) ((hW.2 q (by omega)).1) (by rw [hW.1.2.2]; exact vp_in_nI (by omega) (by omega)) dL_law_854 ?_
          refine lv_iconst (v := 1) hx hb dL_law_855 (by decide) ?_
          refine fb_iald (r := (G + 1 + q)) hx hb hM (((hW.2 q (by omega)).2).1) (ce6 (((hW.2 q (by omega)).2).2.1)) (k := 1) (by decide) (by rw [((hW.2 q (by omega)).2).2.2]; exact pk_in 1 _ (by omega) (by decide) (by omega)) dL_law_856 ?_
          refine W.eq (g2 := F0 mv _ ls (.int (X q 1) :: .int ((ngt (cf t) (cf t * rf t) (df t) B0 X) q 1) :: [])) (by rw [show (J9 (G + 1 + q) 1 : Int32) = X q 1 from (hZ9.2.2.1 q hqn 1 (Nat.lt_of_lt_of_le (show 1 < 6 from (by decide)) (by decide))).trans (by rw [eU]; exact csq_6 _ _ _ _ _ (by decide))]) ?_
          refine lv_aload hx hb dL_law_857 (lv_at hl 8 rfl) ?_
          refine lv_iload hx hb dL_law_859 (lv_at hl 2 rfl) ?_
          refine fb_aaldA (r := G) hx hb hM (hW.1.1) (ce10 (hW.1.2.1)) 4 rfl (k := q) (nI_clamp (by omega)) (b := sa S (G + 1 + q)) ((hW.2 q (by omega)).1) (by rw [hW.1.2.2]; exact vp_in_nI (by omega) (by omega)) dL_law_861 ?_
          refine lv_iconst (v := 1) hx hb dL_law_862 (by decide) ?_
          refine fb_iald (r := (G + 1 + q)) hx hb hM (((hW.2 q (by omega)).2).1) (ce6 (((hW.2 q (by omega)).2).2.1)) (k := 1) (by decide) (by rw [((hW.2 q (by omega)).2).2.2]; exact pk_in 1 _ (by omega) (by decide) (by omega)) dL_law_863 ?_
          refine W.eq (g2 := F0 mv _ ls (.int (X q 1) :: .int (X q 1) :: .int ((ngt (cf t) (cf t * rf t) (df t) B0 X) q 1) :: [])) (by rw [show (J9 (G + 1 + q) 1 : Int32) = X q 1 from (hZ9.2.2.1 q hqn 1 (Nat.lt_of_lt_of_le (show 1 < 6 from (by decide)) (by decide))).trans (by rw [eU]; exact csq_6 _ _ _ _ _ (by decide))]) ?_
          refine lv_iconst (v := 0) hx hb dL_law_864 (by decide) ?_
          refine lv_iconst (v := 2) hx hb dL_law_865 (by decide) ?_
          refine lv_iload hx hb dL_law_866 (lv_at hl 6 rfl) ?_
          refine lv_isub hx hb dL_law_868 ?_
          refine va_mmax hx hb (hml.trans hl.1.symm) hown (hts (.methodLink RL 82 Lib.Math.max.name) (by decide +kernel)) (hts (.static Lib.Math.max.name) (by decide +kernel)) (hts (.initialized "java/lang/Math") (by decide +kernel)) (hts (.code Lib.Math.max.name Lib.Math.max.code 2 (some .int)) (by decide +kernel)) (Nat.le_of_ble_eq_true rfl) (Nat.le_of_ble_eq_true rfl) (by show _ ≤ 626107; omega) (by show _ ≤ 7223304; omega) dL_law_869 ?_
          refine lv_imul hx hb dL_law_872 ?_
          refine lv_bipush (v := 30) hx hb dL_law_873 (by decide) ?_
          refine lv_idiv hx hb dL_law_875 (by decide) ?_
          refine lv_isub hx hb dL_law_876 ?_
          refine lv_icmp_eq (tgt := 882) hx hb dL_law_877 (by decide) (fun c_6 => ?_) (fun c_6 => absurd (hk9.2) c_6)
          refine W.widen (show _ ≤ ce + 300 by omega) (show _ ≤ sl + 1800 by omega) ?_
          exact kk J9 hZ9 hE9 _ _ hM ls (lv_sub hl [2, 3, 4, 5, 6, 7, 8, 9, 10, 11, 12, 13, 14, 15] rfl)
      · skip
        have hzn : z < cf t * rf t := Nat.lt_of_not_le (fun z => c_1 (nI_le z (by omega)))
        refine lv_iload hx hb dL_law_747 (lv_at hl 1 rfl) ?_
        refine lv_if_ne (tgt := 804) hx hb dL_law_749 (by decide) (fun c_7 => ?_) (fun c_7 => ?_)
        · skip
          refine lv_iconst (v := 1) hx hb dL_law_804 (by decide) ?_
          refine lv_goto (tgt := 809) hx hb dL_law_805 (by decide) ?_
          refine lv_istore (lv' := [(22, .int 1), (23, .int (nI z)), (21, .int (nI q)), (20, .ref (sa S E)), (19, .int (wsm (ngt (cf t) (cf t * rf t) (df t) B0 X) (q + 1))), (18, .int (fsum (ngt (cf t) (cf t * rf t) (df t) B0 X) (q + 1))), (17, .int (nI (df t))), (10, .int (cwk (cf t) (cf t * rf t) (df t) B0 X 1)), (8, .ref (sa S G)), (7, .int (nI (cf t * rf t))), (6, .int (nI t)), (4, .int (nI time)), (3, .int PP), (2, .ref (sa S 1000)), (1, .ref (sa S 0)), (0, .ref sc.1)]) hx hb dL_law_809 hl (by decide) rfl (fun ls hl => ?_)
          refine lv_iinc (v := nI (z + 1)) (lv' := [(23, .int (nI (z + 1))), (22, .int 1), (21, .int (nI q)), (20, .ref (sa S E)), (19, .int (wsm (ngt (cf t) (cf t * rf t) (df t) B0 X) (q + 1))), (18, .int (fsum (ngt (cf t) (cf t * rf t) (df t) B0 X) (q + 1))), (17, .int (nI (df t))), (10, .int (cwk (cf t) (cf t * rf t) (df t) B0 X 1)), (8, .ref (sa S G)), (7, .int (nI (cf t * rf t))), (6, .int (nI t)), (4, .int (nI time)), (3, .int PP), (2, .ref (sa S 1000)), (1, .ref (sa S 0)), (0, .ref sc.1)]) hx hb dL_law_811 hl (k := 1) rfl (nI_1 _) (by decide) rfl (fun ls hl => ?_)
          refine lv_goto (tgt := 740) hx hb dL_law_814 (by decide) ?_
          refine W.widen (show _ ≤ ce + 8 * (z + 1) by omega) (show _ ≤ sl + 48 * (z + 1) by omega) ?_
          exact ih_740 (z + 1) 1 J9 (by omega) (fun h9 => absurd h9 (by decide)) hZ9 hE9 (by omega) _ _ hM ls (lv_sub hl [0, 1, 2, 3, 4, 5, 6, 7, 8, 9, 10, 11, 12, 13, 14, 15] rfl)
        · skip
          have hT9 := hbz c_7
          refine lv_iload hx hb dL_law_752 (lv_at hl 0 rfl) ?_
          refine lv_iconst (v := 1) hx hb dL_law_754 (by decide) ?_
          refine lv_iadd hx hb dL_law_755 ?_
          refine W.eq (g2 := F0 mv _ ls (.int (nI (z + 1)) :: [])) (by rw [show ((nI z) + 1 : Int32) = nI (z + 1) from nI_1 z]) ?_
          refine lv_iload hx hb dL_law_756 (lv_at hl 2 rfl) ?_
          refine lv_icmp_ne (tgt := 775) hx hb dL_law_758 (by decide) (fun c_8 => ?_) (fun c_8 => ?_)
          · skip
            have p1 : z + 1 = q → ob (cf t) (cf t * rf t) B0 z 0 ≠ 1 := fun h9 => absurd (congrArg nI h9) c_8
            refine lv_iload hx hb dL_law_775 (lv_at hl 0 rfl) ?_
            refine lv_aload_n hx hb dL_law_777 rfl (lv_at hl 14 rfl) ?_
            refine lv_iload hx hb dL_law_778 (lv_at hl 10 rfl) ?_
            refine lv_iconst (v := 0) hx hb dL_law_780 (by decide) ?_
            refine fb_callVi (r := 0) hx hb hml hown hts hM (hZ9.1.1.1.1.1) (ce3 (hZ9.1.1.1.1.2)) rfl (As := [.int (nI t), .int 0]) (rest := [.int (nI z)]) (z_tk D y l hZ9 ht (by omega) 0 (by decide)) (cwV 2 hts gL_law_X3_tick rfl rfl rfl (by decide +kernel) ⟨Nat.le_of_ble_eq_true rfl, Nat.le_of_ble_eq_true rfl⟩) rfl hl.1 rfl (Nat.le_of_ble_eq_true rfl) dL_law_781 ⟨(by show _ ≤ 626107; omega), (by show _ ≤ 7223304; omega)⟩ (fun v_9 u_ H locs hp hM => ?_)
            obtain ⟨hv_, J21, hu_, hlo21, hZ21⟩ := hp
            subst hv_
            subst hu_
            refine W.eq (g2 := F0 mv _ ls (.int (nI (cf t)) :: .int (nI z) :: [])) (by rw [show (ctk (cf t) (rf t) (df t) (ngt (cf t) (cf t * rf t) (df t) B0 X) B0 0 0 : Int32) = nI (cf t) from ctk_0 _ _ _ _ _ _]) ?_
            refine lv_iadd hx hb dL_law_784 ?_
            refine W.eq (g2 := F0 mv _ ls (.int (nI (z + cf t)) :: [])) (by rw [show ((nI z) + (nI (cf t)) : Int32) = nI (z + cf t) from nI_add _ _]) ?_
            refine lv_iload hx hb dL_law_785 (lv_at hl 2 rfl) ?_
            refine lv_icmp_ne (tgt := 808) hx hb dL_law_787 (by decide) (fun c_10 => ?_) (fun c_10 => ?_)
            · skip
              have p2 : z + cf t = q → ob (cf t) (cf t * rf t) B0 z 1 ≠ 1 := fun h9 => absurd (congrArg nI h9) c_10
              refine lv_iconst (v := 0) hx hb dL_law_808 (by decide) ?_
              refine lv_istore (lv' := [(22, .int 0), (23, .int (nI z)), (21, .int (nI q)), (20, .ref (sa S E)), (19, .int (wsm (ngt (cf t) (cf t * rf t) (df t) B0 X) (q + 1))), (18, .int (fsum (ngt (cf t) (cf t * rf t) (df t) B0 X) (q + 1))), (17, .int (nI (df t))), (10, .int (cwk (cf t) (cf t * rf t) (df t) B0 X 1)), (8, .ref (sa S G)), (7, .int (nI (cf t * rf t))), (6, .int (nI t)), (4, .int (nI time)), (3, .int PP), (2, .ref (sa S 1000)), (1, .ref (sa S 0)), (0, .ref sc.1)]) hx hb dL_law_809 hl (by decide) rfl (fun ls hl => ?_)
              refine lv_iinc (v := nI (z + 1)) (lv' := [(23, .int (nI (z + 1))), (22, .int 0), (21, .int (nI q)), (20, .ref (sa S E)), (19, .int (wsm (ngt (cf t) (cf t * rf t) (df t) B0 X) (q + 1))), (18, .int (fsum (ngt (cf t) (cf t * rf t) (df t) B0 X) (q + 1))), (17, .int (nI (df t))), (10, .int (cwk (cf t) (cf t * rf t) (df t) B0 X 1)), (8, .ref (sa S G)), (7, .int (nI (cf t * rf t))), (6, .int (nI t)), (4, .int (nI time)), (3, .int PP), (2, .ref (sa S 1000)), (1, .ref (sa S 0)), (0, .ref sc.1)]) hx hb dL_law_811 hl (k := 1) rfl (nI_1 _) (by decide) rfl (fun ls hl => ?_)
              refine lv_goto (tgt := 740) hx hb dL_law_814 (by decide) ?_
              refine W.widen (show _ ≤ ce + 8 * (z + 1) by omega) (show _ ≤ sl + 48 * (z + 1) by omega) ?_
              exact ih_740 (z + 1) 0 J21 (by omega) (fun _ => hT9.s p1 p2) hZ21 ((hlo21 E (by omega)).trans hE9) (by omega) _ _ hM ls (lv_sub hl [0, 1, 2, 3, 4, 5, 6, 7, 8, 9, 10, 11, 12, 13, 14, 15] rfl)
            · skip
              refine lv_aload_n hx hb dL_law_790 rfl (lv_at hl 14 rfl) ?_
              refine lv_iload hx hb dL_law_791 (lv_at hl 10 rfl) ?_
              refine lv_iload hx hb dL_law_793 (lv_at hl 0 rfl) ?_
              refine lv_bipush (v := 9) hx hb dL_law_795 (by decide) ?_
              refine fb_callVi (r := 0) hx hb hml hown hts hM (hZ21.1.1.1.1.1) (ce3 (hZ21.1.1.1.1.2)) rfl (As := [.int (nI t), .int (nI z), .int 9]) (rest := []) (z_sq D y l hZ21 ht z hzn 9 (by decide)) (cwV 3 hts gL_law_X3_square rfl rfl rfl (by decide +kernel) ⟨Nat.le_of_ble_eq_true rfl, Nat.le_of_ble_eq_true rfl⟩) rfl hl.1 rfl (Nat.le_of_ble_eq_true rfl) dL_law_797 ⟨(by show _ ≤ 626107; omega), (by show _ ≤ 7223304; omega)⟩ (fun v_11 u_ H locs hp hM => ?_)
              obtain ⟨hv_, hu_⟩ := hp
              have hv_ := Eq.symm hv_
              have hu_ := Eq.symm hu_
              subst hv_
              subst hu_
              refine W.eq (g2 := F0 mv _ ls (.int (ob (cf t) (cf t * rf t) B0 z 1) :: [])) (rfl) ?_
              refine lv_iconst (v := 1) hx hb dL_law_800 (by decide) ?_
              refine lv_icmp_ne (tgt := 808) hx hb dL_law_801 (by decide) (fun c_12 => ?_) (fun c_12 => ?_)
              · skip
                have p2 : z + cf t = q → ob (cf t) (cf t * rf t) B0 z 1 ≠ 1 := fun _ => c_12
                refine lv_iconst (v := 0) hx hb dL_law_808 (by decide) ?_
                refine lv_istore (lv' := [(22, .int 0), (23, .int (nI z)), (21, .int (nI q)), (20, .ref (sa S E)), (19, .int (wsm (ngt (cf t) (cf t * rf t) (df t) B0 X) (q + 1))), (18, .int (fsum (ngt (cf t) (cf t * rf t) (df t) B0 X) (q + 1))), (17, .int (nI (df t))), (10, .int (cwk (cf t) (cf t * rf t) (df t) B0 X 1)), (8, .ref (sa S G)), (7, .int (nI (cf t * rf t))), (6, .int (nI t)), (4, .int (nI time)), (3, .int PP), (2, .ref (sa S 1000)), (1, .ref (sa S 0)), (0, .ref sc.1)]) hx hb dL_law_809 hl (by decide) rfl (fun ls hl => ?_)
                refine lv_iinc (v := nI (z + 1)) (lv' := [(23, .int (nI (z + 1))), (22, .int 0), (21, .int (nI q)), (20, .ref (sa S E)), (19, .int (wsm (ngt (cf t) (cf t * rf t) (df t) B0 X) (q + 1))), (18, .int (fsum (ngt (cf t) (cf t * rf t) (df t) B0 X) (q + 1))), (17, .int (nI (df t))), (10, .int (cwk (cf t) (cf t * rf t) (df t) B0 X 1)), (8, .ref (sa S G)), (7, .int (nI (cf t * rf t))), (6, .int (nI t)), (4, .int (nI time)), (3, .int PP), (2, .ref (sa S 1000)), (1, .ref (sa S 0)), (0, .ref sc.1)]) hx hb dL_law_811 hl (k := 1) rfl (nI_1 _) (by decide) rfl (fun ls hl => ?_)
                refine lv_goto (tgt := 740) hx hb dL_law_814 (by decide) ?_
                refine W.widen (show _ ≤ ce + 8 * (z + 1) by omega) (show _ ≤ sl + 48 * (z + 1) by omega) ?_
                exact ih_740 (z + 1) 0 J21 (by omega) (fun _ => hT9.s p1 p2) hZ21 ((hlo21 E (by omega)).trans hE9) (by omega) _ _ hM ls (lv_sub hl [0, 1, 2, 3, 4, 5, 6, 7, 8, 9, 10, 11, 12, 13, 14, 15] rfl)
              · skip
                refine lv_iconst (v := 1) hx hb dL_law_804 (by decide) ?_
                refine lv_goto (tgt := 809) hx hb dL_law_805 (by decide) ?_
                refine lv_istore (lv' := [(22, .int 1), (23, .int (nI z)), (21, .int (nI q)), (20, .ref (sa S E)), (19, .int (wsm (ngt (cf t) (cf t * rf t) (df t) B0 X) (q + 1))), (18, .int (fsum (ngt (cf t) (cf t * rf t) (df t) B0 X) (q + 1))), (17, .int (nI (df t))), (10, .int (cwk (cf t) (cf t * rf t) (df t) B0 X 1)), (8, .ref (sa S G)), (7, .int (nI (cf t * rf t))), (6, .int (nI t)), (4, .int (nI time)), (3, .int PP), (2, .ref (sa S 1000)), (1, .ref (sa S 0)), (0, .ref sc.1)]) hx hb dL_law_809 hl (by decide) rfl (fun ls hl => ?_)
                refine lv_iinc (v := nI (z + 1)) (lv' := [(23, .int (nI (z + 1))), (22, .int 1), (21, .int (nI q)), (20, .ref (sa S E)), (19, .int (wsm (ngt (cf t) (cf t * rf t) (df t) B0 X) (q + 1))), (18, .int (fsum (ngt (cf t) (cf t * rf t) (df t) B0 X) (q + 1))), (17, .int (nI (df t))), (10, .int (cwk (cf t) (cf t * rf t) (df t) B0 X 1)), (8, .ref (sa S G)), (7, .int (nI (cf t * rf t))), (6, .int (nI t)), (4, .int (nI time)), (3, .int PP), (2, .ref (sa S 1000)), (1, .ref (sa S 0)), (0, .ref sc.1)]) hx hb dL_law_811 hl (k := 1) rfl (nI_1 _) (by decide) rfl (fun ls hl => ?_)
                refine lv_goto (tgt := 740) hx hb dL_law_814 (by decide) ?_
                refine W.widen (show _ ≤ ce + 8 * (z + 1) by omega) (show _ ≤ sl + 48 * (z + 1) by omega) ?_
                exact ih_740 (z + 1) 1 J21 (by omega) (fun h9 => absurd h9 (by decide)) hZ21 ((hlo21 E (by omega)).trans hE9) (by omega) _ _ hM ls (lv_sub hl [0, 1, 2, 3, 4, 5, 6, 7, 8, 9, 10, 11, 12, 13, 14, 15] rfl)
          · skip
            refine lv_aload_n hx hb dL_law_761 rfl (lv_at hl 14 rfl) ?_
            refine lv_iload hx hb dL_law_762 (lv_at hl 10 rfl) ?_
            refine lv_iload hx hb dL_law_764 (lv_at hl 0 rfl) ?_
            refine lv_bipush (v := 8) hx hb dL_law_766 (by decide) ?_
            refine fb_callVi (r := 0) hx hb hml hown hts hM (hZ9.1.1.1.1.1) (ce3 (hZ9.1.1.1.1.2)) rfl (As := [.int (nI t), .int (nI z), .int 8]) (rest := []) (z_sq D y l hZ9 ht z hzn 8 (by decide)) (cwV 3 hts gL_law_X3_square rfl rfl rfl (by decide +kernel) ⟨Nat.le_of_ble_eq_true rfl, Nat.le_of_ble_eq_true rfl⟩) rfl hl.1 rfl (Nat.le_of_ble_eq_true rfl) dL_law_768 ⟨(by show _ ≤ 626107; omega), (by show _ ≤ 7223304; omega)⟩ (fun v_13 u_ H locs hp hM => ?_)
            obtain ⟨hv_, hu_⟩ := hp
            have hv_ := Eq.symm hv_
            have hu_ := Eq.symm hu_
            subst hv_
            subst hu_
            refine W.eq (g2 := F0 mv _ ls (.int (ob (cf t) (cf t * rf t) B0 z 0) :: [])) (rfl) ?_
            refine lv_iconst (v := 1) hx hb dL_law_771 (by decide) ?_
            refine lv_icmp_eq (tgt := 804) hx hb dL_law_772 (by decide) (fun c_14 => ?_) (fun c_14 => ?_)
            · skip
              refine lv_iconst (v := 1) hx hb dL_law_804 (by decide) ?_
              refine lv_goto (tgt := 809) hx hb dL_law_805 (by decide) ?_
              refine lv_istore (lv' := [(22, .int 1), (23, .int (nI z)), (21, .int (nI q)), (20, .ref (sa S E)), (19, .int (wsm (ngt (cf t) (cf t * rf t) (df t) B0 X) (q + 1))), (18, .int (fsum (ngt (cf t) (cf t * rf t) (df t) B0 X) (q + 1))), (17, .int (nI (df t))), (10, .int (cwk (cf t) (cf t * rf t) (df t) B0 X 1)), (8, .ref (sa S G)), (7, .int (nI (cf t * rf t))), (6, .int (nI t)), (4, .int (nI time)), (3, .int PP), (2, .ref (sa S 1000)), (1, .ref (sa S 0)), (0, .ref sc.1)]) hx hb dL_law_809 hl (by decide) rfl (fun ls hl => ?_)
              refine lv_iinc (v := nI (z + 1)) (lv' := [(23, .int (nI (z + 1))), (22, .int 1), (21, .int (nI q)), (20, .ref (sa S E)), (19, .int (wsm (ngt (cf t) (cf t * rf t) (df t) B0 X) (q + 1))), (18, .int (fsum (ngt (cf t) (cf t * rf t) (df t) B0 X) (q + 1))), (17, .int (nI (df t))), (10, .int (cwk (cf t) (cf t * rf t) (df t) B0 X 1)), (8, .ref (sa S G)), (7, .int (nI (cf t * rf t))), (6, .int (nI t)), (4, .int (nI time)), (3, .int PP), (2, .ref (sa S 1000)), (1, .ref (sa S 0)), (0, .ref sc.1)]) hx hb dL_law_811 hl (k := 1) rfl (nI_1 _) (by decide) rfl (fun ls hl => ?_)
              refine lv_goto (tgt := 740) hx hb dL_law_814 (by decide) ?_
              refine W.widen (show _ ≤ ce + 8 * (z + 1) by omega) (show _ ≤ sl + 48 * (z + 1) by omega) ?_
              exact ih_740 (z + 1) 1 J9 (by omega) (fun h9 => absurd h9 (by decide)) hZ9 hE9 (by omega) _ _ hM ls (lv_sub hl [0, 1, 2, 3, 4, 5, 6, 7, 8, 9, 10, 11, 12, 13, 14, 15] rfl)
            · skip
              have p1 : z + 1 = q → ob (cf t) (cf t * rf t) B0 z 0 ≠ 1 := fun _ => c_14
              refine lv_iload hx hb dL_law_775 (lv_at hl 0 rfl) ?_
              refine lv_aload_n hx hb dL_law_777 rfl (lv_at hl 14 rfl) ?_
              refine lv_iload hx hb dL_law_778 (lv_at hl 10 rfl) ?_
              refine lv_iconst (v := 0) hx hb dL_law_780 (by decide) ?_
              refine fb_callVi (r := 0) hx hb hml hown hts hM (hZ9.1.1.1.1.1) (ce3 (hZ9.1.1.1.1.2)) rfl (As := [.int (nI t), .int 0]) (rest := [.int (nI z)]) (z_tk D y l hZ9 ht (by omega) 0 (by decide)) (cwV 2 hts gL_law_X3_tick rfl rfl rfl (by decide +kernel) ⟨Nat.le_of_ble_eq_true rfl, Nat.le_of_ble_eq_true rfl⟩) rfl hl.1 rfl (Nat.le_of_ble_eq_true rfl) dL_law_781 ⟨(by show _ ≤ 626107; omega), (by show _ ≤ 7223304; omega)⟩ (fun v_15 u_ H locs hp hM => ?_)
              obtain ⟨hv_, J21, hu_, hlo21, hZ21⟩ := hp
              subst hv_
              subst hu_
              refine W.eq (g2 := F0 mv _ ls (.int (nI (cf t)) :: .int (nI z) :: [])) (by rw [show (ctk (cf t) (rf t) (df t) (ngt (cf t) (cf t * rf t) (df t) B0 X) B0 0 0 : Int32) = nI (cf t) from ctk_0 _ _ _ _ _ _]) ?_
              refine lv_iadd hx hb dL_law_784 ?_
              refine W.eq (g2 := F0 mv _ ls (.int (nI (z + cf t)) :: [])) (by rw [show ((nI z) + (nI (cf t)) : Int32) = nI (z + cf t) from nI_add _ _]) ?_
              refine lv_iload hx hb dL_law_785 (lv_at hl 2 rfl) ?_
              refine lv_icmp_ne (tgt := 808) hx hb dL_law_787 (by decide) (fun c_16 => ?_) (fun c_16 => ?_)
              · skip
                have p2 : z + cf t = q → ob (cf t) (cf t * rf t) B0 z 1 ≠ 1 := fun h9 => absurd (congrArg nI h9) c_16
                refine lv_iconst (v := 0) hx hb dL_law_808 (by decide) ?_
                refine lv_istore (lv' := [(22, .int 0), (23, .int (nI z)), (21, .int (nI q)), (20, .ref (sa S E)), (19, .int (wsm (ngt (cf t) (cf t * rf t) (df t) B0 X) (q + 1))), (18, .int (fsum (ngt (cf t) (cf t * rf t) (df t) B0 X) (q + 1))), (17, .int (nI (df t))), (10, .int (cwk (cf t) (cf t * rf t) (df t) B0 X 1)), (8, .ref (sa S G)), (7, .int (nI (cf t * rf t))), (6, .int (nI t)), (4, .int (nI time)), (3, .int PP), (2, .ref (sa S 1000)), (1, .ref (sa S 0)), (0, .ref sc.1)]) hx hb dL_law_809 hl (by decide) rfl (fun ls hl => ?_)
                refine lv_iinc (v := nI (z + 1)) (lv' := [(23, .int (nI (z + 1))), (22, .int 0), (21, .int (nI q)), (20, .ref (sa S E)), (19, .int (wsm (ngt (cf t) (cf t * rf t) (df t) B0 X) (q + 1))), (18, .int (fsum (ngt (cf t) (cf t * rf t) (df t) B0 X) (q + 1))), (17, .int (nI (df t))), (10, .int (cwk (cf t) (cf t * rf t) (df t) B0 X 1)), (8, .ref (sa S G)), (7, .int (nI (cf t * rf t))), (6, .int (nI t)), (4, .int (nI time)), (3, .int PP), (2, .ref (sa S 1000)), (1, .ref (sa S 0)), (0, .ref sc.1)]) hx hb dL_law_811 hl (k := 1) rfl (nI_1 _) (by decide) rfl (fun ls hl => ?_)
                refine lv_goto (tgt := 740) hx hb dL_law_814 (by decide) ?_
                refine W.widen (show _ ≤ ce + 8 * (z + 1) by omega) (show _ ≤ sl + 48 * (z + 1) by omega) ?_
                exact ih_740 (z + 1) 0 J21 (by omega) (fun _ => hT9.s p1 p2) hZ21 ((hlo21 E (by omega)).trans hE9) (by omega) _ _ hM ls (lv_sub hl [0, 1, 2, 3, 4, 5, 6, 7, 8, 9, 10, 11, 12, 13, 14, 15] rfl)
              · skip
                refine lv_aload_n hx hb dL_law_790 rfl (lv_at hl 14 rfl) ?_
                refine lv_iload hx hb dL_law_791 (lv_at hl 10 rfl) ?_
                refine lv_iload hx hb dL_law_793 (lv_at hl 0 rfl) ?_
                refine lv_bipush (v := 9) hx hb dL_law_795 (by decide) ?_
                refine fb_callVi (r := 0) hx hb hml hown hts hM (hZ21.1.1.1.1.1) (ce3 (hZ21.1.1.1.1.2)) rfl (As := [.int (nI t), .int (nI z), .int 9]) (rest := []) (z_sq D y l hZ21 ht z hzn 9 (by decide)) (cwV 3 hts gL_law_X3_square rfl rfl rfl (by decide +kernel) ⟨Nat.le_of_ble_eq_true rfl, Nat.le_of_ble_eq_true rfl⟩) rfl hl.1 rfl (Nat.le_of_ble_eq_true rfl) dL_law_797 ⟨(by show _ ≤ 626107; omega), (by show _ ≤ 7223304; omega)⟩ (fun v_17 u_ H locs hp hM => ?_)
                obtain ⟨hv_, hu_⟩ := hp
                have hv_ := Eq.symm hv_
                have hu_ := Eq.symm hu_
                subst hv_
                subst hu_
                refine W.eq (g2 := F0 mv _ ls (.int (ob (cf t) (cf t * rf t) B0 z 1) :: [])) (rfl) ?_
                refine lv_iconst (v := 1) hx hb dL_law_800 (by decide) ?_
                refine lv_icmp_ne (tgt := 808) hx hb dL_law_801 (by decide) (fun c_18 => ?_) (fun c_18 => ?_)
                · skip
                  have p2 : z + cf t = q → ob (cf t) (cf t * rf t) B0 z 1 ≠ 1 := fun _ => c_18
                  refine lv_iconst (v := 0) hx hb dL_law_808 (by decide) ?_
                  refine lv_istore (lv' := [(22, .int 0), (23, .int (nI z)), (21, .int (nI q)), (20, .ref (sa S E)), (19, .int (wsm (ngt (cf t) (cf t * rf t) (df t) B0 X) (q + 1))), (18, .int (fsum (ngt (cf t) (cf t * rf t) (df t) B0 X) (q + 1))), (17, .int (nI (df t))), (10, .int (cwk (cf t) (cf t * rf t) (df t) B0 X 1)), (8, .ref (sa S G)), (7, .int (nI (cf t * rf t))), (6, .int (nI t)), (4, .int (nI time)), (3, .int PP), (2, .ref (sa S 1000)), (1, .ref (sa S 0)), (0, .ref sc.1)]) hx hb dL_law_809 hl (by decide) rfl (fun ls hl => ?_)
                  refine lv_iinc (v := nI (z + 1)) (lv' := [(23, .int (nI (z + 1))), (22, .int 0), (21, .int (nI q)), (20, .ref (sa S E)), (19, .int (wsm (ngt (cf t) (cf t * rf t) (df t) B0 X) (q + 1))), (18, .int (fsum (ngt (cf t) (cf t * rf t) (df t) B0 X) (q + 1))), (17, .int (nI (df t))), (10, .int (cwk (cf t) (cf t * rf t) (df t) B0 X 1)), (8, .ref (sa S G)), (7, .int (nI (cf t * rf t))), (6, .int (nI t)), (4, .int (nI time)), (3, .int PP), (2, .ref (sa S 1000)), (1, .ref (sa S 0)), (0, .ref sc.1)]) hx hb dL_law_811 hl (k := 1) rfl (nI_1 _) (by decide) rfl (fun ls hl => ?_)
                  refine lv_goto (tgt := 740) hx hb dL_law_814 (by decide) ?_
                  refine W.widen (show _ ≤ ce + 8 * (z + 1) by omega) (show _ ≤ sl + 48 * (z + 1) by omega) ?_
                  exact ih_740 (z + 1) 0 J21 (by omega) (fun _ => hT9.s p1 p2) hZ21 ((hlo21 E (by omega)).trans hE9) (by omega) _ _ hM ls (lv_sub hl [0, 1, 2, 3, 4, 5, 6, 7, 8, 9, 10, 11, 12, 13, 14, 15] rfl)
                · skip
                  refine lv_iconst (v := 1) hx hb dL_law_804 (by decide) ?_
                  refine lv_goto (tgt := 809) hx hb dL_law_805 (by decide) ?_
                  refine lv_istore (lv' := [(22, .int 1), (23, .int (nI z)), (21, .int (nI q)), (20, .ref (sa S E)), (19, .int (wsm (ngt (cf t) (cf t * rf t) (df t) B0 X) (q + 1))), (18, .int (fsum (ngt (cf t) (cf t * rf t) (df t) B0 X) (q + 1))), (17, .int (nI (df t))), (10, .int (cwk (cf t) (cf t * rf t) (df t) B0 X 1)), (8, .ref (sa S G)), (7, .int (nI (cf t * rf t))), (6, .int (nI t)), (4, .int (nI time)), (3, .int PP), (2, .ref (sa S 1000)), (1, .ref (sa S 0)), (0, .ref sc.1)]) hx hb dL_law_809 hl (by decide) rfl (fun ls hl => ?_)
                  refine lv_iinc (v := nI (z + 1)) (lv' := [(23, .int (nI (z + 1))), (22, .int 1), (21, .int (nI q)), (20, .ref (sa S E)), (19, .int (wsm (ngt (cf t) (cf t * rf t) (df t) B0 X) (q + 1))), (18, .int (fsum (ngt (cf t) (cf t * rf t) (df t) B0 X) (q + 1))), (17, .int (nI (df t))), (10, .int (cwk (cf t) (cf t * rf t) (df t) B0 X 1)), (8, .ref (sa S G)), (7, .int (nI (cf t * rf t))), (6, .int (nI t)), (4, .int (nI time)), (3, .int PP), (2, .ref (sa S 1000)), (1, .ref (sa S 0)), (0, .ref sc.1)]) hx hb dL_law_811 hl (k := 1) rfl (nI_1 _) (by decide) rfl (fun ls hl => ?_)
                  refine lv_goto (tgt := 740) hx hb dL_law_814 (by decide) ?_
                  refine W.widen (show _ ≤ ce + 8 * (z + 1) by omega) (show _ ≤ sl + 48 * (z + 1) by omega) ?_
                  exact ih_740 (z + 1) 1 J21 (by omega) (fun h9 => absurd h9 (by decide)) hZ21 ((hlo21 E (by omega)).trans hE9) (by omega) _ _ hM ls (lv_sub hl [0, 1, 2, 3, 4, 5, 6, 7, 8, 9, 10, 11, 12, 13, 14, 15] rfl)
  refine W.widen (show _ ≤ ce + 8 * 0 by omega) (show _ ≤ sl + 48 * 0 by omega) ?_
  exact LP_740 _ 0 b J (by omega) (fun h9 => ⟨(hb9 h9).1, (hb9 h9).2, fun z hz => absurd hz (Nat.not_lt_zero _)⟩) hZ rfl (Nat.lt_succ_self _) _ _ hM ls (lv_sub hl [0, 1, 2, 3, 4, 5, 6, 7, 8, 9, 10, 11, 12, 13, 14, 15] rfl)
