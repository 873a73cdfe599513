abbrev rm_L_below : Room := { frames := 0, cells := 0, slots := 0, locals := 0 }
set_option maxHeartbeats 4000000 in
set_option maxRecDepth 100000 in
theorem c_L_below (D : va_G) (y : Nat → ClassId) (l : Launch) (S : fb_Sh) (V I : fb_V) (v : Int32) (n : Nat) (hn : 0 < n) (hn2 : n < 2 ^ 31) : CI D y l yL_below wsL_below rm_L_below [.int v, .int (nI n)] (S, V, (sT V), I) (fun z u => z = nI (blN v n) ∧ u = (S, V, sT V, I)) 0 0 := by
  refine CI.of (cc := cL_below) (maxL := 2) (ret := (some .int)) (by decide) rfl (Nat.le_of_ble_eq_true rfl) ?_
  intro pv ev s mv below meth cv A hx hb hml hr hown hts hlocks hname hM ls hl
  have hown : s.vm.findClass RL = some mv.cls := hown
  have hl : lv_has ls 2 [(0, .int v), (1, .int (nI n))] := hl
  obtain ⟨Q, hQ⟩ : ∃ Q, Q = MQ below (va_Qi (fun z u => z = nI (blN v n) ∧ u = (S, V, sT V, I)) (fun u t => fb_P D y A u t) A) (([.int v, .int (nI n)] : List Value).toArray) s 0 0 A := ⟨_, rfl⟩
  rw [← hQ]
  refine lv_iload_n hx hb dL_below_0 rfl (lv_at hl 0 rfl) ?_
  refine lv_ldc (v := 2147483647) hx hb hown (hts (.constant RL 7 2147483647) (by decide +kernel)) dL_below_1 ?_
  refine lv_iand hx hb dL_below_3 ?_
  refine W.eq (g2 := F0 mv _ ls (.int (nI (v.toBitVec.toNat % 2 ^ 31)) :: [])) (by rw [show (v &&& 2147483647 : Int32) = nI (v.toBitVec.toNat % 2 ^ 31) from and31 v]) ?_
  refine lv_iload_n hx hb dL_below_4 rfl (lv_at hl 1 rfl) ?_
  refine lv_irem hx hb dL_below_5 (nI_ne0 hn hn2) ?_
  refine W.eq (g2 := F0 mv _ ls (.int (nI (blN v n)) :: [])) (by rw [show ((nI (v.toBitVec.toNat % 2 ^ 31)) - (nI (v.toBitVec.toNat % 2 ^ 31)) / (nI n) * (nI n) : Int32) = nI (blN v n) from pk_rem (Nat.mod_lt _ (by decide)) hn hn2]) ?_
  rw [hQ]
  exact fb_iret hx hb hr hlocks hM (⟨rfl, rfl⟩) dL_below_6

abbrev rm_L_cell : Room := { frames := 0, cells := 0, slots := 0, locals := 0 }
set_option maxHeartbeats 4000000 in
set_option maxRecDepth 100000 in
theorem c_L_cell (sc : Nat × Nat × (Nat → Int32)) (a0 : Nat × Nat) (D : va_G) (y : Nat → ClassId) (l : Launch) (S : fb_Sh) (V I : fb_V) (k : Nat) (hk : k < 1000) : CSI sc a0 D y l yL_cell wsL_cell rm_L_cell [.ref sc.1, .int (nI k)] (S, V, (sT V), I) (fun _ u => u = (S, V, sT V, I)) 0 0 := by
  refine CSI.of (cc := cL_cell) (maxL := 2) (ret := (some .int)) (by decide) rfl (Nat.le_of_ble_eq_true rfl) ?_
  intro pv ev s mv below meth cv A hx hb hml hr hown hts hlocks hname hM hE hSc ls hl
  have hown : s.vm.findClass RL = some mv.cls := hown
  have hl : lv_has ls 2 [(0, .ref sc.1), (1, .int (nI k))] := hl
  obtain ⟨Q, hQ⟩ : ∃ Q, Q = MQ below (va_Qi (fun _ u => u = (S, V, sT V, I)) (fun u t => fb_P D y A u t) A) (([.ref sc.1, .int (nI k)] : List Value).toArray) s 0 0 A := ⟨_, rfl⟩
  rw [← hQ]
  refine lv_iload_n hx hb dL_cell_0 rfl (lv_at hl 1 rfl) ?_
  refine lv_aload_n hx hb dL_cell_1 rfl (lv_at hl 0 rfl) ?_
  refine va_slen hx hb hSc.1 hSc.2.1 hSc.2.2.1 hM.2.2.1 dL_cell_2 ?_
  refine lv_icmp_ge (tgt := 12) hx hb dL_cell_3 (by decide) (fun c_1 => ?_) (fun c_1 => ?_)
  · skip
    refine lv_ldc (v := 790386105) hx hb hown (hts (.constant RL 8 790386105) (by decide +kernel)) dL_cell_12 ?_
    refine lv_iload_n hx hb dL_cell_14 rfl (lv_at hl 1 rfl) ?_
    refine lv_iconst (v := 3) hx hb dL_cell_15 (by decide) ?_
    refine lv_iadd hx hb dL_cell_16 ?_
    refine lv_imul hx hb dL_cell_17 ?_
    rw [hQ]
    exact fb_iret hx hb hr hlocks hM (rfl) dL_cell_18
  · skip
    have hkl : k < sc.2.1 := Nat.lt_of_not_le (fun z => c_1 (nI_le z (by omega)))
    refine lv_aload_n hx hb dL_cell_6 rfl (lv_at hl 0 rfl) ?_
    refine lv_iload_n hx hb dL_cell_7 rfl (lv_at hl 1 rfl) ?_
    refine va_sld hx hb hSc.1 hSc.2.1 hSc.2.2.1 hM.2.2.1 (vp_in_nI hkl (by have := hSc.2.2.2.1; omega)) dL_cell_8 ?_
    refine lv_goto (tgt := 18) hx hb dL_cell_9 (by decide) ?_
    rw [hQ]
    exact fb_iret hx hb hr hlocks hM (rfl) dL_cell_18

abbrev rm_L_coldest : Room := { frames := 0, cells := 0, slots := 0, locals := 0 }
set_option maxHeartbeats 4000000 in
set_option maxRecDepth 100000 in
theorem c_L_coldest (D : va_G) (y : Nat → ClassId) (l : Launch) (S : fb_Sh) (V I : fb_V) (f nn : Nat) (h10 : RA S f 10 nn) (hr8 : ∀ q, q < nn → PA S f q (f + 1 + q) ∧ RA S (f + 1 + q) 6 8) (h1 : 1 ≤ nn) (h36 : nn ≤ 36) (X : fb_V) (hX : ∀ q, q < nn → I (f + 1 + q) 7 = wm (X q)) : CI D y l yL_coldest wsL_coldest rm_L_coldest [.ref (sa S f)] (S, V, (sT V), I) (fun z u => z = nI (cld X nn) ∧ u = (S, V, sT V, I)) 0 0 := by
  refine CI.of (cc := cL_coldest) (maxL := 3) (ret := (some .int)) (by decide) rfl (Nat.le_of_ble_eq_true rfl) ?_
  intro pv ev s mv below meth cv A hx hb hml hr hown hts hlocks hname hM ls hl
  have hown : s.vm.findClass RL = some mv.cls := hown
  have hl : lv_has ls 3 [(0, .ref (sa S f))] := hl
  obtain ⟨Q, hQ⟩ : ∃ Q, Q = MQ below (va_Qi (fun z u => z = nI (cld X nn) ∧ u = (S, V, sT V, I)) (fun u t => fb_P D y A u t) A) (([.ref (sa S f)] : List Value).toArray) s 0 0 A := ⟨_, rfl⟩
  rw [← hQ]
  refine lv_iconst (v := 0) hx hb dL_coldest_0 (by decide) ?_
  refine lv_istore_n (lv' := [(1, .int 0), (0, .ref (sa S f))]) hx hb dL_coldest_1 rfl hl (by decide) rfl (fun ls hl => ?_)
  refine lv_iconst (v := 0) hx hb dL_coldest_2 (by decide) ?_
  refine lv_istore_n (lv' := [(2, .int 0), (1, .int 0), (0, .ref (sa S f))]) hx hb dL_coldest_3 rfl hl (by decide) rfl (fun ls hl => ?_)
  have LP_4 : ∀ (n : Nat) (i : Nat) (hi : i ≤ nn), nn - i < n → ∀ (H : Heap) (locs : List Loc), fb_M D y A s (S, V, (sT V), I) H locs → ∀ ls, lv_has ls 3 [(2, .int (nI i)), (1, .int (nI (cld X i))), (0, .ref (sa S f))] → W pv l ev rm_L_coldest s mv ([.ref (sa S f)] : List Value).toArray below meth cv H locs 0 0 Q (F0 mv 4 ls []) := by
    intro n_4
    induction n_4 with
    | zero => intro i hi hmu; exact absurd hmu (Nat.not_lt_zero _)
    | succ n_4 ih_4 =>
      intro i hi hmu H locs hM ls hl
      refine lv_iload_n hx hb dL_coldest_4 rfl (lv_at hl 0 rfl) ?_
      refine lv_aload_n hx hb dL_coldest_5 rfl (lv_at hl 2 rfl) ?_
      refine fb_alen (r := f) hx hb hM (h10.1) (ce10 (h10.2.1)) 4 rfl (v := nI nn) (congrArg Int32.ofNat (h10.2.2)) dL_coldest_6 ?_
      refine lv_icmp_ge (tgt := 33) hx hb dL_coldest_7 (by decide) (fun c_1 => ?_) (fun c_1 => ?_)
      · skip
        have e_i : i = nn := by have := (nI_leI (a := nn) (b := i) (by omega) (by omega)).mp c_1; omega
        have e_i := Eq.symm e_i
        subst e_i
        refine lv_iload_n hx hb dL_coldest_33 rfl (lv_at hl 1 rfl) ?_
        rw [hQ]
        exact fb_iret hx hb hr hlocks hM (⟨rfl, rfl⟩) dL_coldest_34
      · skip
        have hin_ : i < nn := Nat.lt_of_not_le (fun z => c_1 (nI_le z (by omega)))
        have hcl := cld_lt X i
        refine lv_aload_n hx hb dL_coldest_10 rfl (lv_at hl 2 rfl) ?_
        refine lv_iload_n hx hb dL_coldest_11 rfl (lv_at hl 0 rfl) ?_
        refine fb_aaldA (r := f) hx hb hM (h10.1) (ce10 (h10.2.1)) 4 rfl (k := i) (nI_clamp (by omega)) (b := sa S (f + 1 + i)) ((hr8 i (by omega)).1) (by rw [h10.2.2]; exact vp_in_nI (by omega) (by omega)) dL_coldest_12 ?_
        refine lv_bipush (v := 7) hx hb dL_coldest_13 (by decide) ?_
        refine fb_iald (r := (f + 1 + i)) hx hb hM ((hr8 i (by omega)).2.1) (ce6 ((hr8 i (by omega)).2.2.1)) (k := 7) (by decide) (by rw [(hr8 i (by omega)).2.2.2]; exact pk_in 7 _ (by omega) (by decide) (by omega)) dL_coldest_15 ?_
        refine W.eq (g2 := F0 mv _ ls (.int (wm (X i)) :: [])) (by rw [show (I (f + 1 + i) 7 : Int32) = wm (X i) from hX i hin_]) ?_
        refine lv_aload_n hx hb dL_coldest_16 rfl (lv_at hl 2 rfl) ?_
        refine lv_iload_n hx hb dL_coldest_17 rfl (lv_at hl 1 rfl) ?_
        refine fb_aaldA (r := f) hx hb hM (h10.1) (ce10 (h10.2.1)) 4 rfl (k := cld X i) (nI_clamp (by omega)) (b := sa S (f + 1 + (cld X i))) ((hr8 (cld X i) (by omega)).1) (by rw [h10.2.2]; exact vp_in_nI (by omega) (by omega)) dL_coldest_18 ?_
        refine lv_bipush (v := 7) hx hb dL_coldest_19 (by decide) ?_
        refine fb_iald (r := (f + 1 + (cld X i))) hx hb hM ((hr8 (cld X i) (by omega)).2.1) (ce6 ((hr8 (cld X i) (by omega)).2.2.1)) (k := 7) (by decide) (by rw [(hr8 (cld X i) (by omega)).2.2.2]; exact pk_in 7 _ (by omega) (by decide) (by omega)) dL_coldest_21 ?_
        refine W.eq (g2 := F0 mv _ ls (.int (wm (X (cld X i))) :: .int (wm (X i)) :: [])) (by rw [show (I (f + 1 + (cld X i)) 7 : Int32) = wm (X (cld X i)) from hX (cld X i) (by omega)]) ?_
        refine lv_icmp_ge (tgt := 27) hx hb dL_coldest_22 (by decide) (fun c_2 => ?_) (fun c_2 => ?_)
        · skip
          have c_br : ¬ wm (X i) < wm (X (cld X i)) := Int32.not_lt.mpr c_2
          refine lv_iinc (v := nI (i + 1)) (lv' := [(2, .int (nI (i + 1))), (1, .int (nI (cld X i))), (0, .ref (sa S f))]) hx hb dL_coldest_27 hl (k := 0) rfl (nI_1 _) (by decide) rfl (fun ls hl => ?_)
          refine lv_goto (tgt := 4) hx hb dL_coldest_30 (by decide) ?_
          have eF : nI (cld X i) = nI (cld X (i + 1)) := by show _ = nI (if wm (X (cld X i)) ≤ wm (X i) then cld X i else i); first | rw [if_pos (Int32.not_lt.mp (fun z => c_br z))] | rw [if_neg (Int32.not_le.mpr c_br)]
          rw [eF] at hl
          exact ih_4 (i + 1) (by omega) (by omega) _ _ hM ls (lv_sub hl [0, 1, 2] rfl)
        · skip
          have c_br : wm (X i) < wm (X (cld X i)) := Int32.not_le.mp c_2
          refine lv_iload_n hx hb dL_coldest_25 rfl (lv_at hl 0 rfl) ?_
          refine lv_istore_n (lv' := [(1, .int (nI i)), (2, .int (nI i)), (0, .ref (sa S f))]) hx hb dL_coldest_26 rfl hl (by decide) rfl (fun ls hl => ?_)
          refine lv_iinc (v := nI (i + 1)) (lv' := [(2, .int (nI (i + 1))), (1, .int (nI i)), (0, .ref (sa S f))]) hx hb dL_coldest_27 hl (k := 1) rfl (nI_1 _) (by decide) rfl (fun ls hl => ?_)
          refine lv_goto (tgt := 4) hx hb dL_coldest_30 (by decide) ?_
          have eF : nI i = nI (cld X (i + 1)) := by show _ = nI (if wm (X (cld X i)) ≤ wm (X i) then cld X i else i); first | rw [if_pos (Int32.not_lt.mp (fun z => c_br z))] | rw [if_neg (Int32.not_le.mpr c_br)]
          rw [eF] at hl
          exact ih_4 (i + 1) (by omega) (by omega) _ _ hM ls (lv_sub hl [0, 1, 2] rfl)
  exact LP_4 _ 0 (by omega) (Nat.lt_succ_self _) _ _ hM ls (lv_sub hl [0, 1, 2] rfl)
