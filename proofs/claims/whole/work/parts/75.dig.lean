abbrev rm_X3_digestOfTick : Room := { frames := 6, cells := 0, slots := 0, locals := 130 }
set_option maxHeartbeats 4000000 in
set_option maxRecDepth 100000 in
theorem c_X3_digestOfTick (D : va_G) (y : Nat → ClassId) (l : Launch) (S : fb_Sh) (V I : fb_V) (a1 ns nt es na : Nat) (hC : CpAt S a1 ns nt es na) (cf rf df : Nat → Nat) (hF : CF I ns nt cf rf df) (t : Nat) (ht : t < nt) (s0 : Int64) : CL D y l yX3_digestOfTick wsX3_digestOfTick rm_X3_digestOfTick [.long (s0), .ref (sa S (30 + 4 * t))] (S, V, (sT V), I) (fun z u => ∃ p g, cpt (cf t) (cf t * rf t) (I (30 + 4 * t + 2)) p ∧ z = dgr (dg s0 (cGt V I t cf rf df p) 9) (cFq V I cf rf t) 10 (cf t * rf t) ∧ u = (S, V, sT V, va_up I (30 + 4 * t + 3) g)) 0 0 := by
  refine CL.of (cc := cX3_digestOfTick) (maxL := 7) (ret := (some .long)) (by decide) rfl (Nat.le_of_ble_eq_true rfl) ?_
  intro pv ev s mv below meth cv A hx hb hml hr hown hts hlocks hname hM ls hl
  have hown : s.vm.findClass RX3 = some mv.cls := hown
  have hl : lv_has ls 7 [(0, .long (s0)), (2, .ref (sa S (30 + 4 * t)))] := hl
  have hin2 : ∀ x ∈ wsX20, x ∈ wsX3_digestOfTick := by decide +kernel
  obtain ⟨Q, hQ⟩ : ∃ Q, Q = MQ below (va_Ql (fun z u => ∃ p g, cpt (cf t) (cf t * rf t) (I (30 + 4 * t + 2)) p ∧ z = dgr (dg s0 (cGt V I t cf rf df p) 9) (cFq V I cf rf t) 10 (cf t * rf t) ∧ u = (S, V, sT V, va_up I (30 + 4 * t + 3) g)) (fun u t => fb_P D y A u t) A) (([.long (s0), .ref (sa S (30 + 4 * t))] : List Value).toArray) s 0 0 A := ⟨_, rfl⟩
  rw [← hQ]
  have hns : ns ≤ 12 := hF.2.2.1
  have hnt : nt ≤ 6 := hF.2.2.2.1
  have hfT := hF.2.2.2.2 t ht
  have hcr := hfT.le
  refine lv_lload_n hx hb dX3_digestOfTick_0 rfl (lv_at hl 0 rfl) ?_
  refine lv_lstore_n (lv' := [(3, .long (s0)), (0, .long (s0)), (2, .ref (sa S (30 + 4 * t)))]) hx hb dX3_digestOfTick_1 rfl hl (by decide) rfl (fun ls hl => ?_)
  refine lv_iconst (v := 0) hx hb dX3_digestOfTick_2 (by decide) ?_
  refine lv_istore (lv' := [(5, .int 0), (3, .long (s0)), (0, .long (s0)), (2, .ref (sa S (30 + 4 * t)))]) hx hb dX3_digestOfTick_3 hl (by decide) rfl (fun ls hl => ?_)
  have LP_5 : ∀ (n : Nat) (k : Nat) (p : Int32) (g : Nat → Int32) (hk : k ≤ 9) (hp9 : k = 9 → cpt (cf t) (cf t * rf t) (I (30 + 4 * t + 2)) p), 9 - k < n → ∀ (H : Heap) (locs : List Loc), fb_M D y A s (S, V, (sT V), (va_up I (30 + 4 * t + 3) g)) H locs → ∀ ls, lv_has ls 7 [(5, .int (nI k)), (3, .long (dg s0 (cGt V I t cf rf df p) k)), (0, .long (s0)), (2, .ref (sa S (30 + 4 * t)))] → W pv l ev rm_X3_digestOfTick s mv ([.long (s0), .ref (sa S (30 + 4 * t))] : List Value).toArray below meth cv H locs 0 0 Q (F0 mv 5 ls []) := by
    intro n_5
    induction n_5 with
    | zero => intro k p g hk hp9 hmu; exact absurd hmu (Nat.not_lt_zero _)
    | succ n_5 ih_5 =>
      intro k p g hk hp9 hmu H locs hM ls hl
      refine lv_iload hx hb dX3_digestOfTick_5 (lv_at hl 0 rfl) ?_
      refine lv_bipush (v := 9) hx hb dX3_digestOfTick_7 (by decide) ?_
      refine lv_icmp_ge (tgt := 32) hx hb dX3_digestOfTick_9 (by decide) (fun c_1 => ?_) (fun c_1 => ?_)
      · skip
        have e_k : k = 9 := by have := (nI_leI (a := 9) (b := k) (by omega) (by omega)).mp c_1; omega
        have e_k := Eq.symm e_k
        subst e_k
        refine lv_iconst (v := 0) hx hb dX3_digestOfTick_32 (by decide) ?_
        refine lv_istore (lv' := [(5, .int 0), (3, .long (dg s0 (cGt V I t cf rf df p) 9)), (0, .long (s0)), (2, .ref (sa S (30 + 4 * t)))]) hx hb dX3_digestOfTick_33 hl (by decide) rfl (fun ls hl => ?_)
        have LP_35 : ∀ (n : Nat) (q : Nat) (hq : q ≤ cf t * rf t), cf t * rf t - q < n → ∀ (H : Heap) (locs : List Loc), fb_M D y A s (S, V, (sT V), (va_up I (30 + 4 * t + 3) g)) H locs → ∀ ls, lv_has ls 7 [(5, .int (nI q)), (3, .long (dgr (dg s0 (cGt V I t cf rf df p) 9) (cFq V I cf rf t) 10 q)), (0, .long (s0)), (2, .ref (sa S (30 + 4 * t)))] → W pv l ev rm_X3_digestOfTick s mv ([.long (s0), .ref (sa S (30 + 4 * t))] : List Value).toArray below meth cv H locs 0 0 Q (F0 mv 35 ls []) := by
          intro n_35
          induction n_35 with
          | zero => intro q hq hmu; exact absurd hmu (Nat.not_lt_zero _)
          | succ n_35 ih_35 =>
            intro q hq hmu H locs hM ls hl
            refine lv_iload hx hb dX3_digestOfTick_35 (lv_at hl 0 rfl) ?_
            refine lv_aload_n hx hb dX3_digestOfTick_37 rfl (lv_at hl 3 rfl) ?_
            refine fb_getN (r := (30 + 4 * t)) hx hb hown hts hin2 hM (((hC.tk ht).1)) (ce2 (((hC.tk ht).2.1))) rfl 3 (by decide) (host := "FeatherBeds") (by decide +kernel) (fun _ h9 => h9) (v := .int (nI ((cf t * rf t)))) (congrArg (fun z => some (Value.int z)) ((hfT.up3 g).2.2.2.1)) dX3_digestOfTick_38 ?_
            refine lv_icmp_ge (tgt := 82) hx hb dX3_digestOfTick_41 (by decide) (fun c_2 => ?_) (fun c_2 => ?_)
            · skip
              have e_q : q = (cf t * rf t) := by have := (nI_leI (a := (cf t * rf t)) (b := q) (by omega) (by omega)).mp c_2; omega
              have e_q := Eq.symm e_q
              subst e_q
              refine lv_lload_n hx hb dX3_digestOfTick_82 rfl (lv_at hl 1 rfl) ?_
              rw [hQ]
              exact fb_lret hx hb hr hlocks hM (⟨p, g, hp9 rfl, rfl, rfl⟩) dX3_digestOfTick_83
            · skip
              have hqk : q < (cf t * rf t) := Nat.lt_of_not_le (fun h => c_2 (nI_le h (by omega)))
              refine lv_iconst (v := 0) hx hb dX3_digestOfTick_44 (by decide) ?_
              refine lv_istore (lv' := [(6, .int 0), (5, .int (nI q)), (3, .long (dgr (dg s0 (cGt V I t cf rf df p) 9) (cFq V I cf rf t) 10 q)), (0, .long (s0)), (2, .ref (sa S (30 + 4 * t)))]) hx hb dX3_digestOfTick_45 hl (by decide) rfl (fun ls hl => ?_)
              have LP_47 : ∀ (n : Nat) (k : Nat) (hk : k ≤ 10), 10 - k < n → ∀ (H : Heap) (locs : List Loc), fb_M D y A s (S, V, (sT V), (va_up I (30 + 4 * t + 3) g)) H locs → ∀ ls, lv_has ls 7 [(6, .int (nI k)), (5, .int (nI q)), (3, .long (dg (dgr (dg s0 (cGt V I t cf rf df p) 9) (cFq V I cf rf t) 10 q) (cFq V I cf rf t q) k)), (0, .long (s0)), (2, .ref (sa S (30 + 4 * t)))] → W pv l ev rm_X3_digestOfTick s mv ([.long (s0), .ref (sa S (30 + 4 * t))] : List Value).toArray below meth cv H locs 0 0 Q (F0 mv 47 ls []) := by
                intro n_47
                induction n_47 with
                | zero => intro k hk hmu; exact absurd hmu (Nat.not_lt_zero _)
                | succ n_47 ih_47 =>
                  intro k hk hmu H locs hM ls hl
                  refine lv_iload hx hb dX3_digestOfTick_47 (lv_at hl 0 rfl) ?_
                  refine lv_bipush (v := 10) hx hb dX3_digestOfTick_49 (by decide) ?_
                  refine lv_icmp_ge (tgt := 76) hx hb dX3_digestOfTick_51 (by decide) (fun c_3 => ?_) (fun c_3 => ?_)
                  · skip
                    have e_k : k = 10 := by have := (nI_leI (a := 10) (b := k) (by omega) (by omega)).mp c_3; omega
                    have e_k := Eq.symm e_k
                    subst e_k
                    refine lv_iinc (v := nI (q + 1)) (lv' := [(5, .int (nI (q + 1))), (6, .int (nI 10)), (3, .long (dg (dgr (dg s0 (cGt V I t cf rf df p) 9) (cFq V I cf rf t) 10 q) (cFq V I cf rf t q) 10)), (0, .long (s0)), (2, .ref (sa S (30 + 4 * t)))]) hx hb dX3_digestOfTick_76 hl (k := 1) rfl (nI_1 _) (by decide) rfl (fun ls hl => ?_)
                    refine lv_goto (tgt := 35) hx hb dX3_digestOfTick_79 (by decide) ?_
                    exact ih_35 (q + 1) (by omega) (by omega) _ _ hM ls (lv_sub hl [0, 2, 3, 4] rfl)
                  · skip
                    have hkk : k < 10 := Nat.lt_of_not_le (fun h => c_3 (nI_le h (by omega)))
                    refine lv_lload_n hx hb dX3_digestOfTick_54 rfl (lv_at hl 2 rfl) ?_
                    refine lv_ldc2 (v := 31) hx hb hown (hts (.constantLong RX3 202 31) (by decide +kernel)) dX3_digestOfTick_55 ?_
                    refine lv_lmul hx hb dX3_digestOfTick_58 ?_
                    refine lv_aload_n hx hb dX3_digestOfTick_59 rfl (lv_at hl 4 rfl) ?_
                    refine lv_iload hx hb dX3_digestOfTick_60 (lv_at hl 1 rfl) ?_
                    refine lv_iload hx hb dX3_digestOfTick_62 (lv_at hl 0 rfl) ?_
                    refine fb_callVi (r := (30 + 4 * t)) hx hb hml hown hts hM (((hC.tk ht).1)) (ce2 (((hC.tk ht).2.1))) rfl (As := [.int (nI q), .int (nI k)]) (rest := [.long ((dg (dgr (dg s0 (cGt V I t cf rf df p) 9) (cFq V I cf rf t) 10 q) (cFq V I cf rf t q) k) * 31)]) (c_X2_squareTells_v D y l S V (va_up I (30 + 4 * t + 3) g) (30 + 4 * t) (300 + 72 * t) (cf t) (rf t) (df t) (hC.tk ht) (hfT.up3 _) (tv V (300 + 72 * t)) (fun _ _ => rfl) q hqk k hkk) (cwV 2 hts gX3_digestOfTick_X2_squareTells rfl rfl rfl (by decide +kernel) ⟨Nat.le_of_ble_eq_true rfl, Nat.le_of_ble_eq_true rfl⟩) rfl hl.1 rfl (Nat.le_of_ble_eq_true rfl) dX3_digestOfTick_64 ⟨Nat.le_of_ble_eq_true rfl, Nat.le_of_ble_eq_true rfl⟩ (fun v_4 u_ H locs hp hM => ?_)
                    obtain ⟨hv_, hu_⟩ := hp
                    have hv_ := Eq.symm hv_
                    have hu_ := Eq.symm hu_
                    subst hv_
                    subst hu_
                    rw [show (csq (cf t) (cf t * rf t) ((va_up I (30 + 4 * t + 3) g) (30 + 4 * t + 2)) (tv V (300 + 72 * t)) q k : Int32) = cFq V I cf rf t q k from by rw [va_up_ne _ _ (show 30 + 4 * t + 2 ≠ 30 + 4 * t + 3 by omega)]; rfl]
                    refine lv_i2l hx hb dX3_digestOfTick_67 rfl ?_
                    refine lv_ladd hx hb dX3_digestOfTick_68 ?_
                    refine lv_lstore_n (lv' := [(3, .long (((dg (dgr (dg s0 (cGt V I t cf rf df p) 9) (cFq V I cf rf t) 10 q) (cFq V I cf rf t q) k) * 31) + ((cFq V I cf rf t q k).toInt64))), (6, .int (nI k)), (5, .int (nI q)), (0, .long (s0)), (2, .ref (sa S (30 + 4 * t)))]) hx hb dX3_digestOfTick_69 rfl hl (by decide) rfl (fun ls hl => ?_)
                    refine lv_iinc (v := nI (k + 1)) (lv' := [(6, .int (nI (k + 1))), (3, .long (((dg (dgr (dg s0 (cGt V I t cf rf df p) 9) (cFq V I cf rf t) 10 q) (cFq V I cf rf t q) k) * 31) + ((cFq V I cf rf t q k).toInt64))), (5, .int (nI q)), (0, .long (s0)), (2, .ref (sa S (30 + 4 * t)))]) hx hb dX3_digestOfTick_70 hl (k := 1) rfl (nI_1 _) (by decide) rfl (fun ls hl => ?_)
                    refine lv_goto (tgt := 47) hx hb dX3_digestOfTick_73 (by decide) ?_
                    exact ih_47 (k + 1) (by omega) (by omega) _ _ hM ls (lv_sub hl [0, 2, 1, 3, 4] rfl)
              exact LP_47 _ 0 (by omega) (Nat.lt_succ_self _) _ _ hM ls (lv_sub hl [0, 1, 2, 3, 4] rfl)
        exact LP_35 _ 0 (by omega) (Nat.lt_succ_self _) _ _ hM ls (lv_sub hl [0, 1, 2, 3] rfl)
      · skip
        have hkk : k < 9 := Nat.lt_of_not_le (fun h => c_1 (nI_le h (by omega)))
        refine lv_lload_n hx hb dX3_digestOfTick_12 rfl (lv_at hl 1 rfl) ?_
        refine lv_ldc2 (v := 31) hx hb hown (hts (.constantLong RX3 202 31) (by decide +kernel)) dX3_digestOfTick_13 ?_
        refine lv_lmul hx hb dX3_digestOfTick_16 ?_
        refine lv_aload_n hx hb dX3_digestOfTick_17 rfl (lv_at hl 3 rfl) ?_
        refine lv_iload hx hb dX3_digestOfTick_18 (lv_at hl 0 rfl) ?_
        refine fb_callVi (r := (30 + 4 * t)) hx hb hml hown hts hM (((hC.tk ht).1)) (ce2 (((hC.tk ht).2.1))) rfl (As := [.int (nI k)]) (rest := [.long ((dg s0 (cGt V I t cf rf df p) k) * 31)]) (c_X2_tells_v D y l S V (va_up I (30 + 4 * t + 3) g) (30 + 4 * t) (300 + 72 * t) (cf t) (rf t) (df t) (hC.tk ht) (hfT.up3 _) (tv V (300 + 72 * t)) (fun _ _ => rfl) k hkk) (cwV 1 hts gX3_digestOfTick_X2_tells rfl rfl rfl (by decide +kernel) ⟨Nat.le_of_ble_eq_true rfl, Nat.le_of_ble_eq_true rfl⟩) rfl hl.1 rfl (Nat.le_of_ble_eq_true rfl) dX3_digestOfTick_20 ⟨Nat.le_of_ble_eq_true rfl, Nat.le_of_ble_eq_true rfl⟩ (fun v_5 u_ H locs hp hM => ?_)
        obtain ⟨p2, gg, hp2, hv_, hu_⟩ := hp
        have hv_ := Eq.symm hv_
        have hu_ := Eq.symm hu_
        subst hv_
        subst hu_
        rw [va_up_ne _ _ (show 30 + 4 * t + 2 ≠ 30 + 4 * t + 3 by omega)]
        rw [va_up_ne _ _ (show 30 + 4 * t + 2 ≠ 30 + 4 * t + 3 by omega)] at hp2
        rw [up_up] at hM
        rw [show (ctk (cf t) (rf t) (df t) (tv V (300 + 72 * t)) (I (30 + 4 * t + 2)) p2 k : Int32) = cGt V I t cf rf df p2 k from rfl]
        refine lv_i2l hx hb dX3_digestOfTick_23 rfl ?_
        refine lv_ladd hx hb dX3_digestOfTick_24 ?_
        refine lv_lstore_n (lv' := [(3, .long (((dg s0 (cGt V I t cf rf df p) k) * 31) + ((cGt V I t cf rf df p2 k).toInt64))), (5, .int (nI k)), (0, .long (s0)), (2, .ref (sa S (30 + 4 * t)))]) hx hb dX3_digestOfTick_25 rfl hl (by decide) rfl (fun ls hl => ?_)
        refine lv_iinc (v := nI (k + 1)) (lv' := [(5, .int (nI (k + 1))), (3, .long (((dg s0 (cGt V I t cf rf df p) k) * 31) + ((cGt V I t cf rf df p2 k).toInt64))), (0, .long (s0)), (2, .ref (sa S (30 + 4 * t)))]) hx hb dX3_digestOfTick_26 hl (k := 1) rfl (nI_1 _) (by decide) rfl (fun ls hl => ?_)
        refine lv_goto (tgt := 5) hx hb dX3_digestOfTick_29 (by decide) ?_
        rw [show dg s0 (cGt V I t cf rf df p) k = dg s0 (cGt V I t cf rf df p2) k from ctk_dg _ _ _ _ _ _ _ _ (by omega)] at hl
        exact ih_5 (k + 1) p2 gg (by omega) (fun e => hp2 (by omega)) (by omega) _ _ hM ls (lv_sub hl [0, 1, 2, 3] rfl)
  rw [show I = va_up I (30 + 4 * t + 3) (I (30 + 4 * t + 3)) from (up_id _ _ _ rfl).symm] at hM
  exact LP_5 _ 0 0 (I (30 + 4 * t + 3)) (by omega) (fun e => absurd e (by decide)) (Nat.lt_succ_self _) _ _ hM ls (lv_sub hl [0, 1, 2, 3] rfl)

abbrev rm_X3_digest : Room := { frames := 7, cells := 0, slots := 0, locals := 156 }
set_option maxHeartbeats 4000000 in
set_option maxRecDepth 100000 in
theorem c_X3_digest (D : va_G) (y : Nat → ClassId) (l : Launch) (S : fb_Sh) (V I : fb_V) (a1 ns nt es na : Nat) (hC : CpAt S a1 ns nt es na) (cf rf df : Nat → Nat) (hF : CF I ns nt cf rf df) : CL D y l yX3_digest wsX3_digest rm_X3_digest [.ref (sa S 0)] (S, V, (sT V), I) (fun z u => ∃ (P : Nat → Int32) (J : fb_V), (∀ t, t < nt → cpt (cf t) (cf t * rf t) (I (30 + 4 * t + 2)) (P t)) ∧ z = cd4 V I ns nt cf rf df P nt ∧ Pts I J ∧ u = (S, V, sT V, J)) 0 0 := by
  refine CL.of (cc := cX3_digest) (maxL := 5) (ret := (some .long)) (by decide) rfl (Nat.le_of_ble_eq_true rfl) ?_
  intro pv ev s mv below meth cv A hx hb hml hr hown hts hlocks hname hM ls hl
  have hown : s.vm.findClass RX3 = some mv.cls := hown
  have hl : lv_has ls 5 [(0, .ref (sa S 0))] := hl
  have hin3 : ∀ x ∈ wsX30, x ∈ wsX3_digest := by decide +kernel
  obtain ⟨Q, hQ⟩ : ∃ Q, Q = MQ below (va_Ql (fun z u => ∃ (P : Nat → Int32) (J : fb_V), (∀ t, t < nt → cpt (cf t) (cf t * rf t) (I (30 + 4 * t + 2)) (P t)) ∧ z = cd4 V I ns nt cf rf df P nt ∧ Pts I J ∧ u = (S, V, sT V, J)) (fun u t => fb_P D y A u t) A) (([.ref (sa S 0)] : List Value).toArray) s 0 0 A := ⟨_, rfl⟩
  rw [← hQ]
  have hns : ns ≤ 12 := hF.2.2.1
  have hnt : nt ≤ 6 := hF.2.2.2.1
  refine lv_ldc2 (v := 617) hx hb hown (hts (.constantLong RX3 200 617) (by decide +kernel)) dX3_digest_0 ?_
  refine lv_lstore_n (lv' := [(1, .long (617)), (0, .ref (sa S 0))]) hx hb dX3_digest_3 rfl hl (by decide) rfl (fun ls hl => ?_)
  refine lv_iconst (v := 0) hx hb dX3_digest_4 (by decide) ?_
  refine lv_istore_n (lv' := [(3, .int 0), (1, .long (617)), (0, .ref (sa S 0))]) hx hb dX3_digest_5 rfl hl (by decide) rfl (fun ls hl => ?_)
  have LP_6 : ∀ (n : Nat) (k : Nat) (hk : k ≤ 9), 9 - k < n → ∀ (H : Heap) (locs : List Loc), fb_M D y A s (S, V, (sT V), I) H locs → ∀ ls, lv_has ls 5 [(3, .int (nI k)), (1, .long (dg 617 (cnc V I ns nt) k)), (0, .ref (sa S 0))] → W pv l ev rm_X3_digest s mv ([.ref (sa S 0)] : List Value).toArray below meth cv H locs 0 0 Q (F0 mv 6 ls []) := by
    intro n_6
    induction n_6 with
    | zero => intro k hk hmu; exact absurd hmu (Nat.not_lt_zero _)
    | succ n_6 ih_6 =>
      intro k hk hmu H locs hM ls hl
      refine lv_iload_n hx hb dX3_digest_6 rfl (lv_at hl 0 rfl) ?_
      refine lv_bipush (v := 9) hx hb dX3_digest_7 (by decide) ?_
      refine lv_icmp_ge (tgt := 31) hx hb dX3_digest_9 (by decide) (fun c_1 => ?_) (fun c_1 => ?_)
      · skip
        have e_k : k = 9 := by have := (nI_leI (a := 9) (b := k) (by omega) (by omega)).mp c_1; omega
        have e_k := Eq.symm e_k
        subst e_k
        refine lv_iconst (v := 0) hx hb dX3_digest_31 (by decide) ?_
        refine lv_istore_n (lv' := [(3, .int 0), (1, .long (dg 617 (cnc V I ns nt) 9)), (0, .ref (sa S 0))]) hx hb dX3_digest_32 rfl hl (by decide) rfl (fun ls hl => ?_)
        have LP_33 : ∀ (n : Nat) (i : Nat) (hi : i ≤ ns), ns - i < n → ∀ (H : Heap) (locs : List Loc), fb_M D y A s (S, V, (sT V), I) H locs → ∀ ls, lv_has ls 5 [(3, .int (nI i)), (1, .long (dgr (dg 617 (cnc V I ns nt) 9) (cS V I) 8 i)), (0, .ref (sa S 0))] → W pv l ev rm_X3_digest s mv ([.ref (sa S 0)] : List Value).toArray below meth cv H locs 0 0 Q (F0 mv 33 ls []) := by
          intro n_33
          induction n_33 with
          | zero => intro i hi hmu; exact absurd hmu (Nat.not_lt_zero _)
          | succ n_33 ih_33 =>
            intro i hi hmu H locs hM ls hl
            refine lv_iload_n hx hb dX3_digest_33 rfl (lv_at hl 0 rfl) ?_
            refine lv_aload_n hx hb dX3_digest_34 rfl (lv_at hl 2 rfl) ?_
            refine fb_get (r := 0) hx hb hown hts hin3 hM ((hC.1).1) (ce3 ((hC.1).2)) rfl 0 (by decide) (hts (.fieldLink RX3 12 "FeatherBeds" "sacks" "Ljava/util/ArrayList;") (by decide +kernel)) (fun _ h9 => h9) (v := .ref (sa S 1)) (congrArg (fun z => some (va_rf z)) ((hC.2.1).1)) dX3_digest_35 ?_
            refine fb_callVi (r := 1) hx hb hml hown hts hM ((hC.2.2.1).1) (ce5 ((hC.2.2.1).2)) rfl (As := []) (rest := [.int (nI i)]) (c_Jx4a65c_size_8abf5 D y l S V I 1 (hC.2.2.1).1 (hC.2.2.1).2) (cwV 0 hts gX3_digest_Jx4a65c_size_8abf5 rfl rfl rfl (by decide +kernel) ⟨Nat.le_of_ble_eq_true rfl, Nat.le_of_ble_eq_true rfl⟩) rfl hl.1 rfl (Nat.le_of_ble_eq_true rfl) dX3_digest_38 ⟨Nat.le_of_ble_eq_true rfl, Nat.le_of_ble_eq_true rfl⟩ (fun v_2 u_ H locs hp hM => ?_)
            obtain ⟨hv_, hu_⟩ := hp
            have hv_ := Eq.symm hv_
            have hu_ := Eq.symm hu_
            subst hv_
            subst hu_
            rw [show (I 1 2 : Int32) = nI ns from hF.1]
            refine lv_icmp_ge (tgt := 90) hx hb dX3_digest_41 (by decide) (fun c_3 => ?_) (fun c_3 => ?_)
            · skip
              have e_i : i = ns := by have := (nI_leI (a := ns) (b := i) (by omega) (by omega)).mp c_3; omega
              have e_i := Eq.symm e_i
              subst e_i
              refine lv_iconst (v := 0) hx hb dX3_digest_90 (by decide) ?_
              refine lv_istore_n (lv' := [(3, .int 0), (1, .long (dgr (dg 617 (cnc V I ns nt) 9) (cS V I) 8 ns)), (0, .ref (sa S 0))]) hx hb dX3_digest_91 rfl hl (by decide) rfl (fun ls hl => ?_)
              have LP_92 : ∀ (n : Nat) (q : Nat) (hq : q ≤ 5), 5 - q < n → ∀ (H : Heap) (locs : List Loc), fb_M D y A s (S, V, (sT V), I) H locs → ∀ ls, lv_has ls 5 [(3, .int (nI q)), (1, .long (dgr (dgr (dg 617 (cnc V I ns nt) 9) (cS V I) 8 ns) (cH V) 9 q)), (0, .ref (sa S 0))] → W pv l ev rm_X3_digest s mv ([.ref (sa S 0)] : List Value).toArray below meth cv H locs 0 0 Q (F0 mv 92 ls []) := by
                intro n_92
                induction n_92 with
                | zero => intro q hq hmu; exact absurd hmu (Nat.not_lt_zero _)
                | succ n_92 ih_92 =>
                  intro q hq hmu H locs hM ls hl
                  refine lv_iload_n hx hb dX3_digest_92 rfl (lv_at hl 0 rfl) ?_
                  refine lv_aload_n hx hb dX3_digest_93 rfl (lv_at hl 2 rfl) ?_
                  refine fb_get (r := 0) hx hb hown hts hin3 hM ((hC.1).1) (ce3 ((hC.1).2)) rfl 2 (by decide) (hts (.fieldLink RX3 21 "FeatherBeds" "chambers" "[LFeatherBeds$Heap;") (by decide +kernel)) (fun _ h9 => h9) (v := .ref (sa S 3)) (congrArg (fun z => some (va_rf z)) ((hC.2.1).2.2.1)) dX3_digest_94 ?_
                  refine fb_alen (r := 3) hx hb hM ((hC.2.2.2.2.1).1.1) (ce8 ((hC.2.2.2.2.1).1.2.1)) 2 rfl (v := nI 5) (congrArg Int32.ofNat ((hC.2.2.2.2.1).1.2.2)) dX3_digest_97 ?_
                  refine lv_icmp_ge (tgt := 142) hx hb dX3_digest_98 (by decide) (fun c_4 => ?_) (fun c_4 => ?_)
                  · skip
                    have e_q : q = 5 := by have := (nI_leI (a := 5) (b := q) (by omega) (by omega)).mp c_4; omega
                    have e_q := Eq.symm e_q
                    subst e_q
                    refine lv_iconst (v := 0) hx hb dX3_digest_142 (by decide) ?_
                    refine lv_istore_n (lv' := [(3, .int 0), (1, .long (dgr (dgr (dg 617 (cnc V I ns nt) 9) (cS V I) 8 ns) (cH V) 9 5)), (0, .ref (sa S 0))]) hx hb dX3_digest_143 rfl hl (by decide) rfl (fun ls hl => ?_)
                    have LP_144 : ∀ (n : Nat) (t : Nat) (P : Nat → Int32) (J : fb_V) (ht : t ≤ nt) (hPt : Pts I J) (hP : ∀ z, z < t → cpt (cf z) (cf z * rf z) (I (30 + 4 * z + 2)) (P z)), nt - t < n → ∀ (H : Heap) (locs : List Loc), fb_M D y A s (S, V, (sT V), J) H locs → ∀ ls, lv_has ls 5 [(3, .int (nI t)), (1, .long (cd4 V I ns nt cf rf df P t)), (0, .ref (sa S 0))] → W pv l ev rm_X3_digest s mv ([.ref (sa S 0)] : List Value).toArray below meth cv H locs 0 0 Q (F0 mv 144 ls []) := by
                      intro n_144
                      induction n_144 with
                      | zero => intro t P J ht hPt hP hmu; exact absurd hmu (Nat.not_lt_zero _)
                      | succ n_144 ih_144 =>
                        intro t P J ht hPt hP hmu H locs hM ls hl
                        refine lv_iload_n hx hb dX3_digest_144 rfl (lv_at hl 0 rfl) ?_
                        refine lv_aload_n hx hb dX3_digest_145 rfl (lv_at hl 2 rfl) ?_
                        refine fb_get (r := 0) hx hb hown hts hin3 hM ((hC.1).1) (ce3 ((hC.1).2)) rfl 1 (by decide) (hts (.fieldLink RX3 16 "FeatherBeds" "ticks" "Ljava/util/ArrayList;") (by decide +kernel)) (fun _ h9 => h9) (v := .ref (sa S 2)) (congrArg (fun z => some (va_rf z)) ((hC.2.1).2.1)) dX3_digest_146 ?_
                        refine fb_callVi (r := 2) hx hb hml hown hts hM ((hC.2.2.2.1).1) (ce5 ((hC.2.2.2.1).2)) rfl (As := []) (rest := [.int (nI t)]) (c_Jx4a65c_size_8abf5 D y l S V J 2 (hC.2.2.2.1).1 (hC.2.2.2.1).2) (cwV 0 hts gX3_digest_Jx4a65c_size_8abf5 rfl rfl rfl (by decide +kernel) ⟨Nat.le_of_ble_eq_true rfl, Nat.le_of_ble_eq_true rfl⟩) rfl hl.1 rfl (Nat.le_of_ble_eq_true rfl) dX3_digest_149 ⟨Nat.le_of_ble_eq_true rfl, Nat.le_of_ble_eq_true rfl⟩ (fun v_5 u_ H locs hp hM => ?_)
                        obtain ⟨hv_, hu_⟩ := hp
                        have hv_ := Eq.symm hv_
                        have hu_ := Eq.symm hu_
                        subst hv_
                        subst hu_
                        rw [show (J 2 2 : Int32) = nI nt from (hF.pts hPt).2.1]
                        refine lv_icmp_ge (tgt := 177) hx hb dX3_digest_152 (by decide) (fun c_6 => ?_) (fun c_6 => ?_)
                        · skip
                          have e_t : t = nt := by have := (nI_leI (a := nt) (b := t) (by omega) (by omega)).mp c_6; omega
                          have e_t := Eq.symm e_t
                          subst e_t
                          refine lv_lload_n hx hb dX3_digest_177 rfl (lv_at hl 1 rfl) ?_
                          rw [hQ]
                          exact fb_lret hx hb hr hlocks hM (⟨P, J, hP, rfl, hPt, rfl⟩) dX3_digest_178
                        · skip
                          have htk : t < nt := Nat.lt_of_not_le (fun h => c_6 (nI_le h (by omega)))
                          refine lv_lload_n hx hb dX3_digest_155 rfl (lv_at hl 1 rfl) ?_
                          refine lv_aload_n hx hb dX3_digest_156 rfl (lv_at hl 2 rfl) ?_
                          refine fb_get (r := 0) hx hb hown hts hin3 hM ((hC.1).1) (ce3 ((hC.1).2)) rfl 1 (by decide) (hts (.fieldLink RX3 16 "FeatherBeds" "ticks" "Ljava/util/ArrayList;") (by decide +kernel)) (fun _ h9 => h9) (v := .ref (sa S 2)) (congrArg (fun z => some (va_rf z)) ((hC.2.1).2.1)) dX3_digest_157 ?_
                          refine lv_iload_n hx hb dX3_digest_160 rfl (lv_at hl 0 rfl) ?_
                          refine fb_callVr (r := 2) hx hb hml hown hts hM ((hC.2.2.2.1).1) (ce5 ((hC.2.2.2.1).2)) rfl (As := [.int (nI t)]) (rest := [.long (cd4 V I ns nt cf rf df P t)]) (c_Jx4a65c_get_915e3 D y l S V J 2 5 10 (hC.l2 htk) nt t (30 + 4 * t) htk (by omega) (by omega) ((hC.2.2.2.2.2.2.2.2.2) t htk).1 (hF.pts hPt).2.1) (cwV 1 hts gX3_digest_Jx4a65c_get_915e3 rfl rfl rfl (by decide +kernel) ⟨Nat.le_of_ble_eq_true rfl, Nat.le_of_ble_eq_true rfl⟩) rfl hl.1 rfl (Nat.le_of_ble_eq_true rfl) dX3_digest_161 ⟨Nat.le_of_ble_eq_true rfl, Nat.le_of_ble_eq_true rfl⟩ (fun v_7 u_ H locs hp hM => ?_)
                          obtain ⟨hv_, hu_⟩ := hp
                          have hv_ := Eq.symm hv_
                          have hu_ := Eq.symm hu_
                          subst hv_
                          subst hu_
                          refine fb_castS (q := (RX2, TX2, 7)) hx hb hown (hts (.classLink RX3 26 "FeatherBeds$Tick") (by decide +kernel)) hM (r := 30 + 4 * t) (hC.tk htk).1 (ce2 (hC.tk htk).2.1) rfl dX3_digest_164 ?_
                          refine fb_callSl hx hb hml hown hts hM (As := [.long (cd4 V I ns nt cf rf df P t), .ref (sa S (30 + 4 * t))]) (rest := []) (c_X3_digestOfTick D y l S V J a1 ns nt es na hC cf rf df (hF.pts hPt) t htk (cd4 V I ns nt cf rf df P t)) (va_cwS 2 hts gX3_digest_X3_digestOfTick rfl rfl rfl (by decide +kernel) ⟨Nat.le_of_ble_eq_true rfl, Nat.le_of_ble_eq_true rfl⟩) rfl hl.1 rfl (Nat.le_of_ble_eq_true rfl) dX3_digest_167 ⟨Nat.le_of_ble_eq_true rfl, Nat.le_of_ble_eq_true rfl⟩ (fun v_8 u_ H locs hp hM => ?_)
                          obtain ⟨p2, gg, hp2, hv_, hu_⟩ := hp
                          have hv_ := Eq.symm hv_
                          have hu_ := Eq.symm hu_
                          subst hv_
                          subst hu_
                          rw [hPt (30 + 4 * t + 2) (fun t9 _ => by omega)] at hp2
                          refine W.eq (g2 := F0 mv _ ls [.long (cd4 V I ns nt cf rf df (va_up P t p2) (t + 1))]) (by rw [← cd4_s, show cGt V J t cf rf df p2 = cGt V I t cf rf df p2 from funext (cGt_pts hPt t cf rf df p2), show cFq V J cf rf t = cFq V I cf rf t from funext (fun q => funext (cFq_pts hPt cf rf t q))]) ?_
                          refine lv_lstore_n (lv' := [(1, .long (cd4 V I ns nt cf rf df (va_up P t p2) (t + 1))), (3, .int (nI t)), (0, .ref (sa S 0))]) hx hb dX3_digest_170 rfl hl (by decide) rfl (fun ls hl => ?_)
                          refine lv_iinc (v := nI (t + 1)) (lv' := [(3, .int (nI (t + 1))), (1, .long (cd4 V I ns nt cf rf df (va_up P t p2) (t + 1))), (0, .ref (sa S 0))]) hx hb dX3_digest_171 hl (k := 1) rfl (nI_1 _) (by decide) rfl (fun ls hl => ?_)
                          refine lv_goto (tgt := 144) hx hb dX3_digest_174 (by decide) ?_
                          exact ih_144 (t + 1) (va_up P t p2) _ (by omega) (hPt.up (by omega) gg) (fun z hz => by rcases Nat.lt_or_ge z t with h | h; exact (by rw [va_up_ne _ _ (show z ≠ t by omega)]; exact hP z h); exact (by rw [show z = t by omega, va_up_self]; exact hp2)) (by omega) _ _ hM ls (lv_sub hl [0, 1, 2] rfl)
                    exact LP_144 _ 0 (fun _ => 0) I (by omega) (Pts.rf I) (fun z h => absurd h (Nat.not_lt_zero _)) (Nat.lt_succ_self _) _ _ hM ls (lv_sub hl [0, 1, 2] rfl)
                  · skip
                    have hqk : q < 5 := Nat.lt_of_not_le (fun h => c_4 (nI_le h (by omega)))
                    refine lv_iconst (v := 0) hx hb dX3_digest_101 (by decide) ?_
                    refine lv_istore (lv' := [(4, .int 0), (3, .int (nI q)), (1, .long (dgr (dgr (dg 617 (cnc V I ns nt) 9) (cS V I) 8 ns) (cH V) 9 q)), (0, .ref (sa S 0))]) hx hb dX3_digest_102 hl (by decide) rfl (fun ls hl => ?_)
                    have LP_104 : ∀ (n : Nat) (k : Nat) (hk : k ≤ 9), 9 - k < n → ∀ (H : Heap) (locs : List Loc), fb_M D y A s (S, V, (sT V), I) H locs → ∀ ls, lv_has ls 5 [(4, .int (nI k)), (3, .int (nI q)), (1, .long (dg (dgr (dgr (dg 617 (cnc V I ns nt) 9) (cS V I) 8 ns) (cH V) 9 q) (cH V q) k)), (0, .ref (sa S 0))] → W pv l ev rm_X3_digest s mv ([.ref (sa S 0)] : List Value).toArray below meth cv H locs 0 0 Q (F0 mv 104 ls []) := by
                      intro n_104
                      induction n_104 with
                      | zero => intro k hk hmu; exact absurd hmu (Nat.not_lt_zero _)
                      | succ n_104 ih_104 =>
                        intro k hk hmu H locs hM ls hl
                        refine lv_iload hx hb dX3_digest_104 (lv_at hl 0 rfl) ?_
                        refine lv_bipush (v := 9) hx hb dX3_digest_106 (by decide) ?_
                        refine lv_icmp_ge (tgt := 136) hx hb dX3_digest_108 (by decide) (fun c_9 => ?_) (fun c_9 => ?_)
                        · skip
                          have e_k : k = 9 := by have := (nI_leI (a := 9) (b := k) (by omega) (by omega)).mp c_9; omega
                          have e_k := Eq.symm e_k
                          subst e_k
                          refine lv_iinc (v := nI (q + 1)) (lv' := [(3, .int (nI (q + 1))), (4, .int (nI 9)), (1, .long (dg (dgr (dgr (dg 617 (cnc V I ns nt) 9) (cS V I) 8 ns) (cH V) 9 q) (cH V q) 9)), (0, .ref (sa S 0))]) hx hb dX3_digest_136 hl (k := 1) rfl (nI_1 _) (by decide) rfl (fun ls hl => ?_)
                          refine lv_goto (tgt := 92) hx hb dX3_digest_139 (by decide) ?_
                          exact ih_92 (q + 1) (by omega) (by omega) _ _ hM ls (lv_sub hl [0, 2, 3] rfl)
                        · skip
                          have hkk : k < 9 := Nat.lt_of_not_le (fun h => c_9 (nI_le h (by omega)))
                          refine lv_lload_n hx hb dX3_digest_111 rfl (lv_at hl 2 rfl) ?_
                          refine lv_ldc2 (v := 31) hx hb hown (hts (.constantLong RX3 202 31) (by decide +kernel)) dX3_digest_112 ?_
                          refine lv_lmul hx hb dX3_digest_115 ?_
                          refine lv_aload_n hx hb dX3_digest_116 rfl (lv_at hl 3 rfl) ?_
                          refine fb_get (r := 0) hx hb hown hts hin3 hM ((hC.1).1) (ce3 ((hC.1).2)) rfl 2 (by decide) (hts (.fieldLink RX3 21 "FeatherBeds" "chambers" "[LFeatherBeds$Heap;") (by decide +kernel)) (fun _ h9 => h9) (v := .ref (sa S 3)) (congrArg (fun z => some (va_rf z)) ((hC.2.1).2.2.1)) dX3_digest_117 ?_
                          refine lv_iload_n hx hb dX3_digest_120 rfl (lv_at hl 1 rfl) ?_
                          refine fb_aald (r := 3) hx hb hM ((hC.2.2.2.2.1).1.1) (ce8 ((hC.2.2.2.2.1).1.2.1)) 2 rfl (k := q) (nI_clamp (by omega)) (b := sa S (100 + 2 * q)) (((hC.2.2.2.2.1).2 q (by omega)).1) (by rw [(hC.2.2.2.2.1).1.2.2]; exact vp_in_nI (by omega) (by omega)) dX3_digest_121 ?_
                          refine lv_iload hx hb dX3_digest_122 (lv_at hl 0 rfl) ?_
                          refine fb_callSi hx hb hml hown hts hM (As := [.ref (sa S (100 + 2 * q)), .int (nI k)]) (rest := [.long ((dg (dgr (dgr (dg 617 (cnc V I ns nt) 9) (cS V I) 8 ns) (cH V) 9 q) (cH V q) k) * 31)]) (c_X3_chamberTells_v D y l S V I (100 + 2 * q) (hC.hp hqk) k hkk) (va_cwS 2 hts gX3_digest_X3_chamberTells rfl rfl rfl (by decide +kernel) ⟨Nat.le_of_ble_eq_true rfl, Nat.le_of_ble_eq_true rfl⟩) rfl hl.1 rfl (Nat.le_of_ble_eq_true rfl) dX3_digest_124 ⟨Nat.le_of_ble_eq_true rfl, Nat.le_of_ble_eq_true rfl⟩ (fun v_10 u_ H locs hp hM => ?_)
                          obtain ⟨hv_, hu_⟩ := hp
                          have hv_ := Eq.symm hv_
                          have hu_ := Eq.symm hu_
                          subst hv_
                          subst hu_
                          rw [show (ctl (V (100 + 2 * q)) k : Int32) = cH V q k from rfl]
                          refine lv_i2l hx hb dX3_digest_127 rfl ?_
                          refine lv_ladd hx hb dX3_digest_128 ?_
                          refine lv_lstore_n (lv' := [(1, .long (((dg (dgr (dgr (dg 617 (cnc V I ns nt) 9) (cS V I) 8 ns) (cH V) 9 q) (cH V q) k) * 31) + ((cH V q k).toInt64))), (4, .int (nI k)), (3, .int (nI q)), (0, .ref (sa S 0))]) hx hb dX3_digest_129 rfl hl (by decide) rfl (fun ls hl => ?_)
                          refine lv_iinc (v := nI (k + 1)) (lv' := [(4, .int (nI (k + 1))), (1, .long (((dg (dgr (dgr (dg 617 (cnc V I ns nt) 9) (cS V I) 8 ns) (cH V) 9 q) (cH V q) k) * 31) + ((cH V q k).toInt64))), (3, .int (nI q)), (0, .ref (sa S 0))]) hx hb dX3_digest_130 hl (k := 1) rfl (nI_1 _) (by decide) rfl (fun ls hl => ?_)
                          refine lv_goto (tgt := 104) hx hb dX3_digest_133 (by decide) ?_
                          exact ih_104 (k + 1) (by omega) (by omega) _ _ hM ls (lv_sub hl [0, 2, 1, 3] rfl)
                    exact LP_104 _ 0 (by omega) (Nat.lt_succ_self _) _ _ hM ls (lv_sub hl [0, 1, 2, 3] rfl)
              exact LP_92 _ 0 (by omega) (Nat.lt_succ_self _) _ _ hM ls (lv_sub hl [0, 1, 2] rfl)
            · skip
              have hik : i < ns := Nat.lt_of_not_le (fun h => c_3 (nI_le h (by omega)))
              refine lv_iconst (v := 0) hx hb dX3_digest_44 (by decide) ?_
              refine lv_istore (lv' := [(4, .int 0), (3, .int (nI i)), (1, .long (dgr (dg 617 (cnc V I ns nt) 9) (cS V I) 8 i)), (0, .ref (sa S 0))]) hx hb dX3_digest_45 hl (by decide) rfl (fun ls hl => ?_)
              have LP_47 : ∀ (n : Nat) (k : Nat) (hk : k ≤ 8), 8 - k < n → ∀ (H : Heap) (locs : List Loc), fb_M D y A s (S, V, (sT V), I) H locs → ∀ ls, lv_has ls 5 [(4, .int (nI k)), (3, .int (nI i)), (1, .long (dg (dgr (dg 617 (cnc V I ns nt) 9) (cS V I) 8 i) (cS V I i) k)), (0, .ref (sa S 0))] → W pv l ev rm_X3_digest s mv ([.ref (sa S 0)] : List Value).toArray below meth cv H locs 0 0 Q (F0 mv 47 ls []) := by
                intro n_47
                induction n_47 with
                | zero => intro k hk hmu; exact absurd hmu (Nat.not_lt_zero _)
                | succ n_47 ih_47 =>
                  intro k hk hmu H locs hM ls hl
                  refine lv_iload hx hb dX3_digest_47 (lv_at hl 0 rfl) ?_
                  refine lv_bipush (v := 8) hx hb dX3_digest_49 (by decide) ?_
                  refine lv_icmp_ge (tgt := 84) hx hb dX3_digest_51 (by decide) (fun c_11 => ?_) (fun c_11 => ?_)
                  · skip
                    have e_k : k = 8 := by have := (nI_leI (a := 8) (b := k) (by omega) (by omega)).mp c_11; omega
                    have e_k := Eq.symm e_k
                    subst e_k
                    refine lv_iinc (v := nI (i + 1)) (lv' := [(3, .int (nI (i + 1))), (4, .int (nI 8)), (1, .long (dg (dgr (dg 617 (cnc V I ns nt) 9) (cS V I) 8 i) (cS V I i) 8)), (0, .ref (sa S 0))]) hx hb dX3_digest_84 hl (k := 1) rfl (nI_1 _) (by decide) rfl (fun ls hl => ?_)
                    refine lv_goto (tgt := 33) hx hb dX3_digest_87 (by decide) ?_
                    exact ih_33 (i + 1) (by omega) (by omega) _ _ hM ls (lv_sub hl [0, 2, 3] rfl)
                  · skip
                    have hkk : k < 8 := Nat.lt_of_not_le (fun h => c_11 (nI_le h (by omega)))
                    refine lv_lload_n hx hb dX3_digest_54 rfl (lv_at hl 2 rfl) ?_
                    refine lv_ldc2 (v := 31) hx hb hown (hts (.constantLong RX3 202 31) (by decide +kernel)) dX3_digest_55 ?_
                    refine lv_lmul hx hb dX3_digest_58 ?_
                    refine lv_aload_n hx hb dX3_digest_59 rfl (lv_at hl 3 rfl) ?_
                    refine fb_get (r := 0) hx hb hown hts hin3 hM ((hC.1).1) (ce3 ((hC.1).2)) rfl 0 (by decide) (hts (.fieldLink RX3 12 "FeatherBeds" "sacks" "Ljava/util/ArrayList;") (by decide +kernel)) (fun _ h9 => h9) (v := .ref (sa S 1)) (congrArg (fun z => some (va_rf z)) ((hC.2.1).1)) dX3_digest_60 ?_
                    refine lv_iload_n hx hb dX3_digest_63 rfl (lv_at hl 1 rfl) ?_
                    refine fb_callVr (r := 1) hx hb hml hown hts hM ((hC.2.2.1).1) (ce5 ((hC.2.2.1).2)) rfl (As := [.int (nI i)]) (rest := [.long ((dg (dgr (dg 617 (cnc V I ns nt) 9) (cS V I) 8 i) (cS V I i) k) * 31)]) (c_Jx4a65c_get_915e3 D y l S V I 1 es na (hC.l1 hik).1 ns i (10 + i) hik (hC.l1 hik).2.1 (hC.l1 hik).2.2 ((hC.2.2.2.2.2.2.2.1) i hik).1 hF.1) (cwV 1 hts gX3_digest_Jx4a65c_get_915e3 rfl rfl rfl (by decide +kernel) ⟨Nat.le_of_ble_eq_true rfl, Nat.le_of_ble_eq_true rfl⟩) rfl hl.1 rfl (Nat.le_of_ble_eq_true rfl) dX3_digest_64 ⟨Nat.le_of_ble_eq_true rfl, Nat.le_of_ble_eq_true rfl⟩ (fun v_12 u_ H locs hp hM => ?_)
                    obtain ⟨hv_, hu_⟩ := hp
                    have hv_ := Eq.symm hv_
                    have hu_ := Eq.symm hu_
                    subst hv_
                    subst hu_
                    refine fb_castS (q := (RX1, TX1, 2)) hx hb hown (hts (.classLink RX3 53 "FeatherBeds$Sack") (by decide +kernel)) hM (r := 10 + i) (hC.sk hik).1 (ce1 (hC.sk hik).2.1) rfl dX3_digest_67 ?_
                    refine lv_iload hx hb dX3_digest_70 (lv_at hl 0 rfl) ?_
                    refine fb_callVi (r := (10 + i)) hx hb hml hown hts hM ((hC.sk hik).1) (ce1 ((hC.sk hik).2.1)) rfl (As := [.int (nI k)]) (rest := [.long ((dg (dgr (dg 617 (cnc V I ns nt) 9) (cS V I) 8 i) (cS V I i) k) * 31)]) (c_X1_tells D y l S V I (10 + i) (200 + 2 * i) (hC.sk hik) (nI k)) (cwV 1 hts gX3_digest_X1_tells rfl rfl rfl (by decide +kernel) ⟨Nat.le_of_ble_eq_true rfl, Nat.le_of_ble_eq_true rfl⟩) rfl hl.1 rfl (Nat.le_of_ble_eq_true rfl) dX3_digest_72 ⟨Nat.le_of_ble_eq_true rfl, Nat.le_of_ble_eq_true rfl⟩ (fun v_13 u_ H locs hp hM => ?_)
                    obtain ⟨hv_, hu_⟩ := hp
                    have hv_ := Eq.symm hv_
                    have hu_ := Eq.symm hu_
                    subst hv_
                    subst hu_
                    rw [show (sckT (V (200 + 2 * i)) (I (10 + i) 1) (nI k) : Int32) = cS V I i k from rfl]
                    refine lv_i2l hx hb dX3_digest_75 rfl ?_
                    refine lv_ladd hx hb dX3_digest_76 ?_
                    refine lv_lstore_n (lv' := [(1, .long (((dg (dgr (dg 617 (cnc V I ns nt) 9) (cS V I) 8 i) (cS V I i) k) * 31) + ((cS V I i k).toInt64))), (4, .int (nI k)), (3, .int (nI i)), (0, .ref (sa S 0))]) hx hb dX3_digest_77 rfl hl (by decide) rfl (fun ls hl => ?_)
                    refine lv_iinc (v := nI (k + 1)) (lv' := [(4, .int (nI (k + 1))), (1, .long (((dg (dgr (dg 617 (cnc V I ns nt) 9) (cS V I) 8 i) (cS V I i) k) * 31) + ((cS V I i k).toInt64))), (3, .int (nI i)), (0, .ref (sa S 0))]) hx hb dX3_digest_78 hl (k := 1) rfl (nI_1 _) (by decide) rfl (fun ls hl => ?_)
                    refine lv_goto (tgt := 47) hx hb dX3_digest_81 (by decide) ?_
                    exact ih_47 (k + 1) (by omega) (by omega) _ _ hM ls (lv_sub hl [0, 2, 1, 3] rfl)
              exact LP_47 _ 0 (by omega) (Nat.lt_succ_self _) _ _ hM ls (lv_sub hl [0, 1, 2, 3] rfl)
        exact LP_33 _ 0 (by omega) (Nat.lt_succ_self _) _ _ hM ls (lv_sub hl [0, 1, 2] rfl)
      · skip
        have hkk : k < 9 := Nat.lt_of_not_le (fun h => c_1 (nI_le h (by omega)))
        refine lv_lload_n hx hb dX3_digest_12 rfl (lv_at hl 1 rfl) ?_
        refine lv_ldc2 (v := 31) hx hb hown (hts (.constantLong RX3 202 31) (by decide +kernel)) dX3_digest_13 ?_
        refine lv_lmul hx hb dX3_digest_16 ?_
        refine lv_aload_n hx hb dX3_digest_17 rfl (lv_at hl 2 rfl) ?_
        refine lv_iload_n hx hb dX3_digest_18 rfl (lv_at hl 0 rfl) ?_
        refine fb_callVi (r := 0) hx hb hml hown hts hM ((hC.1).1) (ce3 ((hC.1).2)) rfl (As := [.int (nI k)]) (rest := [.long ((dg 617 (cnc V I ns nt) k) * 31)]) (c_X3_countTells_v D y l S V I a1 ns nt es na hC cf rf df hF k hkk) (cwV 1 hts gX3_digest_X3_countTells rfl rfl rfl (by decide +kernel) ⟨Nat.le_of_ble_eq_true rfl, Nat.le_of_ble_eq_true rfl⟩) rfl hl.1 rfl (Nat.le_of_ble_eq_true rfl) dX3_digest_19 ⟨Nat.le_of_ble_eq_true rfl, Nat.le_of_ble_eq_true rfl⟩ (fun v_14 u_ H locs hp hM => ?_)
        obtain ⟨hv_, hu_⟩ := hp
        have hv_ := Eq.symm hv_
        have hu_ := Eq.symm hu_
        subst hv_
        subst hu_
        refine lv_i2l hx hb dX3_digest_22 rfl ?_
        refine lv_ladd hx hb dX3_digest_23 ?_
        refine lv_lstore_n (lv' := [(1, .long (((dg 617 (cnc V I ns nt) k) * 31) + ((cnc V I ns nt k).toInt64))), (3, .int (nI k)), (0, .ref (sa S 0))]) hx hb dX3_digest_24 rfl hl (by decide) rfl (fun ls hl => ?_)
        refine lv_iinc (v := nI (k + 1)) (lv' := [(3, .int (nI (k + 1))), (1, .long (((dg 617 (cnc V I ns nt) k) * 31) + ((cnc V I ns nt k).toInt64))), (0, .ref (sa S 0))]) hx hb dX3_digest_25 hl (k := 1) rfl (nI_1 _) (by decide) rfl (fun ls hl => ?_)
        refine lv_goto (tgt := 6) hx hb dX3_digest_28 (by decide) ?_
        exact ih_6 (k + 1) (by omega) (by omega) _ _ hM ls (lv_sub hl [0, 1, 2] rfl)
  exact LP_6 _ 0 (by omega) (Nat.lt_succ_self _) _ _ hM ls (lv_sub hl [0, 1, 2] rfl)
