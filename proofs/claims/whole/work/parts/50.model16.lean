abbrev rm_X4_filled : Room := { frames := 2, cells := 0, slots := 0, locals := 52 }
set_option maxHeartbeats 4000000 in
set_option maxRecDepth 100000 in
theorem c_X4_filled (D : va_G) (y : Nat → ClassId) (l : Launch) (S : fb_Sh) (V I : fb_V) (o nt : Nat) (cf rf : Nat → Nat) (hA : MdAt S o nt cf rf) (ns : Nat) (df : Nat → Nat) (hF : MF I o ns nt cf rf df) : CD D y l yX4_filled wsX4_filled rm_X4_filled [.ref (sa S o)] (S, V, (sT V), I) (fun z u => z = fil (cnm I o ns nt cf rf 5) (cnm I o ns nt cf rf 3 + cnm I o ns nt cf rf 4 + cnm I o ns nt cf rf 5) ∧ u = (S, V, sT V, t0 I o)) 0 0 := by
  refine CD.of (cc := cX4_filled) (maxL := 2) (ret := (some .double)) (by decide) rfl (Nat.le_of_ble_eq_true rfl) ?_
  intro pv ev s mv below meth cv A hx hb hml hr hown hts hlocks hname hM ls hl
  have hown : s.vm.findClass RX4 = some mv.cls := hown
  have hl : lv_has ls 2 [(0, .ref (sa S o))] := hl
  have hin4 : ∀ x ∈ wsX40, x ∈ wsX4_filled := by decide +kernel
  obtain ⟨Q, hQ⟩ : ∃ Q, Q = MQ below (va_Qd (fun z u => z = fil (cnm I o ns nt cf rf 5) (cnm I o ns nt cf rf 3 + cnm I o ns nt cf rf 4 + cnm I o ns nt cf rf 5) ∧ u = (S, V, sT V, t0 I o)) (fun u t => fb_P D y A u t) A) (([.ref (sa S o)] : List Value).toArray) s 0 0 A := ⟨_, rfl⟩
  rw [← hQ]
  have hns : ns ≤ 12 := hF.2.2.1
  have hnt : nt ≤ 6 := hF.2.2.2.1
  refine lv_aload_n hx hb dX4_filled_0 rfl (lv_at hl 0 rfl) ?_
  refine lv_iconst (v := 0) hx hb dX4_filled_1 (by decide) ?_
  refine fb_put (r := o) hx hb hown hts hin4 tyX4 tyX4_ok nmX4 hM ((hA.1).1) (ce4 ((hA.1).2)) rfl 0 (by decide) (hts (.fieldLink RX4 40 "FeatherBedsModel" "thrown" "I") (by decide +kernel)) (fun _ h9 => h9) rfl (ty := .int) (by decide +kernel) rfl rfl (Nat.le_of_ble_eq_true rfl) dX4_filled_2 (up_I (j := 0) (v := 0) (by rw [ce4 ((hA.1).2)]; simp [va_up, upd])) (w' := (S, V, (sT V), (va_up I o (upd (I o) 0 0)))) ⟨rfl, rfl, rfl⟩ (fun H locs hM => ?_)
  have eI : (va_up I o (upd (I o) 0 0)) = (t0 I o) := rfl
  rw [eI] at hM
  clear eI
  refine lv_aload_n hx hb dX4_filled_5 rfl (lv_at hl 0 rfl) ?_
  refine lv_iconst (v := 3) hx hb dX4_filled_6 (by decide) ?_
  refine fb_callVi (r := o) hx hb hml hown hts hM ((hA.1).1) (ce4 ((hA.1).2)) rfl (As := [.int 3]) (rest := []) (c_X4_counted_v D y l S V (t0 I o) o nt cf rf hA ns df hF.t0 3 (by decide)) (cwV 1 hts gX4_filled_X4_counted rfl rfl rfl (by decide +kernel) ⟨Nat.le_of_ble_eq_true rfl, Nat.le_of_ble_eq_true rfl⟩) rfl hl.1 rfl (Nat.le_of_ble_eq_true rfl) dX4_filled_7 ⟨Nat.le_of_ble_eq_true rfl, Nat.le_of_ble_eq_true rfl⟩ (fun v_1 u H locs hp hM => ?_)
  obtain ⟨hv_, hu_⟩ := hp
  have hv_ := Eq.symm hv_
  have hu_ := Eq.symm hu_
  subst hv_
  subst hu_
  rw [show (cnm (t0 I o) o ns nt cf rf 3 : Int32) = cnm I o ns nt cf rf 3 from cnm_t0 I o ns nt cf rf 3]
  refine lv_aload_n hx hb dX4_filled_10 rfl (lv_at hl 0 rfl) ?_
  refine lv_iconst (v := 4) hx hb dX4_filled_11 (by decide) ?_
  refine fb_callVi (r := o) hx hb hml hown hts hM ((hA.1).1) (ce4 ((hA.1).2)) rfl (As := [.int 4]) (rest := [.int (cnm I o ns nt cf rf 3)]) (c_X4_counted_v D y l S V (t0 I o) o nt cf rf hA ns df hF.t0 4 (by decide)) (cwV 1 hts gX4_filled_X4_counted rfl rfl rfl (by decide +kernel) ⟨Nat.le_of_ble_eq_true rfl, Nat.le_of_ble_eq_true rfl⟩) rfl hl.1 rfl (Nat.le_of_ble_eq_true rfl) dX4_filled_12 ⟨Nat.le_of_ble_eq_true rfl, Nat.le_of_ble_eq_true rfl⟩ (fun v_2 u H locs hp hM => ?_)
  obtain ⟨hv_, hu_⟩ := hp
  have hv_ := Eq.symm hv_
  have hu_ := Eq.symm hu_
  subst hv_
  subst hu_
  rw [show (cnm (t0 I o) o ns nt cf rf 4 : Int32) = cnm I o ns nt cf rf 4 from cnm_t0 I o ns nt cf rf 4]
  refine lv_iadd hx hb dX4_filled_15 ?_
  refine lv_aload_n hx hb dX4_filled_16 rfl (lv_at hl 0 rfl) ?_
  refine lv_iconst (v := 5) hx hb dX4_filled_17 (by decide) ?_
  refine fb_callVi (r := o) hx hb hml hown hts hM ((hA.1).1) (ce4 ((hA.1).2)) rfl (As := [.int 5]) (rest := [.int ((cnm I o ns nt cf rf 3) + (cnm I o ns nt cf rf 4))]) (c_X4_counted_v D y l S V (t0 I o) o nt cf rf hA ns df hF.t0 5 (by decide)) (cwV 1 hts gX4_filled_X4_counted rfl rfl rfl (by decide +kernel) ⟨Nat.le_of_ble_eq_true rfl, Nat.le_of_ble_eq_true rfl⟩) rfl hl.1 rfl (Nat.le_of_ble_eq_true rfl) dX4_filled_18 ⟨Nat.le_of_ble_eq_true rfl, Nat.le_of_ble_eq_true rfl⟩ (fun v_3 u H locs hp hM => ?_)
  obtain ⟨hv_, hu_⟩ := hp
  have hv_ := Eq.symm hv_
  have hu_ := Eq.symm hu_
  subst hv_
  subst hu_
  rw [show (cnm (t0 I o) o ns nt cf rf 5 : Int32) = cnm I o ns nt cf rf 5 from cnm_t0 I o ns nt cf rf 5]
  refine lv_iadd hx hb dX4_filled_21 ?_
  refine lv_istore_n (lv' := [(1, .int (((cnm I o ns nt cf rf 3) + (cnm I o ns nt cf rf 4)) + (cnm I o ns nt cf rf 5))), (0, .ref (sa S o))]) hx hb dX4_filled_22 rfl hl (by decide) rfl (fun ls hl => ?_)
  refine lv_iload_n hx hb dX4_filled_23 rfl (lv_at hl 0 rfl) ?_
  refine lv_if_ne (tgt := 31) hx hb dX4_filled_24 (by decide) (fun c_4 => ?_) (fun c_4 => ?_)
  · skip
    have hz0 := c_4
    refine lv_aload_n hx hb dX4_filled_31 rfl (lv_at hl 1 rfl) ?_
    refine lv_iconst (v := 5) hx hb dX4_filled_32 (by decide) ?_
    refine fb_callVi (r := o) hx hb hml hown hts hM ((hA.1).1) (ce4 ((hA.1).2)) rfl (As := [.int 5]) (rest := []) (c_X4_counted_v D y l S V (t0 I o) o nt cf rf hA ns df hF.t0 5 (by decide)) (cwV 1 hts gX4_filled_X4_counted rfl rfl rfl (by decide +kernel) ⟨Nat.le_of_ble_eq_true rfl, Nat.le_of_ble_eq_true rfl⟩) rfl hl.1 rfl (Nat.le_of_ble_eq_true rfl) dX4_filled_33 ⟨Nat.le_of_ble_eq_true rfl, Nat.le_of_ble_eq_true rfl⟩ (fun v_5 u H locs hp hM => ?_)
    obtain ⟨hv_, hu_⟩ := hp
    have hv_ := Eq.symm hv_
    have hu_ := Eq.symm hu_
    subst hv_
    subst hu_
    rw [show (cnm (t0 I o) o ns nt cf rf 5 : Int32) = cnm I o ns nt cf rf 5 from cnm_t0 I o ns nt cf rf 5]
    refine lv_i2d hx hb dX4_filled_36 ?_
    refine lv_iload_n hx hb dX4_filled_37 rfl (lv_at hl 0 rfl) ?_
    refine lv_i2d hx hb dX4_filled_38 ?_
    refine lv_ddiv hx hb dX4_filled_39 (db_ok _ _ (hz0)) ?_
    rw [hQ]
    exact fb_dret hx hb hr hlocks hM (⟨by unfold fil; first | exact (if_neg hz0).symm | exact (if_pos hz0).symm, rfl⟩) dX4_filled_40
  · skip
    have hz0 := c_4
    refine lv_dconst0 hx hb dX4_filled_27 ?_
    refine lv_goto (tgt := 40) hx hb dX4_filled_28 (by decide) ?_
    rw [hQ]
    exact fb_dret hx hb hr hlocks hM (⟨by unfold fil; first | exact (if_neg hz0).symm | exact (if_pos hz0).symm, rfl⟩) dX4_filled_40

abbrev rm_X4_digest : Room := { frames := 6, cells := 0, slots := 0, locals := 140 }
set_option maxHeartbeats 4000000 in
set_option maxRecDepth 100000 in
theorem c_X4_digest (D : va_G) (y : Nat → ClassId) (l : Launch) (S : fb_Sh) (V I : fb_V) (o nt : Nat) (cf rf : Nat → Nat) (hA : MdAt S o nt cf rf) (ns : Nat) (df : Nat → Nat) (hF : MF I o ns nt cf rf df) : CL D y l yX4_digest wsX4_digest rm_X4_digest [.ref (sa S o)] (S, V, (sT V), I) (fun z u => ∃ (P : Nat → Int32) (g : Nat → Int32), (∀ t, t < nt → pts (cf t) (cf t * rf t) (I (o + 20 + t)) (P t)) ∧ z = dg4 I o ns nt cf rf df P nt ∧ u = (S, V, sT V, (va_up (t0 I o) (o + 7) g))) 0 0 := by
  refine CL.of (cc := cX4_digest) (maxL := 6) (ret := (some .long)) (by decide) rfl (Nat.le_of_ble_eq_true rfl) ?_
  intro pv ev s mv below meth cv A hx hb hml hr hown hts hlocks hname hM ls hl
  have hown : s.vm.findClass RX4 = some mv.cls := hown
  have hl : lv_has ls 6 [(0, .ref (sa S o))] := hl
  have hin4 : ∀ x ∈ wsX40, x ∈ wsX4_digest := by decide +kernel
  obtain ⟨Q, hQ⟩ : ∃ Q, Q = MQ below (va_Ql (fun z u => ∃ (P : Nat → Int32) (g : Nat → Int32), (∀ t, t < nt → pts (cf t) (cf t * rf t) (I (o + 20 + t)) (P t)) ∧ z = dg4 I o ns nt cf rf df P nt ∧ u = (S, V, sT V, (va_up (t0 I o) (o + 7) g))) (fun u t => fb_P D y A u t) A) (([.ref (sa S o)] : List Value).toArray) s 0 0 A := ⟨_, rfl⟩
  rw [← hQ]
  have hns : ns ≤ 12 := hF.2.2.1
  have hnt : nt ≤ 6 := hF.2.2.2.1
  refine lv_aload_n hx hb dX4_digest_0 rfl (lv_at hl 0 rfl) ?_
  refine lv_iconst (v := 0) hx hb dX4_digest_1 (by decide) ?_
  refine fb_put (r := o) hx hb hown hts hin4 tyX4 tyX4_ok nmX4 hM ((hA.1).1) (ce4 ((hA.1).2)) rfl 0 (by decide) (hts (.fieldLink RX4 40 "FeatherBedsModel" "thrown" "I") (by decide +kernel)) (fun _ h9 => h9) rfl (ty := .int) (by decide +kernel) rfl rfl (Nat.le_of_ble_eq_true rfl) dX4_digest_2 (up_I (j := 0) (v := 0) (by rw [ce4 ((hA.1).2)]; simp [va_up, upd])) (w' := (S, V, (sT V), (va_up I o (upd (I o) 0 0)))) ⟨rfl, rfl, rfl⟩ (fun H locs hM => ?_)
  have eI : (va_up I o (upd (I o) 0 0)) = (t0 I o) := rfl
  rw [eI] at hM
  clear eI
  refine lv_ldc2 (v := 617) hx hb hown (hts (.constantLong RX4 168 617) (by decide +kernel)) dX4_digest_5 ?_
  refine lv_lstore_n (lv' := [(1, .long (617)), (0, .ref (sa S o))]) hx hb dX4_digest_8 rfl hl (by decide) rfl (fun ls hl => ?_)
  refine lv_iconst (v := 0) hx hb dX4_digest_9 (by decide) ?_
  refine lv_istore_n (lv' := [(3, .int 0), (1, .long (617)), (0, .ref (sa S o))]) hx hb dX4_digest_10 rfl hl (by decide) rfl (fun ls hl => ?_)
  have LP_11 : ∀ (n : Nat) (k : Nat) (hk : k ≤ 9), 9 - k < n → ∀ (H : Heap) (locs : List Loc), fb_M D y A s (S, V, (sT V), (t0 I o)) H locs → ∀ ls, lv_has ls 6 [(3, .int (nI k)), (1, .long (dg 617 (cnm I o ns nt cf rf) k)), (0, .ref (sa S o))] → W pv l ev rm_X4_digest s mv ([.ref (sa S o)] : List Value).toArray below meth cv H locs 0 0 Q (F0 mv 11 ls []) := by
    intro n_11
    induction n_11 with
    | zero => intro k hk hmu; exact absurd hmu (Nat.not_lt_zero _)
    | succ n_11 ih_11 =>
      intro k hk hmu H locs hM ls hl
      refine lv_iload_n hx hb dX4_digest_11 rfl (lv_at hl 0 rfl) ?_
      refine lv_bipush (v := 9) hx hb dX4_digest_12 (by decide) ?_
      refine lv_icmp_ge (tgt := 36) hx hb dX4_digest_14 (by decide) (fun c_1 => ?_) (fun c_1 => ?_)
      · skip
        have e_k : k = 9 := by have := (nI_leI (a := 9) (b := k) (by omega) (by omega)).mp c_1; omega
        have e_k := Eq.symm e_k
        subst e_k
        refine lv_iconst (v := 0) hx hb dX4_digest_36 (by decide) ?_
        refine lv_istore_n (lv' := [(3, .int 0), (1, .long (dg 617 (cnm I o ns nt cf rf) 9)), (0, .ref (sa S o))]) hx hb dX4_digest_37 rfl hl (by decide) rfl (fun ls hl => ?_)
        have LP_38 : ∀ (n : Nat) (i : Nat) (hi : i ≤ ns), ns - i < n → ∀ (H : Heap) (locs : List Loc), fb_M D y A s (S, V, (sT V), (t0 I o)) H locs → ∀ ls, lv_has ls 6 [(3, .int (nI i)), (1, .long (dgr (dg 617 (cnm I o ns nt cf rf) 9) (dS I o) 8 i)), (0, .ref (sa S o))] → W pv l ev rm_X4_digest s mv ([.ref (sa S o)] : List Value).toArray below meth cv H locs 0 0 Q (F0 mv 38 ls []) := by
          intro n_38
          induction n_38 with
          | zero => intro i hi hmu; exact absurd hmu (Nat.not_lt_zero _)
          | succ n_38 ih_38 =>
            intro i hi hmu H locs hM ls hl
            refine lv_iload_n hx hb dX4_digest_38 rfl (lv_at hl 0 rfl) ?_
            refine lv_aload_n hx hb dX4_digest_39 rfl (lv_at hl 2 rfl) ?_
            refine fb_get (r := o) hx hb hown hts hin4 hM ((hA.1).1) (ce4 ((hA.1).2)) rfl 1 (by decide) (hts (.fieldLink RX4 43 "FeatherBedsModel" "sacks" "I") (by decide +kernel)) (fun _ h9 => h9) (v := .int (nI ns)) (congrArg (fun z => some (Value.int z)) ((t0_f I o (by decide)).trans hF.1)) dX4_digest_40 ?_
            refine lv_icmp_ge (tgt := 83) hx hb dX4_digest_43 (by decide) (fun c_2 => ?_) (fun c_2 => ?_)
            · skip
              have e_i : i = ns := by have := (nI_leI (a := ns) (b := i) (by omega) (by omega)).mp c_2; omega
              have e_i := Eq.symm e_i
              subst e_i
              refine lv_iconst (v := 0) hx hb dX4_digest_83 (by decide) ?_
              refine lv_istore_n (lv' := [(3, .int 0), (1, .long (dgr (dg 617 (cnm I o ns nt cf rf) 9) (dS I o) 8 ns)), (0, .ref (sa S o))]) hx hb dX4_digest_84 rfl hl (by decide) rfl (fun ls hl => ?_)
              have LP_85 : ∀ (n : Nat) (i : Nat) (hi : i ≤ 5), 5 - i < n → ∀ (H : Heap) (locs : List Loc), fb_M D y A s (S, V, (sT V), (t0 I o)) H locs → ∀ ls, lv_has ls 6 [(3, .int (nI i)), (1, .long (dgr (dgr (dg 617 (cnm I o ns nt cf rf) 9) (dS I o) 8 ns) (dH I o) 9 i)), (0, .ref (sa S o))] → W pv l ev rm_X4_digest s mv ([.ref (sa S o)] : List Value).toArray below meth cv H locs 0 0 Q (F0 mv 85 ls []) := by
                intro n_85
                induction n_85 with
                | zero => intro i hi hmu; exact absurd hmu (Nat.not_lt_zero _)
                | succ n_85 ih_85 =>
                  intro i hi hmu H locs hM ls hl
                  refine lv_iload_n hx hb dX4_digest_85 rfl (lv_at hl 0 rfl) ?_
                  refine lv_iconst (v := 5) hx hb dX4_digest_86 (by decide) ?_
                  refine lv_icmp_ge (tgt := 127) hx hb dX4_digest_87 (by decide) (fun c_3 => ?_) (fun c_3 => ?_)
                  · skip
                    have e_i : i = 5 := by have := (nI_leI (a := 5) (b := i) (by omega) (by omega)).mp c_3; omega
                    have e_i := Eq.symm e_i
                    subst e_i
                    refine lv_iconst (v := 0) hx hb dX4_digest_127 (by decide) ?_
                    refine lv_istore_n (lv' := [(3, .int 0), (1, .long (dgr (dgr (dg 617 (cnm I o ns nt cf rf) 9) (dS I o) 8 ns) (dH I o) 9 5)), (0, .ref (sa S o))]) hx hb dX4_digest_128 rfl hl (by decide) rfl (fun ls hl => ?_)
                    have LP_129 : ∀ (n : Nat) (t : Nat) (P : Nat → Int32) (g : Nat → Int32) (ht : t ≤ nt) (hP : ∀ z, z < t → pts (cf z) (cf z * rf z) (I (o + 20 + z)) (P z)), nt - t < n → ∀ (H : Heap) (locs : List Loc), fb_M D y A s (S, V, (sT V), (va_up (t0 I o) (o + 7) g)) H locs → ∀ ls, lv_has ls 6 [(3, .int (nI t)), (1, .long (dg4 I o ns nt cf rf df P t)), (0, .ref (sa S o))] → W pv l ev rm_X4_digest s mv ([.ref (sa S o)] : List Value).toArray below meth cv H locs 0 0 Q (F0 mv 129 ls []) := by
                      intro n_129
                      induction n_129 with
                      | zero => intro t P g ht hP hmu; exact absurd hmu (Nat.not_lt_zero _)
                      | succ n_129 ih_129 =>
                        intro t P g ht hP hmu H locs hM ls hl
                        refine lv_iload_n hx hb dX4_digest_129 rfl (lv_at hl 0 rfl) ?_
                        refine lv_aload_n hx hb dX4_digest_130 rfl (lv_at hl 2 rfl) ?_
                        refine fb_get (r := o) hx hb hown hts hin4 hM ((hA.1).1) (ce4 ((hA.1).2)) rfl 6 (by decide) (hts (.fieldLink RX4 50 "FeatherBedsModel" "ticks" "I") (by decide +kernel)) (fun _ h9 => h9) (v := .int (nI nt)) (congrArg (fun z => some (Value.int z)) ((congrFun (va_up_ne _ _ (show o ≠ o + 7 by omega)) 6).trans ((t0_f I o (by decide)).trans hF.2.1))) dX4_digest_131 ?_
                        refine lv_icmp_ge (tgt := 226) hx hb dX4_digest_134 (by decide) (fun c_4 => ?_) (fun c_4 => ?_)
                        · skip
                          have e_t : t = nt := by have := (nI_leI (a := nt) (b := t) (by omega) (by omega)).mp c_4; omega
                          have e_t := Eq.symm e_t
                          subst e_t
                          refine lv_lload_n hx hb dX4_digest_226 rfl (lv_at hl 1 rfl) ?_
                          rw [hQ]
                          exact fb_lret hx hb hr hlocks hM (⟨P, g, hP, rfl, rfl⟩) dX4_digest_227
                        · skip
                          have htk : t < nt := Nat.lt_of_not_le (fun h => c_4 (nI_le h (by omega)))
                          have hcr := hF.cr htk
                          refine lv_iconst (v := 0) hx hb dX4_digest_137 (by decide) ?_
                          refine lv_istore (lv' := [(4, .int 0), (3, .int (nI t)), (1, .long (dg4 I o ns nt cf rf df P t)), (0, .ref (sa S o))]) hx hb dX4_digest_138 hl (by decide) rfl (fun ls hl => ?_)
                          have LP_140 : ∀ (n : Nat) (k : Nat) (p : Int32) (g2 : Nat → Int32) (hk : k ≤ 9) (hp9 : k = 9 → pts (cf t) (cf t * rf t) (I (o + 20 + t)) p), 9 - k < n → ∀ (H : Heap) (locs : List Loc), fb_M D y A s (S, V, (sT V), (va_up (t0 I o) (o + 7) g2)) H locs → ∀ ls, lv_has ls 6 [(4, .int (nI k)), (3, .int (nI t)), (1, .long (dg (dg4 I o ns nt cf rf df P t) (dGt I o t cf rf df p) k)), (0, .ref (sa S o))] → W pv l ev rm_X4_digest s mv ([.ref (sa S o)] : List Value).toArray below meth cv H locs 0 0 Q (F0 mv 140 ls []) := by
                            intro n_140
                            induction n_140 with
                            | zero => intro k p g2 hk hp9 hmu; exact absurd hmu (Nat.not_lt_zero _)
                            | succ n_140 ih_140 =>
                              intro k p g2 hk hp9 hmu H locs hM ls hl
                              refine lv_iload hx hb dX4_digest_140 (lv_at hl 0 rfl) ?_
                              refine lv_bipush (v := 9) hx hb dX4_digest_142 (by decide) ?_
                              refine lv_icmp_ge (tgt := 168) hx hb dX4_digest_144 (by decide) (fun c_5 => ?_) (fun c_5 => ?_)
                              · skip
                                have e_k : k = 9 := by have := (nI_leI (a := 9) (b := k) (by omega) (by omega)).mp c_5; omega
                                have e_k := Eq.symm e_k
                                subst e_k
                                refine lv_iconst (v := 0) hx hb dX4_digest_168 (by decide) ?_
                                refine lv_istore (lv' := [(4, .int 0), (3, .int (nI t)), (1, .long (dg (dg4 I o ns nt cf rf df P t) (dGt I o t cf rf df p) 9)), (0, .ref (sa S o))]) hx hb dX4_digest_169 hl (by decide) rfl (fun ls hl => ?_)
                                have LP_171 : ∀ (n : Nat) (i : Nat) (hi : i ≤ cf t * rf t), cf t * rf t - i < n → ∀ (H : Heap) (locs : List Loc), fb_M D y A s (S, V, (sT V), (va_up (t0 I o) (o + 7) g2)) H locs → ∀ ls, lv_has ls 6 [(4, .int (nI i)), (3, .int (nI t)), (1, .long (dgr (dg (dg4 I o ns nt cf rf df P t) (dGt I o t cf rf df p) 9) (dF I o cf rf t) 10 i)), (0, .ref (sa S o))] → W pv l ev rm_X4_digest s mv ([.ref (sa S o)] : List Value).toArray below meth cv H locs 0 0 Q (F0 mv 171 ls []) := by
                                  intro n_171
                                  induction n_171 with
                                  | zero => intro i hi hmu; exact absurd hmu (Nat.not_lt_zero _)
                                  | succ n_171 ih_171 =>
                                    intro i hi hmu H locs hM ls hl
                                    refine lv_iload hx hb dX4_digest_171 (lv_at hl 0 rfl) ?_
                                    refine lv_aload_n hx hb dX4_digest_173 rfl (lv_at hl 3 rfl) ?_
                                    refine lv_iload_n hx hb dX4_digest_174 rfl (lv_at hl 1 rfl) ?_
                                    refine fb_callVi (r := o) hx hb hml hown hts hM ((hA.1).1) (ce4 ((hA.1).2)) rfl (As := [.int (nI t)]) (rest := [.int (nI i)]) (c_X4_squaresOf D y l S V (va_up (t0 I o) (o + 7) g2) o nt cf rf hA ns df (hF.t0.up _ (by omega) (by omega) (by omega)) t htk) (cwV 1 hts gX4_digest_X4_squaresOf rfl rfl rfl (by decide +kernel) ⟨Nat.le_of_ble_eq_true rfl, Nat.le_of_ble_eq_true rfl⟩) rfl hl.1 rfl (Nat.le_of_ble_eq_true rfl) dX4_digest_175 ⟨Nat.le_of_ble_eq_true rfl, Nat.le_of_ble_eq_true rfl⟩ (fun v_6 u H locs hp hM => ?_)
                                    obtain ⟨hv_, hu_⟩ := hp
                                    have hv_ := Eq.symm hv_
                                    have hu_ := Eq.symm hu_
                                    subst hv_
                                    subst hu_
                                    refine lv_icmp_ge (tgt := 220) hx hb dX4_digest_178 (by decide) (fun c_7 => ?_) (fun c_7 => ?_)
                                    · skip
                                      have e_i : i = (cf t * rf t) := by have := (nI_leI (a := (cf t * rf t)) (b := i) (by omega) (by omega)).mp c_7; omega
                                      have e_i := Eq.symm e_i
                                      subst e_i
                                      refine lv_iinc (v := nI (t + 1)) (lv' := [(3, .int (nI (t + 1))), (4, .int (nI (cf t * rf t))), (1, .long (dgr (dg (dg4 I o ns nt cf rf df P t) (dGt I o t cf rf df p) 9) (dF I o cf rf t) 10 (cf t * rf t))), (0, .ref (sa S o))]) hx hb dX4_digest_220 hl (k := 1) rfl (nI_1 _) (by decide) rfl (fun ls hl => ?_)
                                      refine lv_goto (tgt := 129) hx hb dX4_digest_223 (by decide) ?_
                                      rw [dg4_s] at hl
                                      exact ih_129 (t + 1) (va_up P t p) g2 (by omega) (fun z hz => by rcases Nat.lt_or_ge z t with h | h; exact (by rw [va_up_ne _ _ (show z ≠ t by omega)]; exact hP z h); exact (by rw [show z = t by omega, va_up_self]; exact hp9 rfl)) (by omega) _ _ hM ls (lv_sub hl [0, 2, 3] rfl)
                                    · skip
                                      have hik : i < (cf t * rf t) := Nat.lt_of_not_le (fun h => c_7 (nI_le h (by omega)))
                                      refine lv_iconst (v := 0) hx hb dX4_digest_181 (by decide) ?_
                                      refine lv_istore (lv' := [(5, .int 0), (4, .int (nI i)), (3, .int (nI t)), (1, .long (dgr (dg (dg4 I o ns nt cf rf df P t) (dGt I o t cf rf df p) 9) (dF I o cf rf t) 10 i)), (0, .ref (sa S o))]) hx hb dX4_digest_182 hl (by decide) rfl (fun ls hl => ?_)
                                      have LP_184 : ∀ (n : Nat) (k : Nat) (hk : k ≤ 10), 10 - k < n → ∀ (H : Heap) (locs : List Loc), fb_M D y A s (S, V, (sT V), (va_up (t0 I o) (o + 7) g2)) H locs → ∀ ls, lv_has ls 6 [(5, .int (nI k)), (4, .int (nI i)), (3, .int (nI t)), (1, .long (dg (dgr (dg (dg4 I o ns nt cf rf df P t) (dGt I o t cf rf df p) 9) (dF I o cf rf t) 10 i) (dF I o cf rf t i) k)), (0, .ref (sa S o))] → W pv l ev rm_X4_digest s mv ([.ref (sa S o)] : List Value).toArray below meth cv H locs 0 0 Q (F0 mv 184 ls []) := by
                                        intro n_184
                                        induction n_184 with
                                        | zero => intro k hk hmu; exact absurd hmu (Nat.not_lt_zero _)
                                        | succ n_184 ih_184 =>
                                          intro k hk hmu H locs hM ls hl
                                          refine lv_iload hx hb dX4_digest_184 (lv_at hl 0 rfl) ?_
                                          refine lv_bipush (v := 10) hx hb dX4_digest_186 (by decide) ?_
                                          refine lv_icmp_ge (tgt := 214) hx hb dX4_digest_188 (by decide) (fun c_8 => ?_) (fun c_8 => ?_)
                                          · skip
                                            have e_k : k = 10 := by have := (nI_leI (a := 10) (b := k) (by omega) (by omega)).mp c_8; omega
                                            have e_k := Eq.symm e_k
                                            subst e_k
                                            refine lv_iinc (v := nI (i + 1)) (lv' := [(4, .int (nI (i + 1))), (5, .int (nI 10)), (3, .int (nI t)), (1, .long (dg (dgr (dg (dg4 I o ns nt cf rf df P t) (dGt I o t cf rf df p) 9) (dF I o cf rf t) 10 i) (dF I o cf rf t i) 10)), (0, .ref (sa S o))]) hx hb dX4_digest_214 hl (k := 1) rfl (nI_1 _) (by decide) rfl (fun ls hl => ?_)
                                            refine lv_goto (tgt := 171) hx hb dX4_digest_217 (by decide) ?_
                                            exact ih_171 (i + 1) (by omega) (by omega) _ _ hM ls (lv_sub hl [0, 2, 3, 4] rfl)
                                          · skip
                                            have hkk : k < 10 := Nat.lt_of_not_le (fun h => c_8 (nI_le h (by omega)))
                                            refine lv_lload_n hx hb dX4_digest_191 rfl (lv_at hl 3 rfl) ?_
                                            refine lv_ldc2 (v := 31) hx hb hown (hts (.constantLong RX4 170 31) (by decide +kernel)) dX4_digest_192 ?_
                                            refine lv_lmul hx hb dX4_digest_195 ?_
                                            refine lv_aload_n hx hb dX4_digest_196 rfl (lv_at hl 4 rfl) ?_
                                            refine lv_iload_n hx hb dX4_digest_197 rfl (lv_at hl 2 rfl) ?_
                                            refine lv_iload hx hb dX4_digest_198 (lv_at hl 1 rfl) ?_
                                            refine lv_iload hx hb dX4_digest_200 (lv_at hl 0 rfl) ?_
                                            refine fb_callVi (r := o) hx hb hml hown hts hM ((hA.1).1) (ce4 ((hA.1).2)) rfl (As := [.int (nI t), .int (nI i), .int (nI k)]) (rest := [.long ((dg (dgr (dg (dg4 I o ns nt cf rf df P t) (dGt I o t cf rf df p) 9) (dF I o cf rf t) 10 i) (dF I o cf rf t i) k) * 31)]) (c_X4_squareTold_v D y l S V (va_up (t0 I o) (o + 7) g2) o nt cf rf hA ns df (hF.t0.up _ (by omega) (by omega) (by omega)) t htk i hik k hkk) (cwV 3 hts gX4_digest_X4_squareTold rfl rfl rfl (by decide +kernel) ⟨Nat.le_of_ble_eq_true rfl, Nat.le_of_ble_eq_true rfl⟩) rfl hl.1 rfl (Nat.le_of_ble_eq_true rfl) dX4_digest_202 ⟨Nat.le_of_ble_eq_true rfl, Nat.le_of_ble_eq_true rfl⟩ (fun v_9 u H locs hp hM => ?_)
                                            obtain ⟨hv_, hu_⟩ := hp
                                            have hv_ := Eq.symm hv_
                                            have hu_ := Eq.symm hu_
                                            subst hv_
                                            subst hu_
                                            rw [show (sqv (cf t) (cf t * rf t) ((va_up (t0 I o) (o + 7) g2) (o + 20 + t)) ((va_up (t0 I o) (o + 7) g2) (o + 10 + t)) i k : Int32) = dF I o cf rf t i k from by rw [va_up_ne _ _ (show o + 20 + t ≠ o + 7 by omega), va_up_ne _ _ (show o + 10 + t ≠ o + 7 by omega), t0_ne I (show o + 20 + t ≠ o by omega), t0_ne I (show o + 10 + t ≠ o by omega)]; rfl]
                                            refine lv_i2l hx hb dX4_digest_205 rfl ?_
                                            refine lv_ladd hx hb dX4_digest_206 ?_
                                            refine lv_lstore_n (lv' := [(1, .long (((dg (dgr (dg (dg4 I o ns nt cf rf df P t) (dGt I o t cf rf df p) 9) (dF I o cf rf t) 10 i) (dF I o cf rf t i) k) * 31) + ((dF I o cf rf t i k).toInt64))), (5, .int (nI k)), (4, .int (nI i)), (3, .int (nI t)), (0, .ref (sa S o))]) hx hb dX4_digest_207 rfl hl (by decide) rfl (fun ls hl => ?_)
                                            refine lv_iinc (v := nI (k + 1)) (lv' := [(5, .int (nI (k + 1))), (1, .long (((dg (dgr (dg (dg4 I o ns nt cf rf df P t) (dGt I o t cf rf df p) 9) (dF I o cf rf t) 10 i) (dF I o cf rf t i) k) * 31) + ((dF I o cf rf t i k).toInt64))), (4, .int (nI i)), (3, .int (nI t)), (0, .ref (sa S o))]) hx hb dX4_digest_208 hl (k := 1) rfl (nI_1 _) (by decide) rfl (fun ls hl => ?_)
                                            refine lv_goto (tgt := 184) hx hb dX4_digest_211 (by decide) ?_
                                            exact ih_184 (k + 1) (by omega) (by omega) _ _ hM ls (lv_sub hl [0, 2, 3, 1, 4] rfl)
                                      exact LP_184 _ 0 (by omega) (Nat.lt_succ_self _) _ _ hM ls (lv_sub hl [0, 1, 2, 3, 4] rfl)
                                exact LP_171 _ 0 (by omega) (Nat.lt_succ_self _) _ _ hM ls (lv_sub hl [0, 1, 2, 3] rfl)
                              · skip
                                have hkk : k < 9 := Nat.lt_of_not_le (fun h => c_5 (nI_le h (by omega)))
                                refine lv_lload_n hx hb dX4_digest_147 rfl (lv_at hl 2 rfl) ?_
                                refine lv_ldc2 (v := 31) hx hb hown (hts (.constantLong RX4 170 31) (by decide +kernel)) dX4_digest_148 ?_
                                refine lv_lmul hx hb dX4_digest_151 ?_
                                refine lv_aload_n hx hb dX4_digest_152 rfl (lv_at hl 3 rfl) ?_
                                refine lv_iload_n hx hb dX4_digest_153 rfl (lv_at hl 1 rfl) ?_
                                refine lv_iload hx hb dX4_digest_154 (lv_at hl 0 rfl) ?_
                                refine fb_callVi (r := o) hx hb hml hown hts hM ((hA.1).1) (ce4 ((hA.1).2)) rfl (As := [.int (nI t), .int (nI k)]) (rest := [.long ((dg (dg4 I o ns nt cf rf df P t) (dGt I o t cf rf df p) k) * 31)]) (c_X4_tickTold_v D y l S V (va_up (t0 I o) (o + 7) g2) o nt cf rf hA ns df (hF.t0.up _ (by omega) (by omega) (by omega)) t htk k hkk) (cwV 2 hts gX4_digest_X4_tickTold rfl rfl rfl (by decide +kernel) ⟨Nat.le_of_ble_eq_true rfl, Nat.le_of_ble_eq_true rfl⟩) rfl hl.1 rfl (Nat.le_of_ble_eq_true rfl) dX4_digest_156 ⟨Nat.le_of_ble_eq_true rfl, Nat.le_of_ble_eq_true rfl⟩ (fun v_10 u H locs hp hM => ?_)
                                obtain ⟨p2, gg, hp2, hv_, hu_⟩ := hp
                                have hv_ := Eq.symm hv_
                                have hu_ := Eq.symm hu_
                                subst hv_
                                subst hu_
                                rw [va_up_ne _ _ (show o + 20 + t ≠ o + 7 by omega), va_up_ne _ _ (show o + 10 + t ≠ o + 7 by omega), t0_ne I (show o + 20 + t ≠ o by omega), t0_ne I (show o + 10 + t ≠ o by omega)]
                                rw [va_up_ne _ _ (show o + 20 + t ≠ o + 7 by omega), t0_ne I (show o + 20 + t ≠ o by omega)] at hp2
                                rw [up_up] at hM
                                rw [show (tkv (cf t) (rf t) (df t) (I (o + 20 + t)) (I (o + 10 + t)) p2 k : Int32) = dGt I o t cf rf df p2 k from rfl]
                                refine lv_i2l hx hb dX4_digest_159 rfl ?_
                                refine lv_ladd hx hb dX4_digest_160 ?_
                                refine lv_lstore_n (lv' := [(1, .long (((dg (dg4 I o ns nt cf rf df P t) (dGt I o t cf rf df p) k) * 31) + ((dGt I o t cf rf df p2 k).toInt64))), (4, .int (nI k)), (3, .int (nI t)), (0, .ref (sa S o))]) hx hb dX4_digest_161 rfl hl (by decide) rfl (fun ls hl => ?_)
                                refine lv_iinc (v := nI (k + 1)) (lv' := [(4, .int (nI (k + 1))), (1, .long (((dg (dg4 I o ns nt cf rf df P t) (dGt I o t cf rf df p) k) * 31) + ((dGt I o t cf rf df p2 k).toInt64))), (3, .int (nI t)), (0, .ref (sa S o))]) hx hb dX4_digest_162 hl (k := 1) rfl (nI_1 _) (by decide) rfl (fun ls hl => ?_)
                                refine lv_goto (tgt := 140) hx hb dX4_digest_165 (by decide) ?_
                                rw [dGt_p I o t cf rf df p p2 _ (by omega)] at hl
                                exact ih_140 (k + 1) p2 gg (by omega) (fun e => hp2 (by omega)) (by omega) _ _ hM ls (lv_sub hl [0, 2, 1, 3] rfl)
                          exact LP_140 _ 0 0 g (by omega) (fun e => absurd e (by decide)) (Nat.lt_succ_self _) _ _ hM ls (lv_sub hl [0, 1, 2, 3] rfl)
                    rw [show t0 I o = va_up (t0 I o) (o + 7) ((t0 I o) (o + 7)) from (up_id _ _ _ rfl).symm] at hM
                    exact LP_129 _ 0 (fun _ => 0) ((t0 I o) (o + 7)) (by omega) (fun z h => absurd h (Nat.not_lt_zero _)) (Nat.lt_succ_self _) _ _ hM ls (lv_sub hl [0, 1, 2] rfl)
                  · skip
                    have hik : i < 5 := Nat.lt_of_not_le (fun h => c_3 (nI_le h (by omega)))
                    refine lv_iconst (v := 0) hx hb dX4_digest_90 (by decide) ?_
                    refine lv_istore (lv' := [(4, .int 0), (3, .int (nI i)), (1, .long (dgr (dgr (dg 617 (cnm I o ns nt cf rf) 9) (dS I o) 8 ns) (dH I o) 9 i)), (0, .ref (sa S o))]) hx hb dX4_digest_91 hl (by decide) rfl (fun ls hl => ?_)
                    have LP_93 : ∀ (n : Nat) (k : Nat) (hk : k ≤ 9), 9 - k < n → ∀ (H : Heap) (locs : List Loc), fb_M D y A s (S, V, (sT V), (t0 I o)) H locs → ∀ ls, lv_has ls 6 [(4, .int (nI k)), (3, .int (nI i)), (1, .long (dg (dgr (dgr (dg 617 (cnm I o ns nt cf rf) 9) (dS I o) 8 ns) (dH I o) 9 i) (dH I o i) k)), (0, .ref (sa S o))] → W pv l ev rm_X4_digest s mv ([.ref (sa S o)] : List Value).toArray below meth cv H locs 0 0 Q (F0 mv 93 ls []) := by
                      intro n_93
                      induction n_93 with
                      | zero => intro k hk hmu; exact absurd hmu (Nat.not_lt_zero _)
                      | succ n_93 ih_93 =>
                        intro k hk hmu H locs hM ls hl
                        refine lv_iload hx hb dX4_digest_93 (lv_at hl 0 rfl) ?_
                        refine lv_bipush (v := 9) hx hb dX4_digest_95 (by decide) ?_
                        refine lv_icmp_ge (tgt := 121) hx hb dX4_digest_97 (by decide) (fun c_11 => ?_) (fun c_11 => ?_)
                        · skip
                          have e_k : k = 9 := by have := (nI_leI (a := 9) (b := k) (by omega) (by omega)).mp c_11; omega
                          have e_k := Eq.symm e_k
                          subst e_k
                          refine lv_iinc (v := nI (i + 1)) (lv' := [(3, .int (nI (i + 1))), (4, .int (nI 9)), (1, .long (dg (dgr (dgr (dg 617 (cnm I o ns nt cf rf) 9) (dS I o) 8 ns) (dH I o) 9 i) (dH I o i) 9)), (0, .ref (sa S o))]) hx hb dX4_digest_121 hl (k := 1) rfl (nI_1 _) (by decide) rfl (fun ls hl => ?_)
                          refine lv_goto (tgt := 85) hx hb dX4_digest_124 (by decide) ?_
                          exact ih_85 (i + 1) (by omega) (by omega) _ _ hM ls (lv_sub hl [0, 2, 3] rfl)
                        · skip
                          have hkk : k < 9 := Nat.lt_of_not_le (fun h => c_11 (nI_le h (by omega)))
                          refine lv_lload_n hx hb dX4_digest_100 rfl (lv_at hl 2 rfl) ?_
                          refine lv_ldc2 (v := 31) hx hb hown (hts (.constantLong RX4 170 31) (by decide +kernel)) dX4_digest_101 ?_
                          refine lv_lmul hx hb dX4_digest_104 ?_
                          refine lv_aload_n hx hb dX4_digest_105 rfl (lv_at hl 3 rfl) ?_
                          refine lv_iload_n hx hb dX4_digest_106 rfl (lv_at hl 1 rfl) ?_
                          refine lv_iload hx hb dX4_digest_107 (lv_at hl 0 rfl) ?_
                          refine fb_callVi (r := o) hx hb hml hown hts hM ((hA.1).1) (ce4 ((hA.1).2)) rfl (As := [.int (nI i), .int (nI k)]) (rest := [.long ((dg (dgr (dgr (dg 617 (cnm I o ns nt cf rf) 9) (dS I o) 8 ns) (dH I o) 9 i) (dH I o i) k) * 31)]) (c_X4_chamberTold_v D y l S V (t0 I o) o nt cf rf hA ns df hF.t0 i hik k hkk) (cwV 2 hts gX4_digest_X4_chamberTold rfl rfl rfl (by decide +kernel) ⟨Nat.le_of_ble_eq_true rfl, Nat.le_of_ble_eq_true rfl⟩) rfl hl.1 rfl (Nat.le_of_ble_eq_true rfl) dX4_digest_109 ⟨Nat.le_of_ble_eq_true rfl, Nat.le_of_ble_eq_true rfl⟩ (fun v_12 u H locs hp hM => ?_)
                          obtain ⟨hv_, hu_⟩ := hp
                          have hv_ := Eq.symm hv_
                          have hu_ := Eq.symm hu_
                          subst hv_
                          subst hu_
                          rw [show (chTm (t0 I o (o + 3)) i k : Int32) = dH I o i k from congrFun (congrFun (dH_t0 I o) i) k]
                          refine lv_i2l hx hb dX4_digest_112 rfl ?_
                          refine lv_ladd hx hb dX4_digest_113 ?_
                          refine lv_lstore_n (lv' := [(1, .long (((dg (dgr (dgr (dg 617 (cnm I o ns nt cf rf) 9) (dS I o) 8 ns) (dH I o) 9 i) (dH I o i) k) * 31) + ((dH I o i k).toInt64))), (4, .int (nI k)), (3, .int (nI i)), (0, .ref (sa S o))]) hx hb dX4_digest_114 rfl hl (by decide) rfl (fun ls hl => ?_)
                          refine lv_iinc (v := nI (k + 1)) (lv' := [(4, .int (nI (k + 1))), (1, .long (((dg (dgr (dgr (dg 617 (cnm I o ns nt cf rf) 9) (dS I o) 8 ns) (dH I o) 9 i) (dH I o i) k) * 31) + ((dH I o i k).toInt64))), (3, .int (nI i)), (0, .ref (sa S o))]) hx hb dX4_digest_115 hl (k := 1) rfl (nI_1 _) (by decide) rfl (fun ls hl => ?_)
                          refine lv_goto (tgt := 93) hx hb dX4_digest_118 (by decide) ?_
                          exact ih_93 (k + 1) (by omega) (by omega) _ _ hM ls (lv_sub hl [0, 2, 1, 3] rfl)
                    exact LP_93 _ 0 (by omega) (Nat.lt_succ_self _) _ _ hM ls (lv_sub hl [0, 1, 2, 3] rfl)
              exact LP_85 _ 0 (by omega) (Nat.lt_succ_self _) _ _ hM ls (lv_sub hl [0, 1, 2] rfl)
            · skip
              have hik : i < ns := Nat.lt_of_not_le (fun h => c_2 (nI_le h (by omega)))
              refine lv_iconst (v := 0) hx hb dX4_digest_46 (by decide) ?_
              refine lv_istore (lv' := [(4, .int 0), (3, .int (nI i)), (1, .long (dgr (dg 617 (cnm I o ns nt cf rf) 9) (dS I o) 8 i)), (0, .ref (sa S o))]) hx hb dX4_digest_47 hl (by decide) rfl (fun ls hl => ?_)
              have LP_49 : ∀ (n : Nat) (k : Nat) (hk : k ≤ 8), 8 - k < n → ∀ (H : Heap) (locs : List Loc), fb_M D y A s (S, V, (sT V), (t0 I o)) H locs → ∀ ls, lv_has ls 6 [(4, .int (nI k)), (3, .int (nI i)), (1, .long (dg (dgr (dg 617 (cnm I o ns nt cf rf) 9) (dS I o) 8 i) (dS I o i) k)), (0, .ref (sa S o))] → W pv l ev rm_X4_digest s mv ([.ref (sa S o)] : List Value).toArray below meth cv H locs 0 0 Q (F0 mv 49 ls []) := by
                intro n_49
                induction n_49 with
                | zero => intro k hk hmu; exact absurd hmu (Nat.not_lt_zero _)
                | succ n_49 ih_49 =>
                  intro k hk hmu H locs hM ls hl
                  refine lv_iload hx hb dX4_digest_49 (lv_at hl 0 rfl) ?_
                  refine lv_bipush (v := 8) hx hb dX4_digest_51 (by decide) ?_
                  refine lv_icmp_ge (tgt := 77) hx hb dX4_digest_53 (by decide) (fun c_13 => ?_) (fun c_13 => ?_)
                  · skip
                    have e_k : k = 8 := by have := (nI_leI (a := 8) (b := k) (by omega) (by omega)).mp c_13; omega
                    have e_k := Eq.symm e_k
                    subst e_k
                    refine lv_iinc (v := nI (i + 1)) (lv' := [(3, .int (nI (i + 1))), (4, .int (nI 8)), (1, .long (dg (dgr (dg 617 (cnm I o ns nt cf rf) 9) (dS I o) 8 i) (dS I o i) 8)), (0, .ref (sa S o))]) hx hb dX4_digest_77 hl (k := 1) rfl (nI_1 _) (by decide) rfl (fun ls hl => ?_)
                    refine lv_goto (tgt := 38) hx hb dX4_digest_80 (by decide) ?_
                    exact ih_38 (i + 1) (by omega) (by omega) _ _ hM ls (lv_sub hl [0, 2, 3] rfl)
                  · skip
                    have hkk : k < 8 := Nat.lt_of_not_le (fun h => c_13 (nI_le h (by omega)))
                    refine lv_lload_n hx hb dX4_digest_56 rfl (lv_at hl 2 rfl) ?_
                    refine lv_ldc2 (v := 31) hx hb hown (hts (.constantLong RX4 170 31) (by decide +kernel)) dX4_digest_57 ?_
                    refine lv_lmul hx hb dX4_digest_60 ?_
                    refine lv_aload_n hx hb dX4_digest_61 rfl (lv_at hl 3 rfl) ?_
                    refine lv_iload_n hx hb dX4_digest_62 rfl (lv_at hl 1 rfl) ?_
                    refine lv_iload hx hb dX4_digest_63 (lv_at hl 0 rfl) ?_
                    refine fb_callVi (r := o) hx hb hml hown hts hM ((hA.1).1) (ce4 ((hA.1).2)) rfl (As := [.int (nI i), .int (nI k)]) (rest := [.long ((dg (dgr (dg 617 (cnm I o ns nt cf rf) 9) (dS I o) 8 i) (dS I o i) k) * 31)]) (c_X4_sackTold D y l S V (t0 I o) o nt cf rf hA ns df hF.t0 i hik k hkk) (cwV 2 hts gX4_digest_X4_sackTold rfl rfl rfl (by decide +kernel) ⟨Nat.le_of_ble_eq_true rfl, Nat.le_of_ble_eq_true rfl⟩) rfl hl.1 rfl (Nat.le_of_ble_eq_true rfl) dX4_digest_65 ⟨Nat.le_of_ble_eq_true rfl, Nat.le_of_ble_eq_true rfl⟩ (fun v_14 u H locs hp hM => ?_)
                    obtain ⟨hv_, hu_⟩ := hp
                    have hv_ := Eq.symm hv_
                    have hu_ := Eq.symm hu_
                    subst hv_
                    subst hu_
                    rw [show (sckT (mx (t0 I o (o + 1)) i) (t0 I o (o + 2) i) (nI k) : Int32) = dS I o i k from congrFun (congrFun (dS_t0 I o) i) k]
                    refine lv_i2l hx hb dX4_digest_68 rfl ?_
                    refine lv_ladd hx hb dX4_digest_69 ?_
                    refine lv_lstore_n (lv' := [(1, .long (((dg (dgr (dg 617 (cnm I o ns nt cf rf) 9) (dS I o) 8 i) (dS I o i) k) * 31) + ((dS I o i k).toInt64))), (4, .int (nI k)), (3, .int (nI i)), (0, .ref (sa S o))]) hx hb dX4_digest_70 rfl hl (by decide) rfl (fun ls hl => ?_)
                    refine lv_iinc (v := nI (k + 1)) (lv' := [(4, .int (nI (k + 1))), (1, .long (((dg (dgr (dg 617 (cnm I o ns nt cf rf) 9) (dS I o) 8 i) (dS I o i) k) * 31) + ((dS I o i k).toInt64))), (3, .int (nI i)), (0, .ref (sa S o))]) hx hb dX4_digest_71 hl (k := 1) rfl (nI_1 _) (by decide) rfl (fun ls hl => ?_)
                    refine lv_goto (tgt := 49) hx hb dX4_digest_74 (by decide) ?_
                    exact ih_49 (k + 1) (by omega) (by omega) _ _ hM ls (lv_sub hl [0, 2, 1, 3] rfl)
              exact LP_49 _ 0 (by omega) (Nat.lt_succ_self _) _ _ hM ls (lv_sub hl [0, 1, 2, 3] rfl)
        exact LP_38 _ 0 (by omega) (Nat.lt_succ_self _) _ _ hM ls (lv_sub hl [0, 1, 2] rfl)
      · skip
        have hkk : k < 9 := Nat.lt_of_not_le (fun h => c_1 (nI_le h (by omega)))
        refine lv_lload_n hx hb dX4_digest_17 rfl (lv_at hl 1 rfl) ?_
        refine lv_ldc2 (v := 31) hx hb hown (hts (.constantLong RX4 170 31) (by decide +kernel)) dX4_digest_18 ?_
        refine lv_lmul hx hb dX4_digest_21 ?_
        refine lv_aload_n hx hb dX4_digest_22 rfl (lv_at hl 2 rfl) ?_
        refine lv_iload_n hx hb dX4_digest_23 rfl (lv_at hl 0 rfl) ?_
        refine fb_callVi (r := o) hx hb hml hown hts hM ((hA.1).1) (ce4 ((hA.1).2)) rfl (As := [.int (nI k)]) (rest := [.long ((dg 617 (cnm I o ns nt cf rf) k) * 31)]) (c_X4_counted_v D y l S V (t0 I o) o nt cf rf hA ns df hF.t0 k hkk) (cwV 1 hts gX4_digest_X4_counted rfl rfl rfl (by decide +kernel) ⟨Nat.le_of_ble_eq_true rfl, Nat.le_of_ble_eq_true rfl⟩) rfl hl.1 rfl (Nat.le_of_ble_eq_true rfl) dX4_digest_24 ⟨Nat.le_of_ble_eq_true rfl, Nat.le_of_ble_eq_true rfl⟩ (fun v_15 u H locs hp hM => ?_)
        obtain ⟨hv_, hu_⟩ := hp
        have hv_ := Eq.symm hv_
        have hu_ := Eq.symm hu_
        subst hv_
        subst hu_
        rw [show (cnm (t0 I o) o ns nt cf rf k : Int32) = cnm I o ns nt cf rf k from cnm_t0 I o ns nt cf rf k]
        refine lv_i2l hx hb dX4_digest_27 rfl ?_
        refine lv_ladd hx hb dX4_digest_28 ?_
        refine lv_lstore_n (lv' := [(1, .long (((dg 617 (cnm I o ns nt cf rf) k) * 31) + ((cnm I o ns nt cf rf k).toInt64))), (3, .int (nI k)), (0, .ref (sa S o))]) hx hb dX4_digest_29 rfl hl (by decide) rfl (fun ls hl => ?_)
        refine lv_iinc (v := nI (k + 1)) (lv' := [(3, .int (nI (k + 1))), (1, .long (((dg 617 (cnm I o ns nt cf rf) k) * 31) + ((cnm I o ns nt cf rf k).toInt64))), (0, .ref (sa S o))]) hx hb dX4_digest_30 hl (k := 1) rfl (nI_1 _) (by decide) rfl (fun ls hl => ?_)
        refine lv_goto (tgt := 11) hx hb dX4_digest_33 (by decide) ?_
        exact ih_11 (k + 1) (by omega) (by omega) _ _ hM ls (lv_sub hl [0, 1, 2] rfl)
  exact LP_11 _ 0 (by omega) (Nat.lt_succ_self _) _ _ hM ls (lv_sub hl [0, 1, 2] rfl)
