abbrev rm_X4_parts : Room := { frames := 4, cells := 0, slots := 0, locals := 90 }
set_option maxHeartbeats 4000000 in
set_option maxRecDepth 100000 in
theorem c_X4_parts (D : va_G) (y : Nat → ClassId) (l : Launch) (S : fb_Sh) (V I : fb_V) (o nt : Nat) (cf rf : Nat → Nat) (hA : MdAt S o nt cf rf) (ns : Nat) (df : Nat → Nat) (hF : MF I o ns nt cf rf df) (t : Nat) (ht : t < nt) : CI D y l yX4_parts wsX4_parts rm_X4_parts [.ref (sa S o), .int (nI t)] (S, V, (sT V), I) (fun z u => ∃ L : Nat → Nat, (∀ j, L j ≤ j) ∧ conn (cf t) (cf t * rf t) (I (o + 20 + t)) L ∧ (∀ i, i < 2 * (cf t * rf t) → opn (cf t) (cf t * rf t) (I (o + 20 + t)) (i / 2) (i % 2) = true → L (i / 2) = L (oft (cf t) (i / 2) (i % 2))) ∧ z = nI (pcnt L (cf t * rf t)) ∧ ∃ g, u = (S, V, sT V, va_up I (o + 7) g)) 0 0 := by
  refine CI.of (cc := cX4_parts) (maxL := 7) (ret := (some .int)) (by decide) rfl (Nat.le_of_ble_eq_true rfl) ?_
  intro pv ev s mv below meth cv A hx hb hml hr hown hts hlocks hname hM ls hl
  have hown : s.vm.findClass RX4 = some mv.cls := hown
  have hl : lv_has ls 7 [(0, .ref (sa S o)), (1, .int (nI t))] := hl
  have hin4 : ∀ x ∈ wsX40, x ∈ wsX4_parts := by decide +kernel
  obtain ⟨Q, hQ⟩ : ∃ Q, Q = MQ below (va_Qi (fun z u => ∃ L : Nat → Nat, (∀ j, L j ≤ j) ∧ conn (cf t) (cf t * rf t) (I (o + 20 + t)) L ∧ (∀ i, i < 2 * (cf t * rf t) → opn (cf t) (cf t * rf t) (I (o + 20 + t)) (i / 2) (i % 2) = true → L (i / 2) = L (oft (cf t) (i / 2) (i % 2))) ∧ z = nI (pcnt L (cf t * rf t)) ∧ ∃ g, u = (S, V, sT V, va_up I (o + 7) g)) (fun u t => fb_P D y A u t) A) (([.ref (sa S o), .int (nI t)] : List Value).toArray) s 0 0 A := ⟨_, rfl⟩
  rw [← hQ]
  have hns : ns ≤ 12 := hF.2.2.1
  have hnt : nt ≤ 6 := hF.2.2.2.1
  have hcr := hF.cr ht
  have htF := hF.2.2.2.2.1 t ht
  have hc1 : 1 ≤ cf t := htF.2.2.2.1
  refine lv_aload_n hx hb dX4_parts_0 rfl (lv_at hl 0 rfl) ?_
  refine lv_iload_n hx hb dX4_parts_1 rfl (lv_at hl 1 rfl) ?_
  refine fb_callVi (r := o) hx hb hml hown hts hM ((hA.1).1) (ce4 ((hA.1).2)) rfl (As := [.int (nI t)]) (rest := []) (c_X4_squaresOf D y l S V I o nt cf rf hA ns df hF t ht) (cwV 1 hts gX4_parts_X4_squaresOf rfl rfl rfl (by decide +kernel) ⟨Nat.le_of_ble_eq_true rfl, Nat.le_of_ble_eq_true rfl⟩) rfl hl.1 rfl (Nat.le_of_ble_eq_true rfl) dX4_parts_2 ⟨Nat.le_of_ble_eq_true rfl, Nat.le_of_ble_eq_true rfl⟩ (fun v_1 u H locs hp hM => ?_)
  obtain ⟨hv_, hu_⟩ := hp
  have hv_ := Eq.symm hv_
  have hu_ := Eq.symm hu_
  subst hv_
  subst hu_
  refine lv_istore_n (lv' := [(2, .int (nI (cf t * rf t))), (0, .ref (sa S o)), (1, .int (nI t))]) hx hb dX4_parts_5 rfl hl (by decide) rfl (fun ls hl => ?_)
  refine lv_iconst (v := 0) hx hb dX4_parts_6 (by decide) ?_
  refine lv_istore_n (lv' := [(3, .int 0), (2, .int (nI (cf t * rf t))), (0, .ref (sa S o)), (1, .int (nI t))]) hx hb dX4_parts_7 rfl hl (by decide) rfl (fun ls hl => ?_)
  have LP_8 : ∀ (n : Nat) (k : Nat) (hk : k ≤ cf t * rf t), cf t * rf t - k < n → ∀ (H : Heap) (locs : List Loc), fb_M D y A s (S, V, (sT V), (va_up I (o + 7) (lbl k (fun j => j) (I (o + 7))))) H locs → ∀ ls, lv_has ls 7 [(3, .int (nI k)), (0, .ref (sa S o)), (1, .int (nI t)), (2, .int (nI (cf t * rf t)))] → W pv l ev rm_X4_parts s mv ([.ref (sa S o), .int (nI t)] : List Value).toArray below meth cv H locs 0 0 Q (F0 mv 8 ls []) := by
    intro n_8
    induction n_8 with
    | zero => intro k hk hmu; exact absurd hmu (Nat.not_lt_zero _)
    | succ n_8 ih_8 =>
      intro k hk hmu H locs hM ls hl
      refine lv_iload_n hx hb dX4_parts_8 rfl (lv_at hl 0 rfl) ?_
      refine lv_iload_n hx hb dX4_parts_9 rfl (lv_at hl 3 rfl) ?_
      refine lv_icmp_ge (tgt := 26) hx hb dX4_parts_10 (by decide) (fun c_2 => ?_) (fun c_2 => ?_)
      · skip
        have e_k : k = cf t * rf t := by have := (nI_leI (a := cf t * rf t) (b := k) (by omega) (by omega)).mp c_2; omega
        have e_k := Eq.symm e_k
        subst e_k
        refine lv_iconst (v := 1) hx hb dX4_parts_26 (by decide) ?_
        refine lv_istore_n (lv' := [(3, .int 1), (0, .ref (sa S o)), (1, .int (nI t)), (2, .int (nI (cf t * rf t)))]) hx hb dX4_parts_27 rfl hl (by decide) rfl (fun ls hl => ?_)
        have LP_28 : ∀ (n : Nat) (L : Nat → Nat) (fl : Int32) (hle : ∀ j, L j ≤ j) (hcn : conn (cf t) (cf t * rf t) (I (o + 20 + t)) L) (hfx : fl = 0 → (∀ i, i < 2 * (cf t * rf t) → opn (cf t) (cf t * rf t) (I (o + 20 + t)) (i / 2) (i % 2) = true → L (i / 2) = L (oft (cf t) (i / 2) (i % 2)))), 2 * psum L (cf t * rf t) + (if fl = 0 then 0 else 1) < n → ∀ (H : Heap) (locs : List Loc), fb_M D y A s (S, V, (sT V), (va_up I (o + 7) (lbl (cf t * rf t) L (I (o + 7))))) H locs → ∀ ls, lv_has ls 7 [(3, .int fl), (0, .ref (sa S o)), (1, .int (nI t)), (2, .int (nI (cf t * rf t)))] → W pv l ev rm_X4_parts s mv ([.ref (sa S o), .int (nI t)] : List Value).toArray below meth cv H locs 0 0 Q (F0 mv 28 ls []) := by
          intro n_28
          induction n_28 with
          | zero => intro L fl hle hcn hfx hmu; exact absurd hmu (Nat.not_lt_zero _)
          | succ n_28 ih_28 =>
            intro L fl hle hcn hfx hmu H locs hM ls hl
            refine lv_iload_n hx hb dX4_parts_28 rfl (lv_at hl 0 rfl) ?_
            refine lv_if_eq (tgt := 158) hx hb dX4_parts_29 (by decide) (fun c_3 => ?_) (fun c_3 => ?_)
            · skip
              have h29 := c_3
              refine lv_iconst (v := 0) hx hb dX4_parts_158 (by decide) ?_
              refine lv_istore (lv' := [(4, .int 0), (3, .int fl), (0, .ref (sa S o)), (1, .int (nI t)), (2, .int (nI (cf t * rf t)))]) hx hb dX4_parts_159 hl (by decide) rfl (fun ls hl => ?_)
              refine lv_iconst (v := 0) hx hb dX4_parts_161 (by decide) ?_
              refine lv_istore (lv' := [(5, .int 0), (4, .int 0), (3, .int fl), (0, .ref (sa S o)), (1, .int (nI t)), (2, .int (nI (cf t * rf t)))]) hx hb dX4_parts_162 hl (by decide) rfl (fun ls hl => ?_)
              have LP_164 : ∀ (n : Nat) (k : Nat) (hk : k ≤ cf t * rf t), cf t * rf t - k < n → ∀ (H : Heap) (locs : List Loc), fb_M D y A s (S, V, (sT V), (va_up I (o + 7) (lbl (cf t * rf t) L (I (o + 7))))) H locs → ∀ ls, lv_has ls 7 [(5, .int (nI k)), (4, .int (nI (pcnt L k))), (0, .ref (sa S o)), (1, .int (nI t)), (2, .int (nI (cf t * rf t)))] → W pv l ev rm_X4_parts s mv ([.ref (sa S o), .int (nI t)] : List Value).toArray below meth cv H locs 0 0 Q (F0 mv 164 ls []) := by
                intro n_164
                induction n_164 with
                | zero => intro k hk hmu; exact absurd hmu (Nat.not_lt_zero _)
                | succ n_164 ih_164 =>
                  intro k hk hmu H locs hM ls hl
                  refine lv_iload hx hb dX4_parts_164 (lv_at hl 0 rfl) ?_
                  refine lv_iload_n hx hb dX4_parts_166 rfl (lv_at hl 4 rfl) ?_
                  refine lv_icmp_ge (tgt := 198) hx hb dX4_parts_167 (by decide) (fun c_4 => ?_) (fun c_4 => ?_)
                  · skip
                    have e_k : k = cf t * rf t := by have := (nI_leI (a := cf t * rf t) (b := k) (by omega) (by omega)).mp c_4; omega
                    have e_k := Eq.symm e_k
                    subst e_k
                    refine lv_iload hx hb dX4_parts_198 (lv_at hl 1 rfl) ?_
                    rw [hQ]
                    exact fb_iret hx hb hr hlocks hM (⟨L, hle, hcn, hfx h29, rfl, _, rfl⟩) dX4_parts_200
                  · skip
                    have hkk : k < cf t * rf t := Nat.lt_of_not_le (fun h => c_4 (nI_le h (by omega)))
                    refine lv_iload hx hb dX4_parts_170 (lv_at hl 1 rfl) ?_
                    refine lv_aload_n hx hb dX4_parts_172 rfl (lv_at hl 2 rfl) ?_
                    refine fb_get (r := o) hx hb hown hts hin4 hM ((hA.1).1) (ce4 ((hA.1).2)) rfl 13 (by decide) (hts (.fieldLink RX4 37 "FeatherBedsModel" "part" "[I") (by decide +kernel)) (fun _ h9 => h9) (v := .ref (sa S (o + 7))) (congrArg (fun z => some (va_rf z)) ((hA.2.1).2.2.2.2.2.2)) dX4_parts_173 ?_
                    refine lv_iload hx hb dX4_parts_176 (lv_at hl 0 rfl) ?_
                    refine fb_iald (r := (o + 7)) hx hb hM ((hA.2.2.2.2.2.2.2.2.1).1) (ce6 ((hA.2.2.2.2.2.2.2.2.1).2.1)) (k := k) (nI_clamp (by omega)) (by rw [(hA.2.2.2.2.2.2.2.2.1).2.2]; exact vp_in_nI (by omega) (by omega)) dX4_parts_178 ?_
                    rw [show (va_up I (o + 7) (lbl (cf t * rf t) L (I (o + 7)))) (o + 7) k = nI (L k) from by rw [va_up_self]; exact lbl_lt _ _ (by omega)]
                    refine lv_iload hx hb dX4_parts_179 (lv_at hl 0 rfl) ?_
                    refine lv_icmp_ne (tgt := 188) hx hb dX4_parts_181 (by decide) (fun c_5 => ?_) (fun c_5 => ?_)
                    · skip
                      have ee : ¬ L k = k := fun h => c_5 (by rw [h])
                      refine lv_iconst (v := 0) hx hb dX4_parts_188 (by decide) ?_
                      refine lv_iadd hx hb dX4_parts_189 ?_
                      refine W.eq (g2 := F0 mv _ ls (.int (nI (pcnt L (k + 1))) :: [])) (by first | rfl | rw [show ((nI (pcnt L k)) + 0 : Int32) = nI (pcnt L (k + 1)) from by first | (rw [pcnt_s, if_pos ee]; exact nI_1 _) | (rw [pcnt_s, if_neg ee, Nat.add_zero]; exact Int32.add_zero _)]) ?_
                      refine lv_istore (lv' := [(4, .int (nI (pcnt L (k + 1)))), (5, .int (nI k)), (0, .ref (sa S o)), (1, .int (nI t)), (2, .int (nI (cf t * rf t)))]) hx hb dX4_parts_190 hl (by decide) rfl (fun ls hl => ?_)
                      refine lv_iinc (v := nI (k + 1)) (lv' := [(5, .int (nI (k + 1))), (4, .int (nI (pcnt L (k + 1)))), (0, .ref (sa S o)), (1, .int (nI t)), (2, .int (nI (cf t * rf t)))]) hx hb dX4_parts_192 hl (k := 1) rfl (nI_1 _) (by decide) rfl (fun ls hl => ?_)
                      refine lv_goto (tgt := 164) hx hb dX4_parts_195 (by decide) ?_
                      exact ih_164 (k + 1) (by omega) (by omega) _ _ hM ls (lv_sub hl [0, 1, 2, 3, 4] rfl)
                    · skip
                      have hlk := hle k
                      have ee : L k = k := (nI_eq (by omega) (by omega)).mp c_5
                      refine lv_iconst (v := 1) hx hb dX4_parts_184 (by decide) ?_
                      refine lv_goto (tgt := 189) hx hb dX4_parts_185 (by decide) ?_
                      refine lv_iadd hx hb dX4_parts_189 ?_
                      refine W.eq (g2 := F0 mv _ ls (.int (nI (pcnt L (k + 1))) :: [])) (by first | rfl | rw [show ((nI (pcnt L k)) + 1 : Int32) = nI (pcnt L (k + 1)) from by first | (rw [pcnt_s, if_pos ee]; exact nI_1 _) | (rw [pcnt_s, if_neg ee, Nat.add_zero]; exact Int32.add_zero _)]) ?_
                      refine lv_istore (lv' := [(4, .int (nI (pcnt L (k + 1)))), (5, .int (nI k)), (0, .ref (sa S o)), (1, .int (nI t)), (2, .int (nI (cf t * rf t)))]) hx hb dX4_parts_190 hl (by decide) rfl (fun ls hl => ?_)
                      refine lv_iinc (v := nI (k + 1)) (lv' := [(5, .int (nI (k + 1))), (4, .int (nI (pcnt L (k + 1)))), (0, .ref (sa S o)), (1, .int (nI t)), (2, .int (nI (cf t * rf t)))]) hx hb dX4_parts_192 hl (k := 1) rfl (nI_1 _) (by decide) rfl (fun ls hl => ?_)
                      refine lv_goto (tgt := 164) hx hb dX4_parts_195 (by decide) ?_
                      exact ih_164 (k + 1) (by omega) (by omega) _ _ hM ls (lv_sub hl [0, 1, 2, 3, 4] rfl)
              exact LP_164 _ 0 (by omega) (Nat.lt_succ_self _) _ _ hM ls (lv_sub hl [0, 1, 3, 4, 5] rfl)
            · skip
              have h29 := c_3
              have hmu28 : 2 * psum L (cf t * rf t) + 1 < n_28 + 1 := by rw [if_neg h29] at hmu; exact hmu
              refine lv_iconst (v := 0) hx hb dX4_parts_32 (by decide) ?_
              refine lv_istore_n (lv' := [(3, .int 0), (0, .ref (sa S o)), (1, .int (nI t)), (2, .int (nI (cf t * rf t)))]) hx hb dX4_parts_33 rfl hl (by decide) rfl (fun ls hl => ?_)
              refine lv_iconst (v := 0) hx hb dX4_parts_34 (by decide) ?_
              refine lv_istore (lv' := [(4, .int 0), (3, .int 0), (0, .ref (sa S o)), (1, .int (nI t)), (2, .int (nI (cf t * rf t)))]) hx hb dX4_parts_35 hl (by decide) rfl (fun ls hl => ?_)
              have LP_37 : ∀ (n : Nat) (i : Nat) (hi : i ≤ 2 * (cf t * rf t)), 2 * (cf t * rf t) - i < n → ∀ (H : Heap) (locs : List Loc), fb_M D y A s (S, V, (sT V), (va_up I (o + 7) (lbl (cf t * rf t) (plp (cf t) (cf t * rf t) (I (o + 20 + t)) L i) (I (o + 7))))) H locs → ∀ ls, lv_has ls 7 [(4, .int (nI i)), (3, .int ((pch (cf t) (cf t * rf t) (I (o + 20 + t)) L i))), (0, .ref (sa S o)), (1, .int (nI t)), (2, .int (nI (cf t * rf t)))] → W pv l ev rm_X4_parts s mv ([.ref (sa S o), .int (nI t)] : List Value).toArray below meth cv H locs 0 0 Q (F0 mv 37 ls []) := by
                intro n_37
                induction n_37 with
                | zero => intro i hi hmu; exact absurd hmu (Nat.not_lt_zero _)
                | succ n_37 ih_37 =>
                  intro i hi hmu H locs hM ls hl
                  refine lv_iload hx hb dX4_parts_37 (lv_at hl 0 rfl) ?_
                  refine lv_iconst (v := 2) hx hb dX4_parts_39 (by decide) ?_
                  refine lv_iload_n hx hb dX4_parts_40 rfl (lv_at hl 4 rfl) ?_
                  refine lv_imul hx hb dX4_parts_41 ?_
                  refine W.eq (g2 := F0 mv _ ls (.int (nI (2 * (cf t * rf t))) :: .int (nI i) :: [])) (by first | rfl | rw [show (2 * (nI (cf t * rf t)) : Int32) = nI (2 * (cf t * rf t)) from pk_mul 2 _]) ?_
                  refine lv_icmp_ge (tgt := 155) hx hb dX4_parts_42 (by decide) (fun c_6 => ?_) (fun c_6 => ?_)
                  · skip
                    have e_i : i = 2 * (cf t * rf t) := by have := (nI_leI (a := 2 * (cf t * rf t)) (b := i) (by omega) (by omega)).mp c_6; omega
                    have e_i := Eq.symm e_i
                    subst e_i
                    have hsp := pch_spec (B := (I (o + 20 + t))) (f := L) (n := cf t * rf t) rfl hc1 _ (Nat.le_refl _)
                    have hfx2 : (pch (cf t) (cf t * rf t) (I (o + 20 + t)) L (2 * (cf t * rf t))) = 0 → ∀ i, i < 2 * (cf t * rf t) → opn (cf t) (cf t * rf t) (I (o + 20 + t)) (i / 2) (i % 2) = true → (plp (cf t) (cf t * rf t) (I (o + 20 + t)) L (2 * (cf t * rf t))) (i / 2) = (plp (cf t) (cf t * rf t) (I (o + 20 + t)) L (2 * (cf t * rf t))) (oft (cf t) (i / 2) (i % 2)) := fun e i hi ho => by rw [(hsp.1 e).1]; exact (hsp.1 e).2 i hi ho
                    have hmu2 : 2 * psum (plp (cf t) (cf t * rf t) (I (o + 20 + t)) L (2 * (cf t * rf t))) (cf t * rf t) + (if (pch (cf t) (cf t * rf t) (I (o + 20 + t)) L (2 * (cf t * rf t))) = 0 then 0 else 1) < n_28 := by by_cases e : (pch (cf t) (cf t * rf t) (I (o + 20 + t)) L (2 * (cf t * rf t))) = 0 <;> first | (rw [if_pos e]; have h7 : psum (plp (cf t) (cf t * rf t) (I (o + 20 + t)) L (2 * (cf t * rf t))) (cf t * rf t) = psum L (cf t * rf t) := (congrArg (fun q => psum q (cf t * rf t)) (hsp.1 e).1); omega) | (rw [if_neg e]; have h7 := hsp.2 e; omega)
                    refine lv_goto (tgt := 28) hx hb dX4_parts_155 (by decide) ?_
                    exact ih_28 (plp (cf t) (cf t * rf t) (I (o + 20 + t)) L (2 * (cf t * rf t))) (pch (cf t) (cf t * rf t) (I (o + 20 + t)) L (2 * (cf t * rf t))) (fun j => Nat.le_trans (plp_le _ _ _ _ _ j) (hle j)) (conn_plp hcn _ (Nat.le_refl _)) hfx2 hmu2 _ _ hM ls (lv_sub hl [1, 2, 3, 4] rfl)
                  · skip
                    have hii : i < 2 * (cf t * rf t) := Nat.lt_of_not_le (fun h => c_6 (nI_le h (by omega)))
                    refine lv_aload_n hx hb dX4_parts_45 rfl (lv_at hl 2 rfl) ?_
                    refine lv_iload_n hx hb dX4_parts_46 rfl (lv_at hl 3 rfl) ?_
                    refine lv_iload hx hb dX4_parts_47 (lv_at hl 0 rfl) ?_
                    refine lv_iconst (v := 2) hx hb dX4_parts_49 (by decide) ?_
                    refine lv_idiv hx hb dX4_parts_50 (by decide) ?_
                    refine W.eq (g2 := F0 mv _ ls (.int (nI (i / 2)) :: .int (nI t) :: .ref (sa S o) :: [])) (by first | rfl | rw [show ((nI i) / 2 : Int32) = nI (i / 2) from pk_div (d := 2) (by omega) (by omega) (by omega)]) ?_
                    refine lv_iload hx hb dX4_parts_51 (lv_at hl 0 rfl) ?_
                    refine lv_iconst (v := 2) hx hb dX4_parts_53 (by decide) ?_
                    refine lv_irem hx hb dX4_parts_54 (by decide) ?_
                    refine W.eq (g2 := F0 mv _ ls (.int (nI (i % 2)) :: .int (nI (i / 2)) :: .int (nI t) :: .ref (sa S o) :: [])) (by first | rfl | rw [show ((nI i) - (nI i) / 2 * 2 : Int32) = nI (i % 2) from pk_rem (d := 2) (by omega) (by omega) (by omega)]) ?_
                    refine fb_callVi (r := o) hx hb hml hown hts hM ((hA.1).1) (ce4 ((hA.1).2)) rfl (As := [.int (nI t), .int (nI (i / 2)), .int (nI (i % 2))]) (rest := []) (c_X4_isOpen D y l S V (va_up I (o + 7) (lbl (cf t * rf t) (plp (cf t) (cf t * rf t) (I (o + 20 + t)) L i) (I (o + 7)))) o nt cf rf hA ns df (hF.up _ (by omega) (by omega) (by omega)) t ht (i / 2) (by omega) (i % 2) (by omega)) (cwV 3 hts gX4_parts_X4_isOpen rfl rfl rfl (by decide +kernel) ⟨Nat.le_of_ble_eq_true rfl, Nat.le_of_ble_eq_true rfl⟩) rfl hl.1 rfl (Nat.le_of_ble_eq_true rfl) dX4_parts_55 ⟨Nat.le_of_ble_eq_true rfl, Nat.le_of_ble_eq_true rfl⟩ (fun v_7 u H locs hp hM => ?_)
                    obtain ⟨hv_, hu_⟩ := hp
                    have hv_ := Eq.symm hv_
                    have hu_ := Eq.symm hu_
                    subst hv_
                    subst hu_
                    rw [show (ob (cf t) (cf t * rf t) ((va_up I (o + 7) (lbl (cf t * rf t) (plp (cf t) (cf t * rf t) (I (o + 20 + t)) L i) (I (o + 7)))) (o + 20 + t)) (i / 2) (i % 2) : Int32) = ob (cf t) (cf t * rf t) (I (o + 20 + t)) (i / 2) (i % 2) from by rw [va_up_ne _ _ (show o + 20 + t ≠ o + 7 by omega)]]
                    refine lv_if_ne (tgt := 64) hx hb dX4_parts_58 (by decide) (fun c_8 => ?_) (fun c_8 => ?_)
                    · skip
                      have ho : opn (cf t) (cf t * rf t) (I (o + 20 + t)) (i / 2) (i % 2) = true := ob_1 c_8
                      have hp := (oft_lt (n := cf t * rf t) rfl hc1 (show i / 2 < cf t * rf t by omega) (opn_x ho).1).1
                      have hpa : (plp (cf t) (cf t * rf t) (I (o + 20 + t)) L i) (i / 2) ≤ i / 2 := Nat.le_trans (plp_le _ _ _ _ _ _) (hle _)
                      have hpb : (plp (cf t) (cf t * rf t) (I (o + 20 + t)) L i) (oft (cf t) (i / 2) (i % 2)) ≤ (oft (cf t) (i / 2) (i % 2)) := Nat.le_trans (plp_le _ _ _ _ _ _) (hle _)
                      have eP : (plp (cf t) (cf t * rf t) (I (o + 20 + t)) L (i + 1)) = psw (plp (cf t) (cf t * rf t) (I (o + 20 + t)) L i) (i / 2) (oft (cf t) (i / 2) (i % 2)) := if_pos ho
                      refine lv_aload_n hx hb dX4_parts_64 rfl (lv_at hl 2 rfl) ?_
                      refine lv_iload_n hx hb dX4_parts_65 rfl (lv_at hl 3 rfl) ?_
                      refine lv_iload hx hb dX4_parts_66 (lv_at hl 0 rfl) ?_
                      refine lv_iconst (v := 2) hx hb dX4_parts_68 (by decide) ?_
                      refine lv_idiv hx hb dX4_parts_69 (by decide) ?_
                      refine W.eq (g2 := F0 mv _ ls (.int (nI (i / 2)) :: .int (nI t) :: .ref (sa S o) :: [])) (by first | rfl | rw [show ((nI i) / 2 : Int32) = nI (i / 2) from pk_div (d := 2) (by omega) (by omega) (by omega)]) ?_
                      refine lv_iload hx hb dX4_parts_70 (lv_at hl 0 rfl) ?_
                      refine lv_iconst (v := 2) hx hb dX4_parts_72 (by decide) ?_
                      refine lv_irem hx hb dX4_parts_73 (by decide) ?_
                      refine W.eq (g2 := F0 mv _ ls (.int (nI (i % 2)) :: .int (nI (i / 2)) :: .int (nI t) :: .ref (sa S o) :: [])) (by first | rfl | rw [show ((nI i) - (nI i) / 2 * 2 : Int32) = nI (i % 2) from pk_rem (d := 2) (by omega) (by omega) (by omega)]) ?_
                      refine fb_callVi (r := o) hx hb hml hown hts hM ((hA.1).1) (ce4 ((hA.1).2)) rfl (As := [.int (nI t), .int (nI (i / 2)), .int (nI (i % 2))]) (rest := []) (c_X4_other D y l S V (va_up I (o + 7) (lbl (cf t * rf t) (plp (cf t) (cf t * rf t) (I (o + 20 + t)) L i) (I (o + 7)))) o nt cf rf hA ns df (hF.up _ (by omega) (by omega) (by omega)) t ht (i / 2) (by omega) (i % 2) (by omega)) (cwV 3 hts gX4_parts_X4_other rfl rfl rfl (by decide +kernel) ⟨Nat.le_of_ble_eq_true rfl, Nat.le_of_ble_eq_true rfl⟩) rfl hl.1 rfl (Nat.le_of_ble_eq_true rfl) dX4_parts_74 ⟨Nat.le_of_ble_eq_true rfl, Nat.le_of_ble_eq_true rfl⟩ (fun v_9 u H locs hp hM => ?_)
                      obtain ⟨hv_, hu_⟩ := hp
                      have hv_ := Eq.symm hv_
                      have hu_ := Eq.symm hu_
                      subst hv_
                      subst hu_
                      rw [show (othM (cf t) (cf t * rf t) (i / 2) (i % 2) : Int32) = nI (oft (cf t) (i / 2) (i % 2)) from othM_t (opn_x ho).1]
                      refine lv_istore (lv' := [(5, .int (nI (oft (cf t) (i / 2) (i % 2)))), (4, .int (nI i)), (3, .int ((pch (cf t) (cf t * rf t) (I (o + 20 + t)) L i))), (0, .ref (sa S o)), (1, .int (nI t)), (2, .int (nI (cf t * rf t)))]) hx hb dX4_parts_77 hl (by decide) rfl (fun ls hl => ?_)
                      refine lv_aload_n hx hb dX4_parts_79 rfl (lv_at hl 3 rfl) ?_
                      refine fb_get (r := o) hx hb hown hts hin4 hM ((hA.1).1) (ce4 ((hA.1).2)) rfl 13 (by decide) (hts (.fieldLink RX4 37 "FeatherBedsModel" "part" "[I") (by decide +kernel)) (fun _ h9 => h9) (v := .ref (sa S (o + 7))) (congrArg (fun z => some (va_rf z)) ((hA.2.1).2.2.2.2.2.2)) dX4_parts_80 ?_
                      refine lv_iload hx hb dX4_parts_83 (lv_at hl 1 rfl) ?_
                      refine lv_iconst (v := 2) hx hb dX4_parts_85 (by decide) ?_
                      refine lv_idiv hx hb dX4_parts_86 (by decide) ?_
                      refine W.eq (g2 := F0 mv _ ls (.int (nI (i / 2)) :: .ref (sa S (o + 7)) :: [])) (by first | rfl | rw [show ((nI i) / 2 : Int32) = nI (i / 2) from pk_div (d := 2) (by omega) (by omega) (by omega)]) ?_
                      refine fb_iald (r := (o + 7)) hx hb hM ((hA.2.2.2.2.2.2.2.2.1).1) (ce6 ((hA.2.2.2.2.2.2.2.2.1).2.1)) (k := i / 2) (nI_clamp (by omega)) (by rw [(hA.2.2.2.2.2.2.2.2.1).2.2]; exact vp_in_nI (by omega) (by omega)) dX4_parts_87 ?_
                      rw [show (va_up I (o + 7) (lbl (cf t * rf t) (plp (cf t) (cf t * rf t) (I (o + 20 + t)) L i) (I (o + 7)))) (o + 7) (i / 2) = nI ((plp (cf t) (cf t * rf t) (I (o + 20 + t)) L i) (i / 2)) from by rw [va_up_self]; exact lbl_lt _ _ (by omega)]
                      refine lv_aload_n hx hb dX4_parts_88 rfl (lv_at hl 3 rfl) ?_
                      refine fb_get (r := o) hx hb hown hts hin4 hM ((hA.1).1) (ce4 ((hA.1).2)) rfl 13 (by decide) (hts (.fieldLink RX4 37 "FeatherBedsModel" "part" "[I") (by decide +kernel)) (fun _ h9 => h9) (v := .ref (sa S (o + 7))) (congrArg (fun z => some (va_rf z)) ((hA.2.1).2.2.2.2.2.2)) dX4_parts_89 ?_
                      refine lv_iload hx hb dX4_parts_92 (lv_at hl 0 rfl) ?_
                      refine fb_iald (r := (o + 7)) hx hb hM ((hA.2.2.2.2.2.2.2.2.1).1) (ce6 ((hA.2.2.2.2.2.2.2.2.1).2.1)) (k := oft (cf t) (i / 2) (i % 2)) (nI_clamp (by omega)) (by rw [(hA.2.2.2.2.2.2.2.2.1).2.2]; exact vp_in_nI (by omega) (by omega)) dX4_parts_94 ?_
                      rw [show (va_up I (o + 7) (lbl (cf t * rf t) (plp (cf t) (cf t * rf t) (I (o + 20 + t)) L i) (I (o + 7)))) (o + 7) (oft (cf t) (i / 2) (i % 2)) = nI ((plp (cf t) (cf t * rf t) (I (o + 20 + t)) L i) (oft (cf t) (i / 2) (i % 2))) from by rw [va_up_self]; exact lbl_lt _ _ hp]
                      refine va_mmin hx hb (hml.trans hl.1.symm) hown (hts (.methodLink RX4 83 Lib.Math.min.name) (by decide +kernel)) (hts (.static Lib.Math.min.name) (by decide +kernel)) (hts (.initialized "java/lang/Math") (by decide +kernel)) (hts (.code Lib.Math.min.name Lib.Math.min.code 2 (some .int)) (by decide +kernel)) (Nat.le_of_ble_eq_true rfl) (Nat.le_of_ble_eq_true rfl) (Nat.le_of_ble_eq_true rfl) (Nat.le_of_ble_eq_true rfl) dX4_parts_95 ?_
                      refine W.eq (g2 := F0 mv _ ls (.int (nI (min ((plp (cf t) (cf t * rf t) (I (o + 20 + t)) L i) (i / 2)) ((plp (cf t) (cf t * rf t) (I (o + 20 + t)) L i) (oft (cf t) (i / 2) (i % 2))))) :: [])) (by first | rfl | rw [show (if nI ((plp (cf t) (cf t * rf t) (I (o + 20 + t)) L i) (oft (cf t) (i / 2) (i % 2))) < nI ((plp (cf t) (cf t * rf t) (I (o + 20 + t)) L i) (i / 2)) then nI ((plp (cf t) (cf t * rf t) (I (o + 20 + t)) L i) (oft (cf t) (i / 2) (i % 2))) else nI ((plp (cf t) (cf t * rf t) (I (o + 20 + t)) L i) (i / 2)) : Int32) = nI (min ((plp (cf t) (cf t * rf t) (I (o + 20 + t)) L i) (i / 2)) ((plp (cf t) (cf t * rf t) (I (o + 20 + t)) L i) (oft (cf t) (i / 2) (i % 2)))) from nI_min (by omega) (by omega)]) ?_
                      refine lv_istore (lv' := [(6, .int (nI (min ((plp (cf t) (cf t * rf t) (I (o + 20 + t)) L i) (i / 2)) ((plp (cf t) (cf t * rf t) (I (o + 20 + t)) L i) (oft (cf t) (i / 2) (i % 2)))))), (5, .int (nI (oft (cf t) (i / 2) (i % 2)))), (4, .int (nI i)), (3, .int ((pch (cf t) (cf t * rf t) (I (o + 20 + t)) L i))), (0, .ref (sa S o)), (1, .int (nI t)), (2, .int (nI (cf t * rf t)))]) hx hb dX4_parts_98 hl (by decide) rfl (fun ls hl => ?_)
                      refine lv_iload_n hx hb dX4_parts_100 rfl (lv_at hl 3 rfl) ?_
                      refine lv_if_ne (tgt := 123) hx hb dX4_parts_101 (by decide) (fun c_10 => ?_) (fun c_10 => ?_)
                      · skip
                        have h101 := c_10
                        have eC : (pch (cf t) (cf t * rf t) (I (o + 20 + t)) L (i + 1)) = 1 := (if_pos ho).trans (if_pos (Or.inl h101))
                        refine lv_iconst (v := 1) hx hb dX4_parts_123 (by decide) ?_
                        refine lv_goto (tgt := 128) hx hb dX4_parts_124 (by decide) ?_
                        refine lv_istore_n (lv' := [(3, .int 1), (6, .int (nI (min ((plp (cf t) (cf t * rf t) (I (o + 20 + t)) L i) (i / 2)) ((plp (cf t) (cf t * rf t) (I (o + 20 + t)) L i) (oft (cf t) (i / 2) (i % 2)))))), (5, .int (nI (oft (cf t) (i / 2) (i % 2)))), (4, .int (nI i)), (0, .ref (sa S o)), (1, .int (nI t)), (2, .int (nI (cf t * rf t)))]) hx hb dX4_parts_128 rfl hl (by decide) rfl (fun ls hl => ?_)
                        refine lv_aload_n hx hb dX4_parts_129 rfl (lv_at hl 4 rfl) ?_
                        refine fb_get (r := o) hx hb hown hts hin4 hM ((hA.1).1) (ce4 ((hA.1).2)) rfl 13 (by decide) (hts (.fieldLink RX4 37 "FeatherBedsModel" "part" "[I") (by decide +kernel)) (fun _ h9 => h9) (v := .ref (sa S (o + 7))) (congrArg (fun z => some (va_rf z)) ((hA.2.1).2.2.2.2.2.2)) dX4_parts_130 ?_
                        refine lv_iload hx hb dX4_parts_133 (lv_at hl 3 rfl) ?_
                        refine lv_iconst (v := 2) hx hb dX4_parts_135 (by decide) ?_
                        refine lv_idiv hx hb dX4_parts_136 (by decide) ?_
                        refine W.eq (g2 := F0 mv _ ls (.int (nI (i / 2)) :: .ref (sa S (o + 7)) :: [])) (by first | rfl | rw [show ((nI i) / 2 : Int32) = nI (i / 2) from pk_div (d := 2) (by omega) (by omega) (by omega)]) ?_
                        refine lv_iload hx hb dX4_parts_137 (lv_at hl 1 rfl) ?_
                        refine fb_iast (r := (o + 7)) hx hb hM ((hA.2.2.2.2.2.2.2.2.1).1) (ce6 ((hA.2.2.2.2.2.2.2.2.1).2.1)) (k := i / 2) (nI_clamp (by omega)) (by rw [(hA.2.2.2.2.2.2.2.2.1).2.2]; exact vp_in_nI (by omega) (by omega)) dX4_parts_139 (up_I (j := i / 2) (by rw [ce6 ((hA.2.2.2.2.2.2.2.2.1).2.1)]; simp [va_up])) (w' := (S, V, (sT V), (va_up (va_up I (o + 7) (lbl (cf t * rf t) (plp (cf t) (cf t * rf t) (I (o + 20 + t)) L i) (I (o + 7)))) (o + 7) (upd ((va_up I (o + 7) (lbl (cf t * rf t) (plp (cf t) (cf t * rf t) (I (o + 20 + t)) L i) (I (o + 7)))) (o + 7)) (i / 2) (nI (min ((plp (cf t) (cf t * rf t) (I (o + 20 + t)) L i) (i / 2)) ((plp (cf t) (cf t * rf t) (I (o + 20 + t)) L i) (oft (cf t) (i / 2) (i % 2))))))))) ⟨rfl, rfl, rfl⟩ (fun H locs hM => ?_)
                        have eI : (va_up (va_up I (o + 7) (lbl (cf t * rf t) (plp (cf t) (cf t * rf t) (I (o + 20 + t)) L i) (I (o + 7)))) (o + 7) (upd ((va_up I (o + 7) (lbl (cf t * rf t) (plp (cf t) (cf t * rf t) (I (o + 20 + t)) L i) (I (o + 7)))) (o + 7)) (i / 2) (nI (min ((plp (cf t) (cf t * rf t) (I (o + 20 + t)) L i) (i / 2)) ((plp (cf t) (cf t * rf t) (I (o + 20 + t)) L i) (oft (cf t) (i / 2) (i % 2))))))) = (va_up I (o + 7) (lbl (cf t * rf t) (nup (plp (cf t) (cf t * rf t) (I (o + 20 + t)) L i) (i / 2) (min ((plp (cf t) (cf t * rf t) (I (o + 20 + t)) L i) (i / 2)) ((plp (cf t) (cf t * rf t) (I (o + 20 + t)) L i) (oft (cf t) (i / 2) (i % 2))))) (I (o + 7)))) := by rw [va_up_self, up_up, lbl_up _ _ (by omega)]
                        rw [eI] at hM
                        clear eI
                        refine lv_aload_n hx hb dX4_parts_140 rfl (lv_at hl 4 rfl) ?_
                        refine fb_get (r := o) hx hb hown hts hin4 hM ((hA.1).1) (ce4 ((hA.1).2)) rfl 13 (by decide) (hts (.fieldLink RX4 37 "FeatherBedsModel" "part" "[I") (by decide +kernel)) (fun _ h9 => h9) (v := .ref (sa S (o + 7))) (congrArg (fun z => some (va_rf z)) ((hA.2.1).2.2.2.2.2.2)) dX4_parts_141 ?_
                        refine lv_iload hx hb dX4_parts_144 (lv_at hl 2 rfl) ?_
                        refine lv_iload hx hb dX4_parts_146 (lv_at hl 1 rfl) ?_
                        refine fb_iast (r := (o + 7)) hx hb hM ((hA.2.2.2.2.2.2.2.2.1).1) (ce6 ((hA.2.2.2.2.2.2.2.2.1).2.1)) (k := oft (cf t) (i / 2) (i % 2)) (nI_clamp (by omega)) (by rw [(hA.2.2.2.2.2.2.2.2.1).2.2]; exact vp_in_nI (by omega) (by omega)) dX4_parts_148 (up_I (j := oft (cf t) (i / 2) (i % 2)) (by rw [ce6 ((hA.2.2.2.2.2.2.2.2.1).2.1)]; simp [va_up])) (w' := (S, V, (sT V), (va_up (va_up I (o + 7) (lbl (cf t * rf t) (nup (plp (cf t) (cf t * rf t) (I (o + 20 + t)) L i) (i / 2) (min ((plp (cf t) (cf t * rf t) (I (o + 20 + t)) L i) (i / 2)) ((plp (cf t) (cf t * rf t) (I (o + 20 + t)) L i) (oft (cf t) (i / 2) (i % 2))))) (I (o + 7)))) (o + 7) (upd ((va_up I (o + 7) (lbl (cf t * rf t) (nup (plp (cf t) (cf t * rf t) (I (o + 20 + t)) L i) (i / 2) (min ((plp (cf t) (cf t * rf t) (I (o + 20 + t)) L i) (i / 2)) ((plp (cf t) (cf t * rf t) (I (o + 20 + t)) L i) (oft (cf t) (i / 2) (i % 2))))) (I (o + 7)))) (o + 7)) (oft (cf t) (i / 2) (i % 2)) (nI (min ((plp (cf t) (cf t * rf t) (I (o + 20 + t)) L i) (i / 2)) ((plp (cf t) (cf t * rf t) (I (o + 20 + t)) L i) (oft (cf t) (i / 2) (i % 2))))))))) ⟨rfl, rfl, rfl⟩ (fun H locs hM => ?_)
                        have eI : (va_up (va_up I (o + 7) (lbl (cf t * rf t) (nup (plp (cf t) (cf t * rf t) (I (o + 20 + t)) L i) (i / 2) (min ((plp (cf t) (cf t * rf t) (I (o + 20 + t)) L i) (i / 2)) ((plp (cf t) (cf t * rf t) (I (o + 20 + t)) L i) (oft (cf t) (i / 2) (i % 2))))) (I (o + 7)))) (o + 7) (upd ((va_up I (o + 7) (lbl (cf t * rf t) (nup (plp (cf t) (cf t * rf t) (I (o + 20 + t)) L i) (i / 2) (min ((plp (cf t) (cf t * rf t) (I (o + 20 + t)) L i) (i / 2)) ((plp (cf t) (cf t * rf t) (I (o + 20 + t)) L i) (oft (cf t) (i / 2) (i % 2))))) (I (o + 7)))) (o + 7)) (oft (cf t) (i / 2) (i % 2)) (nI (min ((plp (cf t) (cf t * rf t) (I (o + 20 + t)) L i) (i / 2)) ((plp (cf t) (cf t * rf t) (I (o + 20 + t)) L i) (oft (cf t) (i / 2) (i % 2))))))) = (va_up I (o + 7) (lbl (cf t * rf t) (psw (plp (cf t) (cf t * rf t) (I (o + 20 + t)) L i) (i / 2) (oft (cf t) (i / 2) (i % 2))) (I (o + 7)))) := by rw [va_up_self, up_up, lbl_up _ _ hp]; rfl
                        rw [eI] at hM
                        clear eI
                        refine lv_iinc (v := nI (i + 1)) (lv' := [(4, .int (nI (i + 1))), (3, .int 1), (6, .int (nI (min ((plp (cf t) (cf t * rf t) (I (o + 20 + t)) L i) (i / 2)) ((plp (cf t) (cf t * rf t) (I (o + 20 + t)) L i) (oft (cf t) (i / 2) (i % 2)))))), (5, .int (nI (oft (cf t) (i / 2) (i % 2)))), (0, .ref (sa S o)), (1, .int (nI t)), (2, .int (nI (cf t * rf t)))]) hx hb dX4_parts_149 hl (k := 3) rfl (nI_1 _) (by decide) rfl (fun ls hl => ?_)
                        refine lv_goto (tgt := 37) hx hb dX4_parts_152 (by decide) ?_
                        rw [← eP] at hM
                        have hl : lv_has ls 7 [(4, .int (nI (i + 1))), (3, .int (pch (cf t) (cf t * rf t) (I (o + 20 + t)) L (i + 1))), (0, .ref (sa S o)), (1, .int (nI t)), (2, .int (nI (cf t * rf t)))] := by rw [eC]; exact lv_sub hl [0, 1, 4, 5, 6] rfl
                        exact ih_37 (i + 1) (by omega) (by omega) _ _ hM ls (lv_sub hl [0, 1, 2, 3, 4] rfl)
                      · skip
                        have h101 := c_10
                        refine lv_aload_n hx hb dX4_parts_104 rfl (lv_at hl 4 rfl) ?_
                        refine fb_get (r := o) hx hb hown hts hin4 hM ((hA.1).1) (ce4 ((hA.1).2)) rfl 13 (by decide) (hts (.fieldLink RX4 37 "FeatherBedsModel" "part" "[I") (by decide +kernel)) (fun _ h9 => h9) (v := .ref (sa S (o + 7))) (congrArg (fun z => some (va_rf z)) ((hA.2.1).2.2.2.2.2.2)) dX4_parts_105 ?_
                        refine lv_iload hx hb dX4_parts_108 (lv_at hl 2 rfl) ?_
                        refine lv_iconst (v := 2) hx hb dX4_parts_110 (by decide) ?_
                        refine lv_idiv hx hb dX4_parts_111 (by decide) ?_
                        refine W.eq (g2 := F0 mv _ ls (.int (nI (i / 2)) :: .ref (sa S (o + 7)) :: [])) (by first | rfl | rw [show ((nI i) / 2 : Int32) = nI (i / 2) from pk_div (d := 2) (by omega) (by omega) (by omega)]) ?_
                        refine fb_iald (r := (o + 7)) hx hb hM ((hA.2.2.2.2.2.2.2.2.1).1) (ce6 ((hA.2.2.2.2.2.2.2.2.1).2.1)) (k := i / 2) (nI_clamp (by omega)) (by rw [(hA.2.2.2.2.2.2.2.2.1).2.2]; exact vp_in_nI (by omega) (by omega)) dX4_parts_112 ?_
                        rw [show (va_up I (o + 7) (lbl (cf t * rf t) (plp (cf t) (cf t * rf t) (I (o + 20 + t)) L i) (I (o + 7)))) (o + 7) (i / 2) = nI ((plp (cf t) (cf t * rf t) (I (o + 20 + t)) L i) (i / 2)) from by rw [va_up_self]; exact lbl_lt _ _ (by omega)]
                        refine lv_aload_n hx hb dX4_parts_113 rfl (lv_at hl 4 rfl) ?_
                        refine fb_get (r := o) hx hb hown hts hin4 hM ((hA.1).1) (ce4 ((hA.1).2)) rfl 13 (by decide) (hts (.fieldLink RX4 37 "FeatherBedsModel" "part" "[I") (by decide +kernel)) (fun _ h9 => h9) (v := .ref (sa S (o + 7))) (congrArg (fun z => some (va_rf z)) ((hA.2.1).2.2.2.2.2.2)) dX4_parts_114 ?_
                        refine lv_iload hx hb dX4_parts_117 (lv_at hl 1 rfl) ?_
                        refine fb_iald (r := (o + 7)) hx hb hM ((hA.2.2.2.2.2.2.2.2.1).1) (ce6 ((hA.2.2.2.2.2.2.2.2.1).2.1)) (k := oft (cf t) (i / 2) (i % 2)) (nI_clamp (by omega)) (by rw [(hA.2.2.2.2.2.2.2.2.1).2.2]; exact vp_in_nI (by omega) (by omega)) dX4_parts_119 ?_
                        rw [show (va_up I (o + 7) (lbl (cf t * rf t) (plp (cf t) (cf t * rf t) (I (o + 20 + t)) L i) (I (o + 7)))) (o + 7) (oft (cf t) (i / 2) (i % 2)) = nI ((plp (cf t) (cf t * rf t) (I (o + 20 + t)) L i) (oft (cf t) (i / 2) (i % 2))) from by rw [va_up_self]; exact lbl_lt _ _ hp]
                        refine lv_icmp_eq (tgt := 127) hx hb dX4_parts_120 (by decide) (fun c_11 => ?_) (fun c_11 => ?_)
                        · skip
                          have h120 : (plp (cf t) (cf t * rf t) (I (o + 20 + t)) L i) (i / 2) = (plp (cf t) (cf t * rf t) (I (o + 20 + t)) L i) (oft (cf t) (i / 2) (i % 2)) := (nI_eq (by omega) (by omega)).mp c_11
                          have eC : (pch (cf t) (cf t * rf t) (I (o + 20 + t)) L (i + 1)) = 0 := (if_pos ho).trans (if_neg (fun h => h.elim (fun q => q h101) (fun q => q h120)))
                          refine lv_iconst (v := 0) hx hb dX4_parts_127 (by decide) ?_
                          refine lv_istore_n (lv' := [(3, .int 0), (6, .int (nI (min ((plp (cf t) (cf t * rf t) (I (o + 20 + t)) L i) (i / 2)) ((plp (cf t) (cf t * rf t) (I (o + 20 + t)) L i) (oft (cf t) (i / 2) (i % 2)))))), (5, .int (nI (oft (cf t) (i / 2) (i % 2)))), (4, .int (nI i)), (0, .ref (sa S o)), (1, .int (nI t)), (2, .int (nI (cf t * rf t)))]) hx hb dX4_parts_128 rfl hl (by decide) rfl (fun ls hl => ?_)
                          refine lv_aload_n hx hb dX4_parts_129 rfl (lv_at hl 4 rfl) ?_
                          refine fb_get (r := o) hx hb hown hts hin4 hM ((hA.1).1) (ce4 ((hA.1).2)) rfl 13 (by decide) (hts (.fieldLink RX4 37 "FeatherBedsModel" "part" "[I") (by decide +kernel)) (fun _ h9 => h9) (v := .ref (sa S (o + 7))) (congrArg (fun z => some (va_rf z)) ((hA.2.1).2.2.2.2.2.2)) dX4_parts_130 ?_
                          refine lv_iload hx hb dX4_parts_133 (lv_at hl 3 rfl) ?_
                          refine lv_iconst (v := 2) hx hb dX4_parts_135 (by decide) ?_
                          refine lv_idiv hx hb dX4_parts_136 (by decide) ?_
                          refine W.eq (g2 := F0 mv _ ls (.int (nI (i / 2)) :: .ref (sa S (o + 7)) :: [])) (by first | rfl | rw [show ((nI i) / 2 : Int32) = nI (i / 2) from pk_div (d := 2) (by omega) (by omega) (by omega)]) ?_
                          refine lv_iload hx hb dX4_parts_137 (lv_at hl 1 rfl) ?_
                          refine fb_iast (r := (o + 7)) hx hb hM ((hA.2.2.2.2.2.2.2.2.1).1) (ce6 ((hA.2.2.2.2.2.2.2.2.1).2.1)) (k := i / 2) (nI_clamp (by omega)) (by rw [(hA.2.2.2.2.2.2.2.2.1).2.2]; exact vp_in_nI (by omega) (by omega)) dX4_parts_139 (up_I (j := i / 2) (by rw [ce6 ((hA.2.2.2.2.2.2.2.2.1).2.1)]; simp [va_up])) (w' := (S, V, (sT V), (va_up (va_up I (o + 7) (lbl (cf t * rf t) (plp (cf t) (cf t * rf t) (I (o + 20 + t)) L i) (I (o + 7)))) (o + 7) (upd ((va_up I (o + 7) (lbl (cf t * rf t) (plp (cf t) (cf t * rf t) (I (o + 20 + t)) L i) (I (o + 7)))) (o + 7)) (i / 2) (nI (min ((plp (cf t) (cf t * rf t) (I (o + 20 + t)) L i) (i / 2)) ((plp (cf t) (cf t * rf t) (I (o + 20 + t)) L i) (oft (cf t) (i / 2) (i % 2))))))))) ⟨rfl, rfl, rfl⟩ (fun H locs hM => ?_)
                          have eI : (va_up (va_up I (o + 7) (lbl (cf t * rf t) (plp (cf t) (cf t * rf t) (I (o + 20 + t)) L i) (I (o + 7)))) (o + 7) (upd ((va_up I (o + 7) (lbl (cf t * rf t) (plp (cf t) (cf t * rf t) (I (o + 20 + t)) L i) (I (o + 7)))) (o + 7)) (i / 2) (nI (min ((plp (cf t) (cf t * rf t) (I (o + 20 + t)) L i) (i / 2)) ((plp (cf t) (cf t * rf t) (I (o + 20 + t)) L i) (oft (cf t) (i / 2) (i % 2))))))) = (va_up I (o + 7) (lbl (cf t * rf t) (nup (plp (cf t) (cf t * rf t) (I (o + 20 + t)) L i) (i / 2) (min ((plp (cf t) (cf t * rf t) (I (o + 20 + t)) L i) (i / 2)) ((plp (cf t) (cf t * rf t) (I (o + 20 + t)) L i) (oft (cf t) (i / 2) (i % 2))))) (I (o + 7)))) := by rw [va_up_self, up_up, lbl_up _ _ (by omega)]
                          rw [eI] at hM
                          clear eI
                          refine lv_aload_n hx hb dX4_parts_140 rfl (lv_at hl 4 rfl) ?_
                          refine fb_get (r := o) hx hb hown hts hin4 hM ((hA.1).1) (ce4 ((hA.1).2)) rfl 13 (by decide) (hts (.fieldLink RX4 37 "FeatherBedsModel" "part" "[I") (by decide +kernel)) (fun _ h9 => h9) (v := .ref (sa S (o + 7))) (congrArg (fun z => some (va_rf z)) ((hA.2.1).2.2.2.2.2.2)) dX4_parts_141 ?_
                          refine lv_iload hx hb dX4_parts_144 (lv_at hl 2 rfl) ?_
                          refine lv_iload hx hb dX4_parts_146 (lv_at hl 1 rfl) ?_
                          refine fb_iast (r := (o + 7)) hx hb hM ((hA.2.2.2.2.2.2.2.2.1).1) (ce6 ((hA.2.2.2.2.2.2.2.2.1).2.1)) (k := oft (cf t) (i / 2) (i % 2)) (nI_clamp (by omega)) (by rw [(hA.2.2.2.2.2.2.2.2.1).2.2]; exact vp_in_nI (by omega) (by omega)) dX4_parts_148 (up_I (j := oft (cf t) (i / 2) (i % 2)) (by rw [ce6 ((hA.2.2.2.2.2.2.2.2.1).2.1)]; simp [va_up])) (w' := (S, V, (sT V), (va_up (va_up I (o + 7) (lbl (cf t * rf t) (nup (plp (cf t) (cf t * rf t) (I (o + 20 + t)) L i) (i / 2) (min ((plp (cf t) (cf t * rf t) (I (o + 20 + t)) L i) (i / 2)) ((plp (cf t) (cf t * rf t) (I (o + 20 + t)) L i) (oft (cf t) (i / 2) (i % 2))))) (I (o + 7)))) (o + 7) (upd ((va_up I (o + 7) (lbl (cf t * rf t) (nup (plp (cf t) (cf t * rf t) (I (o + 20 + t)) L i) (i / 2) (min ((plp (cf t) (cf t * rf t) (I (o + 20 + t)) L i) (i / 2)) ((plp (cf t) (cf t * rf t) (I (o + 20 + t)) L i) (oft (cf t) (i / 2) (i % 2))))) (I (o + 7)))) (o + 7)) (oft (cf t) (i / 2) (i % 2)) (nI (min ((plp (cf t) (cf t * rf t) (I (o + 20 + t)) L i) (i / 2)) ((plp (cf t) (cf t * rf t) (I (o + 20 + t)) L i) (oft (cf t) (i / 2) (i % 2))))))))) ⟨rfl, rfl, rfl⟩ (fun H locs hM => ?_)
                          have eI : (va_up (va_up I (o + 7) (lbl (cf t * rf t) (nup (plp (cf t) (cf t * rf t) (I (o + 20 + t)) L i) (i / 2) (min ((plp (cf t) (cf t * rf t) (I (o + 20 + t)) L i) (i / 2)) ((plp (cf t) (cf t * rf t) (I (o + 20 + t)) L i) (oft (cf t) (i / 2) (i % 2))))) (I (o + 7)))) (o + 7) (upd ((va_up I (o + 7) (lbl (cf t * rf t) (nup (plp (cf t) (cf t * rf t) (I (o + 20 + t)) L i) (i / 2) (min ((plp (cf t) (cf t * rf t) (I (o + 20 + t)) L i) (i / 2)) ((plp (cf t) (cf t * rf t) (I (o + 20 + t)) L i) (oft (cf t) (i / 2) (i % 2))))) (I (o + 7)))) (o + 7)) (oft (cf t) (i / 2) (i % 2)) (nI (min ((plp (cf t) (cf t * rf t) (I (o + 20 + t)) L i) (i / 2)) ((plp (cf t) (cf t * rf t) (I (o + 20 + t)) L i) (oft (cf t) (i / 2) (i % 2))))))) = (va_up I (o + 7) (lbl (cf t * rf t) (psw (plp (cf t) (cf t * rf t) (I (o + 20 + t)) L i) (i / 2) (oft (cf t) (i / 2) (i % 2))) (I (o + 7)))) := by rw [va_up_self, up_up, lbl_up _ _ hp]; rfl
                          rw [eI] at hM
                          clear eI
                          refine lv_iinc (v := nI (i + 1)) (lv' := [(4, .int (nI (i + 1))), (3, .int 0), (6, .int (nI (min ((plp (cf t) (cf t * rf t) (I (o + 20 + t)) L i) (i / 2)) ((plp (cf t) (cf t * rf t) (I (o + 20 + t)) L i) (oft (cf t) (i / 2) (i % 2)))))), (5, .int (nI (oft (cf t) (i / 2) (i % 2)))), (0, .ref (sa S o)), (1, .int (nI t)), (2, .int (nI (cf t * rf t)))]) hx hb dX4_parts_149 hl (k := 3) rfl (nI_1 _) (by decide) rfl (fun ls hl => ?_)
                          refine lv_goto (tgt := 37) hx hb dX4_parts_152 (by decide) ?_
                          rw [← eP] at hM
                          have hl : lv_has ls 7 [(4, .int (nI (i + 1))), (3, .int (pch (cf t) (cf t * rf t) (I (o + 20 + t)) L (i + 1))), (0, .ref (sa S o)), (1, .int (nI t)), (2, .int (nI (cf t * rf t)))] := by rw [eC]; exact lv_sub hl [0, 1, 4, 5, 6] rfl
                          exact ih_37 (i + 1) (by omega) (by omega) _ _ hM ls (lv_sub hl [0, 1, 2, 3, 4] rfl)
                        · skip
                          have h120 : ¬ (plp (cf t) (cf t * rf t) (I (o + 20 + t)) L i) (i / 2) = (plp (cf t) (cf t * rf t) (I (o + 20 + t)) L i) (oft (cf t) (i / 2) (i % 2)) := fun h => c_11 (by rw [h])
                          have eC : (pch (cf t) (cf t * rf t) (I (o + 20 + t)) L (i + 1)) = 1 := (if_pos ho).trans (if_pos (Or.inr h120))
                          refine lv_iconst (v := 1) hx hb dX4_parts_123 (by decide) ?_
                          refine lv_goto (tgt := 128) hx hb dX4_parts_124 (by decide) ?_
                          refine lv_istore_n (lv' := [(3, .int 1), (6, .int (nI (min ((plp (cf t) (cf t * rf t) (I (o + 20 + t)) L i) (i / 2)) ((plp (cf t) (cf t * rf t) (I (o + 20 + t)) L i) (oft (cf t) (i / 2) (i % 2)))))), (5, .int (nI (oft (cf t) (i / 2) (i % 2)))), (4, .int (nI i)), (0, .ref (sa S o)), (1, .int (nI t)), (2, .int (nI (cf t * rf t)))]) hx hb dX4_parts_128 rfl hl (by decide) rfl (fun ls hl => ?_)
                          refine lv_aload_n hx hb dX4_parts_129 rfl (lv_at hl 4 rfl) ?_
                          refine fb_get (r := o) hx hb hown hts hin4 hM ((hA.1).1) (ce4 ((hA.1).2)) rfl 13 (by decide) (hts (.fieldLink RX4 37 "FeatherBedsModel" "part" "[I") (by decide +kernel)) (fun _ h9 => h9) (v := .ref (sa S (o + 7))) (congrArg (fun z => some (va_rf z)) ((hA.2.1).2.2.2.2.2.2)) dX4_parts_130 ?_
                          refine lv_iload hx hb dX4_parts_133 (lv_at hl 3 rfl) ?_
                          refine lv_iconst (v := 2) hx hb dX4_parts_135 (by decide) ?_
                          refine lv_idiv hx hb dX4_parts_136 (by decide) ?_
                          refine W.eq (g2 := F0 mv _ ls (.int (nI (i / 2)) :: .ref (sa S (o + 7)) :: [])) (by first | rfl | rw [show ((nI i) / 2 : Int32) = nI (i / 2) from pk_div (d := 2) (by omega) (by omega) (by omega)]) ?_
                          refine lv_iload hx hb dX4_parts_137 (lv_at hl 1 rfl) ?_
                          refine fb_iast (r := (o + 7)) hx hb hM ((hA.2.2.2.2.2.2.2.2.1).1) (ce6 ((hA.2.2.2.2.2.2.2.2.1).2.1)) (k := i / 2) (nI_clamp (by omega)) (by rw [(hA.2.2.2.2.2.2.2.2.1).2.2]; exact vp_in_nI (by omega) (by omega)) dX4_parts_139 (up_I (j := i / 2) (by rw [ce6 ((hA.2.2.2.2.2.2.2.2.1).2.1)]; simp [va_up])) (w' := (S, V, (sT V), (va_up (va_up I (o + 7) (lbl (cf t * rf t) (plp (cf t) (cf t * rf t) (I (o + 20 + t)) L i) (I (o + 7)))) (o + 7) (upd ((va_up I (o + 7) (lbl (cf t * rf t) (plp (cf t) (cf t * rf t) (I (o + 20 + t)) L i) (I (o + 7)))) (o + 7)) (i / 2) (nI (min ((plp (cf t) (cf t * rf t) (I (o + 20 + t)) L i) (i / 2)) ((plp (cf t) (cf t * rf t) (I (o + 20 + t)) L i) (oft (cf t) (i / 2) (i % 2))))))))) ⟨rfl, rfl, rfl⟩ (fun H locs hM => ?_)
                          have eI : (va_up (va_up I (o + 7) (lbl (cf t * rf t) (plp (cf t) (cf t * rf t) (I (o + 20 + t)) L i) (I (o + 7)))) (o + 7) (upd ((va_up I (o + 7) (lbl (cf t * rf t) (plp (cf t) (cf t * rf t) (I (o + 20 + t)) L i) (I (o + 7)))) (o + 7)) (i / 2) (nI (min ((plp (cf t) (cf t * rf t) (I (o + 20 + t)) L i) (i / 2)) ((plp (cf t) (cf t * rf t) (I (o + 20 + t)) L i) (oft (cf t) (i / 2) (i % 2))))))) = (va_up I (o + 7) (lbl (cf t * rf t) (nup (plp (cf t) (cf t * rf t) (I (o + 20 + t)) L i) (i / 2) (min ((plp (cf t) (cf t * rf t) (I (o + 20 + t)) L i) (i / 2)) ((plp (cf t) (cf t * rf t) (I (o + 20 + t)) L i) (oft (cf t) (i / 2) (i % 2))))) (I (o + 7)))) := by rw [va_up_self, up_up, lbl_up _ _ (by omega)]
                          rw [eI] at hM
                          clear eI
                          refine lv_aload_n hx hb dX4_parts_140 rfl (lv_at hl 4 rfl) ?_
                          refine fb_get (r := o) hx hb hown hts hin4 hM ((hA.1).1) (ce4 ((hA.1).2)) rfl 13 (by decide) (hts (.fieldLink RX4 37 "FeatherBedsModel" "part" "[I") (by decide +kernel)) (fun _ h9 => h9) (v := .ref (sa S (o + 7))) (congrArg (fun z => some (va_rf z)) ((hA.2.1).2.2.2.2.2.2)) dX4_parts_141 ?_
                          refine lv_iload hx hb dX4_parts_144 (lv_at hl 2 rfl) ?_
                          refine lv_iload hx hb dX4_parts_146 (lv_at hl 1 rfl) ?_
                          refine fb_iast (r := (o + 7)) hx hb hM ((hA.2.2.2.2.2.2.2.2.1).1) (ce6 ((hA.2.2.2.2.2.2.2.2.1).2.1)) (k := oft (cf t) (i / 2) (i % 2)) (nI_clamp (by omega)) (by rw [(hA.2.2.2.2.2.2.2.2.1).2.2]; exact vp_in_nI (by omega) (by omega)) dX4_parts_148 (up_I (j := oft (cf t) (i / 2) (i % 2)) (by rw [ce6 ((hA.2.2.2.2.2.2.2.2.1).2.1)]; simp [va_up])) (w' := (S, V, (sT V), (va_up (va_up I (o + 7) (lbl (cf t * rf t) (nup (plp (cf t) (cf t * rf t) (I (o + 20 + t)) L i) (i / 2) (min ((plp (cf t) (cf t * rf t) (I (o + 20 + t)) L i) (i / 2)) ((plp (cf t) (cf t * rf t) (I (o + 20 + t)) L i) (oft (cf t) (i / 2) (i % 2))))) (I (o + 7)))) (o + 7) (upd ((va_up I (o + 7) (lbl (cf t * rf t) (nup (plp (cf t) (cf t * rf t) (I (o + 20 + t)) L i) (i / 2) (min ((plp (cf t) (cf t * rf t) (I (o + 20 + t)) L i) (i / 2)) ((plp (cf t) (cf t * rf t) (I (o + 20 + t)) L i) (oft (cf t) (i / 2) (i % 2))))) (I (o + 7)))) (o + 7)) (oft (cf t) (i / 2) (i % 2)) (nI (min ((plp (cf t) (cf t * rf t) (I (o + 20 + t)) L i) (i / 2)) ((plp (cf t) (cf t * rf t) (I (o + 20 + t)) L i) (oft (cf t) (i / 2) (i % 2))))))))) ⟨rfl, rfl, rfl⟩ (fun H locs hM => ?_)
                          have eI : (va_up (va_up I (o + 7) (lbl (cf t * rf t) (nup (plp (cf t) (cf t * rf t) (I (o + 20 + t)) L i) (i / 2) (min ((plp (cf t) (cf t * rf t) (I (o + 20 + t)) L i) (i / 2)) ((plp (cf t) (cf t * rf t) (I (o + 20 + t)) L i) (oft (cf t) (i / 2) (i % 2))))) (I (o + 7)))) (o + 7) (upd ((va_up I (o + 7) (lbl (cf t * rf t) (nup (plp (cf t) (cf t * rf t) (I (o + 20 + t)) L i) (i / 2) (min ((plp (cf t) (cf t * rf t) (I (o + 20 + t)) L i) (i / 2)) ((plp (cf t) (cf t * rf t) (I (o + 20 + t)) L i) (oft (cf t) (i / 2) (i % 2))))) (I (o + 7)))) (o + 7)) (oft (cf t) (i / 2) (i % 2)) (nI (min ((plp (cf t) (cf t * rf t) (I (o + 20 + t)) L i) (i / 2)) ((plp (cf t) (cf t * rf t) (I (o + 20 + t)) L i) (oft (cf t) (i / 2) (i % 2))))))) = (va_up I (o + 7) (lbl (cf t * rf t) (psw (plp (cf t) (cf t * rf t) (I (o + 20 + t)) L i) (i / 2) (oft (cf t) (i / 2) (i % 2))) (I (o + 7)))) := by rw [va_up_self, up_up, lbl_up _ _ hp]; rfl
                          rw [eI] at hM
                          clear eI
                          refine lv_iinc (v := nI (i + 1)) (lv' := [(4, .int (nI (i + 1))), (3, .int 1), (6, .int (nI (min ((plp (cf t) (cf t * rf t) (I (o + 20 + t)) L i) (i / 2)) ((plp (cf t) (cf t * rf t) (I (o + 20 + t)) L i) (oft (cf t) (i / 2) (i % 2)))))), (5, .int (nI (oft (cf t) (i / 2) (i % 2)))), (0, .ref (sa S o)), (1, .int (nI t)), (2, .int (nI (cf t * rf t)))]) hx hb dX4_parts_149 hl (k := 3) rfl (nI_1 _) (by decide) rfl (fun ls hl => ?_)
                          refine lv_goto (tgt := 37) hx hb dX4_parts_152 (by decide) ?_
                          rw [← eP] at hM
                          have hl : lv_has ls 7 [(4, .int (nI (i + 1))), (3, .int (pch (cf t) (cf t * rf t) (I (o + 20 + t)) L (i + 1))), (0, .ref (sa S o)), (1, .int (nI t)), (2, .int (nI (cf t * rf t)))] := by rw [eC]; exact lv_sub hl [0, 1, 4, 5, 6] rfl
                          exact ih_37 (i + 1) (by omega) (by omega) _ _ hM ls (lv_sub hl [0, 1, 2, 3, 4] rfl)
                    · skip
                      have hob := ob_0 c_8
                      have eC : (pch (cf t) (cf t * rf t) (I (o + 20 + t)) L (i + 1)) = (pch (cf t) (cf t * rf t) (I (o + 20 + t)) L i) := if_neg (by rw [hob]; decide)
                      have eP : (plp (cf t) (cf t * rf t) (I (o + 20 + t)) L (i + 1)) = (plp (cf t) (cf t * rf t) (I (o + 20 + t)) L i) := if_neg (by rw [hob]; decide)
                      refine lv_goto (tgt := 149) hx hb dX4_parts_61 (by decide) ?_
                      refine lv_iinc (v := nI (i + 1)) (lv' := [(4, .int (nI (i + 1))), (3, .int ((pch (cf t) (cf t * rf t) (I (o + 20 + t)) L i))), (0, .ref (sa S o)), (1, .int (nI t)), (2, .int (nI (cf t * rf t)))]) hx hb dX4_parts_149 hl (k := 0) rfl (nI_1 _) (by decide) rfl (fun ls hl => ?_)
                      refine lv_goto (tgt := 37) hx hb dX4_parts_152 (by decide) ?_
                      rw [← eP] at hM
                      have hl : lv_has ls 7 [(4, .int (nI (i + 1))), (3, .int (pch (cf t) (cf t * rf t) (I (o + 20 + t)) L (i + 1))), (0, .ref (sa S o)), (1, .int (nI t)), (2, .int (nI (cf t * rf t)))] := by rw [eC]; exact lv_sub hl [0, 1, 2, 3, 4] rfl
                      exact ih_37 (i + 1) (by omega) (by omega) _ _ hM ls (lv_sub hl [0, 1, 2, 3, 4] rfl)
              exact LP_37 _ 0 (by omega) (Nat.lt_succ_self _) _ _ hM ls (lv_sub hl [0, 1, 2, 3, 4] rfl)
        exact LP_28 _ (fun j => j) 1 (fun j => Nat.le_refl _) (conn_id _ _ _) (fun e => absurd e (by decide)) (Nat.lt_succ_self _) _ _ hM ls (lv_sub hl [0, 1, 2, 3] rfl)
      · skip
        have hkk : k < cf t * rf t := Nat.lt_of_not_le (fun h => c_2 (nI_le h (by omega)))
        refine lv_aload_n hx hb dX4_parts_13 rfl (lv_at hl 1 rfl) ?_
        refine fb_get (r := o) hx hb hown hts hin4 hM ((hA.1).1) (ce4 ((hA.1).2)) rfl 13 (by decide) (hts (.fieldLink RX4 37 "FeatherBedsModel" "part" "[I") (by decide +kernel)) (fun _ h9 => h9) (v := .ref (sa S (o + 7))) (congrArg (fun z => some (va_rf z)) ((hA.2.1).2.2.2.2.2.2)) dX4_parts_14 ?_
        refine lv_iload_n hx hb dX4_parts_17 rfl (lv_at hl 0 rfl) ?_
        refine lv_iload_n hx hb dX4_parts_18 rfl (lv_at hl 0 rfl) ?_
        refine fb_iast (r := (o + 7)) hx hb hM ((hA.2.2.2.2.2.2.2.2.1).1) (ce6 ((hA.2.2.2.2.2.2.2.2.1).2.1)) (k := k) (nI_clamp (by omega)) (by rw [(hA.2.2.2.2.2.2.2.2.1).2.2]; exact vp_in_nI (by omega) (by omega)) dX4_parts_19 (up_I (j := k) (by rw [ce6 ((hA.2.2.2.2.2.2.2.2.1).2.1)]; simp [va_up])) (w' := (S, V, (sT V), (va_up (va_up I (o + 7) (lbl k (fun j => j) (I (o + 7)))) (o + 7) (upd ((va_up I (o + 7) (lbl k (fun j => j) (I (o + 7)))) (o + 7)) k (nI k))))) ⟨rfl, rfl, rfl⟩ (fun H locs hM => ?_)
        have eI : (va_up (va_up I (o + 7) (lbl k (fun j => j) (I (o + 7)))) (o + 7) (upd ((va_up I (o + 7) (lbl k (fun j => j) (I (o + 7)))) (o + 7)) k (nI k))) = (va_up I (o + 7) (lbl (k + 1) (fun j => j) (I (o + 7)))) := by rw [va_up_self, up_up]; exact congrArg (va_up I (o + 7)) (lbl_s (fun j => j) _ k)
        rw [eI] at hM
        clear eI
        refine lv_iinc (v := nI (k + 1)) (lv' := [(3, .int (nI (k + 1))), (0, .ref (sa S o)), (1, .int (nI t)), (2, .int (nI (cf t * rf t)))]) hx hb dX4_parts_20 hl (k := 0) rfl (nI_1 _) (by decide) rfl (fun ls hl => ?_)
        refine lv_goto (tgt := 8) hx hb dX4_parts_23 (by decide) ?_
        exact ih_8 (k + 1) (by omega) (by omega) _ _ hM ls (lv_sub hl [0, 1, 2, 3] rfl)
  rw [show I = (va_up I (o + 7) (lbl 0 (fun j => j) (I (o + 7)))) from by rw [lbl_0]; exact (up_id _ _ _ rfl).symm] at hM
  exact LP_8 _ 0 (by omega) (Nat.lt_succ_self _) _ _ hM ls (lv_sub hl [0, 2, 3, 1] rfl)
