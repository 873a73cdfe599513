abbrev rm_X2_become : Room := { frames := 2, cells := 0, slots := 0, locals := 44 }
set_option maxHeartbeats 4000000 in
set_option maxRecDepth 100000 in
theorem c_X2_become (D : va_G) (y : Nat → ClassId) (l : Launch) (S : fb_Sh) (V I : fb_V) (t b u e c r d : Nat) (ht : TickAt S t b) (ht2 : TickAt S u e) (hf : TF I u c r d) (hd1 : u + 4 ≤ t ∨ t + 4 ≤ u) (hd2 : e + 72 ≤ b ∨ b + 72 ≤ e) : CV D y l yX2_become wsX2_become rm_X2_become [.ref (sa S t), .ref (sa S u)] (S, V, (sT V), I) (fun x => x = (S, (stv V b (bcX V b e 36)), sT (stv V b (bcX V b e 36)), (va_up (va_up I t (upd (upd (upd (upd (I t) 0 (nI c)) 1 (nI r)) 2 (nI d)) 3 (nI (c * r)))) (t + 2) (cpb 72 (I (u + 2)) (I (t + 2)))))) 0 0 := by
  refine CV.of (cc := cX2_become) (maxL := 3) (ret := none) (by decide) rfl (Nat.le_of_ble_eq_true rfl) ?_
  intro pv ev s mv below meth cv A hx hb hml hr hown hts hlocks hname hM ls hl
  have hown : s.vm.findClass RX2 = some mv.cls := hown
  have hl : lv_has ls 3 [(0, .ref (sa S t)), (1, .ref (sa S u))] := hl
  have hin2 : ∀ x ∈ wsX20, x ∈ wsX2_become := by decide +kernel
  obtain ⟨Q, hQ⟩ : ∃ Q, Q = MQ below (va_Qv (fun x => x = (S, (stv V b (bcX V b e 36)), sT (stv V b (bcX V b e 36)), (va_up (va_up I t (upd (upd (upd (upd (I t) 0 (nI c)) 1 (nI r)) 2 (nI d)) 3 (nI (c * r)))) (t + 2) (cpb 72 (I (u + 2)) (I (t + 2)))))) (fun u t => fb_P D y A u t) A) (([.ref (sa S t), .ref (sa S u)] : List Value).toArray) s 0 0 A := ⟨_, rfl⟩
  rw [← hQ]
  have hut : u ≠ t := by omega
  have hcr := hf.le
  refine lv_aload_n hx hb dX2_become_0 rfl (lv_at hl 0 rfl) ?_
  refine lv_aload_n hx hb dX2_become_1 rfl (lv_at hl 1 rfl) ?_
  refine fb_get (r := u) hx hb hown hts hin2 hM ((ht2.1)) (ce2 ((ht2.2.1))) rfl 0 (by decide) (hts (.fieldLink RX2 9 "FeatherBeds$Tick" "columns" "I") (by decide +kernel)) (fun _ h9 => h9) (v := .int (nI c)) (congrArg (fun z => some (Value.int z)) (by first | exact hf.1 | (simp only [va_up_ne _ _ hut]; exact hf.1))) dX2_become_2 ?_
  refine fb_put (r := t) hx hb hown hts hin2 tyX2 tyX2_ok nmX2 hM ((ht.1)) (ce2 ((ht.2.1))) rfl 0 (by decide) (hts (.fieldLink RX2 9 "FeatherBeds$Tick" "columns" "I") (by decide +kernel)) (fun _ h9 => h9) rfl (ty := .int) (by decide +kernel) rfl rfl (Nat.le_of_ble_eq_true rfl) dX2_become_5 (up_I (j := 0) (v := nI c) (by rw [ce2 (S := S) ((ht.2.1))]; simp [va_up, upd])) (w' := (S, V, (sT V), (va_up I t (upd (I t) 0 (nI c))))) ⟨rfl, rfl, rfl⟩ (fun H locs hM => ?_)
  refine lv_aload_n hx hb dX2_become_8 rfl (lv_at hl 0 rfl) ?_
  refine lv_aload_n hx hb dX2_become_9 rfl (lv_at hl 1 rfl) ?_
  refine fb_get (r := u) hx hb hown hts hin2 hM ((ht2.1)) (ce2 ((ht2.2.1))) rfl 1 (by decide) (hts (.fieldLink RX2 15 "FeatherBeds$Tick" "rows" "I") (by decide +kernel)) (fun _ h9 => h9) (v := .int (nI r)) (congrArg (fun z => some (Value.int z)) (by first | exact hf.2.1 | (simp only [va_up_ne _ _ hut]; exact hf.2.1))) dX2_become_10 ?_
  refine fb_put (r := t) hx hb hown hts hin2 tyX2 tyX2_ok nmX2 hM ((ht.1)) (ce2 ((ht.2.1))) rfl 1 (by decide) (hts (.fieldLink RX2 15 "FeatherBeds$Tick" "rows" "I") (by decide +kernel)) (fun _ h9 => h9) rfl (ty := .int) (by decide +kernel) rfl rfl (Nat.le_of_ble_eq_true rfl) dX2_become_13 (up_I (j := 1) (v := nI r) (by rw [ce2 (S := S) ((ht.2.1))]; simp [va_up, upd])) (w' := (S, V, (sT V), (va_up (va_up I t (upd (I t) 0 (nI c))) t (upd ((va_up I t (upd (I t) 0 (nI c))) t) 1 (nI r))))) ⟨rfl, rfl, rfl⟩ (fun H locs hM => ?_)
  refine lv_aload_n hx hb dX2_become_16 rfl (lv_at hl 0 rfl) ?_
  refine lv_aload_n hx hb dX2_become_17 rfl (lv_at hl 1 rfl) ?_
  refine fb_get (r := u) hx hb hown hts hin2 hM ((ht2.1)) (ce2 ((ht2.2.1))) rfl 2 (by decide) (hts (.fieldLink RX2 18 "FeatherBeds$Tick" "density" "I") (by decide +kernel)) (fun _ h9 => h9) (v := .int (nI d)) (congrArg (fun z => some (Value.int z)) (by first | exact hf.2.2.1 | (simp only [va_up_ne _ _ hut]; exact hf.2.2.1))) dX2_become_18 ?_
  refine fb_put (r := t) hx hb hown hts hin2 tyX2 tyX2_ok nmX2 hM ((ht.1)) (ce2 ((ht.2.1))) rfl 2 (by decide) (hts (.fieldLink RX2 18 "FeatherBeds$Tick" "density" "I") (by decide +kernel)) (fun _ h9 => h9) rfl (ty := .int) (by decide +kernel) rfl rfl (Nat.le_of_ble_eq_true rfl) dX2_become_21 (up_I (j := 2) (v := nI d) (by rw [ce2 (S := S) ((ht.2.1))]; simp [va_up, upd])) (w' := (S, V, (sT V), (va_up (va_up (va_up I t (upd (I t) 0 (nI c))) t (upd ((va_up I t (upd (I t) 0 (nI c))) t) 1 (nI r))) t (upd ((va_up (va_up I t (upd (I t) 0 (nI c))) t (upd ((va_up I t (upd (I t) 0 (nI c))) t) 1 (nI r))) t) 2 (nI d))))) ⟨rfl, rfl, rfl⟩ (fun H locs hM => ?_)
  refine lv_aload_n hx hb dX2_become_24 rfl (lv_at hl 0 rfl) ?_
  refine lv_aload_n hx hb dX2_become_25 rfl (lv_at hl 1 rfl) ?_
  refine fb_get (r := u) hx hb hown hts hin2 hM ((ht2.1)) (ce2 ((ht2.2.1))) rfl 3 (by decide) (hts (.fieldLink RX2 21 "FeatherBeds$Tick" "squares" "I") (by decide +kernel)) (fun _ h9 => h9) (v := .int (nI ((c * r)))) (congrArg (fun z => some (Value.int z)) (by first | exact hf.2.2.2.1 | (simp only [va_up_ne _ _ hut]; exact hf.2.2.2.1))) dX2_become_26 ?_
  refine fb_put (r := t) hx hb hown hts hin2 tyX2 tyX2_ok nmX2 hM ((ht.1)) (ce2 ((ht.2.1))) rfl 3 (by decide) (hts (.fieldLink RX2 21 "FeatherBeds$Tick" "squares" "I") (by decide +kernel)) (fun _ h9 => h9) rfl (ty := .int) (by decide +kernel) rfl rfl (Nat.le_of_ble_eq_true rfl) dX2_become_29 (up_I (j := 3) (v := nI ((c * r))) (by rw [ce2 (S := S) ((ht.2.1))]; simp [va_up, upd])) (w' := (S, V, (sT V), (va_up (va_up (va_up (va_up I t (upd (I t) 0 (nI c))) t (upd ((va_up I t (upd (I t) 0 (nI c))) t) 1 (nI r))) t (upd ((va_up (va_up I t (upd (I t) 0 (nI c))) t (upd ((va_up I t (upd (I t) 0 (nI c))) t) 1 (nI r))) t) 2 (nI d))) t (upd ((va_up (va_up (va_up I t (upd (I t) 0 (nI c))) t (upd ((va_up I t (upd (I t) 0 (nI c))) t) 1 (nI r))) t (upd ((va_up (va_up I t (upd (I t) 0 (nI c))) t (upd ((va_up I t (upd (I t) 0 (nI c))) t) 1 (nI r))) t) 2 (nI d))) t) 3 (nI ((c * r))))))) ⟨rfl, rfl, rfl⟩ (fun H locs hM => ?_)
  have eI : (va_up (va_up (va_up (va_up I t (upd (I t) 0 (nI c))) t (upd ((va_up I t (upd (I t) 0 (nI c))) t) 1 (nI r))) t (upd ((va_up (va_up I t (upd (I t) 0 (nI c))) t (upd ((va_up I t (upd (I t) 0 (nI c))) t) 1 (nI r))) t) 2 (nI d))) t (upd ((va_up (va_up (va_up I t (upd (I t) 0 (nI c))) t (upd ((va_up I t (upd (I t) 0 (nI c))) t) 1 (nI r))) t (upd ((va_up (va_up I t (upd (I t) 0 (nI c))) t (upd ((va_up I t (upd (I t) 0 (nI c))) t) 1 (nI r))) t) 2 (nI d))) t) 3 (nI ((c * r))))) = (va_up I t (upd (upd (upd (upd (I t) 0 (nI c)) 1 (nI r)) 2 (nI d)) 3 (nI (c * r)))) := by rw [up_up, up_up, up_up, va_up_self, va_up_self, va_up_self]
  rw [eI] at hM
  clear eI
  refine lv_iconst (v := 0) hx hb dX2_become_32 (by decide) ?_
  refine lv_istore_n (lv' := [(2, .int 0), (0, .ref (sa S t)), (1, .ref (sa S u))]) hx hb dX2_become_33 rfl hl (by decide) rfl (fun ls hl => ?_)
  have LP_34 : ∀ (n : Nat) (i : Nat) (hi : i ≤ 36), 36 - i < n → ∀ (H : Heap) (locs : List Loc), fb_M D y A s (S, (stv V b (bcX V b e i)), (sT (stv V b (bcX V b e i))), (va_up I t (upd (upd (upd (upd (I t) 0 (nI c)) 1 (nI r)) 2 (nI d)) 3 (nI (c * r))))) H locs → ∀ ls, lv_has ls 3 [(2, .int (nI i)), (0, .ref (sa S t)), (1, .ref (sa S u))] → W pv l ev rm_X2_become s mv ([.ref (sa S t), .ref (sa S u)] : List Value).toArray below meth cv H locs 0 0 Q (F0 mv 34 ls []) := by
    intro n_34
    induction n_34 with
    | zero => intro i hi hmu; exact absurd hmu (Nat.not_lt_zero _)
    | succ n_34 ih_34 =>
      intro i hi hmu H locs hM ls hl
      refine lv_iload_n hx hb dX2_become_34 rfl (lv_at hl 0 rfl) ?_
      refine lv_aload_n hx hb dX2_become_35 rfl (lv_at hl 1 rfl) ?_
      refine fb_get (r := t) hx hb hown hts hin2 hM ((ht.1)) (ce2 ((ht.2.1))) rfl 4 (by decide) (hts (.fieldLink RX2 26 "FeatherBeds$Tick" "heaps" "[LFeatherBeds$Heap;") (by decide +kernel)) (fun _ h9 => h9) (v := .ref (sa S (t + 1))) (congrArg (fun z => some (va_rf z)) ((ht.2.2.1))) dX2_become_36 ?_
      refine fb_alen (r := (t + 1)) hx hb hM ((ht.2.2.2.2.2.1)) (ce8 ((ht.2.2.2.2.2.2.1))) 2 rfl (v := nI 36) (congrArg Int32.ofNat ((ht.2.2.2.2.2.2.2.1))) dX2_become_39 ?_
      refine lv_icmp_ge (tgt := 73) hx hb dX2_become_40 (by decide) (fun c_1 => ?_) (fun c_1 => ?_)
      · skip
        have e_i : i = 36 := by have := (nI_leI (a := 36) (b := i) (by omega) (by omega)).mp c_1; omega
        have e_i := Eq.symm e_i
        subst e_i
        refine lv_iconst (v := 0) hx hb dX2_become_73 (by decide) ?_
        refine lv_istore_n (lv' := [(2, .int 0), (0, .ref (sa S t)), (1, .ref (sa S u))]) hx hb dX2_become_74 rfl hl (by decide) rfl (fun ls hl => ?_)
        have LP_75 : ∀ (n : Nat) (j : Nat) (hj : j ≤ 72), 72 - j < n → ∀ (H : Heap) (locs : List Loc), fb_M D y A s (S, (stv V b (bcX V b e 36)), (sT (stv V b (bcX V b e 36))), (va_up (va_up I t (upd (upd (upd (upd (I t) 0 (nI c)) 1 (nI r)) 2 (nI d)) 3 (nI (c * r)))) (t + 2) (cpb j (I (u + 2)) (I (t + 2))))) H locs → ∀ ls, lv_has ls 3 [(2, .int (nI j)), (0, .ref (sa S t)), (1, .ref (sa S u))] → W pv l ev rm_X2_become s mv ([.ref (sa S t), .ref (sa S u)] : List Value).toArray below meth cv H locs 0 0 Q (F0 mv 75 ls []) := by
          intro n_75
          induction n_75 with
          | zero => intro j hj hmu; exact absurd hmu (Nat.not_lt_zero _)
          | succ n_75 ih_75 =>
            intro j hj hmu H locs hM ls hl
            refine lv_iload_n hx hb dX2_become_75 rfl (lv_at hl 0 rfl) ?_
            refine lv_aload_n hx hb dX2_become_76 rfl (lv_at hl 1 rfl) ?_
            refine fb_get (r := t) hx hb hown hts hin2 hM ((ht.1)) (ce2 ((ht.2.1))) rfl 5 (by decide) (hts (.fieldLink RX2 31 "FeatherBeds$Tick" "sewn" "[Z") (by decide +kernel)) (fun _ h9 => h9) (v := .ref (sa S (t + 2))) (congrArg (fun z => some (va_rf z)) ((ht.2.2.2.1))) dX2_become_77 ?_
            refine fb_alen (r := (t + 2)) hx hb hM ((ht.2.2.2.2.2.2.2.2.1)) (ce7 ((ht.2.2.2.2.2.2.2.2.2.1))) 1 rfl (v := nI 72) (congrArg Int32.ofNat ((ht.2.2.2.2.2.2.2.2.2.2.1))) dX2_become_80 ?_
            refine lv_icmp_ge (tgt := 111) hx hb dX2_become_81 (by decide) (fun c_2 => ?_) (fun c_2 => ?_)
            · skip
              have e_j : j = 72 := by have := (nI_leI (a := 72) (b := j) (by omega) (by omega)).mp c_2; omega
              have e_j := Eq.symm e_j
              subst e_j
              rw [hQ]
              exact fb_vret hx hb hr hlocks hM (rfl) dX2_become_111
            · skip
              have hjk : j < 72 := Nat.lt_of_not_le (fun h => c_2 (nI_le h (by omega)))
              refine lv_iload_n hx hb dX2_become_84 rfl (lv_at hl 0 rfl) ?_
              refine lv_aload_n hx hb dX2_become_85 rfl (lv_at hl 2 rfl) ?_
              refine fb_get (r := u) hx hb hown hts hin2 hM ((ht2.1)) (ce2 ((ht2.2.1))) rfl 5 (by decide) (hts (.fieldLink RX2 31 "FeatherBeds$Tick" "sewn" "[Z") (by decide +kernel)) (fun _ h9 => h9) (v := .ref (sa S (u + 2))) (congrArg (fun z => some (va_rf z)) ((ht2.2.2.2.1))) dX2_become_86 ?_
              refine fb_alen (r := (u + 2)) hx hb hM ((ht2.2.2.2.2.2.2.2.2.1)) (ce7 ((ht2.2.2.2.2.2.2.2.2.2.1))) 1 rfl (v := nI 72) (congrArg Int32.ofNat ((ht2.2.2.2.2.2.2.2.2.2.2.1))) dX2_become_89 ?_
              refine lv_icmp_ge (tgt := 111) hx hb dX2_become_90 (by decide) (fun c_3 => absurd c_3 (nI_ge hjk (by omega))) (fun c_3 => ?_)
              refine lv_aload_n hx hb dX2_become_93 rfl (lv_at hl 1 rfl) ?_
              refine fb_get (r := t) hx hb hown hts hin2 hM ((ht.1)) (ce2 ((ht.2.1))) rfl 5 (by decide) (hts (.fieldLink RX2 31 "FeatherBeds$Tick" "sewn" "[Z") (by decide +kernel)) (fun _ h9 => h9) (v := .ref (sa S (t + 2))) (congrArg (fun z => some (va_rf z)) ((ht.2.2.2.1))) dX2_become_94 ?_
              refine lv_iload_n hx hb dX2_become_97 rfl (lv_at hl 0 rfl) ?_
              refine lv_aload_n hx hb dX2_become_98 rfl (lv_at hl 2 rfl) ?_
              refine fb_get (r := u) hx hb hown hts hin2 hM ((ht2.1)) (ce2 ((ht2.2.1))) rfl 5 (by decide) (hts (.fieldLink RX2 31 "FeatherBeds$Tick" "sewn" "[Z") (by decide +kernel)) (fun _ h9 => h9) (v := .ref (sa S (u + 2))) (congrArg (fun z => some (va_rf z)) ((ht2.2.2.2.1))) dX2_become_99 ?_
              refine lv_iload_n hx hb dX2_become_102 rfl (lv_at hl 0 rfl) ?_
              refine fb_zald (r := (u + 2)) hx hb hM ((ht2.2.2.2.2.2.2.2.2.1)) (ce7 ((ht2.2.2.2.2.2.2.2.2.2.1))) (k := j) (nI_clamp (by omega)) (by rw [(ht2.2.2.2.2.2.2.2.2.2.2.1)]; exact vp_in_nI (by omega) (by omega)) dX2_become_103 ?_
              refine fb_zast (r := (t + 2)) hx hb hM ((ht.2.2.2.2.2.2.2.2.1)) (ce7 ((ht.2.2.2.2.2.2.2.2.2.1))) (k := j) (nI_clamp (by omega)) (by rw [(ht.2.2.2.2.2.2.2.2.2.2.1)]; exact vp_in_nI (by omega) (by omega)) dX2_become_104 (up_I (j := j) (by rw [ce7 (S := S) ((ht.2.2.2.2.2.2.2.2.2.1))]; simp [va_up])) (w' := (S, (stv V b (bcX V b e 36)), (sT (stv V b (bcX V b e 36))), (va_up (va_up (va_up I t (upd (upd (upd (upd (I t) 0 (nI c)) 1 (nI r)) 2 (nI d)) 3 (nI (c * r)))) (t + 2) (cpb j (I (u + 2)) (I (t + 2)))) (t + 2) (upd ((va_up (va_up I t (upd (upd (upd (upd (I t) 0 (nI c)) 1 (nI r)) 2 (nI d)) 3 (nI (c * r)))) (t + 2) (cpb j (I (u + 2)) (I (t + 2)))) (t + 2)) j (vp_nar .boolean ((va_up (va_up I t (upd (upd (upd (upd (I t) 0 (nI c)) 1 (nI r)) 2 (nI d)) 3 (nI (c * r)))) (t + 2) (cpb j (I (u + 2)) (I (t + 2)))) (u + 2) j)))))) ⟨rfl, rfl, rfl⟩ (fun H locs hM => ?_)
              refine lv_iinc (v := nI (j + 1)) (lv' := [(2, .int (nI (j + 1))), (0, .ref (sa S t)), (1, .ref (sa S u))]) hx hb dX2_become_105 hl (k := 0) rfl (nI_1 _) (by decide) rfl (fun ls hl => ?_)
              refine lv_goto (tgt := 75) hx hb dX2_become_108 (by decide) ?_
              rw [show (va_up (va_up (va_up I t (upd (upd (upd (upd (I t) 0 (nI c)) 1 (nI r)) 2 (nI d)) 3 (nI (c * r)))) (t + 2) (cpb j (I (u + 2)) (I (t + 2)))) (t + 2) (upd ((va_up (va_up I t (upd (upd (upd (upd (I t) 0 (nI c)) 1 (nI r)) 2 (nI d)) 3 (nI (c * r)))) (t + 2) (cpb j (I (u + 2)) (I (t + 2)))) (t + 2)) j (vp_nar .boolean ((va_up (va_up I t (upd (upd (upd (upd (I t) 0 (nI c)) 1 (nI r)) 2 (nI d)) 3 (nI (c * r)))) (t + 2) (cpb j (I (u + 2)) (I (t + 2)))) (u + 2) j)))) = (va_up (va_up I t (upd (upd (upd (upd (I t) 0 (nI c)) 1 (nI r)) 2 (nI d)) 3 (nI (c * r)))) (t + 2) (cpb (j + 1) (I (u + 2)) (I (t + 2)))) by rw [up_up, va_up_self, va_up_ne _ _ (show u + 2 ≠ t + 2 by omega), va_up_ne _ _ (show u + 2 ≠ t by omega)]; exact congrArg (va_up _ (t + 2)) (cpb_u j (I (u + 2)) (I (t + 2)))] at hM
              exact ih_75 (j + 1) (by omega) (by omega) _ _ hM ls (lv_sub hl [0, 1, 2] rfl)
        rw [show (va_up I t (upd (upd (upd (upd (I t) 0 (nI c)) 1 (nI r)) 2 (nI d)) 3 (nI (c * r)))) = (va_up (va_up I t (upd (upd (upd (upd (I t) 0 (nI c)) 1 (nI r)) 2 (nI d)) 3 (nI (c * r)))) (t + 2) (cpb 0 (I (u + 2)) (I (t + 2)))) from (up_id _ _ _ (by rw [cpb_0, va_up_ne _ _ (show t + 2 ≠ t by omega)])).symm] at hM
        exact LP_75 _ 0 (by omega) (Nat.lt_succ_self _) _ _ hM ls (lv_sub hl [0, 1, 2] rfl)
      · skip
        have hik : i < 36 := Nat.lt_of_not_le (fun h => c_1 (nI_le h (by omega)))
        refine lv_iload_n hx hb dX2_become_43 rfl (lv_at hl 0 rfl) ?_
        refine lv_aload_n hx hb dX2_become_44 rfl (lv_at hl 2 rfl) ?_
        refine fb_get (r := u) hx hb hown hts hin2 hM ((ht2.1)) (ce2 ((ht2.2.1))) rfl 4 (by decide) (hts (.fieldLink RX2 26 "FeatherBeds$Tick" "heaps" "[LFeatherBeds$Heap;") (by decide +kernel)) (fun _ h9 => h9) (v := .ref (sa S (u + 1))) (congrArg (fun z => some (va_rf z)) ((ht2.2.2.1))) dX2_become_45 ?_
        refine fb_alen (r := (u + 1)) hx hb hM ((ht2.2.2.2.2.2.1)) (ce8 ((ht2.2.2.2.2.2.2.1))) 2 rfl (v := nI 36) (congrArg Int32.ofNat ((ht2.2.2.2.2.2.2.2.1))) dX2_become_48 ?_
        refine lv_icmp_ge (tgt := 73) hx hb dX2_become_49 (by decide) (fun c_4 => absurd c_4 (nI_ge hik (by omega))) (fun c_4 => ?_)
        refine lv_aload_n hx hb dX2_become_52 rfl (lv_at hl 1 rfl) ?_
        refine fb_get (r := t) hx hb hown hts hin2 hM ((ht.1)) (ce2 ((ht.2.1))) rfl 4 (by decide) (hts (.fieldLink RX2 26 "FeatherBeds$Tick" "heaps" "[LFeatherBeds$Heap;") (by decide +kernel)) (fun _ h9 => h9) (v := .ref (sa S (t + 1))) (congrArg (fun z => some (va_rf z)) ((ht.2.2.1))) dX2_become_53 ?_
        refine lv_iload_n hx hb dX2_become_56 rfl (lv_at hl 0 rfl) ?_
        refine fb_aald (r := (t + 1)) hx hb hM ((ht.2.2.2.2.2.1)) (ce8 ((ht.2.2.2.2.2.2.1))) 2 rfl (k := i) (nI_clamp (by omega)) (b := sa S (b + 2 * i)) (((ht.2.2.2.2.2.2.2.2.2.2.2.2.2.2) i (by omega)).1) (by rw [(ht.2.2.2.2.2.2.2.1)]; exact vp_in_nI (by omega) (by omega)) dX2_become_57 ?_
        refine lv_aload_n hx hb dX2_become_58 rfl (lv_at hl 2 rfl) ?_
        refine fb_get (r := u) hx hb hown hts hin2 hM ((ht2.1)) (ce2 ((ht2.2.1))) rfl 4 (by decide) (hts (.fieldLink RX2 26 "FeatherBeds$Tick" "heaps" "[LFeatherBeds$Heap;") (by decide +kernel)) (fun _ h9 => h9) (v := .ref (sa S (u + 1))) (congrArg (fun z => some (va_rf z)) ((ht2.2.2.1))) dX2_become_59 ?_
        refine lv_iload_n hx hb dX2_become_62 rfl (lv_at hl 0 rfl) ?_
        refine fb_aald (r := (u + 1)) hx hb hM ((ht2.2.2.2.2.2.1)) (ce8 ((ht2.2.2.2.2.2.2.1))) 2 rfl (k := i) (nI_clamp (by omega)) (b := sa S (e + 2 * i)) (((ht2.2.2.2.2.2.2.2.2.2.2.2.2.2.2) i (by omega)).1) (by rw [(ht2.2.2.2.2.2.2.2.1)]; exact vp_in_nI (by omega) (by omega)) dX2_become_63 ?_
        refine fb_callVv (r := (b + 2 * i)) hx hb hml hown hts hM ((((ht.2.2.2.2.2.2.2.2.2.2.2.2.2.2) i (by omega)).2).1) (ce0 ((((ht.2.2.2.2.2.2.2.2.2.2.2.2.2.2) i (by omega)).2).2.1)) rfl (As := [.ref (sa S (e + 2 * i))]) (rest := []) (c_X0_become D y l S (stv V b (bcX V b e i)) (va_up I t (upd (upd (upd (upd (I t) 0 (nI c)) 1 (nI r)) 2 (nI d)) 3 (nI (c * r)))) (b + 2 * i) (e + 2 * i) (ht.hp hik) (ht2.hp hik) (by omega)) (cwV 1 hts gX2_become_X0_become rfl rfl rfl (by decide +kernel) ⟨Nat.le_of_ble_eq_true rfl, Nat.le_of_ble_eq_true rfl⟩) rfl hl.1 rfl (Nat.le_of_ble_eq_true rfl) dX2_become_64 ⟨Nat.le_of_ble_eq_true rfl, Nat.le_of_ble_eq_true rfl⟩ (fun u H locs hp hM => ?_)
        have hp := Eq.symm hp
        subst hp
        have eV : (va_up (stv V b (bcX V b e i)) (b + 2 * i) (cpn 6 ((stv V b (bcX V b e i)) (e + 2 * i)) ((stv V b (bcX V b e i)) (b + 2 * i)))) = (stv V b (bcX V b e (i + 1))) := by rw [stv_out V b _ (show e + 2 * i < b ∨ b + 72 ≤ e + 2 * i by omega), stv_at V b _ hik, stv_up V b _ hik, bcX_i, bcX_s]
        rw [eV] at hM
        clear eV
        refine lv_iinc (v := nI (i + 1)) (lv' := [(2, .int (nI (i + 1))), (0, .ref (sa S t)), (1, .ref (sa S u))]) hx hb dX2_become_67 hl (k := 0) rfl (nI_1 _) (by decide) rfl (fun ls hl => ?_)
        refine lv_goto (tgt := 34) hx hb dX2_become_70 (by decide) ?_
        exact ih_34 (i + 1) (by omega) (by omega) _ _ hM ls (lv_sub hl [0, 1, 2] rfl)
  rw [show V = (stv V b (bcX V b e 0)) from (stv_id V b (fun q hq => by rw [bcX_0])).symm] at hM
  exact LP_34 _ 0 (by omega) (Nat.lt_succ_self _) _ _ hM ls (lv_sub hl [0, 1, 2] rfl)
