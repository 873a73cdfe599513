abbrev rm_X4_bringBack : Room := { frames := 1, cells := 0, slots := 0, locals := 24 }
set_option maxHeartbeats 4000000 in
set_option maxRecDepth 100000 in
theorem c_X4_bringBack (D : va_G) (y : Nat → ClassId) (l : Launch) (S : fb_Sh) (V I : fb_V) (o nt : Nat) (cf rf : Nat → Nat) (hA : MdAt S o nt cf rf) (ns : Nat) (df : Nat → Nat) (hF : MF I o ns nt cf rf df) (t : Nat) (ht : t < nt) (a : Nat) (h1 : a ∈ sR S) (h2 : sk S a = 6) (h3 : sn S a = 6 * (cf t * rf t)) (hne : o + 10 + t ≠ a) : CV D y l yX4_bringBack wsX4_bringBack rm_X4_bringBack [.ref (sa S o), .int (nI t), .ref (sa S a)] (S, V, (sT V), I) (fun u => u = (S, V, sT V, va_up I (o + 10 + t) (va_cpy (I a) (I (o + 10 + t)) 0 0 (6 * (cf t * rf t))))) 0 0 := by
  refine CV.of (cc := cX4_bringBack) (maxL := 3) (ret := none) (by decide) rfl (Nat.le_of_ble_eq_true rfl) ?_
  intro pv ev s mv below meth cv A hx hb hml hr hown hts hlocks hname hM ls hl
  have hown : s.vm.findClass RX4 = some mv.cls := hown
  have hl : lv_has ls 3 [(0, .ref (sa S o)), (1, .int (nI t)), (2, .ref (sa S a))] := hl
  have hin4 : ∀ x ∈ wsX40, x ∈ wsX4_bringBack := by decide +kernel
  obtain ⟨Q, hQ⟩ : ∃ Q, Q = MQ below (va_Qv (fun u => u = (S, V, sT V, va_up I (o + 10 + t) (va_cpy (I a) (I (o + 10 + t)) 0 0 (6 * (cf t * rf t))))) (fun u t => fb_P D y A u t) A) (([.ref (sa S o), .int (nI t), .ref (sa S a)] : List Value).toArray) s 0 0 A := ⟨_, rfl⟩
  rw [← hQ]
  have hns : ns ≤ 12 := hF.2.2.1
  have hnt : nt ≤ 6 := hF.2.2.2.1
  have hcr := hF.cr ht
  refine lv_aload_n hx hb dX4_bringBack_0 rfl (lv_at hl 2 rfl) ?_
  refine lv_iconst (v := 0) hx hb dX4_bringBack_1 (by decide) ?_
  refine lv_aload_n hx hb dX4_bringBack_2 rfl (lv_at hl 0 rfl) ?_
  refine fb_get (r := o) hx hb hown hts hin4 hM ((hA.1).1) (ce4 ((hA.1).2)) rfl 8 (by decide) (hts (.fieldLink RX4 27 "FeatherBedsModel" "squares" "[[I") (by decide +kernel)) (fun _ h9 => h9) (v := .ref (sa S (o + 5))) (congrArg (fun z => some (va_rf z)) ((hA.2.1).2.2.2.2.1)) dX4_bringBack_3 ?_
  refine lv_iload_n hx hb dX4_bringBack_6 rfl (lv_at hl 1 rfl) ?_
  refine fb_aaldA (r := (o + 5)) hx hb hM ((hA.2.2.2.2.2.2.1).1) (ce10 ((hA.2.2.2.2.2.2.1).2.1)) 4 rfl (k := t) (nI_clamp (by omega)) (b := sa S (o + 10 + t)) (((hA.2.2.2.2.2.2.2.2.2) t (by omega)).1.1) (by rw [(hA.2.2.2.2.2.2.1).2.2]; exact vp_in_nI (by omega) (by omega)) dX4_bringBack_7 ?_
  refine lv_iconst (v := 0) hx hb dX4_bringBack_8 (by decide) ?_
  refine lv_aload_n hx hb dX4_bringBack_9 rfl (lv_at hl 2 rfl) ?_
  refine fb_alen (r := a) hx hb hM (h1) (ce6 (h2)) 0 rfl (v := nI (6 * (cf t * rf t))) (congrArg Int32.ofNat (h3)) dX4_bringBack_10 ?_
  refine fb_copy hx hb (hml.trans hl.1.symm) hown (hts (.methodLink RX4 99 arraycopyName) (by decide +kernel)) (hts (.native arraycopyName) (by decide +kernel)) (hts (.static arraycopyName) (by decide +kernel)) (hts (.initialized "java/lang/System") (by decide +kernel)) hM (r := a) (r1 := (o + 10 + t)) (h1) (h2) (((hA.2.2.2.2.2.2.2.2.2) t (by omega)).1.2.1) (((hA.2.2.2.2.2.2.2.2.2) t (by omega)).1.2.2.1) hne (((hA.2.2.2.2.2.2.2.2.2) t (by omega)).1.2.2.2) (h3) (Nat.le_refl _) (nI_clamp (by omega)) (nI_pos (by omega)) (Nat.le_of_ble_eq_true rfl) (by decide +kernel) dX4_bringBack_11 (fun H locs hM => ?_)
  rw [hQ]
  exact fb_vret hx hb hr hlocks hM (rfl) dX4_bringBack_14
