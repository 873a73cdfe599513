section LAWS
variable {p : Program} {l : Launch} {e : Env} {s : State} {m : MethodId} {args : Array Value} {below : List Frame} {meth : Method} {c : Code} {H : Heap} {locs : List Loc} {cells slots : Nat} {Q : State → Prop} {D : va_G} {A : Nat → Prop} {y : Nat → ClassId} {a0 : Nat × Nat} {b L : Nat} {xs : Nat → Int32} {S : fb_Sh} {V I : fb_V} {ls : Array Slot}

theorem law_loop (hL : Lw p l s m args c D A y a0 b L xs) {o : Nat} (ho : o = 1000) (hend : ∀ (S : fb_Sh) (V I : fb_V) (H : Heap) (locs : List Loc) (ls : Array Slot) (ce sl : Nat), fb_M D y A s (S, V, (sT V), I) H locs → ce ≤ 600000 → sl ≤ 7290000 → W p l e room_1 s m args below meth c H locs ce sl Q (F0 m 1650 ls [.int 1])) : ∀ (n i : Nat), 513 - i < n → i ≤ 512 → ∀ (S : fb_Sh) (V I : fb_V) (ns nt es na : Nat) (cf rf df : Nat → Nat) (N ce sl : Nat) (H : Heap) (locs : List Loc) (ls : Array Slot), N ≤ 3000 * i → ce ≤ 200 + 1100 * i → sl ≤ 1000 + 14000 * i → Iv a0.1 S V I o ns nt es na cf rf df N → fb_M D y A s (S, V, (sT V), I) H locs → lv_has ls 9 [(4, .int (nI (5 * i))), (3, .ref (sa S 2000)), (2, .ref (sa S o)), (1, .ref (sa S 0)), (0, .ref b)] → W p l e room_1 s m args below meth c H locs ce sl Q (F0 m 23 ls []) := by
  have hL0 := hL
  obtain ⟨hx, hb, hml, hown, hts, hE, hNc, hfl, hX, hbl, hbA, hL2⟩ := hL
  intro n
  induction n with
  | zero => intro i h; exact absurd h (Nat.not_lt_zero _)
  | succ n ih =>
    intro i hmu hi S V I ns nt es na cf rf df N ce sl H locs ls hN hce hsl hI hM hl
    have hrc : room_1.cells = 601024 := rfl
    have hrs : room_1.slots = 7293034 := rfl
    refine lv_iload hx hb dL_law_23 (lv_at hl 0 rfl) ?_
    refine lv_aload_n hx hb dL_law_25 rfl (lv_at hl 4 rfl) ?_
    refine va_slen hx hb hX hbl hbA hM.2.2.1 dL_law_26 ?_
    refine lv_iconst (v := nI 5) hx hb dL_law_27 (by decide) ?_
    refine lv_isub hx hb dL_law_28 ?_
    have hcmp : (nI L - nI 5).toInt = (L : Int) - 5 := pk_sub_toInt (by omega) (by omega)
    refine lv_icmp_gt (tgt := 1649) hx hb dL_law_29 (by decide) (fun _ => ?_) (fun hgt => ?_)
    · refine lv_iconst (v := 1) hx hb dL_law_1649 (by decide) ?_
      exact hend S V I H locs ls ce sl hM (by omega) (by omega)
    · have h5 : 5 * i + 5 ≤ L := by
        have h9 : ¬ (nI L - nI 5) < nI (5 * i) := hgt
        rw [Int32.lt_iff_toInt_lt, hcmp, nI_toInt (by omega)] at h9
        omega
      have hi5 : i + 1 ≤ 512 := by omega
      refine lv_aload_n hx hb dL_law_32 rfl (lv_at hl 4 rfl) ?_
      refine lv_iload hx hb dL_law_33 (lv_at hl 0 rfl) ?_
      refine va_sld hx hb hX hbl hbA hM.2.2.1 (vp_in_nI (by omega) (by omega)) dL_law_35 ?_
      refine lv_bipush (v := 31) hx hb dL_law_36 (by decide) ?_
      refine lv_iand hx hb dL_law_38 ?_
      have K : Kont p l e s m args below meth c Q D A y a0.1 o b (5 * i) N ce sl := by
        intro S V I ns nt es na cf rf df N' H locs ls hN' hI hM hl
        refine lv_iinc (v := nI (5 * (i + 1))) (lv' := [(4, .int (nI (5 * (i + 1)))), (3, .ref (sa S 2000)), (2, .ref (sa S o)), (1, .ref (sa S 0)), (0, .ref b)]) hx hb dL_law_1643 hl (k := 0) rfl (by rw [show Int32.ofInt 5 = nI 5 from by decide]; exact nI_add (5 * i) 5) (by decide) rfl (fun ls hl => ?_)
        refine lv_goto (tgt := 23) hx hb dL_law_1646 (by decide) ?_
        exact ih (i + 1) (by omega) hi5 S V I ns nt es na cf rf df N' (ce + 1100) (sl + 14000) H locs ls (by omega) (by omega) (by omega) hI hM hl
      obtain ⟨k, hk, ek⟩ := pk_andE (xs (nI (5 * i)).toNatClampNeg) (m := 31) 5 (by decide)
      rw [ek]
      have hk32 : k < 32 := hk
      rcases (show k = 0 ∨ k = 1 ∨ k = 2 ∨ k = 3 ∨ k = 4 ∨ k = 5 ∨ k = 6 ∨ k = 7 ∨ k = 8 ∨ k = 9 ∨ k = 10 ∨ k = 11 ∨ k = 12 ∨ k = 13 ∨ k = 14 ∨ k = 15 ∨ k = 16 ∨ k = 17 ∨ k = 18 ∨ k = 19 ∨ k = 20 ∨ k = 21 ∨ k = 22 ∨ k = 23 ∨ k = 24 ∨ k = 25 ∨ k = 26 ∨ k = 27 ∨ k = 28 ∨ k = 29 ∨ k = 30 ∨ k = 31 by omega) with rfl | rfl | rfl | rfl | rfl | rfl | rfl | rfl | rfl | rfl | rfl | rfl | rfl | rfl | rfl | rfl | rfl | rfl | rfl | rfl | rfl | rfl | rfl | rfl | rfl | rfl | rfl | rfl | rfl | rfl | rfl | rfl
      · refine lv_tableIn (off := 101) (tgt := 140) hx hb dL_law_39 (by decide) (by decide) rfl (by decide) ?_
        exact stp_addSack hL0 hM hI ho h5 (by omega) (by omega) (by omega) hl K
      · refine lv_tableIn (off := 157) (tgt := 196) hx hb dL_law_39 (by decide) (by decide) rfl (by decide) ?_
        exact stp_put hL0 hM hI ho h5 (by omega) (by omega) (by omega) hl K
      · refine lv_tableIn (off := 237) (tgt := 276) hx hb dL_law_39 (by decide) (by decide) rfl (by decide) ?_
        exact stp_dry hL0 hM hI ho h5 (by omega) (by omega) (by omega) hl K
      · refine lv_tableIn (off := 305) (tgt := 344) hx hb dL_law_39 (by decide) (by decide) rfl (by decide) ?_
        exact stp_sack hL0 hM hI ho h5 (by omega) (by omega) (by omega) hl K
      · refine lv_tableIn (off := 373) (tgt := 412) hx hb dL_law_39 (by decide) (by decide) rfl (by decide) ?_
        exact stp_setWind hL0 hM hI ho h5 (by omega) (by omega) (by omega) hl K
      · refine lv_tableIn (off := 429) (tgt := 468) hx hb dL_law_39 (by decide) (by decide) rfl (by decide) ?_
        exact stp_blow hL0 hM hI ho h5 (by omega) (by omega) (by omega) hl K
      · refine lv_tableIn (off := 485) (tgt := 524) hx hb dL_law_39 (by decide) (by decide) rfl (by decide) ?_
        exact stp_sweep hL0 hM hI ho h5 (by omega) (by omega) (by omega) hl K
      · refine lv_tableIn (off := 553) (tgt := 592) hx hb dL_law_39 (by decide) (by decide) rfl (by decide) ?_
        exact stp_chamber hL0 hM hI ho h5 (by omega) (by omega) (by omega) hl K
      · refine lv_tableIn (off := 621) (tgt := 660) hx hb dL_law_39 (by decide) (by decide) rfl (by decide) ?_
        exact stp_bestWind hL0 hM hI ho h5 (by omega) (by omega) (by omega) hl K
      · refine lv_tableIn (off := 701) (tgt := 740) hx hb dL_law_39 (by decide) (by decide) rfl (by decide) ?_
        exact stp_addTick hL0 hM hI ho h5 (by omega) (by omega) (by omega) hl K
      · refine lv_tableIn (off := 781) (tgt := 820) hx hb dL_law_39 (by decide) (by decide) rfl (by decide) ?_
        exact stp_sew hL0 hM hI ho h5 (by omega) (by omega) (by omega) hl K
      · refine lv_tableIn (off := 889) (tgt := 928) hx hb dL_law_39 (by decide) (by decide) rfl (by decide) ?_
        exact stp_fill hL0 hM hI ho h5 (by omega) (by omega) (by omega) hl K
      · refine lv_tableIn (off := 981) (tgt := 1020) hx hb dL_law_39 (by decide) (by decide) rfl (by decide) ?_
        exact stp_shift hL0 hM hI ho h5 (by omega) (by omega) (by omega) hl K
      · refine lv_tableIn (off := 1073) (tgt := 1112) hx hb dL_law_39 (by decide) (by decide) rfl (by decide) ?_
        exact stp_square hL0 hM hI ho h5 (by omega) (by omega) (by omega) hl K
      · refine lv_tableIn (off := 1153) (tgt := 1192) hx hb dL_law_39 (by decide) (by decide) rfl (by decide) ?_
        exact stp_tick hL0 hM hI ho h5 (by omega) (by omega) (by omega) hl K
      · refine lv_tableIn (off := 1221) (tgt := 1260) hx hb dL_law_39 (by decide) (by decide) rfl (by decide) ?_
        exact stp_pass hL0 hM hI ho h5 (by omega) (by omega) (by omega) hl K
      · refine lv_tableIn (off := 1277) (tgt := 1316) hx hb dL_law_39 (by decide) (by decide) rfl (by decide) ?_
        exact stp_count hL0 hM hI ho h5 (by omega) (by omega) (by omega) hl K
      · refine lv_tableIn (off := 1333) (tgt := 1372) hx hb dL_law_39 (by decide) (by decide) rfl (by decide) ?_
        exact stp_foresee hL0 hM hI ho h5 (by omega) (by omega) (by omega) hl K
      · refine lv_tableIn (off := 1413) (tgt := 1452) hx hb dL_law_39 (by decide) (by decide) rfl (by decide) ?_
        exact stp_lasts hL0 hM hI ho h5 (by omega) (by omega) (by omega) hl K
      · refine lv_tableIn (off := 1481) (tgt := 1520) hx hb dL_law_39 (by decide) (by decide) rfl (by decide) ?_
        exact stp_advise hL0 hM hI ho h5 (by omega) (by omega) (by omega) hl K
      · refine lv_tableIn (off := 1549) (tgt := 1588) hx hb dL_law_39 (by decide) (by decide) rfl (by decide) ?_
        exact stp_filled hL0 hM hI ho (by omega) (by omega) (by omega) hl K
      · refine lv_tableIn (off := 1590) (tgt := 1629) hx hb dL_law_39 (by decide) (by decide) rfl (by decide) ?_
        exact stp_digest hL0 hM hI ho (by omega) (by omega) (by omega) hl K
      · refine lv_tableOut (tgt := 1643) hx hb dL_law_39 (by decide) (by decide) ?_
        exact W.widen (by omega) (by omega) (K _ _ _ _ _ _ _ _ _ _ _ _ _ _ (by omega) hI hM hl)
      · refine lv_tableOut (tgt := 1643) hx hb dL_law_39 (by decide) (by decide) ?_
        exact W.widen (by omega) (by omega) (K _ _ _ _ _ _ _ _ _ _ _ _ _ _ (by omega) hI hM hl)
      · refine lv_tableOut (tgt := 1643) hx hb dL_law_39 (by decide) (by decide) ?_
        exact W.widen (by omega) (by omega) (K _ _ _ _ _ _ _ _ _ _ _ _ _ _ (by omega) hI hM hl)
      · refine lv_tableOut (tgt := 1643) hx hb dL_law_39 (by decide) (by decide) ?_
        exact W.widen (by omega) (by omega) (K _ _ _ _ _ _ _ _ _ _ _ _ _ _ (by omega) hI hM hl)
      · refine lv_tableOut (tgt := 1643) hx hb dL_law_39 (by decide) (by decide) ?_
        exact W.widen (by omega) (by omega) (K _ _ _ _ _ _ _ _ _ _ _ _ _ _ (by omega) hI hM hl)
      · refine lv_tableOut (tgt := 1643) hx hb dL_law_39 (by decide) (by decide) ?_
        exact W.widen (by omega) (by omega) (K _ _ _ _ _ _ _ _ _ _ _ _ _ _ (by omega) hI hM hl)
      · refine lv_tableOut (tgt := 1643) hx hb dL_law_39 (by decide) (by decide) ?_
        exact W.widen (by omega) (by omega) (K _ _ _ _ _ _ _ _ _ _ _ _ _ _ (by omega) hI hM hl)
      · refine lv_tableOut (tgt := 1643) hx hb dL_law_39 (by decide) (by decide) ?_
        exact W.widen (by omega) (by omega) (K _ _ _ _ _ _ _ _ _ _ _ _ _ _ (by omega) hI hM hl)
      · refine lv_tableOut (tgt := 1643) hx hb dL_law_39 (by decide) (by decide) ?_
        exact W.widen (by omega) (by omega) (K _ _ _ _ _ _ _ _ _ _ _ _ _ _ (by omega) hI hM hl)
      · refine lv_tableOut (tgt := 1643) hx hb dL_law_39 (by decide) (by decide) ?_
        exact W.widen (by omega) (by omega) (K _ _ _ _ _ _ _ _ _ _ _ _ _ _ (by omega) hI hM hl)
end LAWS
