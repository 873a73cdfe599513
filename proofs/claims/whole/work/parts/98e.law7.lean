section LAWS
variable {p : Program} {l : Launch} {e : Env} {s : State} {m : MethodId} {args : Array Value} {below : List Frame} {meth : Method} {c : Code} {H : Heap} {locs : List Loc} {cells slots : Nat} {Q : State → Prop} {D : va_G} {A : Nat → Prop} {y : Nat → ClassId} {a0 : Nat × Nat} {b L : Nat} {xs : Nat → Int32} {S : fb_Sh} {V I : fb_V} {ls : Array Slot}
theorem cd4_pts {J : fb_V} {ns nt : Nat} {cf rf df : Nat → Nat} {P : Nat → Int32} (hp : Pts I J) (hns : ns ≤ 12) : cd4 V J ns nt cf rf df P nt = cd4 V I ns nt cf rf df P nt := by
  have e0 : J 0 = I 0 := hp 0 (fun t _ => by omega)
  refine dtk_congr ?_ nt (fun j hj => ⟨rfl, fun k hk => ?_, fun q hq k hk => cFq_pts hp cf rf j q k⟩)
  · refine dgr_congr (dgr_congr (dg_congr rfl 9 (fun k hk => ?_)) 8 ns (fun i hi k hk => cS_pts hp (by omega) k)) 9 5 (fun c hc k hk => rfl)
    unfold cnc
    rw [e0]
  · exact cGt_pts hp j cf rf df (P j) k
theorem stp_filled (hL : Lw p l s m args c D A y a0 b L xs) {o j ns nt es na N : Nat} {cf rf df : Nat → Nat} (hM : fb_M D y A s (S, V, (sT V), I) H locs) (hI : Iv a0.1 S V I o ns nt es na cf rf df N) (ho : o = 1000) (hN : N ≤ 1600000) (hc : cells + 1100 ≤ room_1.cells) (hs : slots + 14000 ≤ room_1.slots) (hl : lv_has ls 9 [(4, .int (nI j)), (3, .ref (sa S 2000)), (2, .ref (sa S o)), (1, .ref (sa S 0)), (0, .ref b)]) (K : Kont p l e s m args below meth c Q D A y a0.1 o b j N cells slots) : W p l e room_1 s m args below meth c H locs cells slots Q (F0 m 1588 ls []) := by
  obtain ⟨hx, hb, hml, hown, hts, hE, hNc, hfl, hX, hbl, hbA, hL2⟩ := hL
  have hI0 := hI
  obtain ⟨⟨hC, hA, hO⟩, ⟨hEs, hFr⟩, ⟨hF, hG⟩, hR⟩ := hI
  have hns : ns ≤ 12 := hF.2.2.1
  have hnt : nt ≤ 6 := hF.2.2.2.1
  have h03 : 0 ∈ sR S ∧ sk S 0 = 3 := hC.1
  refine lv_aload_n hx hb dL_law_1588 rfl (lv_at hl 3 rfl) ?_
  refine fb_callVd (r := 0) hx hb hml hown hts hM (h03.1) (ce3 (h03.2)) rfl (As := []) (rest := []) (c_X3_filled D y l S V I a0.1 ns nt es na hC cf rf df hF) (cwV 0 hts gL_law_X3_filled rfl rfl rfl (by decide +kernel) ⟨Nat.le_of_ble_eq_true rfl, Nat.le_of_ble_eq_true rfl⟩) rfl hl.1 rfl (Nat.le_of_ble_eq_true rfl) dL_law_1589 ⟨by omega, by omega⟩ (fun v1 u H locs hp hM => ?_)
  obtain ⟨hv1, hu_⟩ := hp
  have hu_ := hu_.symm
  subst hu_
  rw [an_fil hR hns hnt (by omega) (fun t ht => (hF.2.2.2.2 t ht).le.2)] at hv1
  refine lv_dstore (lv' := [(5, .double v1), (4, .int (nI j)), (3, .ref (sa S 2000)), (2, .ref (sa S o)), (1, .ref (sa S 0)), (0, .ref b)]) hx hb dL_law_1592 hl (by decide) rfl (fun ls hl => ?_)
  refine lv_aload_n hx hb dL_law_1594 rfl (lv_at hl 3 rfl) ?_
  refine fb_callVd (r := o) hx hb hml hown hts hM (hA.1.1) (ce4 (hA.1.2)) rfl (As := []) (rest := []) (c_X4_filled D y l S V I o nt cf rf hA ns df hG) (cwV 0 hts gL_law_X4_filled rfl rfl rfl (by decide +kernel) ⟨Nat.le_of_ble_eq_true rfl, Nat.le_of_ble_eq_true rfl⟩) rfl hl.1 rfl (Nat.le_of_ble_eq_true rfl) dL_law_1595 ⟨by omega, by omega⟩ (fun v2 u H locs hp hM => ?_)
  obtain ⟨hv2, hu_⟩ := hp
  have hu_ := hu_.symm
  subst hu_
  refine lv_dstore (lv' := [(7, .double v2), (5, .double v1), (4, .int (nI j)), (3, .ref (sa S 2000)), (2, .ref (sa S o)), (1, .ref (sa S 0)), (0, .ref b)]) hx hb dL_law_1598 hl (by decide) rfl (fun ls hl => ?_)
  refine lv_dload hx hb dL_law_1600 (lv_at hl 1 rfl) ?_
  refine lv_dload hx hb dL_law_1602 (lv_at hl 0 rfl) ?_
  refine lv_dcmp hx hb dL_law_1604 ?_
  have hcm : Op.cmpValue (FP.dcmp v1 v2) .l = 0 := by rw [hv1, hv2]; exact congrArg (fun z => Op.cmpValue z .l) (FP.Core.dcmp_self (fil_ok _ _))
  rw [hcm]
  refine lv_if_eq (tgt := 1626) hx hb dL_law_1605 (by decide) (fun _ => ?_) (fun h => absurd rfl h)
  refine lv_goto (tgt := 1643) hx hb dL_law_1626 (by decide) ?_
  have hIv := hI0.same (J := t0 I o) ho (sam_t0 I o) (VSame.rf V) hR.2.2.2.2.2
  exact W.widen (by omega) (by omega) (K _ _ _ _ _ _ _ _ _ _ _ _ _ _ (by omega) hIv hM (lv_sub hl [2, 3, 4, 5, 6] rfl))
theorem stp_digest (hL : Lw p l s m args c D A y a0 b L xs) {o j ns nt es na N : Nat} {cf rf df : Nat → Nat} (hM : fb_M D y A s (S, V, (sT V), I) H locs) (hI : Iv a0.1 S V I o ns nt es na cf rf df N) (ho : o = 1000) (hN : N ≤ 1600000) (hc : cells + 1100 ≤ room_1.cells) (hs : slots + 14000 ≤ room_1.slots) (hl : lv_has ls 9 [(4, .int (nI j)), (3, .ref (sa S 2000)), (2, .ref (sa S o)), (1, .ref (sa S 0)), (0, .ref b)]) (K : Kont p l e s m args below meth c Q D A y a0.1 o b j N cells slots) : W p l e room_1 s m args below meth c H locs cells slots Q (F0 m 1629 ls []) := by
  obtain ⟨hx, hb, hml, hown, hts, hE, hNc, hfl, hX, hbl, hbA, hL2⟩ := hL
  have hI0 := hI
  obtain ⟨⟨hC, hA, hO⟩, ⟨hEs, hFr⟩, ⟨hF, hG⟩, hR⟩ := hI
  have hns : ns ≤ 12 := hF.2.2.1
  have hnt : nt ≤ 6 := hF.2.2.2.1
  have h03 : 0 ∈ sR S ∧ sk S 0 = 3 := hC.1
  refine lv_aload_n hx hb dL_law_1629 rfl (lv_at hl 3 rfl) ?_
  refine fb_callVl (r := 0) hx hb hml hown hts hM (h03.1) (ce3 (h03.2)) rfl (As := []) (rest := []) (c_X3_digest D y l S V I a0.1 ns nt es na hC cf rf df hF) (cwV 0 hts gL_law_X3_digest rfl rfl rfl (by decide +kernel) ⟨Nat.le_of_ble_eq_true rfl, Nat.le_of_ble_eq_true rfl⟩) rfl hl.1 rfl (Nat.le_of_ble_eq_true rfl) dL_law_1630 ⟨by omega, by omega⟩ (fun v1 u H locs hp hM => ?_)
  obtain ⟨P, J, hP, hv1, hPt, hu_⟩ := hp
  have hu_ := hu_.symm
  subst hu_
  refine lv_aload_n hx hb dL_law_1633 rfl (lv_at hl 2 rfl) ?_
  have hG2 : MF J o ns nt cf rf df := mf_same ho hG (sam_pts ho hPt)
  refine fb_callVl (r := o) hx hb hml hown hts hM (hA.1.1) (ce4 (hA.1.2)) rfl (As := []) (rest := [.long v1]) (c_X4_digest D y l S V J o nt cf rf hA ns df hG2) (cwV 0 hts gL_law_X4_digest rfl rfl rfl (by decide +kernel) ⟨Nat.le_of_ble_eq_true rfl, Nat.le_of_ble_eq_true rfl⟩) rfl hl.1 rfl (Nat.le_of_ble_eq_true rfl) dL_law_1634 ⟨by omega, by omega⟩ (fun v2 u H locs hp hM => ?_)
  obtain ⟨P', g, hP', hv2, hu_⟩ := hp
  have hu_ := hu_.symm
  subst hu_
  have hIJ := hI0.same (J := J) ho (sam_pts ho hPt) (VSame.rf V) hR.2.2.2.2.2
  have he : v1 = v2 := by
    rw [hv1, hv2, ← cd4_pts hPt hns]
    exact an_dig hIJ.2.2.2 hns (by omega) (fun t ht => ⟨(hF.2.2.2.2 t ht).2.2.2.2.1, (hF.2.2.2.2 t ht).le⟩) (fun t ht => by rw [hPt (30 + 4 * t + 2) (fun u hu => by omega)]; exact hP t ht) hP'
  subst he
  refine W.lcmp hx hb dL_law_1637 ?_
  refine lv_if_eq (tgt := 1643) hx hb dL_law_1638 (by decide) (fun _ => ?_) (fun z => absurd (by unfold lg_cmp; simp) z)
  have hIv := hIJ.same (J := va_up (t0 J o) (o + 7) g) ho ((sam_t0 J o).trans (sam_7 _ g)) (VSame.rf V) hR.2.2.2.2.2
  exact W.widen (by omega) (by omega) (K _ _ _ _ _ _ _ _ _ _ _ _ _ _ (by omega) hIv hM (lv_sub hl [0, 1, 2, 3, 4] rfl))
end LAWS
