/-! the law: the squares after a night -/
set_option maxHeartbeats 4000000 in
set_option maxRecDepth 100000 in
theorem lw_squares {pv : Program} {l : Launch} {ev : Env} {s : State} {mv : MethodId} {ar : Array Value} {below : List Frame} {meth : Method} {cv : Code} {A : Nat → Prop} {D : va_G} {y : Nat → ClassId} {a0 : Nat × Nat} {sc : Nat × Nat × (Nat → Int32)} {Q : State → Prop} (hx : pv.tables.exec = Jvm.exec) (hb : cv.code = cL_law) (hml : cv.maxLocals = 25) (hown : s.vm.findClass RL = some mv.cls) (hts : ∀ x ∈ wsL_law, x.before ar s = true) (hE : fb_E a0 A s) (hSc : fb_Sc sc A s) (a1 ns nt N G E : Nat) (rho cf rf df : Nat → Nat) (time t ce sl : Nat) (B0 : Nat → Int32) (X U : fb_V) (RR : Nat → Int32) (A5 AA_ PP : Int32) (S : fb_Sh) (V J : fb_V) (ht : t < nt) (eU : U = fun q => csq (cf t) (cf t * rf t) B0 X q) (hG : 4000 ≤ G) (hGE : G + 1 + cf t * rf t ≤ E) (hW0 : RA S G 10 (cf t * rf t) ∧ ∀ q, q < (cf t * rf t) → PA S G q (G + 1 + q) ∧ RA S (G + 1 + q) 6 8) (hZ : Zt a1 S V J ns nt rho cf rf df N E t B0 (ngt (cf t) (cf t * rf t) (df t) B0 X) G U RR A5 AA_) (hce : ce + 12400 ≤ 626107) (hsl : sl + 74000 ≤ 7223304) (kk : (∀ (S3 : fb_Sh) (J9 : fb_V) (hrE : ∀ i, i < ns → rho i ≠ E) (hS : RA S3 E 6 6) (hZ9 : Zt a1 S3 V J9 ns nt rho cf rf df N (E + 1) t B0 (ngt (cf t) (cf t * rf t) (df t) B0 X) G U RR A5 AA_) (hs9 : ∀ j, j < 6 → J9 E j = gsum (fun z => (ngt (cf t) (cf t * rf t) (df t) B0 X) z j - X z j) (cf t * rf t)) (H : Heap) (locs : List Loc), fb_M D y A s (S3, V, sT V, J9) H locs → ∀ ls, lv_has ls 25 [(20, .ref (sa S3 E)), (19, .int (wsm (ngt (cf t) (cf t * rf t) (df t) B0 X) (cf t * rf t))), (18, .int (fsum (ngt (cf t) (cf t * rf t) (df t) B0 X) (cf t * rf t))), (17, .int (nI (df t))), (10, .int (cwk (cf t) (cf t * rf t) (df t) B0 X 1)), (8, .ref (sa S3 G)), (7, .int (nI (cf t * rf t))), (6, .int (nI t)), (4, .int (nI time)), (3, .int PP), (2, .ref (sa S3 1000)), (1, .ref (sa S3 0)), (0, .ref sc.1)] → W pv l ev rm_L_law s mv ar below meth cv H locs (ce + 12400) (sl + 74000) Q (F0 mv 888 ls []))) (H : Heap) (locs : List Loc) (hM : fb_M D y A s (S, V, sT V, J) H locs) (ls : Array Slot) (hl : lv_has ls 25 [(10, .int (cwk (cf t) (cf t * rf t) (df t) B0 X 1)), (8, .ref (sa S G)), (7, .int (nI (cf t * rf t))), (6, .int (nI t)), (4, .int (nI time)), (3, .int PP), (2, .ref (sa S 1000)), (1, .ref (sa S 0)), (0, .ref sc.1)]) : W pv l ev rm_L_law s mv ar below meth cv H locs (ce) (sl) Q (F0 mv 491 ls []) := by
  have hkt := hZ.1.2.2.2.1.2.2.2.1 t ht
  have hcr := hkt.n36
  have hd9 := hkt.c1.2
  have hBY : ∀ q, q < 36 → Bd ((ngt (cf t) (cf t * rf t) (df t) B0 X) q) 300 := fun q hq => by rw [← hZ.2.1.2 q hq]; exact hkt.2.1 q hq
  have hW := hW0
  refine lv_aload_n hx hb dL_law_491 rfl (lv_at hl 7 rfl) ?_
  refine lv_iload hx hb dL_law_492 (lv_at hl 3 rfl) ?_
  refine lv_iconst (v := 2) hx hb dL_law_494 (by decide) ?_
  refine fb_callVi (r := 0) hx hb hml hown hts hM (hZ.1.1.1.1.1) (ce3 (hZ.1.1.1.1.2)) rfl (As := [.int (nI t), .int 2]) (rest := []) (z_tk D y l hZ ht (by omega) 2 (by decide)) (cwV 2 hts gL_law_X3_tick rfl rfl rfl (by decide +kernel) ⟨Nat.le_of_ble_eq_true rfl, Nat.le_of_ble_eq_true rfl⟩) rfl hl.1 rfl (Nat.le_of_ble_eq_true rfl) dL_law_495 ⟨(by show _ ≤ 626107; omega), (by show _ ≤ 7223304; omega)⟩ (fun v_1 u_ H locs hp hM => ?_)
  obtain ⟨hv_, J31, hu_, hlo31, hZ31⟩ := hp
  subst hv_
  subst hu_
  refine W.eq (g2 := F0 mv _ ls (.int (nI (df t)) :: [])) (by rw [show (ctk (cf t) (rf t) (df t) (ngt (cf t) (cf t * rf t) (df t) B0 X) B0 0 2 : Int32) = nI (df t) from ctk_2 _ _ _ _ _ _]) ?_
  refine lv_istore (lv' := [(17, .int (nI (df t))), (10, .int (cwk (cf t) (cf t * rf t) (df t) B0 X 1)), (8, .ref (sa S G)), (7, .int (nI (cf t * rf t))), (6, .int (nI t)), (4, .int (nI time)), (3, .int PP), (2, .ref (sa S 1000)), (1, .ref (sa S 0)), (0, .ref sc.1)]) hx hb dL_law_498 hl (by decide) rfl (fun ls hl => ?_)
  refine lv_iconst (v := 0) hx hb dL_law_500 (by decide) ?_
  refine lv_istore (lv' := [(18, .int 0), (17, .int (nI (df t))), (10, .int (cwk (cf t) (cf t * rf t) (df t) B0 X 1)), (8, .ref (sa S G)), (7, .int (nI (cf t * rf t))), (6, .int (nI t)), (4, .int (nI time)), (3, .int PP), (2, .ref (sa S 1000)), (1, .ref (sa S 0)), (0, .ref sc.1)]) hx hb dL_law_501 hl (by decide) rfl (fun ls hl => ?_)
  refine lv_iconst (v := 0) hx hb dL_law_503 (by decide) ?_
  refine lv_istore (lv' := [(19, .int 0), (18, .int 0), (17, .int (nI (df t))), (10, .int (cwk (cf t) (cf t * rf t) (df t) B0 X 1)), (8, .ref (sa S G)), (7, .int (nI (cf t * rf t))), (6, .int (nI t)), (4, .int (nI time)), (3, .int PP), (2, .ref (sa S 1000)), (1, .ref (sa S 0)), (0, .ref sc.1)]) hx hb dL_law_504 hl (by decide) rfl (fun ls hl => ?_)
  refine lv_bipush (v := 6) hx hb dL_law_506 (by decide) ?_
  have hFs := hZ31.1.2.1.2
  have hEn : E ∉ sR S := fun z => absurd (hFs.2 _ z) (Nat.lt_irrefl _)
  refine fb_mka6 hx hb (hts (.arrayClass .int) (by decide +kernel)) hM (n := 6) (by decide) (by decide) (by decide) (by show _ ≤ 626107; omega) (by show _ ≤ 7223304; omega) dL_law_508 E hEn (fun q9 H hM => ?_)
  obtain ⟨S3, eS3⟩ : ∃ S3, S3 = fb_new S E q9 6 6 := ⟨_, rfl⟩
  rw [← eS3] at hM
  have hE3 : Ext (fun x => x = E) S S3 := by rw [eS3]; exact Ext.new _ _ _ _ rfl
  have hS : RA S3 E 6 6 := by rw [eS3]; exact RA.new _ _ _ _ _
  have a3 : sa S3 E = q9 := by rw [eS3]; exact nw_a _ _ _ _ _
  have hFs3 : Fs S3 (E + 1) := ⟨by omega, fun x hx => by
    by_cases z : x = E
    · omega
    · have := hFs.2 x ((hE3 x z).1.mp hx)
      omega⟩
  have hW : RA S3 G 10 (cf t * rf t) ∧ ∀ q, q < (cf t * rf t) → PA S3 G q (G + 1 + q) ∧ RA S3 (G + 1 + q) 6 8 := ⟨hW0.1.ext hE3 (by omega), fun q hq => ⟨(hW0.2 q hq).1.ext hE3 (by omega) (by omega), (hW0.2 q hq).2.ext hE3 (by omega)⟩⟩
  have hrE : ∀ i, i < ns → rho i ≠ E := fun i hi => Nat.ne_of_lt (hZ31.1.1.2.rlt hFs hi)
  have hZ3 := hZ31.more (J' := va_up J31 E (fun _ => 0)) ht hGE hE3 (fun x hx => by omega) hFs3 (fun x hx => va_up_ne _ _ (by omega))
  have kq0 : sa S3 0 = sa S 0 := AA.ext hE3 (by omega)
  have kq1 : sa S3 1000 = sa S 1000 := AA.ext hE3 (by omega)
  have kqG : sa S3 G = sa S G := AA.ext hE3 (by omega)
  rw [← kq0, ← kq1, ← kqG] at hl
  refine W.eq (g2 := F0 mv 510 ls [.ref (sa S3 E)]) (by rw [a3]) ?_
  refine lv_astore (lv' := [(20, .ref (sa S3 E)), (19, .int 0), (18, .int 0), (17, .int (nI (df t))), (10, .int (cwk (cf t) (cf t * rf t) (df t) B0 X 1)), (8, .ref (sa S3 G)), (7, .int (nI (cf t * rf t))), (6, .int (nI t)), (4, .int (nI time)), (3, .int PP), (2, .ref (sa S3 1000)), (1, .ref (sa S3 0)), (0, .ref sc.1)]) hx hb dL_law_510 hl (by decide) rfl (fun ls hl => ?_)
  refine lv_iconst (v := 0) hx hb dL_law_512 (by decide) ?_
  refine lv_istore (lv' := [(21, .int 0), (20, .ref (sa S3 E)), (19, .int 0), (18, .int 0), (17, .int (nI (df t))), (10, .int (cwk (cf t) (cf t * rf t) (df t) B0 X 1)), (8, .ref (sa S3 G)), (7, .int (nI (cf t * rf t))), (6, .int (nI t)), (4, .int (nI time)), (3, .int PP), (2, .ref (sa S3 1000)), (1, .ref (sa S3 0)), (0, .ref sc.1)]) hx hb dL_law_513 hl (by decide) rfl (fun ls hl => ?_)
  have LP_515 : ∀ (n : Nat) (q : Nat) (J9 : fb_V) (hq : q ≤ cf t * rf t) (hZ9 : Zt a1 S3 V J9 ns nt rho cf rf df N (E + 1) t B0 (ngt (cf t) (cf t * rf t) (df t) B0 X) G U RR A5 AA_) (hs9 : ∀ j, j < 6 → J9 E j = gsum (fun z => (ngt (cf t) (cf t * rf t) (df t) B0 X) z j - X z j) q), cf t * rf t - q < n → ∀ (H : Heap) (locs : List Loc), fb_M D y A s (S3, V, sT V, J9) H locs → ∀ ls, lv_has ls 25 [(21, .int (nI q)), (20, .ref (sa S3 E)), (19, .int (wsm (ngt (cf t) (cf t * rf t) (df t) B0 X) q)), (18, .int (fsum (ngt (cf t) (cf t * rf t) (df t) B0 X) q)), (17, .int (nI (df t))), (10, .int (cwk (cf t) (cf t * rf t) (df t) B0 X 1)), (8, .ref (sa S3 G)), (7, .int (nI (cf t * rf t))), (6, .int (nI t)), (4, .int (nI time)), (3, .int PP), (2, .ref (sa S3 1000)), (1, .ref (sa S3 0)), (0, .ref sc.1)] → W pv l ev rm_L_law s mv ar below meth cv H locs (ce + 3 + 340 * q) (sl + 18 + 2040 * q) Q (F0 mv 515 ls []) := by
    intro n_515
    induction n_515 with
    | zero => intro q J9 hq hZ9 hs9 hmu; exact absurd hmu (Nat.not_lt_zero _)
    | succ n_515 ih_515 =>
      intro q J9 hq hZ9 hs9 hmu H locs hM ls hl
      refine lv_iload hx hb dL_law_515 (lv_at hl 0 rfl) ?_
      refine lv_iload hx hb dL_law_517 (lv_at hl 7 rfl) ?_
      refine lv_icmp_ge (tgt := 888) hx hb dL_law_519 (by decide) (fun c_2 => ?_) (fun c_2 => ?_)
      · skip
        have e_q : q = cf t * rf t := by have := (nI_leI (a := cf t * rf t) (b := q) (by omega) (by omega)).mp c_2; omega
        have e_q := Eq.symm e_q
        subst e_q
        refine W.widen (show _ ≤ ce + 12400 by omega) (show _ ≤ sl + 74000 by omega) ?_
        exact kk S3 J9 hrE hS hZ9 hs9 _ _ hM ls (lv_sub hl [1, 2, 3, 4, 5, 6, 7, 8, 9, 10, 11, 12, 13] rfl)
      · skip
        have hqn : q < cf t * rf t := Nat.lt_of_not_le (fun z => c_2 (nI_le z (by omega)))
        refine lv_iload hx hb dL_law_522 (lv_at hl 3 rfl) ?_
        refine lv_aload_n hx hb dL_law_524 rfl (lv_at hl 12 rfl) ?_
        refine lv_iload hx hb dL_law_525 (lv_at hl 8 rfl) ?_
        refine lv_iload hx hb dL_law_527 (lv_at hl 0 rfl) ?_
        refine lv_bipush (v := 6) hx hb dL_law_529 (by decide) ?_
        refine fb_callVi (r := 0) hx hb hml hown hts hM (hZ9.1.1.1.1.1) (ce3 (hZ9.1.1.1.1.2)) rfl (As := [.int (nI t), .int (nI q), .int 6]) (rest := [.int (fsum (ngt (cf t) (cf t * rf t) (df t) B0 X) q)]) (z_sq D y l hZ9 ht q hqn 6 (by decide)) (cwV 3 hts gL_law_X3_square rfl rfl rfl (by decide +kernel) ⟨Nat.le_of_ble_eq_true rfl, Nat.le_of_ble_eq_true rfl⟩) rfl hl.1 rfl (Nat.le_of_ble_eq_true rfl) dL_law_531 ⟨(by show _ ≤ 626107; omega), (by show _ ≤ 7223304; omega)⟩ (fun v_3 u_ H locs hp hM => ?_)
        obtain ⟨hv_, hu_⟩ := hp
        have hv_ := Eq.symm hv_
        have hu_ := Eq.symm hu_
        subst hv_
        subst hu_
        refine W.eq (g2 := F0 mv _ ls (.int (s6 ((ngt (cf t) (cf t * rf t) (df t) B0 X) q)) :: .int (fsum (ngt (cf t) (cf t * rf t) (df t) B0 X) q) :: [])) (rfl) ?_
        refine lv_iadd hx hb dL_law_534 ?_
        refine W.eq (g2 := F0 mv _ ls (.int (fsum (ngt (cf t) (cf t * rf t) (df t) B0 X) (q + 1)) :: [])) (rfl) ?_
        refine lv_istore (lv' := [(18, .int (fsum (ngt (cf t) (cf t * rf t) (df t) B0 X) (q + 1))), (21, .int (nI q)), (20, .ref (sa S3 E)), (19, .int (wsm (ngt (cf t) (cf t * rf t) (df t) B0 X) q)), (17, .int (nI (df t))), (10, .int (cwk (cf t) (cf t * rf t) (df t) B0 X 1)), (8, .ref (sa S3 G)), (7, .int (nI (cf t * rf t))), (6, .int (nI t)), (4, .int (nI time)), (3, .int PP), (2, .ref (sa S3 1000)), (1, .ref (sa S3 0)), (0, .ref sc.1)]) hx hb dL_law_535 hl (by decide) rfl (fun ls hl => ?_)
        refine lv_iload hx hb dL_law_537 (lv_at hl 3 rfl) ?_
        refine lv_aload_n hx hb dL_law_539 rfl (lv_at hl 12 rfl) ?_
        refine lv_iload hx hb dL_law_540 (lv_at hl 8 rfl) ?_
        refine lv_iload hx hb dL_law_542 (lv_at hl 1 rfl) ?_
        refine lv_bipush (v := 7) hx hb dL_law_544 (by decide) ?_
        refine fb_callVi (r := 0) hx hb hml hown hts hM (hZ9.1.1.1.1.1) (ce3 (hZ9.1.1.1.1.2)) rfl (As := [.int (nI t), .int (nI q), .int 7]) (rest := [.int (wsm (ngt (cf t) (cf t * rf t) (df t) B0 X) q)]) (z_sq D y l hZ9 ht q hqn 7 (by decide)) (cwV 3 hts gL_law_X3_square rfl rfl rfl (by decide +kernel) ⟨Nat.le_of_ble_eq_true rfl, Nat.le_of_ble_eq_true rfl⟩) rfl hl.1 rfl (Nat.le_of_ble_eq_true rfl) dL_law_546 ⟨(by show _ ≤ 626107; omega), (by show _ ≤ 7223304; omega)⟩ (fun v_4 u_ H locs hp hM => ?_)
        obtain ⟨hv_, hu_⟩ := hp
        have hv_ := Eq.symm hv_
        have hu_ := Eq.symm hu_
        subst hv_
        subst hu_
        refine W.eq (g2 := F0 mv _ ls (.int (wm ((ngt (cf t) (cf t * rf t) (df t) B0 X) q)) :: .int (wsm (ngt (cf t) (cf t * rf t) (df t) B0 X) q) :: [])) (rfl) ?_
        refine lv_iadd hx hb dL_law_549 ?_
        refine W.eq (g2 := F0 mv _ ls (.int (wsm (ngt (cf t) (cf t * rf t) (df t) B0 X) (q + 1)) :: [])) (rfl) ?_
        refine lv_istore (lv' := [(19, .int (wsm (ngt (cf t) (cf t * rf t) (df t) B0 X) (q + 1))), (18, .int (fsum (ngt (cf t) (cf t * rf t) (df t) B0 X) (q + 1))), (21, .int (nI q)), (20, .ref (sa S3 E)), (17, .int (nI (df t))), (10, .int (cwk (cf t) (cf t * rf t) (df t) B0 X 1)), (8, .ref (sa S3 G)), (7, .int (nI (cf t * rf t))), (6, .int (nI t)), (4, .int (nI time)), (3, .int PP), (2, .ref (sa S3 1000)), (1, .ref (sa S3 0)), (0, .ref sc.1)]) hx hb dL_law_550 hl (by decide) rfl (fun ls hl => ?_)
        refine lv_aload_n hx hb dL_law_552 rfl (lv_at hl 12 rfl) ?_
        refine lv_iload hx hb dL_law_553 (lv_at hl 8 rfl) ?_
        refine lv_iload hx hb dL_law_555 (lv_at hl 2 rfl) ?_
        refine lv_bipush (v := 6) hx hb dL_law_557 (by decide) ?_
        refine fb_callVi (r := 0) hx hb hml hown hts hM (hZ9.1.1.1.1.1) (ce3 (hZ9.1.1.1.1.2)) rfl (As := [.int (nI t), .int (nI q), .int 6]) (rest := []) (z_sq D y l hZ9 ht q hqn 6 (by decide)) (cwV 3 hts gL_law_X3_square rfl rfl rfl (by decide +kernel) ⟨Nat.le_of_ble_eq_true rfl, Nat.le_of_ble_eq_true rfl⟩) rfl hl.1 rfl (Nat.le_of_ble_eq_true rfl) dL_law_559 ⟨(by show _ ≤ 626107; omega), (by show _ ≤ 7223304; omega)⟩ (fun v_5 u_ H locs hp hM => ?_)
        obtain ⟨hv_, hu_⟩ := hp
        have hv_ := Eq.symm hv_
        have hu_ := Eq.symm hu_
        subst hv_
        subst hu_
        refine W.eq (g2 := F0 mv _ ls (.int (s6 ((ngt (cf t) (cf t * rf t) (df t) B0 X) q)) :: [])) (rfl) ?_
        obtain ⟨w9, hw9, ew9⟩ := (hBY q (by omega)).s6
        have h300 : ¬ 300 < s6 ((ngt (cf t) (cf t * rf t) (df t) B0 X) q) := by rw [ew9]; exact nI_nlt (b := w9) (a := 300) (by omega) (by decide)
        refine lv_sipush (v := 300) hx hb dL_law_562 (by decide) ?_
        refine lv_icmp_gt (tgt := 599) hx hb dL_law_565 (by decide) (fun c_6 => absurd c_6 (h300)) (fun c_6 => ?_)
        refine lv_aload_n hx hb dL_law_568 rfl (lv_at hl 12 rfl) ?_
        refine lv_iload hx hb dL_law_569 (lv_at hl 8 rfl) ?_
        refine lv_iload hx hb dL_law_571 (lv_at hl 2 rfl) ?_
        refine lv_bipush (v := 7) hx hb dL_law_573 (by decide) ?_
        refine fb_callVi (r := 0) hx hb hml hown hts hM (hZ9.1.1.1.1.1) (ce3 (hZ9.1.1.1.1.2)) rfl (As := [.int (nI t), .int (nI q), .int 7]) (rest := []) (z_sq D y l hZ9 ht q hqn 7 (by decide)) (cwV 3 hts gL_law_X3_square rfl rfl rfl (by decide +kernel) ⟨Nat.le_of_ble_eq_true rfl, Nat.le_of_ble_eq_true rfl⟩) rfl hl.1 rfl (Nat.le_of_ble_eq_true rfl) dL_law_575 ⟨(by show _ ≤ 626107; omega), (by show _ ≤ 7223304; omega)⟩ (fun v_7 u_ H locs hp hM => ?_)
        obtain ⟨hv_, hu_⟩ := hp
        have hv_ := Eq.symm hv_
        have hu_ := Eq.symm hu_
        subst hv_
        subst hu_
        refine W.eq (g2 := F0 mv _ ls (.int (wm ((ngt (cf t) (cf t * rf t) (df t) B0 X) q)) :: [])) (rfl) ?_
        refine lv_sipush (v := 900) hx hb dL_law_578 (by decide) ?_
        refine lv_icmp_gt (tgt := 599) hx hb dL_law_581 (by decide) (fun c_8 => absurd c_8 (wm_900 _)) (fun c_8 => ?_)
        refine lv_aload_n hx hb dL_law_584 rfl (lv_at hl 12 rfl) ?_
        refine lv_iload hx hb dL_law_585 (lv_at hl 8 rfl) ?_
        refine lv_iload hx hb dL_law_587 (lv_at hl 2 rfl) ?_
        refine lv_bipush (v := 7) hx hb dL_law_589 (by decide) ?_
        refine fb_callVi (r := 0) hx hb hml hown hts hM (hZ9.1.1.1.1.1) (ce3 (hZ9.1.1.1.1.2)) rfl (As := [.int (nI t), .int (nI q), .int 7]) (rest := []) (z_sq D y l hZ9 ht q hqn 7 (by decide)) (cwV 3 hts gL_law_X3_square rfl rfl rfl (by decide +kernel) ⟨Nat.le_of_ble_eq_true rfl, Nat.le_of_ble_eq_true rfl⟩) rfl hl.1 rfl (Nat.le_of_ble_eq_true rfl) dL_law_591 ⟨(by show _ ≤ 626107; omega), (by show _ ≤ 7223304; omega)⟩ (fun v_9 u_ H locs hp hM => ?_)
        obtain ⟨hv_, hu_⟩ := hp
        have hv_ := Eq.symm hv_
        have hu_ := Eq.symm hu_
        subst hv_
        subst hu_
        refine W.eq (g2 := F0 mv _ ls (.int (wm ((ngt (cf t) (cf t * rf t) (df t) B0 X) q)) :: [])) (rfl) ?_
        refine lv_iload hx hb dL_law_594 (lv_at hl 5 rfl) ?_
        refine lv_icmp_ge (tgt := 601) hx hb dL_law_596 (by decide) (fun c_10 => ?_) (fun c_10 => absurd (cld_min (ngt (cf t) (cf t * rf t) (df t) B0 X) (cf t * rf t) q hqn) c_10)
        refine lv_iconst (v := 0) hx hb dL_law_601 (by decide) ?_
        refine lv_istore (lv' := [(22, .int 0), (19, .int (wsm (ngt (cf t) (cf t * rf t) (df t) B0 X) (q + 1))), (18, .int (fsum (ngt (cf t) (cf t * rf t) (df t) B0 X) (q + 1))), (21, .int (nI q)), (20, .ref (sa S3 E)), (17, .int (nI (df t))), (10, .int (cwk (cf t) (cf t * rf t) (df t) B0 X 1)), (8, .ref (sa S3 G)), (7, .int (nI (cf t * rf t))), (6, .int (nI t)), (4, .int (nI time)), (3, .int PP), (2, .ref (sa S3 1000)), (1, .ref (sa S3 0)), (0, .ref sc.1)]) hx hb dL_law_602 hl (by decide) rfl (fun ls hl => ?_)
        have LP_604 : ∀ (n : Nat) (k : Nat) (J8 : fb_V) (hk : k ≤ 6) (hZ8 : Zt a1 S3 V J8 ns nt rho cf rf df N (E + 1) t B0 (ngt (cf t) (cf t * rf t) (df t) B0 X) G U RR A5 AA_) (hs8 : ∀ j, j < 6 → J8 E j = gsum (fun z => (ngt (cf t) (cf t * rf t) (df t) B0 X) z j - X z j) (q + if j < k then 1 else 0)), 6 - k < n → ∀ (H : Heap) (locs : List Loc), fb_M D y A s (S3, V, sT V, J8) H locs → ∀ ls, lv_has ls 25 [(22, .int (nI k)), (21, .int (nI q)), (20, .ref (sa S3 E)), (19, .int (wsm (ngt (cf t) (cf t * rf t) (df t) B0 X) (q + 1))), (18, .int (fsum (ngt (cf t) (cf t * rf t) (df t) B0 X) (q + 1))), (17, .int (nI (df t))), (10, .int (cwk (cf t) (cf t * rf t) (df t) B0 X 1)), (8, .ref (sa S3 G)), (7, .int (nI (cf t * rf t))), (6, .int (nI t)), (4, .int (nI time)), (3, .int PP), (2, .ref (sa S3 1000)), (1, .ref (sa S3 0)), (0, .ref sc.1)] → W pv l ev rm_L_law s mv ar below meth cv H locs (ce + 3 + 340 * q + 15 + 3 * k) (sl + 18 + 2040 * q + 90 + 18 * k) Q (F0 mv 604 ls []) := by
          intro n_604
          induction n_604 with
          | zero => intro k J8 hk hZ8 hs8 hmu; exact absurd hmu (Nat.not_lt_zero _)
          | succ n_604 ih_604 =>
            intro k J8 hk hZ8 hs8 hmu H locs hM ls hl
            refine lv_iload hx hb dL_law_604 (lv_at hl 0 rfl) ?_
            refine lv_bipush (v := 6) hx hb dL_law_606 (by decide) ?_
            refine lv_icmp_ge (tgt := 702) hx hb dL_law_608 (by decide) (fun c_11 => ?_) (fun c_11 => ?_)
            · skip
              have e_k : k = 6 := by have := (nI_leI (a := 6) (b := k) (by omega) (by omega)).mp c_11; omega
              have e_k := Eq.symm e_k
              subst e_k
              have hs6 : ∀ j, j < 6 → J8 E j = gsum (fun z => (ngt (cf t) (cf t * rf t) (df t) B0 X) z j - X z j) (q + 1) := fun j hj => (hs8 j hj).trans (by rw [if_pos hj])
              refine lv_aload_n hx hb dL_law_702 rfl (lv_at hl 13 rfl) ?_
              refine lv_iload hx hb dL_law_703 (lv_at hl 9 rfl) ?_
              refine lv_iload hx hb dL_law_705 (lv_at hl 1 rfl) ?_
              refine lv_bipush (v := 8) hx hb dL_law_707 (by decide) ?_
              refine fb_callVi (r := 0) hx hb hml hown hts hM (hZ8.1.1.1.1.1) (ce3 (hZ8.1.1.1.1.2)) rfl (As := [.int (nI t), .int (nI q), .int 8]) (rest := []) (z_sq D y l hZ8 ht q hqn 8 (by decide)) (cwV 3 hts gL_law_X3_square rfl rfl rfl (by decide +kernel) ⟨Nat.le_of_ble_eq_true rfl, Nat.le_of_ble_eq_true rfl⟩) rfl hl.1 rfl (Nat.le_of_ble_eq_true rfl) dL_law_709 ⟨(by show _ ≤ 626107; omega), (by show _ ≤ 7223304; omega)⟩ (fun v_12 u_ H locs hp hM => ?_)
              obtain ⟨hv_, hu_⟩ := hp
              have hv_ := Eq.symm hv_
              have hu_ := Eq.symm hu_
              subst hv_
              subst hu_
              refine W.eq (g2 := F0 mv _ ls (.int (ob (cf t) (cf t * rf t) B0 q 0) :: [])) (rfl) ?_
              refine lv_iconst (v := 1) hx hb dL_law_712 (by decide) ?_
              refine lv_icmp_eq (tgt := 730) hx hb dL_law_713 (by decide) (fun c_13 => ?_) (fun c_13 => ?_)
              · skip
                refine lv_iconst (v := 1) hx hb dL_law_730 (by decide) ?_
                refine lv_goto (tgt := 735) hx hb dL_law_731 (by decide) ?_
                refine lv_istore (lv' := [(22, .int 1), (21, .int (nI q)), (20, .ref (sa S3 E)), (19, .int (wsm (ngt (cf t) (cf t * rf t) (df t) B0 X) (q + 1))), (18, .int (fsum (ngt (cf t) (cf t * rf t) (df t) B0 X) (q + 1))), (17, .int (nI (df t))), (10, .int (cwk (cf t) (cf t * rf t) (df t) B0 X 1)), (8, .ref (sa S3 G)), (7, .int (nI (cf t * rf t))), (6, .int (nI t)), (4, .int (nI time)), (3, .int PP), (2, .ref (sa S3 1000)), (1, .ref (sa S3 0)), (0, .ref sc.1)]) hx hb dL_law_735 hl (by decide) rfl (fun ls hl => ?_)
                refine W.widen (show _ ≤ ce + 3 + 340 * q + 39 by omega) (show _ ≤ sl + 18 + 2040 * q + 234 by omega) ?_
                refine lw_open hx hb hml hown hts hE hSc a1 ns nt N G E rho cf rf df time t (ce + 3 + 340 * q + 39) (sl + 18 + 2040 * q + 234) B0 X U RR A5 AA_ PP S3 V J8 1 q ht eU hG hGE hrE hW hS hZ8 hqn (fun h9 => absurd h9 (by decide)) (by omega) (by omega) (fun J7 hZ7 hE7 H locs hM ls hl => ?_) _ _ hM ls (lv_sub hl [0, 1, 2, 3, 4, 5, 6, 7, 8, 9, 10, 11, 12, 13, 14] rfl)
                refine lv_iinc (v := nI (q + 1)) (lv' := [(21, .int (nI (q + 1))), (20, .ref (sa S3 E)), (19, .int (wsm (ngt (cf t) (cf t * rf t) (df t) B0 X) (q + 1))), (18, .int (fsum (ngt (cf t) (cf t * rf t) (df t) B0 X) (q + 1))), (17, .int (nI (df t))), (10, .int (cwk (cf t) (cf t * rf t) (df t) B0 X 1)), (8, .ref (sa S3 G)), (7, .int (nI (cf t * rf t))), (6, .int (nI t)), (4, .int (nI time)), (3, .int PP), (2, .ref (sa S3 1000)), (1, .ref (sa S3 0)), (0, .ref sc.1)]) hx hb dL_law_882 hl (k := 0) rfl (nI_1 _) (by decide) rfl (fun ls hl => ?_)
                refine lv_goto (tgt := 515) hx hb dL_law_885 (by decide) ?_
                refine W.widen (show _ ≤ ce + 3 + 340 * (q + 1) by omega) (show _ ≤ sl + 18 + 2040 * (q + 1) by omega) ?_
                exact ih_515 (q + 1) J7 (by omega) hZ7 (fun j hj => (congrFun hE7 j).trans (hs6 j hj)) (by omega) _ _ hM ls (lv_sub hl [0, 1, 2, 3, 4, 5, 6, 7, 8, 9, 10, 11, 12, 13] rfl)
              · skip
                have h81 := c_13
                refine lv_aload_n hx hb dL_law_716 rfl (lv_at hl 13 rfl) ?_
                refine lv_iload hx hb dL_law_717 (lv_at hl 9 rfl) ?_
                refine lv_iload hx hb dL_law_719 (lv_at hl 1 rfl) ?_
                refine lv_bipush (v := 9) hx hb dL_law_721 (by decide) ?_
                refine fb_callVi (r := 0) hx hb hml hown hts hM (hZ8.1.1.1.1.1) (ce3 (hZ8.1.1.1.1.2)) rfl (As := [.int (nI t), .int (nI q), .int 9]) (rest := []) (z_sq D y l hZ8 ht q hqn 9 (by decide)) (cwV 3 hts gL_law_X3_square rfl rfl rfl (by decide +kernel) ⟨Nat.le_of_ble_eq_true rfl, Nat.le_of_ble_eq_true rfl⟩) rfl hl.1 rfl (Nat.le_of_ble_eq_true rfl) dL_law_723 ⟨(by show _ ≤ 626107; omega), (by show _ ≤ 7223304; omega)⟩ (fun v_14 u_ H locs hp hM => ?_)
                obtain ⟨hv_, hu_⟩ := hp
                have hv_ := Eq.symm hv_
                have hu_ := Eq.symm hu_
                subst hv_
                subst hu_
                refine W.eq (g2 := F0 mv _ ls (.int (ob (cf t) (cf t * rf t) B0 q 1) :: [])) (rfl) ?_
                refine lv_iconst (v := 1) hx hb dL_law_726 (by decide) ?_
                refine lv_icmp_ne (tgt := 734) hx hb dL_law_727 (by decide) (fun c_15 => ?_) (fun c_15 => ?_)
                · skip
                  have h91 := c_15
                  refine lv_iconst (v := 0) hx hb dL_law_734 (by decide) ?_
                  refine lv_istore (lv' := [(22, .int 0), (21, .int (nI q)), (20, .ref (sa S3 E)), (19, .int (wsm (ngt (cf t) (cf t * rf t) (df t) B0 X) (q + 1))), (18, .int (fsum (ngt (cf t) (cf t * rf t) (df t) B0 X) (q + 1))), (17, .int (nI (df t))), (10, .int (cwk (cf t) (cf t * rf t) (df t) B0 X 1)), (8, .ref (sa S3 G)), (7, .int (nI (cf t * rf t))), (6, .int (nI t)), (4, .int (nI time)), (3, .int PP), (2, .ref (sa S3 1000)), (1, .ref (sa S3 0)), (0, .ref sc.1)]) hx hb dL_law_735 hl (by decide) rfl (fun ls hl => ?_)
                  refine W.widen (show _ ≤ ce + 3 + 340 * q + 39 by omega) (show _ ≤ sl + 18 + 2040 * q + 234 by omega) ?_
                  refine lw_open hx hb hml hown hts hE hSc a1 ns nt N G E rho cf rf df time t (ce + 3 + 340 * q + 39) (sl + 18 + 2040 * q + 234) B0 X U RR A5 AA_ PP S3 V J8 0 q ht eU hG hGE hrE hW hS hZ8 hqn (fun _ => ⟨h81, h91⟩) (by omega) (by omega) (fun J7 hZ7 hE7 H locs hM ls hl => ?_) _ _ hM ls (lv_sub hl [0, 1, 2, 3, 4, 5, 6, 7, 8, 9, 10, 11, 12, 13, 14] rfl)
                  refine lv_iinc (v := nI (q + 1)) (lv' := [(21, .int (nI (q + 1))), (20, .ref (sa S3 E)), (19, .int (wsm (ngt (cf t) (cf t * rf t) (df t) B0 X) (q + 1))), (18, .int (fsum (ngt (cf t) (cf t * rf t) (df t) B0 X) (q + 1))), (17, .int (nI (df t))), (10, .int (cwk (cf t) (cf t * rf t) (df t) B0 X 1)), (8, .ref (sa S3 G)), (7, .int (nI (cf t * rf t))), (6, .int (nI t)), (4, .int (nI time)), (3, .int PP), (2, .ref (sa S3 1000)), (1, .ref (sa S3 0)), (0, .ref sc.1)]) hx hb dL_law_882 hl (k := 0) rfl (nI_1 _) (by decide) rfl (fun ls hl => ?_)
                  refine lv_goto (tgt := 515) hx hb dL_law_885 (by decide) ?_
                  refine W.widen (show _ ≤ ce + 3 + 340 * (q + 1) by omega) (show _ ≤ sl + 18 + 2040 * (q + 1) by omega) ?_
                  exact ih_515 (q + 1) J7 (by omega) hZ7 (fun j hj => (congrFun hE7 j).trans (hs6 j hj)) (by omega) _ _ hM ls (lv_sub hl [0, 1, 2, 3, 4, 5, 6, 7, 8, 9, 10, 11, 12, 13] rfl)
                · skip
                  refine lv_iconst (v := 1) hx hb dL_law_730 (by decide) ?_
                  refine lv_goto (tgt := 735) hx hb dL_law_731 (by decide) ?_
                  refine lv_istore (lv' := [(22, .int 1), (21, .int (nI q)), (20, .ref (sa S3 E)), (19, .int (wsm (ngt (cf t) (cf t * rf t) (df t) B0 X) (q + 1))), (18, .int (fsum (ngt (cf t) (cf t * rf t) (df t) B0 X) (q + 1))), (17, .int (nI (df t))), (10, .int (cwk (cf t) (cf t * rf t) (df t) B0 X 1)), (8, .ref (sa S3 G)), (7, .int (nI (cf t * rf t))), (6, .int (nI t)), (4, .int (nI time)), (3, .int PP), (2, .ref (sa S3 1000)), (1, .ref (sa S3 0)), (0, .ref sc.1)]) hx hb dL_law_735 hl (by decide) rfl (fun ls hl => ?_)
                  refine W.widen (show _ ≤ ce + 3 + 340 * q + 39 by omega) (show _ ≤ sl + 18 + 2040 * q + 234 by omega) ?_
                  refine lw_open hx hb hml hown hts hE hSc a1 ns nt N G E rho cf rf df time t (ce + 3 + 340 * q + 39) (sl + 18 + 2040 * q + 234) B0 X U RR A5 AA_ PP S3 V J8 1 q ht eU hG hGE hrE hW hS hZ8 hqn (fun h9 => absurd h9 (by decide)) (by omega) (by omega) (fun J7 hZ7 hE7 H locs hM ls hl => ?_) _ _ hM ls (lv_sub hl [0, 1, 2, 3, 4, 5, 6, 7, 8, 9, 10, 11, 12, 13, 14] rfl)
                  refine lv_iinc (v := nI (q + 1)) (lv' := [(21, .int (nI (q + 1))), (20, .ref (sa S3 E)), (19, .int (wsm (ngt (cf t) (cf t * rf t) (df t) B0 X) (q + 1))), (18, .int (fsum (ngt (cf t) (cf t * rf t) (df t) B0 X) (q + 1))), (17, .int (nI (df t))), (10, .int (cwk (cf t) (cf t * rf t) (df t) B0 X 1)), (8, .ref (sa S3 G)), (7, .int (nI (cf t * rf t))), (6, .int (nI t)), (4, .int (nI time)), (3, .int PP), (2, .ref (sa S3 1000)), (1, .ref (sa S3 0)), (0, .ref sc.1)]) hx hb dL_law_882 hl (k := 0) rfl (nI_1 _) (by decide) rfl (fun ls hl => ?_)
                  refine lv_goto (tgt := 515) hx hb dL_law_885 (by decide) ?_
                  refine W.widen (show _ ≤ ce + 3 + 340 * (q + 1) by omega) (show _ ≤ sl + 18 + 2040 * (q + 1) by omega) ?_
                  exact ih_515 (q + 1) J7 (by omega) hZ7 (fun j hj => (congrFun hE7 j).trans (hs6 j hj)) (by omega) _ _ hM ls (lv_sub hl [0, 1, 2, 3, 4, 5, 6, 7, 8, 9, 10, 11, 12, 13] rfl)
            · skip
              have hk6 : k < 6 := Nat.lt_of_not_le (fun z => c_11 (nI_le z (by omega)))
              refine lv_aload_n hx hb dL_law_611 rfl (lv_at hl 13 rfl) ?_
              refine lv_iload hx hb dL_law_612 (lv_at hl 9 rfl) ?_
              refine lv_iload hx hb dL_law_614 (lv_at hl 1 rfl) ?_
              refine lv_iload hx hb dL_law_616 (lv_at hl 0 rfl) ?_
              refine fb_callVi (r := 0) hx hb hml hown hts hM (hZ8.1.1.1.1.1) (ce3 (hZ8.1.1.1.1.2)) rfl (As := [.int (nI t), .int (nI q), .int (nI k)]) (rest := []) (z_sq D y l hZ8 ht q hqn k (by omega)) (cwV 3 hts gL_law_X3_square rfl rfl rfl (by decide +kernel) ⟨Nat.le_of_ble_eq_true rfl, Nat.le_of_ble_eq_true rfl⟩) rfl hl.1 rfl (Nat.le_of_ble_eq_true rfl) dL_law_618 ⟨(by show _ ≤ 626107; omega), (by show _ ≤ 7223304; omega)⟩ (fun v_16 u_ H locs hp hM => ?_)
              obtain ⟨hv_, hu_⟩ := hp
              have hv_ := Eq.symm hv_
              have hu_ := Eq.symm hu_
              subst hv_
              subst hu_
              refine W.eq (g2 := F0 mv _ ls (.int ((ngt (cf t) (cf t * rf t) (df t) B0 X) q k) :: [])) (by rw [show (csq (cf t) (cf t * rf t) B0 (ngt (cf t) (cf t * rf t) (df t) B0 X) q k : Int32) = (ngt (cf t) (cf t * rf t) (df t) B0 X) q k from csq_6 _ _ _ _ _ hk6]) ?_
              refine lv_istore (lv' := [(23, .int ((ngt (cf t) (cf t * rf t) (df t) B0 X) q k)), (22, .int (nI k)), (21, .int (nI q)), (20, .ref (sa S3 E)), (19, .int (wsm (ngt (cf t) (cf t * rf t) (df t) B0 X) (q + 1))), (18, .int (fsum (ngt (cf t) (cf t * rf t) (df t) B0 X) (q + 1))), (17, .int (nI (df t))), (10, .int (cwk (cf t) (cf t * rf t) (df t) B0 X 1)), (8, .ref (sa S3 G)), (7, .int (nI (cf t * rf t))), (6, .int (nI t)), (4, .int (nI time)), (3, .int PP), (2, .ref (sa S3 1000)), (1, .ref (sa S3 0)), (0, .ref sc.1)]) hx hb dL_law_621 hl (by decide) rfl (fun ls hl => ?_)
              refine lv_iconst (v := 0) hx hb dL_law_623 (by decide) ?_
              refine lv_iconst (v := 2) hx hb dL_law_624 (by decide) ?_
              refine lv_iload hx hb dL_law_625 (lv_at hl 1 rfl) ?_
              refine lv_imul hx hb dL_law_627 ?_
              refine lv_iload hx hb dL_law_628 (lv_at hl 6 rfl) ?_
              refine lv_isub hx hb dL_law_630 ?_
              refine va_mmax hx hb (hml.trans hl.1.symm) hown (hts (.methodLink RL 82 Lib.Math.max.name) (by decide +kernel)) (hts (.static Lib.Math.max.name) (by decide +kernel)) (hts (.initialized "java/lang/Math") (by decide +kernel)) (hts (.code Lib.Math.max.name Lib.Math.max.code 2 (some .int)) (by decide +kernel)) (Nat.le_of_ble_eq_true rfl) (Nat.le_of_ble_eq_true rfl) (by show _ ≤ 626107; omega) (by show _ ≤ 7223304; omega) dL_law_631 ?_
              refine lv_istore (lv' := [(24, .int (if 0 < (2 * (nI k)) - (nI (df t)) then (2 * (nI k)) - (nI (df t)) else 0)), (23, .int ((ngt (cf t) (cf t * rf t) (df t) B0 X) q k)), (22, .int (nI k)), (21, .int (nI q)), (20, .ref (sa S3 E)), (19, .int (wsm (ngt (cf t) (cf t * rf t) (df t) B0 X) (q + 1))), (18, .int (fsum (ngt (cf t) (cf t * rf t) (df t) B0 X) (q + 1))), (17, .int (nI (df t))), (10, .int (cwk (cf t) (cf t * rf t) (df t) B0 X 1)), (8, .ref (sa S3 G)), (7, .int (nI (cf t * rf t))), (6, .int (nI t)), (4, .int (nI time)), (3, .int PP), (2, .ref (sa S3 1000)), (1, .ref (sa S3 0)), (0, .ref sc.1)]) hx hb dL_law_634 hl (by decide) rfl (fun ls hl => ?_)
              obtain ⟨w8, hw8, ew8⟩ := (hBY q (by omega)).at_ hk6
              have hpos : ¬ (ngt (cf t) (cf t * rf t) (df t) B0 X) q k < 0 := by rw [ew8]; exact nI_pos (by omega)
              refine lv_iload hx hb dL_law_636 (lv_at hl 1 rfl) ?_
              refine lv_if_lt (tgt := 675) hx hb dL_law_638 (by decide) (fun c_17 => absurd c_17 (hpos)) (fun c_17 => ?_)
              refine lv_iload hx hb dL_law_641 (lv_at hl 2 rfl) ?_
              refine lv_iconst (v := 1) hx hb dL_law_643 (by decide) ?_
              refine lv_icmp_le (tgt := 677) hx hb dL_law_644 (by decide) (fun c_18 => ?_) (fun c_18 => ?_)
              · skip
                refine lv_aload hx hb dL_law_677 (lv_at hl 4 rfl) ?_
                refine lv_iload hx hb dL_law_679 (lv_at hl 2 rfl) ?_
                refine lv_dup2_11 hx hb dL_law_681 rfl rfl ?_
                refine fb_iald (r := E) hx hb hM ((hS).1) (ce6 ((hS).2.1)) (k := k) (nI_clamp (by omega)) (by rw [(hS).2.2]; exact vp_in_nI (by omega) (by omega)) dL_law_682 ?_
                refine lv_iload hx hb dL_law_683 (lv_at hl 1 rfl) ?_
                refine lv_aload hx hb dL_law_685 (lv_at hl 9 rfl) ?_
                refine lv_iload hx hb dL_law_687 (lv_at hl 3 rfl) ?_
                refine fb_aaldA (r := G) hx hb hM (hW.1.1) (ce10 (hW.1.2.1)) 4 rfl (k := q) (nI_clamp (by omega)) (b := sa S3 (G + 1 + q)) ((hW.2 q (by omega)).1) (by rw [hW.1.2.2]; exact vp_in_nI (by omega) (by omega)) dL_law_689 ?_
                refine lv_iload hx hb dL_law_690 (lv_at hl 2 rfl) ?_
                refine fb_iald (r := (G + 1 + q)) hx hb hM (((hW.2 q (by omega)).2).1) (ce6 (((hW.2 q (by omega)).2).2.1)) (k := k) (nI_clamp (by omega)) (by rw [((hW.2 q (by omega)).2).2.2]; exact vp_in_nI (by omega) (by omega)) dL_law_692 ?_
                refine W.eq (g2 := F0 mv _ ls (.int (X q k) :: .int ((ngt (cf t) (cf t * rf t) (df t) B0 X) q k) :: .int (J8 E k) :: .int (nI k) :: .ref (sa S3 E) :: [])) (by rw [show (J8 (G + 1 + q) k : Int32) = X q k from (hZ8.2.2.1 q hqn k (Nat.lt_of_lt_of_le (show k < 6 from hk6) (by decide))).trans (by rw [eU]; exact csq_6 _ _ _ _ _ hk6)]) ?_
                refine lv_isub hx hb dL_law_693 ?_
                refine lv_iadd hx hb dL_law_694 ?_
                refine fb_iast (r := E) hx hb hM ((hS).1) (ce6 ((hS).2.1)) (k := k) (nI_clamp (by omega)) (by rw [(hS).2.2]; exact vp_in_nI (by omega) (by omega)) dL_law_695 (up_I (j := k) (by rw [ce6 (S := S3) ((hS).2.1)]; simp [va_up])) (w' := (S3, V, sT V, (va_up J8 E (upd (J8 E) k ((J8 E k) + (((ngt (cf t) (cf t * rf t) (df t) B0 X) q k) - (X q k))))))) ⟨rfl, rfl, rfl⟩ (fun H locs hM => ?_)
                refine lv_iinc (v := nI (k + 1)) (lv' := [(22, .int (nI (k + 1))), (24, .int (if 0 < (2 * (nI k)) - (nI (df t)) then (2 * (nI k)) - (nI (df t)) else 0)), (23, .int ((ngt (cf t) (cf t * rf t) (df t) B0 X) q k)), (21, .int (nI q)), (20, .ref (sa S3 E)), (19, .int (wsm (ngt (cf t) (cf t * rf t) (df t) B0 X) (q + 1))), (18, .int (fsum (ngt (cf t) (cf t * rf t) (df t) B0 X) (q + 1))), (17, .int (nI (df t))), (10, .int (cwk (cf t) (cf t * rf t) (df t) B0 X 1)), (8, .ref (sa S3 G)), (7, .int (nI (cf t * rf t))), (6, .int (nI t)), (4, .int (nI time)), (3, .int PP), (2, .ref (sa S3 1000)), (1, .ref (sa S3 0)), (0, .ref sc.1)]) hx hb dL_law_696 hl (k := 2) rfl (nI_1 _) (by decide) rfl (fun ls hl => ?_)
                refine lv_goto (tgt := 604) hx hb dL_law_699 (by decide) ?_
                refine W.widen (show _ ≤ ce + 3 + 340 * q + 15 + 3 * (k + 1) by omega) (show _ ≤ sl + 18 + 2040 * q + 90 + 18 * (k + 1) by omega) ?_
                exact ih_604 (k + 1) (va_up J8 E (upd (J8 E) k ((J8 E k) + (((ngt (cf t) (cf t * rf t) (df t) B0 X) q k) - (X q k))))) (by omega) (hZ8.upF ht (by omega) hGE hrE _) (fun j hj => (congrFun (va_up_self _ _ _) j).trans (gs_up (f := fun j z => (ngt (cf t) (cf t * rf t) (df t) B0 X) z j - X z j) hs8 hk6 rfl j hj)) (by omega) _ _ hM ls (lv_sub hl [0, 3, 4, 5, 6, 7, 8, 9, 10, 11, 12, 13, 14, 15, 16] rfl)
              · skip
                have h2k : 2 ≤ k := by
                  rcases Nat.lt_or_ge 1 k with h | h
                  · exact h
                  · exact absurd (nI_le h (by decide)) c_18
                refine lv_iload hx hb dL_law_647 (lv_at hl 1 rfl) ?_
                refine lv_aload hx hb dL_law_649 (lv_at hl 9 rfl) ?_
                refine lv_iload hx hb dL_law_651 (lv_at hl 3 rfl) ?_
                refine fb_aaldA (r := G) hx hb hM (hW.1.1) (ce10 (hW.1.2.1)) 4 rfl (k := q) (nI_clamp (by omega)) (b := sa S3 (G + 1 + q)) ((hW.2 q (by omega)).1) (by rw [hW.1.2.2]; exact vp_in_nI (by omega) (by omega)) dL_law_653 ?_
                refine lv_iload hx hb dL_law_654 (lv_at hl 2 rfl) ?_
                refine fb_iald (r := (G + 1 + q)) hx hb hM (((hW.2 q (by omega)).2).1) (ce6 (((hW.2 q (by omega)).2).2.1)) (k := k) (nI_clamp (by omega)) (by rw [((hW.2 q (by omega)).2).2.2]; exact vp_in_nI (by omega) (by omega)) dL_law_656 ?_
                refine W.eq (g2 := F0 mv _ ls (.int (X q k) :: .int ((ngt (cf t) (cf t * rf t) (df t) B0 X) q k) :: [])) (by rw [show (J8 (G + 1 + q) k : Int32) = X q k from (hZ8.2.2.1 q hqn k (Nat.lt_of_lt_of_le (show k < 6 from hk6) (by decide))).trans (by rw [eU]; exact csq_6 _ _ _ _ _ hk6)]) ?_
                refine lv_aload hx hb dL_law_657 (lv_at hl 9 rfl) ?_
                refine lv_iload hx hb dL_law_659 (lv_at hl 3 rfl) ?_
                refine fb_aaldA (r := G) hx hb hM (hW.1.1) (ce10 (hW.1.2.1)) 4 rfl (k := q) (nI_clamp (by omega)) (b := sa S3 (G + 1 + q)) ((hW.2 q (by omega)).1) (by rw [hW.1.2.2]; exact vp_in_nI (by omega) (by omega)) dL_law_661 ?_
                refine lv_iload hx hb dL_law_662 (lv_at hl 2 rfl) ?_
                refine fb_iald (r := (G + 1 + q)) hx hb hM (((hW.2 q (by omega)).2).1) (ce6 (((hW.2 q (by omega)).2).2.1)) (k := k) (nI_clamp (by omega)) (by rw [((hW.2 q (by omega)).2).2.2]; exact vp_in_nI (by omega) (by omega)) dL_law_664 ?_
                refine W.eq (g2 := F0 mv _ ls (.int (X q k) :: .int (X q k) :: .int ((ngt (cf t) (cf t * rf t) (df t) B0 X) q k) :: [])) (by rw [show (J8 (G + 1 + q) k : Int32) = X q k from (hZ8.2.2.1 q hqn k (Nat.lt_of_lt_of_le (show k < 6 from hk6) (by decide))).trans (by rw [eU]; exact csq_6 _ _ _ _ _ hk6)]) ?_
                refine lv_iload hx hb dL_law_665 (lv_at hl 0 rfl) ?_
                refine lv_imul hx hb dL_law_667 ?_
                refine lv_bipush (v := 30) hx hb dL_law_668 (by decide) ?_
                refine lv_idiv hx hb dL_law_670 (by decide) ?_
                refine lv_isub hx hb dL_law_671 ?_
                refine lv_icmp_eq (tgt := 677) hx hb dL_law_672 (by decide) (fun c_19 => ?_) (fun c_19 => absurd (ngt_2 (show q < 36 by omega) h2k hk6) c_19)
                refine lv_aload hx hb dL_law_677 (lv_at hl 4 rfl) ?_
                refine lv_iload hx hb dL_law_679 (lv_at hl 2 rfl) ?_
                refine lv_dup2_11 hx hb dL_law_681 rfl rfl ?_
                refine fb_iald (r := E) hx hb hM ((hS).1) (ce6 ((hS).2.1)) (k := k) (nI_clamp (by omega)) (by rw [(hS).2.2]; exact vp_in_nI (by omega) (by omega)) dL_law_682 ?_
                refine lv_iload hx hb dL_law_683 (lv_at hl 1 rfl) ?_
                refine lv_aload hx hb dL_law_685 (lv_at hl 9 rfl) ?_
                refine lv_iload hx hb dL_law_687 (lv_at hl 3 rfl) ?_
                refine fb_aaldA (r := G) hx hb hM (hW.1.1) (ce10 (hW.1.2.1)) 4 rfl (k := q) (nI_clamp (by omega)) (b := sa S3 (G + 1 + q)) ((hW.2 q (by omega)).1) (by rw [hW.1.2.2]; exact vp_in_nI (by omega) (by omega)) dL_law_689 ?_
                refine lv_iload hx hb dL_law_690 (lv_at hl 2 rfl) ?_
                refine fb_iald (r := (G + 1 + q)) hx hb hM (((hW.2 q (by omega)).2).1) (ce6 (((hW.2 q (by omega)).2).2.1)) (k := k) (nI_clamp (by omega)) (by rw [((hW.2 q (by omega)).2).2.2]; exact vp_in_nI (by omega) (by omega)) dL_law_692 ?_
                refine W.eq (g2 := F0 mv _ ls (.int (X q k) :: .int ((ngt (cf t) (cf t * rf t) (df t) B0 X) q k) :: .int (J8 E k) :: .int (nI k) :: .ref (sa S3 E) :: [])) (by rw [show (J8 (G + 1 + q) k : Int32) = X q k from (hZ8.2.2.1 q hqn k (Nat.lt_of_lt_of_le (show k < 6 from hk6) (by decide))).trans (by rw [eU]; exact csq_6 _ _ _ _ _ hk6)]) ?_
                refine lv_isub hx hb dL_law_693 ?_
                refine lv_iadd hx hb dL_law_694 ?_
                refine fb_iast (r := E) hx hb hM ((hS).1) (ce6 ((hS).2.1)) (k := k) (nI_clamp (by omega)) (by rw [(hS).2.2]; exact vp_in_nI (by omega) (by omega)) dL_law_695 (up_I (j := k) (by rw [ce6 (S := S3) ((hS).2.1)]; simp [va_up])) (w' := (S3, V, sT V, (va_up J8 E (upd (J8 E) k ((J8 E k) + (((ngt (cf t) (cf t * rf t) (df t) B0 X) q k) - (X q k))))))) ⟨rfl, rfl, rfl⟩ (fun H locs hM => ?_)
                refine lv_iinc (v := nI (k + 1)) (lv' := [(22, .int (nI (k + 1))), (24, .int (if 0 < (2 * (nI k)) - (nI (df t)) then (2 * (nI k)) - (nI (df t)) else 0)), (23, .int ((ngt (cf t) (cf t * rf t) (df t) B0 X) q k)), (21, .int (nI q)), (20, .ref (sa S3 E)), (19, .int (wsm (ngt (cf t) (cf t * rf t) (df t) B0 X) (q + 1))), (18, .int (fsum (ngt (cf t) (cf t * rf t) (df t) B0 X) (q + 1))), (17, .int (nI (df t))), (10, .int (cwk (cf t) (cf t * rf t) (df t) B0 X 1)), (8, .ref (sa S3 G)), (7, .int (nI (cf t * rf t))), (6, .int (nI t)), (4, .int (nI time)), (3, .int PP), (2, .ref (sa S3 1000)), (1, .ref (sa S3 0)), (0, .ref sc.1)]) hx hb dL_law_696 hl (k := 2) rfl (nI_1 _) (by decide) rfl (fun ls hl => ?_)
                refine lv_goto (tgt := 604) hx hb dL_law_699 (by decide) ?_
                refine W.widen (show _ ≤ ce + 3 + 340 * q + 15 + 3 * (k + 1) by omega) (show _ ≤ sl + 18 + 2040 * q + 90 + 18 * (k + 1) by omega) ?_
                exact ih_604 (k + 1) (va_up J8 E (upd (J8 E) k ((J8 E k) + (((ngt (cf t) (cf t * rf t) (df t) B0 X) q k) - (X q k))))) (by omega) (hZ8.upF ht (by omega) hGE hrE _) (fun j hj => (congrFun (va_up_self _ _ _) j).trans (gs_up (f := fun j z => (ngt (cf t) (cf t * rf t) (df t) B0 X) z j - X z j) hs8 hk6 rfl j hj)) (by omega) _ _ hM ls (lv_sub hl [0, 3, 4, 5, 6, 7, 8, 9, 10, 11, 12, 13, 14, 15, 16] rfl)
        refine W.widen (show _ ≤ ce + 3 + 340 * q + 15 + 3 * 0 by omega) (show _ ≤ sl + 18 + 2040 * q + 90 + 18 * 0 by omega) ?_
        exact LP_604 _ 0 J9 (by omega) hZ9 (fun j hj => (hs9 j hj).trans (by rw [if_neg (Nat.not_lt_zero _)]; rfl)) (Nat.lt_succ_self _) _ _ hM ls (lv_sub hl [0, 3, 4, 1, 2, 5, 6, 7, 8, 9, 10, 11, 12, 13, 14] rfl)
  refine W.widen (show _ ≤ ce + 3 + 340 * 0 by omega) (show _ ≤ sl + 18 + 2040 * 0 by omega) ?_
  exact LP_515 _ 0 _ (by omega) hZ3 (fun j hj => congrFun (va_up_self _ _ _) j) (Nat.lt_succ_self _) _ _ hM ls (lv_sub hl [0, 1, 2, 3, 4, 5, 6, 7, 8, 9, 10, 11, 12, 13] rfl)
