abbrev rm_L_sew : Room := { frames := 8, cells := 3, slots := 18, locals := 176 }
set_option maxHeartbeats 4000000 in
set_option maxRecDepth 100000 in
theorem c_L_sew_ok (a0 : Nat × Nat) (D : va_G) (y : Nat → ClassId) (l : Launch) (S : fb_Sh) (V I : fb_V) (h0 : 0 ∈ sR S ∧ sk S 0 = 3) (hO : RA S 2000 13 1) (p0 : Int32) (p1 : Int32) (p2 : Int32) (p3 : Int32) {post : Int32 → fb_W → Prop} (hc : CI D y l yX3_sew wsX3_sew rm_X3_sew [.ref (sa S 0), .int p0, .int p1, .int p2, .int p3] (S, V, (sT V), I) post 3 18) (hp : ∀ v u, post v u → RA u.1 2000 13 1 ∧ sa u.1 2000 = sa S 2000) : CWr a0 D y l yL_sew wsL_sew rm_L_sew [.ref (sa S 0), .int p0, .int p1, .int p2, .int p3, .ref (sa S 2000)] (S, V, (sT V), I) (fun z u => z = 0 ∧ ∃ v u1, post v u1 ∧ u = (u1.1, u1.2.1, u1.2.2.1, va_up u1.2.2.2 2000 (upd (u1.2.2.2 2000) 0 v))) 3 18 := by
  refine CWr.of (cc := cL_sew) (maxL := 7) (ret := (some .int)) (hh := [(0, 14, 17, 21), (0, 14, 21, 13)]) (by decide) rfl (Nat.le_of_ble_eq_true rfl) ?_
  intro pv ev s mv below meth cv A hx hb hml hr hown hts hlocks htab hM hE hNc ls hl
  have hown : s.vm.findClass RL = some mv.cls := hown
  have hl : lv_has ls 7 [(0, .ref (sa S 0)), (1, .int p0), (2, .int p1), (3, .int p2), (4, .int p3), (5, .ref (sa S 2000))] := hl
  refine vx_ret ?_
  refine lv_aload hx hb dL_sew_0 (lv_at hl 5 rfl) ?_
  refine lv_iconst (v := 0) hx hb dL_sew_2 (by decide) ?_
  refine lv_aload_n hx hb dL_sew_3 rfl (lv_at hl 0 rfl) ?_
  refine lv_iload_n hx hb dL_sew_4 rfl (lv_at hl 1 rfl) ?_
  refine lv_iload_n hx hb dL_sew_5 rfl (lv_at hl 2 rfl) ?_
  refine lv_iload_n hx hb dL_sew_6 rfl (lv_at hl 3 rfl) ?_
  refine lv_iload hx hb dL_sew_7 (lv_at hl 4 rfl) ?_
  refine fb_callVi (r := 0) hx hb hml hown hts hM (h0.1) (ce3 (h0.2)) rfl (As := [.int p0, .int p1, .int p2, .int p3]) (rest := [.int 0, .ref (sa S 2000)]) (hc) (cwV 4 hts gL_sew_X3_sew rfl rfl rfl (by decide +kernel) ⟨Nat.le_of_ble_eq_true rfl, Nat.le_of_ble_eq_true rfl⟩) rfl hl.1 rfl (Nat.le_of_ble_eq_true rfl) dL_sew_9 ⟨Nat.le_of_ble_eq_true rfl, Nat.le_of_ble_eq_true rfl⟩ (fun v u H locs hpv hM => ?_)
  obtain ⟨S1, V1, T1, I1⟩ := u
  obtain ⟨hO1, hO2⟩ := hp _ _ hpv
  have hO1 : RA S1 2000 13 1 := hO1
  have hO2 : sa S1 2000 = sa S 2000 := hO2
  refine lv_i2l hx hb dL_sew_12 rfl ?_
  rw [← hO2]
  refine fb_last13 hx hb hM hO1 (i := 0) (k := 0) (by decide) (vp_in_nI (n := 0) (N := 1) (by decide) (by decide)) dL_sew_13 (fun H locs hM => ?_)
  refine lv_goto (tgt := 25) hx hb dL_sew_14 (by decide) ?_
  refine lv_iconst (v := 0) hx hb dL_sew_25 (by decide) ?_
  refine W.widen (show _ ≤ 3 from Nat.le_of_ble_eq_true rfl) (show _ ≤ 18 from Nat.le_of_ble_eq_true rfl) ?_
  exact fb_iret hx hb hr hlocks hM ⟨rfl, v, _, hpv, rfl⟩ dL_sew_26
set_option maxHeartbeats 4000000 in
set_option maxRecDepth 100000 in
theorem c_L_sew_IOE (a0 : Nat × Nat) (D : va_G) (y : Nat → ClassId) (l : Launch) (S : fb_Sh) (V I : fb_V) (h0 : 0 ∈ sR S ∧ sk S 0 = 3) (hO : RA S 2000 13 1) (p0 : Int32) (p1 : Int32) (p2 : Int32) (p3 : Int32) (hc : CX a0 D y l yX3_sew wsX3_sew rm_X3_sew [.ref (sa S 0), .int p0, .int p1, .int p2, .int p3] (S, V, (sT V), I) "java/lang/IndexOutOfBoundsException" 3 18) : CWr a0 D y l yL_sew wsL_sew rm_L_sew [.ref (sa S 0), .int p0, .int p1, .int p2, .int p3, .ref (sa S 2000)] (S, V, (sT V), I) (fun z u => z = 1 ∧ u = (S, V, sT V, I)) 3 18 := by
  refine CWr.of (cc := cL_sew) (maxL := 7) (ret := (some .int)) (hh := [(0, 14, 17, 21), (0, 14, 21, 13)]) (by decide) rfl (Nat.le_of_ble_eq_true rfl) ?_
  intro pv ev s mv below meth cv A hx hb hml hr hown hts hlocks htab hM hE hNc ls hl
  have hown : s.vm.findClass RL = some mv.cls := hown
  have hl : lv_has ls 7 [(0, .ref (sa S 0)), (1, .int p0), (2, .int p1), (3, .int p2), (4, .int p3), (5, .ref (sa S 2000))] := hl
  refine vx_ret ?_
  refine lv_aload hx hb dL_sew_0 (lv_at hl 5 rfl) ?_
  refine lv_iconst (v := 0) hx hb dL_sew_2 (by decide) ?_
  refine lv_aload_n hx hb dL_sew_3 rfl (lv_at hl 0 rfl) ?_
  refine lv_iload_n hx hb dL_sew_4 rfl (lv_at hl 1 rfl) ?_
  refine lv_iload_n hx hb dL_sew_5 rfl (lv_at hl 2 rfl) ?_
  refine lv_iload_n hx hb dL_sew_6 rfl (lv_at hl 3 rfl) ?_
  refine lv_iload hx hb dL_sew_7 (lv_at hl 4 rfl) ?_
  refine fb_xcatchV (r := 0) hx hb hml hown hts hM hE (h0.1) (ce3 (h0.2)) rfl (As := [.int p0, .int p1, .int p2, .int p3]) (rest := [.int 0, .ref (sa S 2000)]) (hc) (cwV 4 hts gL_sew_X3_sew rfl rfl rfl (by decide +kernel) ⟨Nat.le_of_ble_eq_true rfl, Nat.le_of_ble_eq_true rfl⟩) rfl hl.1 rfl (Nat.le_of_ble_eq_true rfl) dL_sew_9 ⟨Nat.le_of_ble_eq_true rfl, Nat.le_of_ble_eq_true rfl⟩ (fun ce q9 H locs hM hce hcv hcl => ?_)
  refine vx_catch (name := "java/lang/IndexOutOfBoundsException") hown [] ⟨0, 14, 17, 21⟩ [⟨0, 14, 21, 13⟩] (htab.trans rfl) (fun z hz => nomatch hz) (by decide) (by decide) (hts (.classLink RL 21 "java/lang/IndexOutOfBoundsException") (by decide +kernel)) (va_Nw.use rfl (hE.1.1 "java/lang/IndexOutOfBoundsException" (by simp [fb_exc]))) hce hcv hcl ?_
  refine lv_astore (lv' := [(6, .ref q9), (0, .ref (sa S 0)), (1, .int p0), (2, .int p1), (3, .int p2), (4, .int p3), (5, .ref (sa S 2000))]) hx hb dL_sew_17 hl (by decide) rfl (fun ls hl => ?_)
  refine lv_iconst (v := 1) hx hb dL_sew_19 (by decide) ?_
  refine W.widen (show _ ≤ 3 from Nat.le_of_ble_eq_true rfl) (show _ ≤ 18 from Nat.le_of_ble_eq_true rfl) ?_
  exact fb_iret hx hb hr hlocks hM ⟨rfl, rfl⟩ dL_sew_20
set_option maxHeartbeats 4000000 in
set_option maxRecDepth 100000 in
theorem c_L_sew_IAE (a0 : Nat × Nat) (D : va_G) (y : Nat → ClassId) (l : Launch) (S : fb_Sh) (V I : fb_V) (h0 : 0 ∈ sR S ∧ sk S 0 = 3) (hO : RA S 2000 13 1) (p0 : Int32) (p1 : Int32) (p2 : Int32) (p3 : Int32) (hc : CX a0 D y l yX3_sew wsX3_sew rm_X3_sew [.ref (sa S 0), .int p0, .int p1, .int p2, .int p3] (S, V, (sT V), I) "java/lang/IllegalArgumentException" 3 18) : CWr a0 D y l yL_sew wsL_sew rm_L_sew [.ref (sa S 0), .int p0, .int p1, .int p2, .int p3, .ref (sa S 2000)] (S, V, (sT V), I) (fun z u => z = 2 ∧ u = (S, V, sT V, I)) 3 18 := by
  refine CWr.of (cc := cL_sew) (maxL := 7) (ret := (some .int)) (hh := [(0, 14, 17, 21), (0, 14, 21, 13)]) (by decide) rfl (Nat.le_of_ble_eq_true rfl) ?_
  intro pv ev s mv below meth cv A hx hb hml hr hown hts hlocks htab hM hE hNc ls hl
  have hown : s.vm.findClass RL = some mv.cls := hown
  have hl : lv_has ls 7 [(0, .ref (sa S 0)), (1, .int p0), (2, .int p1), (3, .int p2), (4, .int p3), (5, .ref (sa S 2000))] := hl
  refine vx_ret ?_
  refine lv_aload hx hb dL_sew_0 (lv_at hl 5 rfl) ?_
  refine lv_iconst (v := 0) hx hb dL_sew_2 (by decide) ?_
  refine lv_aload_n hx hb dL_sew_3 rfl (lv_at hl 0 rfl) ?_
  refine lv_iload_n hx hb dL_sew_4 rfl (lv_at hl 1 rfl) ?_
  refine lv_iload_n hx hb dL_sew_5 rfl (lv_at hl 2 rfl) ?_
  refine lv_iload_n hx hb dL_sew_6 rfl (lv_at hl 3 rfl) ?_
  refine lv_iload hx hb dL_sew_7 (lv_at hl 4 rfl) ?_
  refine fb_xcatchV (r := 0) hx hb hml hown hts hM hE (h0.1) (ce3 (h0.2)) rfl (As := [.int p0, .int p1, .int p2, .int p3]) (rest := [.int 0, .ref (sa S 2000)]) (hc) (cwV 4 hts gL_sew_X3_sew rfl rfl rfl (by decide +kernel) ⟨Nat.le_of_ble_eq_true rfl, Nat.le_of_ble_eq_true rfl⟩) rfl hl.1 rfl (Nat.le_of_ble_eq_true rfl) dL_sew_9 ⟨Nat.le_of_ble_eq_true rfl, Nat.le_of_ble_eq_true rfl⟩ (fun ce q9 H locs hM hce hcv hcl => ?_)
  refine vx_catch (name := "java/lang/IllegalArgumentException") hown [⟨0, 14, 17, 21⟩] ⟨0, 14, 21, 13⟩ [] (htab.trans rfl) (fun z hz => by cases List.mem_singleton.mp hz; exact Or.inr ⟨by decide, _, (hts (.classLink RL 21 "java/lang/IndexOutOfBoundsException") (by decide +kernel)), hNc.1⟩) (by decide) (by decide) (hts (.classLink RL 13 "java/lang/IllegalArgumentException") (by decide +kernel)) (va_Nw.use rfl (hE.1.1 "java/lang/IllegalArgumentException" (by simp [fb_exc]))) hce hcv hcl ?_
  refine lv_astore (lv' := [(6, .ref q9), (0, .ref (sa S 0)), (1, .int p0), (2, .int p1), (3, .int p2), (4, .int p3), (5, .ref (sa S 2000))]) hx hb dL_sew_21 hl (by decide) rfl (fun ls hl => ?_)
  refine lv_iconst (v := 2) hx hb dL_sew_23 (by decide) ?_
  refine W.widen (show _ ≤ 3 from Nat.le_of_ble_eq_true rfl) (show _ ≤ 18 from Nat.le_of_ble_eq_true rfl) ?_
  exact fb_iret hx hb hr hlocks hM ⟨rfl, rfl⟩ dL_sew_24

abbrev rm_L_fill : Room := { frames := 8, cells := 4, slots := 24, locals := 177 }
set_option maxHeartbeats 4000000 in
set_option maxRecDepth 100000 in
theorem c_L_fill_ok (a0 : Nat × Nat) (D : va_G) (y : Nat → ClassId) (l : Launch) (S : fb_Sh) (V I : fb_V) (h0 : 0 ∈ sR S ∧ sk S 0 = 3) (hO : RA S 2000 13 1) (p0 : Int32) (p1 : Int32) (p2 : Int32) (p3 : Int32) {post : Int32 → fb_W → Prop} (hc : CI D y l yX3_fill wsX3_fill rm_X3_fill [.ref (sa S 0), .int p0, .int p1, .int p2, .int p3] (S, V, (sT V), I) post 4 24) (hp : ∀ v u, post v u → RA u.1 2000 13 1 ∧ sa u.1 2000 = sa S 2000) : CWr a0 D y l yL_fill wsL_fill rm_L_fill [.ref (sa S 0), .int p0, .int p1, .int p2, .int p3, .ref (sa S 2000)] (S, V, (sT V), I) (fun z u => z = 0 ∧ ∃ v u1, post v u1 ∧ u = (u1.1, u1.2.1, u1.2.2.1, va_up u1.2.2.2 2000 (upd (u1.2.2.2 2000) 0 v))) 4 24 := by
  refine CWr.of (cc := cL_fill) (maxL := 7) (ret := (some .int)) (hh := [(0, 14, 17, 21), (0, 14, 21, 13)]) (by decide) rfl (Nat.le_of_ble_eq_true rfl) ?_
  intro pv ev s mv below meth cv A hx hb hml hr hown hts hlocks htab hM hE hNc ls hl
  have hown : s.vm.findClass RL = some mv.cls := hown
  have hl : lv_has ls 7 [(0, .ref (sa S 0)), (1, .int p0), (2, .int p1), (3, .int p2), (4, .int p3), (5, .ref (sa S 2000))] := hl
  refine vx_ret ?_
  refine lv_aload hx hb dL_fill_0 (lv_at hl 5 rfl) ?_
  refine lv_iconst (v := 0) hx hb dL_fill_2 (by decide) ?_
  refine lv_aload_n hx hb dL_fill_3 rfl (lv_at hl 0 rfl) ?_
  refine lv_iload_n hx hb dL_fill_4 rfl (lv_at hl 1 rfl) ?_
  refine lv_iload_n hx hb dL_fill_5 rfl (lv_at hl 2 rfl) ?_
  refine lv_iload_n hx hb dL_fill_6 rfl (lv_at hl 3 rfl) ?_
  refine lv_iload hx hb dL_fill_7 (lv_at hl 4 rfl) ?_
  refine fb_callVi (r := 0) hx hb hml hown hts hM (h0.1) (ce3 (h0.2)) rfl (As := [.int p0, .int p1, .int p2, .int p3]) (rest := [.int 0, .ref (sa S 2000)]) (hc) (cwV 4 hts gL_fill_X3_fill rfl rfl rfl (by decide +kernel) ⟨Nat.le_of_ble_eq_true rfl, Nat.le_of_ble_eq_true rfl⟩) rfl hl.1 rfl (Nat.le_of_ble_eq_true rfl) dL_fill_9 ⟨Nat.le_of_ble_eq_true rfl, Nat.le_of_ble_eq_true rfl⟩ (fun v u H locs hpv hM => ?_)
  obtain ⟨S1, V1, T1, I1⟩ := u
  obtain ⟨hO1, hO2⟩ := hp _ _ hpv
  have hO1 : RA S1 2000 13 1 := hO1
  have hO2 : sa S1 2000 = sa S 2000 := hO2
  refine lv_i2l hx hb dL_fill_12 rfl ?_
  rw [← hO2]
  refine fb_last13 hx hb hM hO1 (i := 0) (k := 0) (by decide) (vp_in_nI (n := 0) (N := 1) (by decide) (by decide)) dL_fill_13 (fun H locs hM => ?_)
  refine lv_goto (tgt := 25) hx hb dL_fill_14 (by decide) ?_
  refine lv_iconst (v := 0) hx hb dL_fill_25 (by decide) ?_
  refine W.widen (show _ ≤ 4 from Nat.le_of_ble_eq_true rfl) (show _ ≤ 24 from Nat.le_of_ble_eq_true rfl) ?_
  exact fb_iret hx hb hr hlocks hM ⟨rfl, v, _, hpv, rfl⟩ dL_fill_26
set_option maxHeartbeats 4000000 in
set_option maxRecDepth 100000 in
theorem c_L_fill_IOE (a0 : Nat × Nat) (D : va_G) (y : Nat → ClassId) (l : Launch) (S : fb_Sh) (V I : fb_V) (h0 : 0 ∈ sR S ∧ sk S 0 = 3) (hO : RA S 2000 13 1) (p0 : Int32) (p1 : Int32) (p2 : Int32) (p3 : Int32) (hc : CX a0 D y l yX3_fill wsX3_fill rm_X3_fill [.ref (sa S 0), .int p0, .int p1, .int p2, .int p3] (S, V, (sT V), I) "java/lang/IndexOutOfBoundsException" 4 24) : CWr a0 D y l yL_fill wsL_fill rm_L_fill [.ref (sa S 0), .int p0, .int p1, .int p2, .int p3, .ref (sa S 2000)] (S, V, (sT V), I) (fun z u => z = 1 ∧ u = (S, V, sT V, I)) 4 24 := by
  refine CWr.of (cc := cL_fill) (maxL := 7) (ret := (some .int)) (hh := [(0, 14, 17, 21), (0, 14, 21, 13)]) (by decide) rfl (Nat.le_of_ble_eq_true rfl) ?_
  intro pv ev s mv below meth cv A hx hb hml hr hown hts hlocks htab hM hE hNc ls hl
  have hown : s.vm.findClass RL = some mv.cls := hown
  have hl : lv_has ls 7 [(0, .ref (sa S 0)), (1, .int p0), (2, .int p1), (3, .int p2), (4, .int p3), (5, .ref (sa S 2000))] := hl
  refine vx_ret ?_
  refine lv_aload hx hb dL_fill_0 (lv_at hl 5 rfl) ?_
  refine lv_iconst (v := 0) hx hb dL_fill_2 (by decide) ?_
  refine lv_aload_n hx hb dL_fill_3 rfl (lv_at hl 0 rfl) ?_
  refine lv_iload_n hx hb dL_fill_4 rfl (lv_at hl 1 rfl) ?_
  refine lv_iload_n hx hb dL_fill_5 rfl (lv_at hl 2 rfl) ?_
  refine lv_iload_n hx hb dL_fill_6 rfl (lv_at hl 3 rfl) ?_
  refine lv_iload hx hb dL_fill_7 (lv_at hl 4 rfl) ?_
  refine fb_xcatchV (r := 0) hx hb hml hown hts hM hE (h0.1) (ce3 (h0.2)) rfl (As := [.int p0, .int p1, .int p2, .int p3]) (rest := [.int 0, .ref (sa S 2000)]) (hc) (cwV 4 hts gL_fill_X3_fill rfl rfl rfl (by decide +kernel) ⟨Nat.le_of_ble_eq_true rfl, Nat.le_of_ble_eq_true rfl⟩) rfl hl.1 rfl (Nat.le_of_ble_eq_true rfl) dL_fill_9 ⟨Nat.le_of_ble_eq_true rfl, Nat.le_of_ble_eq_true rfl⟩ (fun ce q9 H locs hM hce hcv hcl => ?_)
  refine vx_catch (name := "java/lang/IndexOutOfBoundsException") hown [] ⟨0, 14, 17, 21⟩ [⟨0, 14, 21, 13⟩] (htab.trans rfl) (fun z hz => nomatch hz) (by decide) (by decide) (hts (.classLink RL 21 "java/lang/IndexOutOfBoundsException") (by decide +kernel)) (va_Nw.use rfl (hE.1.1 "java/lang/IndexOutOfBoundsException" (by simp [fb_exc]))) hce hcv hcl ?_
  refine lv_astore (lv' := [(6, .ref q9), (0, .ref (sa S 0)), (1, .int p0), (2, .int p1), (3, .int p2), (4, .int p3), (5, .ref (sa S 2000))]) hx hb dL_fill_17 hl (by decide) rfl (fun ls hl => ?_)
  refine lv_iconst (v := 1) hx hb dL_fill_19 (by decide) ?_
  refine W.widen (show _ ≤ 4 from Nat.le_of_ble_eq_true rfl) (show _ ≤ 24 from Nat.le_of_ble_eq_true rfl) ?_
  exact fb_iret hx hb hr hlocks hM ⟨rfl, rfl⟩ dL_fill_20
set_option maxHeartbeats 4000000 in
set_option maxRecDepth 100000 in
theorem c_L_fill_IAE (a0 : Nat × Nat) (D : va_G) (y : Nat → ClassId) (l : Launch) (S : fb_Sh) (V I : fb_V) (h0 : 0 ∈ sR S ∧ sk S 0 = 3) (hO : RA S 2000 13 1) (p0 : Int32) (p1 : Int32) (p2 : Int32) (p3 : Int32) (hc : CX a0 D y l yX3_fill wsX3_fill rm_X3_fill [.ref (sa S 0), .int p0, .int p1, .int p2, .int p3] (S, V, (sT V), I) "java/lang/IllegalArgumentException" 4 24) : CWr a0 D y l yL_fill wsL_fill rm_L_fill [.ref (sa S 0), .int p0, .int p1, .int p2, .int p3, .ref (sa S 2000)] (S, V, (sT V), I) (fun z u => z = 2 ∧ u = (S, V, sT V, I)) 4 24 := by
  refine CWr.of (cc := cL_fill) (maxL := 7) (ret := (some .int)) (hh := [(0, 14, 17, 21), (0, 14, 21, 13)]) (by decide) rfl (Nat.le_of_ble_eq_true rfl) ?_
  intro pv ev s mv below meth cv A hx hb hml hr hown hts hlocks htab hM hE hNc ls hl
  have hown : s.vm.findClass RL = some mv.cls := hown
  have hl : lv_has ls 7 [(0, .ref (sa S 0)), (1, .int p0), (2, .int p1), (3, .int p2), (4, .int p3), (5, .ref (sa S 2000))] := hl
  refine vx_ret ?_
  refine lv_aload hx hb dL_fill_0 (lv_at hl 5 rfl) ?_
  refine lv_iconst (v := 0) hx hb dL_fill_2 (by decide) ?_
  refine lv_aload_n hx hb dL_fill_3 rfl (lv_at hl 0 rfl) ?_
  refine lv_iload_n hx hb dL_fill_4 rfl (lv_at hl 1 rfl) ?_
  refine lv_iload_n hx hb dL_fill_5 rfl (lv_at hl 2 rfl) ?_
  refine lv_iload_n hx hb dL_fill_6 rfl (lv_at hl 3 rfl) ?_
  refine lv_iload hx hb dL_fill_7 (lv_at hl 4 rfl) ?_
  refine fb_xcatchV (r := 0) hx hb hml hown hts hM hE (h0.1) (ce3 (h0.2)) rfl (As := [.int p0, .int p1, .int p2, .int p3]) (rest := [.int 0, .ref (sa S 2000)]) (hc) (cwV 4 hts gL_fill_X3_fill rfl rfl rfl (by decide +kernel) ⟨Nat.le_of_ble_eq_true rfl, Nat.le_of_ble_eq_true rfl⟩) rfl hl.1 rfl (Nat.le_of_ble_eq_true rfl) dL_fill_9 ⟨Nat.le_of_ble_eq_true rfl, Nat.le_of_ble_eq_true rfl⟩ (fun ce q9 H locs hM hce hcv hcl => ?_)
  refine vx_catch (name := "java/lang/IllegalArgumentException") hown [⟨0, 14, 17, 21⟩] ⟨0, 14, 21, 13⟩ [] (htab.trans rfl) (fun z hz => by cases List.mem_singleton.mp hz; exact Or.inr ⟨by decide, _, (hts (.classLink RL 21 "java/lang/IndexOutOfBoundsException") (by decide +kernel)), hNc.1⟩) (by decide) (by decide) (hts (.classLink RL 13 "java/lang/IllegalArgumentException") (by decide +kernel)) (va_Nw.use rfl (hE.1.1 "java/lang/IllegalArgumentException" (by simp [fb_exc]))) hce hcv hcl ?_
  refine lv_astore (lv' := [(6, .ref q9), (0, .ref (sa S 0)), (1, .int p0), (2, .int p1), (3, .int p2), (4, .int p3), (5, .ref (sa S 2000))]) hx hb dL_fill_21 hl (by decide) rfl (fun ls hl => ?_)
  refine lv_iconst (v := 2) hx hb dL_fill_23 (by decide) ?_
  refine W.widen (show _ ≤ 4 from Nat.le_of_ble_eq_true rfl) (show _ ≤ 24 from Nat.le_of_ble_eq_true rfl) ?_
  exact fb_iret hx hb hr hlocks hM ⟨rfl, rfl⟩ dL_fill_24

abbrev rm_L_shift : Room := { frames := 8, cells := 5, slots := 30, locals := 178 }
set_option maxHeartbeats 4000000 in
set_option maxRecDepth 100000 in
theorem c_L_shift_ok (a0 : Nat × Nat) (D : va_G) (y : Nat → ClassId) (l : Launch) (S : fb_Sh) (V I : fb_V) (h0 : 0 ∈ sR S ∧ sk S 0 = 3) (hO : RA S 2000 13 1) (p0 : Int32) (p1 : Int32) (p2 : Int32) (p3 : Int32) {post : Int32 → fb_W → Prop} (hc : CI D y l yX3_shift wsX3_shift rm_X3_shift [.ref (sa S 0), .int p0, .int p1, .int p2, .int p3] (S, V, (sT V), I) post 5 30) (hp : ∀ v u, post v u → RA u.1 2000 13 1 ∧ sa u.1 2000 = sa S 2000) : CWr a0 D y l yL_shift wsL_shift rm_L_shift [.ref (sa S 0), .int p0, .int p1, .int p2, .int p3, .ref (sa S 2000)] (S, V, (sT V), I) (fun z u => z = 0 ∧ ∃ v u1, post v u1 ∧ u = (u1.1, u1.2.1, u1.2.2.1, va_up u1.2.2.2 2000 (upd (u1.2.2.2 2000) 0 v))) 5 30 := by
  refine CWr.of (cc := cL_shift) (maxL := 7) (ret := (some .int)) (hh := [(0, 14, 17, 21), (0, 14, 21, 13)]) (by decide) rfl (Nat.le_of_ble_eq_true rfl) ?_
  intro pv ev s mv below meth cv A hx hb hml hr hown hts hlocks htab hM hE hNc ls hl
  have hown : s.vm.findClass RL = some mv.cls := hown
  have hl : lv_has ls 7 [(0, .ref (sa S 0)), (1, .int p0), (2, .int p1), (3, .int p2), (4, .int p3), (5, .ref (sa S 2000))] := hl
  refine vx_ret ?_
  refine lv_aload hx hb dL_shift_0 (lv_at hl 5 rfl) ?_
  refine lv_iconst (v := 0) hx hb dL_shift_2 (by decide) ?_
  refine lv_aload_n hx hb dL_shift_3 rfl (lv_at hl 0 rfl) ?_
  refine lv_iload_n hx hb dL_shift_4 rfl (lv_at hl 1 rfl) ?_
  refine lv_iload_n hx hb dL_shift_5 rfl (lv_at hl 2 rfl) ?_
  refine lv_iload_n hx hb dL_shift_6 rfl (lv_at hl 3 rfl) ?_
  refine lv_iload hx hb dL_shift_7 (lv_at hl 4 rfl) ?_
  refine fb_callVi (r := 0) hx hb hml hown hts hM (h0.1) (ce3 (h0.2)) rfl (As := [.int p0, .int p1, .int p2, .int p3]) (rest := [.int 0, .ref (sa S 2000)]) (hc) (cwV 4 hts gL_shift_X3_shift rfl rfl rfl (by decide +kernel) ⟨Nat.le_of_ble_eq_true rfl, Nat.le_of_ble_eq_true rfl⟩) rfl hl.1 rfl (Nat.le_of_ble_eq_true rfl) dL_shift_9 ⟨Nat.le_of_ble_eq_true rfl, Nat.le_of_ble_eq_true rfl⟩ (fun v u H locs hpv hM => ?_)
  obtain ⟨S1, V1, T1, I1⟩ := u
  obtain ⟨hO1, hO2⟩ := hp _ _ hpv
  have hO1 : RA S1 2000 13 1 := hO1
  have hO2 : sa S1 2000 = sa S 2000 := hO2
  refine lv_i2l hx hb dL_shift_12 rfl ?_
  rw [← hO2]
  refine fb_last13 hx hb hM hO1 (i := 0) (k := 0) (by decide) (vp_in_nI (n := 0) (N := 1) (by decide) (by decide)) dL_shift_13 (fun H locs hM => ?_)
  refine lv_goto (tgt := 25) hx hb dL_shift_14 (by decide) ?_
  refine lv_iconst (v := 0) hx hb dL_shift_25 (by decide) ?_
  refine W.widen (show _ ≤ 5 from Nat.le_of_ble_eq_true rfl) (show _ ≤ 30 from Nat.le_of_ble_eq_true rfl) ?_
  exact fb_iret hx hb hr hlocks hM ⟨rfl, v, _, hpv, rfl⟩ dL_shift_26
set_option maxHeartbeats 4000000 in
set_option maxRecDepth 100000 in
theorem c_L_shift_IOE (a0 : Nat × Nat) (D : va_G) (y : Nat → ClassId) (l : Launch) (S : fb_Sh) (V I : fb_V) (h0 : 0 ∈ sR S ∧ sk S 0 = 3) (hO : RA S 2000 13 1) (p0 : Int32) (p1 : Int32) (p2 : Int32) (p3 : Int32) (hc : CX a0 D y l yX3_shift wsX3_shift rm_X3_shift [.ref (sa S 0), .int p0, .int p1, .int p2, .int p3] (S, V, (sT V), I) "java/lang/IndexOutOfBoundsException" 5 30) : CWr a0 D y l yL_shift wsL_shift rm_L_shift [.ref (sa S 0), .int p0, .int p1, .int p2, .int p3, .ref (sa S 2000)] (S, V, (sT V), I) (fun z u => z = 1 ∧ u = (S, V, sT V, I)) 5 30 := by
  refine CWr.of (cc := cL_shift) (maxL := 7) (ret := (some .int)) (hh := [(0, 14, 17, 21), (0, 14, 21, 13)]) (by decide) rfl (Nat.le_of_ble_eq_true rfl) ?_
  intro pv ev s mv below meth cv A hx hb hml hr hown hts hlocks htab hM hE hNc ls hl
  have hown : s.vm.findClass RL = some mv.cls := hown
  have hl : lv_has ls 7 [(0, .ref (sa S 0)), (1, .int p0), (2, .int p1), (3, .int p2), (4, .int p3), (5, .ref (sa S 2000))] := hl
  refine vx_ret ?_
  refine lv_aload hx hb dL_shift_0 (lv_at hl 5 rfl) ?_
  refine lv_iconst (v := 0) hx hb dL_shift_2 (by decide) ?_
  refine lv_aload_n hx hb dL_shift_3 rfl (lv_at hl 0 rfl) ?_
  refine lv_iload_n hx hb dL_shift_4 rfl (lv_at hl 1 rfl) ?_
  refine lv_iload_n hx hb dL_shift_5 rfl (lv_at hl 2 rfl) ?_
  refine lv_iload_n hx hb dL_shift_6 rfl (lv_at hl 3 rfl) ?_
  refine lv_iload hx hb dL_shift_7 (lv_at hl 4 rfl) ?_
  refine fb_xcatchV (r := 0) hx hb hml hown hts hM hE (h0.1) (ce3 (h0.2)) rfl (As := [.int p0, .int p1, .int p2, .int p3]) (rest := [.int 0, .ref (sa S 2000)]) (hc) (cwV 4 hts gL_shift_X3_shift rfl rfl rfl (by decide +kernel) ⟨Nat.le_of_ble_eq_true rfl, Nat.le_of_ble_eq_true rfl⟩) rfl hl.1 rfl (Nat.le_of_ble_eq_true rfl) dL_shift_9 ⟨Nat.le_of_ble_eq_true rfl, Nat.le_of_ble_eq_true rfl⟩ (fun ce q9 H locs hM hce hcv hcl => ?_)
  refine vx_catch (name := "java/lang/IndexOutOfBoundsException") hown [] ⟨0, 14, 17, 21⟩ [⟨0, 14, 21, 13⟩] (htab.trans rfl) (fun z hz => nomatch hz) (by decide) (by decide) (hts (.classLink RL 21 "java/lang/IndexOutOfBoundsException") (by decide +kernel)) (va_Nw.use rfl (hE.1.1 "java/lang/IndexOutOfBoundsException" (by simp [fb_exc]))) hce hcv hcl ?_
  refine lv_astore (lv' := [(6, .ref q9), (0, .ref (sa S 0)), (1, .int p0), (2, .int p1), (3, .int p2), (4, .int p3), (5, .ref (sa S 2000))]) hx hb dL_shift_17 hl (by decide) rfl (fun ls hl => ?_)
  refine lv_iconst (v := 1) hx hb dL_shift_19 (by decide) ?_
  refine W.widen (show _ ≤ 5 from Nat.le_of_ble_eq_true rfl) (show _ ≤ 30 from Nat.le_of_ble_eq_true rfl) ?_
  exact fb_iret hx hb hr hlocks hM ⟨rfl, rfl⟩ dL_shift_20
set_option maxHeartbeats 4000000 in
set_option maxRecDepth 100000 in
theorem c_L_shift_IAE (a0 : Nat × Nat) (D : va_G) (y : Nat → ClassId) (l : Launch) (S : fb_Sh) (V I : fb_V) (h0 : 0 ∈ sR S ∧ sk S 0 = 3) (hO : RA S 2000 13 1) (p0 : Int32) (p1 : Int32) (p2 : Int32) (p3 : Int32) (hc : CX a0 D y l yX3_shift wsX3_shift rm_X3_shift [.ref (sa S 0), .int p0, .int p1, .int p2, .int p3] (S, V, (sT V), I) "java/lang/IllegalArgumentException" 5 30) : CWr a0 D y l yL_shift wsL_shift rm_L_shift [.ref (sa S 0), .int p0, .int p1, .int p2, .int p3, .ref (sa S 2000)] (S, V, (sT V), I) (fun z u => z = 2 ∧ u = (S, V, sT V, I)) 5 30 := by
  refine CWr.of (cc := cL_shift) (maxL := 7) (ret := (some .int)) (hh := [(0, 14, 17, 21), (0, 14, 21, 13)]) (by decide) rfl (Nat.le_of_ble_eq_true rfl) ?_
  intro pv ev s mv below meth cv A hx hb hml hr hown hts hlocks htab hM hE hNc ls hl
  have hown : s.vm.findClass RL = some mv.cls := hown
  have hl : lv_has ls 7 [(0, .ref (sa S 0)), (1, .int p0), (2, .int p1), (3, .int p2), (4, .int p3), (5, .ref (sa S 2000))] := hl
  refine vx_ret ?_
  refine lv_aload hx hb dL_shift_0 (lv_at hl 5 rfl) ?_
  refine lv_iconst (v := 0) hx hb dL_shift_2 (by decide) ?_
  refine lv_aload_n hx hb dL_shift_3 rfl (lv_at hl 0 rfl) ?_
  refine lv_iload_n hx hb dL_shift_4 rfl (lv_at hl 1 rfl) ?_
  refine lv_iload_n hx hb dL_shift_5 rfl (lv_at hl 2 rfl) ?_
  refine lv_iload_n hx hb dL_shift_6 rfl (lv_at hl 3 rfl) ?_
  refine lv_iload hx hb dL_shift_7 (lv_at hl 4 rfl) ?_
  refine fb_xcatchV (r := 0) hx hb hml hown hts hM hE (h0.1) (ce3 (h0.2)) rfl (As := [.int p0, .int p1, .int p2, .int p3]) (rest := [.int 0, .ref (sa S 2000)]) (hc) (cwV 4 hts gL_shift_X3_shift rfl rfl rfl (by decide +kernel) ⟨Nat.le_of_ble_eq_true rfl, Nat.le_of_ble_eq_true rfl⟩) rfl hl.1 rfl (Nat.le_of_ble_eq_true rfl) dL_shift_9 ⟨Nat.le_of_ble_eq_true rfl, Nat.le_of_ble_eq_true rfl⟩ (fun ce q9 H locs hM hce hcv hcl => ?_)
  refine vx_catch (name := "java/lang/IllegalArgumentException") hown [⟨0, 14, 17, 21⟩] ⟨0, 14, 21, 13⟩ [] (htab.trans rfl) (fun z hz => by cases List.mem_singleton.mp hz; exact Or.inr ⟨by decide, _, (hts (.classLink RL 21 "java/lang/IndexOutOfBoundsException") (by decide +kernel)), hNc.1⟩) (by decide) (by decide) (hts (.classLink RL 13 "java/lang/IllegalArgumentException") (by decide +kernel)) (va_Nw.use rfl (hE.1.1 "java/lang/IllegalArgumentException" (by simp [fb_exc]))) hce hcv hcl ?_
  refine lv_astore (lv' := [(6, .ref q9), (0, .ref (sa S 0)), (1, .int p0), (2, .int p1), (3, .int p2), (4, .int p3), (5, .ref (sa S 2000))]) hx hb dL_shift_21 hl (by decide) rfl (fun ls hl => ?_)
  refine lv_iconst (v := 2) hx hb dL_shift_23 (by decide) ?_
  refine W.widen (show _ ≤ 5 from Nat.le_of_ble_eq_true rfl) (show _ ≤ 30 from Nat.le_of_ble_eq_true rfl) ?_
  exact fb_iret hx hb hr hlocks hM ⟨rfl, rfl⟩ dL_shift_24

abbrev rm_L_square : Room := { frames := 8, cells := 3, slots := 18, locals := 175 }
set_option maxHeartbeats 4000000 in
set_option maxRecDepth 100000 in
theorem c_L_square_ok (a0 : Nat × Nat) (D : va_G) (y : Nat → ClassId) (l : Launch) (S : fb_Sh) (V I : fb_V) (h0 : 0 ∈ sR S ∧ sk S 0 = 3) (hO : RA S 2000 13 1) (p0 : Int32) (p1 : Int32) (p2 : Int32) {post : Int32 → fb_W → Prop} (hc : CI D y l yX3_square wsX3_square rm_X3_square [.ref (sa S 0), .int p0, .int p1, .int p2] (S, V, (sT V), I) post 3 18) (hp : ∀ v u, post v u → RA u.1 2000 13 1 ∧ sa u.1 2000 = sa S 2000) : CWr a0 D y l yL_square wsL_square rm_L_square [.ref (sa S 0), .int p0, .int p1, .int p2, .ref (sa S 2000)] (S, V, (sT V), I) (fun z u => z = 0 ∧ ∃ v u1, post v u1 ∧ u = (u1.1, u1.2.1, u1.2.2.1, va_up u1.2.2.2 2000 (upd (u1.2.2.2 2000) 0 v))) 3 18 := by
  refine CWr.of (cc := cL_square) (maxL := 6) (ret := (some .int)) (hh := [(0, 12, 15, 21)]) (by decide) rfl (Nat.le_of_ble_eq_true rfl) ?_
  intro pv ev s mv below meth cv A hx hb hml hr hown hts hlocks htab hM hE hNc ls hl
  have hown : s.vm.findClass RL = some mv.cls := hown
  have hl : lv_has ls 6 [(0, .ref (sa S 0)), (1, .int p0), (2, .int p1), (3, .int p2), (4, .ref (sa S 2000))] := hl
  refine vx_ret ?_
  refine lv_aload hx hb dL_square_0 (lv_at hl 4 rfl) ?_
  refine lv_iconst (v := 0) hx hb dL_square_2 (by decide) ?_
  refine lv_aload_n hx hb dL_square_3 rfl (lv_at hl 0 rfl) ?_
  refine lv_iload_n hx hb dL_square_4 rfl (lv_at hl 1 rfl) ?_
  refine lv_iload_n hx hb dL_square_5 rfl (lv_at hl 2 rfl) ?_
  refine lv_iload_n hx hb dL_square_6 rfl (lv_at hl 3 rfl) ?_
  refine fb_callVi (r := 0) hx hb hml hown hts hM (h0.1) (ce3 (h0.2)) rfl (As := [.int p0, .int p1, .int p2]) (rest := [.int 0, .ref (sa S 2000)]) (hc) (cwV 3 hts gL_square_X3_square rfl rfl rfl (by decide +kernel) ⟨Nat.le_of_ble_eq_true rfl, Nat.le_of_ble_eq_true rfl⟩) rfl hl.1 rfl (Nat.le_of_ble_eq_true rfl) dL_square_7 ⟨Nat.le_of_ble_eq_true rfl, Nat.le_of_ble_eq_true rfl⟩ (fun v u H locs hpv hM => ?_)
  obtain ⟨S1, V1, T1, I1⟩ := u
  obtain ⟨hO1, hO2⟩ := hp _ _ hpv
  have hO1 : RA S1 2000 13 1 := hO1
  have hO2 : sa S1 2000 = sa S 2000 := hO2
  refine lv_i2l hx hb dL_square_10 rfl ?_
  rw [← hO2]
  refine fb_last13 hx hb hM hO1 (i := 0) (k := 0) (by decide) (vp_in_nI (n := 0) (N := 1) (by decide) (by decide)) dL_square_11 (fun H locs hM => ?_)
  refine lv_goto (tgt := 19) hx hb dL_square_12 (by decide) ?_
  refine lv_iconst (v := 0) hx hb dL_square_19 (by decide) ?_
  refine W.widen (show _ ≤ 3 from Nat.le_of_ble_eq_true rfl) (show _ ≤ 18 from Nat.le_of_ble_eq_true rfl) ?_
  exact fb_iret hx hb hr hlocks hM ⟨rfl, v, _, hpv, rfl⟩ dL_square_20
set_option maxHeartbeats 4000000 in
set_option maxRecDepth 100000 in
theorem c_L_square_IOE (a0 : Nat × Nat) (D : va_G) (y : Nat → ClassId) (l : Launch) (S : fb_Sh) (V I : fb_V) (h0 : 0 ∈ sR S ∧ sk S 0 = 3) (hO : RA S 2000 13 1) (p0 : Int32) (p1 : Int32) (p2 : Int32) (hc : CX a0 D y l yX3_square wsX3_square rm_X3_square [.ref (sa S 0), .int p0, .int p1, .int p2] (S, V, (sT V), I) "java/lang/IndexOutOfBoundsException" 3 18) : CWr a0 D y l yL_square wsL_square rm_L_square [.ref (sa S 0), .int p0, .int p1, .int p2, .ref (sa S 2000)] (S, V, (sT V), I) (fun z u => z = 1 ∧ u = (S, V, sT V, I)) 3 18 := by
  refine CWr.of (cc := cL_square) (maxL := 6) (ret := (some .int)) (hh := [(0, 12, 15, 21)]) (by decide) rfl (Nat.le_of_ble_eq_true rfl) ?_
  intro pv ev s mv below meth cv A hx hb hml hr hown hts hlocks htab hM hE hNc ls hl
  have hown : s.vm.findClass RL = some mv.cls := hown
  have hl : lv_has ls 6 [(0, .ref (sa S 0)), (1, .int p0), (2, .int p1), (3, .int p2), (4, .ref (sa S 2000))] := hl
  refine vx_ret ?_
  refine lv_aload hx hb dL_square_0 (lv_at hl 4 rfl) ?_
  refine lv_iconst (v := 0) hx hb dL_square_2 (by decide) ?_
  refine lv_aload_n hx hb dL_square_3 rfl (lv_at hl 0 rfl) ?_
  refine lv_iload_n hx hb dL_square_4 rfl (lv_at hl 1 rfl) ?_
  refine lv_iload_n hx hb dL_square_5 rfl (lv_at hl 2 rfl) ?_
  refine lv_iload_n hx hb dL_square_6 rfl (lv_at hl 3 rfl) ?_
  refine fb_xcatchV (r := 0) hx hb hml hown hts hM hE (h0.1) (ce3 (h0.2)) rfl (As := [.int p0, .int p1, .int p2]) (rest := [.int 0, .ref (sa S 2000)]) (hc) (cwV 3 hts gL_square_X3_square rfl rfl rfl (by decide +kernel) ⟨Nat.le_of_ble_eq_true rfl, Nat.le_of_ble_eq_true rfl⟩) rfl hl.1 rfl (Nat.le_of_ble_eq_true rfl) dL_square_7 ⟨Nat.le_of_ble_eq_true rfl, Nat.le_of_ble_eq_true rfl⟩ (fun ce q9 H locs hM hce hcv hcl => ?_)
  refine vx_catch (name := "java/lang/IndexOutOfBoundsException") hown [] ⟨0, 12, 15, 21⟩ [] (htab.trans rfl) (fun z hz => nomatch hz) (by decide) (by decide) (hts (.classLink RL 21 "java/lang/IndexOutOfBoundsException") (by decide +kernel)) (va_Nw.use rfl (hE.1.1 "java/lang/IndexOutOfBoundsException" (by simp [fb_exc]))) hce hcv hcl ?_
  refine lv_astore (lv' := [(5, .ref q9), (0, .ref (sa S 0)), (1, .int p0), (2, .int p1), (3, .int p2), (4, .ref (sa S 2000))]) hx hb dL_square_15 hl (by decide) rfl (fun ls hl => ?_)
  refine lv_iconst (v := 1) hx hb dL_square_17 (by decide) ?_
  refine W.widen (show _ ≤ 3 from Nat.le_of_ble_eq_true rfl) (show _ ≤ 18 from Nat.le_of_ble_eq_true rfl) ?_
  exact fb_iret hx hb hr hlocks hM ⟨rfl, rfl⟩ dL_square_18

abbrev rm_L_tick : Room := { frames := 8, cells := 2, slots := 12, locals := 174 }
set_option maxHeartbeats 4000000 in
set_option maxRecDepth 100000 in
theorem c_L_tick_ok (a0 : Nat × Nat) (D : va_G) (y : Nat → ClassId) (l : Launch) (S : fb_Sh) (V I : fb_V) (h0 : 0 ∈ sR S ∧ sk S 0 = 3) (hO : RA S 2000 13 1) (p0 : Int32) (p1 : Int32) {post : Int32 → fb_W → Prop} (hc : CI D y l yX3_tick wsX3_tick rm_X3_tick [.ref (sa S 0), .int p0, .int p1] (S, V, (sT V), I) post 2 12) (hp : ∀ v u, post v u → RA u.1 2000 13 1 ∧ sa u.1 2000 = sa S 2000) : CWr a0 D y l yL_tick wsL_tick rm_L_tick [.ref (sa S 0), .int p0, .int p1, .ref (sa S 2000)] (S, V, (sT V), I) (fun z u => z = 0 ∧ ∃ v u1, post v u1 ∧ u = (u1.1, u1.2.1, u1.2.2.1, va_up u1.2.2.2 2000 (upd (u1.2.2.2 2000) 0 v))) 2 12 := by
  refine CWr.of (cc := cL_tick) (maxL := 5) (ret := (some .int)) (hh := [(0, 10, 13, 21)]) (by decide) rfl (Nat.le_of_ble_eq_true rfl) ?_
  intro pv ev s mv below meth cv A hx hb hml hr hown hts hlocks htab hM hE hNc ls hl
  have hown : s.vm.findClass RL = some mv.cls := hown
  have hl : lv_has ls 5 [(0, .ref (sa S 0)), (1, .int p0), (2, .int p1), (3, .ref (sa S 2000))] := hl
  refine vx_ret ?_
  refine lv_aload_n hx hb dL_tick_0 rfl (lv_at hl 3 rfl) ?_
  refine lv_iconst (v := 0) hx hb dL_tick_1 (by decide) ?_
  refine lv_aload_n hx hb dL_tick_2 rfl (lv_at hl 0 rfl) ?_
  refine lv_iload_n hx hb dL_tick_3 rfl (lv_at hl 1 rfl) ?_
  refine lv_iload_n hx hb dL_tick_4 rfl (lv_at hl 2 rfl) ?_
  refine fb_callVi (r := 0) hx hb hml hown hts hM (h0.1) (ce3 (h0.2)) rfl (As := [.int p0, .int p1]) (rest := [.int 0, .ref (sa S 2000)]) (hc) (cwV 2 hts gL_tick_X3_tick rfl rfl rfl (by decide +kernel) ⟨Nat.le_of_ble_eq_true rfl, Nat.le_of_ble_eq_true rfl⟩) rfl hl.1 rfl (Nat.le_of_ble_eq_true rfl) dL_tick_5 ⟨Nat.le_of_ble_eq_true rfl, Nat.le_of_ble_eq_true rfl⟩ (fun v u H locs hpv hM => ?_)
  obtain ⟨S1, V1, T1, I1⟩ := u
  obtain ⟨hO1, hO2⟩ := hp _ _ hpv
  have hO1 : RA S1 2000 13 1 := hO1
  have hO2 : sa S1 2000 = sa S 2000 := hO2
  refine lv_i2l hx hb dL_tick_8 rfl ?_
  rw [← hO2]
  refine fb_last13 hx hb hM hO1 (i := 0) (k := 0) (by decide) (vp_in_nI (n := 0) (N := 1) (by decide) (by decide)) dL_tick_9 (fun H locs hM => ?_)
  refine lv_goto (tgt := 17) hx hb dL_tick_10 (by decide) ?_
  refine lv_iconst (v := 0) hx hb dL_tick_17 (by decide) ?_
  refine W.widen (show _ ≤ 2 from Nat.le_of_ble_eq_true rfl) (show _ ≤ 12 from Nat.le_of_ble_eq_true rfl) ?_
  exact fb_iret hx hb hr hlocks hM ⟨rfl, v, _, hpv, rfl⟩ dL_tick_18
set_option maxHeartbeats 4000000 in
set_option maxRecDepth 100000 in
theorem c_L_tick_IOE (a0 : Nat × Nat) (D : va_G) (y : Nat → ClassId) (l : Launch) (S : fb_Sh) (V I : fb_V) (h0 : 0 ∈ sR S ∧ sk S 0 = 3) (hO : RA S 2000 13 1) (p0 : Int32) (p1 : Int32) (hc : CX a0 D y l yX3_tick wsX3_tick rm_X3_tick [.ref (sa S 0), .int p0, .int p1] (S, V, (sT V), I) "java/lang/IndexOutOfBoundsException" 2 12) : CWr a0 D y l yL_tick wsL_tick rm_L_tick [.ref (sa S 0), .int p0, .int p1, .ref (sa S 2000)] (S, V, (sT V), I) (fun z u => z = 1 ∧ u = (S, V, sT V, I)) 2 12 := by
  refine CWr.of (cc := cL_tick) (maxL := 5) (ret := (some .int)) (hh := [(0, 10, 13, 21)]) (by decide) rfl (Nat.le_of_ble_eq_true rfl) ?_
  intro pv ev s mv below meth cv A hx hb hml hr hown hts hlocks htab hM hE hNc ls hl
  have hown : s.vm.findClass RL = some mv.cls := hown
  have hl : lv_has ls 5 [(0, .ref (sa S 0)), (1, .int p0), (2, .int p1), (3, .ref (sa S 2000))] := hl
  refine vx_ret ?_
  refine lv_aload_n hx hb dL_tick_0 rfl (lv_at hl 3 rfl) ?_
  refine lv_iconst (v := 0) hx hb dL_tick_1 (by decide) ?_
  refine lv_aload_n hx hb dL_tick_2 rfl (lv_at hl 0 rfl) ?_
  refine lv_iload_n hx hb dL_tick_3 rfl (lv_at hl 1 rfl) ?_
  refine lv_iload_n hx hb dL_tick_4 rfl (lv_at hl 2 rfl) ?_
  refine fb_xcatchV (r := 0) hx hb hml hown hts hM hE (h0.1) (ce3 (h0.2)) rfl (As := [.int p0, .int p1]) (rest := [.int 0, .ref (sa S 2000)]) (hc) (cwV 2 hts gL_tick_X3_tick rfl rfl rfl (by decide +kernel) ⟨Nat.le_of_ble_eq_true rfl, Nat.le_of_ble_eq_true rfl⟩) rfl hl.1 rfl (Nat.le_of_ble_eq_true rfl) dL_tick_5 ⟨Nat.le_of_ble_eq_true rfl, Nat.le_of_ble_eq_true rfl⟩ (fun ce q9 H locs hM hce hcv hcl => ?_)
  refine vx_catch (name := "java/lang/IndexOutOfBoundsException") hown [] ⟨0, 10, 13, 21⟩ [] (htab.trans rfl) (fun z hz => nomatch hz) (by decide) (by decide) (hts (.classLink RL 21 "java/lang/IndexOutOfBoundsException") (by decide +kernel)) (va_Nw.use rfl (hE.1.1 "java/lang/IndexOutOfBoundsException" (by simp [fb_exc]))) hce hcv hcl ?_
  refine lv_astore (lv' := [(4, .ref q9), (0, .ref (sa S 0)), (1, .int p0), (2, .int p1), (3, .ref (sa S 2000))]) hx hb dL_tick_13 hl (by decide) rfl (fun ls hl => ?_)
  refine lv_iconst (v := 1) hx hb dL_tick_15 (by decide) ?_
  refine W.widen (show _ ≤ 2 from Nat.le_of_ble_eq_true rfl) (show _ ≤ 12 from Nat.le_of_ble_eq_true rfl) ?_
  exact fb_iret hx hb hr hlocks hM ⟨rfl, rfl⟩ dL_tick_16

abbrev rm_L_pass : Room := { frames := 8, cells := 1, slots := 6, locals := 174 }
set_option maxHeartbeats 4000000 in
set_option maxRecDepth 100000 in
theorem c_L_pass_ok (a0 : Nat × Nat) (D : va_G) (y : Nat → ClassId) (l : Launch) (S : fb_Sh) (V I : fb_V) (h0 : 0 ∈ sR S ∧ sk S 0 = 3) (hO : RA S 2000 13 1) (p0 : Int32) {post : Int32 → fb_W → Prop} (hc : CI D y l yX3_pass wsX3_pass rm_X3_pass [.ref (sa S 0), .int p0] (S, V, (sT V), I) post 1 6) (hp : ∀ v u, post v u → RA u.1 2000 13 1 ∧ sa u.1 2000 = sa S 2000) : CWr a0 D y l yL_pass wsL_pass rm_L_pass [.ref (sa S 0), .int p0, .ref (sa S 2000)] (S, V, (sT V), I) (fun z u => z = 0 ∧ ∃ v u1, post v u1 ∧ u = (u1.1, u1.2.1, u1.2.2.1, va_up u1.2.2.2 2000 (upd (u1.2.2.2 2000) 0 v))) 1 6 := by
  refine CWr.of (cc := cL_pass) (maxL := 4) (ret := (some .int)) (hh := [(0, 9, 12, 13)]) (by decide) rfl (Nat.le_of_ble_eq_true rfl) ?_
  intro pv ev s mv below meth cv A hx hb hml hr hown hts hlocks htab hM hE hNc ls hl
  have hown : s.vm.findClass RL = some mv.cls := hown
  have hl : lv_has ls 4 [(0, .ref (sa S 0)), (1, .int p0), (2, .ref (sa S 2000))] := hl
  refine vx_ret ?_
  refine lv_aload_n hx hb dL_pass_0 rfl (lv_at hl 2 rfl) ?_
  refine lv_iconst (v := 0) hx hb dL_pass_1 (by decide) ?_
  refine lv_aload_n hx hb dL_pass_2 rfl (lv_at hl 0 rfl) ?_
  refine lv_iload_n hx hb dL_pass_3 rfl (lv_at hl 1 rfl) ?_
  refine fb_callVi (r := 0) hx hb hml hown hts hM (h0.1) (ce3 (h0.2)) rfl (As := [.int p0]) (rest := [.int 0, .ref (sa S 2000)]) (hc) (cwV 1 hts gL_pass_X3_pass rfl rfl rfl (by decide +kernel) ⟨Nat.le_of_ble_eq_true rfl, Nat.le_of_ble_eq_true rfl⟩) rfl hl.1 rfl (Nat.le_of_ble_eq_true rfl) dL_pass_4 ⟨Nat.le_of_ble_eq_true rfl, Nat.le_of_ble_eq_true rfl⟩ (fun v u H locs hpv hM => ?_)
  obtain ⟨S1, V1, T1, I1⟩ := u
  obtain ⟨hO1, hO2⟩ := hp _ _ hpv
  have hO1 : RA S1 2000 13 1 := hO1
  have hO2 : sa S1 2000 = sa S 2000 := hO2
  refine lv_i2l hx hb dL_pass_7 rfl ?_
  rw [← hO2]
  refine fb_last13 hx hb hM hO1 (i := 0) (k := 0) (by decide) (vp_in_nI (n := 0) (N := 1) (by decide) (by decide)) dL_pass_8 (fun H locs hM => ?_)
  refine lv_goto (tgt := 15) hx hb dL_pass_9 (by decide) ?_
  refine lv_iconst (v := 0) hx hb dL_pass_15 (by decide) ?_
  refine W.widen (show _ ≤ 1 from Nat.le_of_ble_eq_true rfl) (show _ ≤ 6 from Nat.le_of_ble_eq_true rfl) ?_
  exact fb_iret hx hb hr hlocks hM ⟨rfl, v, _, hpv, rfl⟩ dL_pass_16
set_option maxHeartbeats 4000000 in
set_option maxRecDepth 100000 in
theorem c_L_pass_IAE (a0 : Nat × Nat) (D : va_G) (y : Nat → ClassId) (l : Launch) (S : fb_Sh) (V I : fb_V) (h0 : 0 ∈ sR S ∧ sk S 0 = 3) (hO : RA S 2000 13 1) (p0 : Int32) (hc : CX a0 D y l yX3_pass wsX3_pass rm_X3_pass [.ref (sa S 0), .int p0] (S, V, (sT V), I) "java/lang/IllegalArgumentException" 1 6) : CWr a0 D y l yL_pass wsL_pass rm_L_pass [.ref (sa S 0), .int p0, .ref (sa S 2000)] (S, V, (sT V), I) (fun z u => z = 1 ∧ u = (S, V, sT V, I)) 1 6 := by
  refine CWr.of (cc := cL_pass) (maxL := 4) (ret := (some .int)) (hh := [(0, 9, 12, 13)]) (by decide) rfl (Nat.le_of_ble_eq_true rfl) ?_
  intro pv ev s mv below meth cv A hx hb hml hr hown hts hlocks htab hM hE hNc ls hl
  have hown : s.vm.findClass RL = some mv.cls := hown
  have hl : lv_has ls 4 [(0, .ref (sa S 0)), (1, .int p0), (2, .ref (sa S 2000))] := hl
  refine vx_ret ?_
  refine lv_aload_n hx hb dL_pass_0 rfl (lv_at hl 2 rfl) ?_
  refine lv_iconst (v := 0) hx hb dL_pass_1 (by decide) ?_
  refine lv_aload_n hx hb dL_pass_2 rfl (lv_at hl 0 rfl) ?_
  refine lv_iload_n hx hb dL_pass_3 rfl (lv_at hl 1 rfl) ?_
  refine fb_xcatchV (r := 0) hx hb hml hown hts hM hE (h0.1) (ce3 (h0.2)) rfl (As := [.int p0]) (rest := [.int 0, .ref (sa S 2000)]) (hc) (cwV 1 hts gL_pass_X3_pass rfl rfl rfl (by decide +kernel) ⟨Nat.le_of_ble_eq_true rfl, Nat.le_of_ble_eq_true rfl⟩) rfl hl.1 rfl (Nat.le_of_ble_eq_true rfl) dL_pass_4 ⟨Nat.le_of_ble_eq_true rfl, Nat.le_of_ble_eq_true rfl⟩ (fun ce q9 H locs hM hce hcv hcl => ?_)
  refine vx_catch (name := "java/lang/IllegalArgumentException") hown [] ⟨0, 9, 12, 13⟩ [] (htab.trans rfl) (fun z hz => nomatch hz) (by decide) (by decide) (hts (.classLink RL 13 "java/lang/IllegalArgumentException") (by decide +kernel)) (va_Nw.use rfl (hE.1.1 "java/lang/IllegalArgumentException" (by simp [fb_exc]))) hce hcv hcl ?_
  refine lv_astore_n (lv' := [(3, .ref q9), (0, .ref (sa S 0)), (1, .int p0), (2, .ref (sa S 2000))]) hx hb dL_pass_12 rfl hl (by decide) rfl (fun ls hl => ?_)
  refine lv_iconst (v := 1) hx hb dL_pass_13 (by decide) ?_
  refine W.widen (show _ ≤ 1 from Nat.le_of_ble_eq_true rfl) (show _ ≤ 6 from Nat.le_of_ble_eq_true rfl) ?_
  exact fb_iret hx hb hr hlocks hM ⟨rfl, rfl⟩ dL_pass_14

abbrev rm_L_count : Room := { frames := 8, cells := 1, slots := 6, locals := 172 }
set_option maxHeartbeats 4000000 in
set_option maxRecDepth 100000 in
theorem c_L_count_ok (a0 : Nat × Nat) (D : va_G) (y : Nat → ClassId) (l : Launch) (S : fb_Sh) (V I : fb_V) (h0 : 0 ∈ sR S ∧ sk S 0 = 3) (hO : RA S 2000 13 1) (p0 : Int32) {post : Int32 → fb_W → Prop} (hc : CI D y l yX3_count wsX3_count rm_X3_count [.ref (sa S 0), .int p0] (S, V, (sT V), I) post 1 6) (hp : ∀ v u, post v u → RA u.1 2000 13 1 ∧ sa u.1 2000 = sa S 2000) : CWr a0 D y l yL_count wsL_count rm_L_count [.ref (sa S 0), .int p0, .ref (sa S 2000)] (S, V, (sT V), I) (fun z u => z = 0 ∧ ∃ v u1, post v u1 ∧ u = (u1.1, u1.2.1, u1.2.2.1, va_up u1.2.2.2 2000 (upd (u1.2.2.2 2000) 0 v))) 1 6 := by
  refine CWr.of (cc := cL_count) (maxL := 4) (ret := (some .int)) (hh := [(0, 9, 12, 21)]) (by decide) rfl (Nat.le_of_ble_eq_true rfl) ?_
  intro pv ev s mv below meth cv A hx hb hml hr hown hts hlocks htab hM hE hNc ls hl
  have hown : s.vm.findClass RL = some mv.cls := hown
  have hl : lv_has ls 4 [(0, .ref (sa S 0)), (1, .int p0), (2, .ref (sa S 2000))] := hl
  refine vx_ret ?_
  refine lv_aload_n hx hb dL_count_0 rfl (lv_at hl 2 rfl) ?_
  refine lv_iconst (v := 0) hx hb dL_count_1 (by decide) ?_
  refine lv_aload_n hx hb dL_count_2 rfl (lv_at hl 0 rfl) ?_
  refine lv_iload_n hx hb dL_count_3 rfl (lv_at hl 1 rfl) ?_
  refine fb_callVi (r := 0) hx hb hml hown hts hM (h0.1) (ce3 (h0.2)) rfl (As := [.int p0]) (rest := [.int 0, .ref (sa S 2000)]) (hc) (cwV 1 hts gL_count_X3_count rfl rfl rfl (by decide +kernel) ⟨Nat.le_of_ble_eq_true rfl, Nat.le_of_ble_eq_true rfl⟩) rfl hl.1 rfl (Nat.le_of_ble_eq_true rfl) dL_count_4 ⟨Nat.le_of_ble_eq_true rfl, Nat.le_of_ble_eq_true rfl⟩ (fun v u H locs hpv hM => ?_)
  obtain ⟨S1, V1, T1, I1⟩ := u
  obtain ⟨hO1, hO2⟩ := hp _ _ hpv
  have hO1 : RA S1 2000 13 1 := hO1
  have hO2 : sa S1 2000 = sa S 2000 := hO2
  refine lv_i2l hx hb dL_count_7 rfl ?_
  rw [← hO2]
  refine fb_last13 hx hb hM hO1 (i := 0) (k := 0) (by decide) (vp_in_nI (n := 0) (N := 1) (by decide) (by decide)) dL_count_8 (fun H locs hM => ?_)
  refine lv_goto (tgt := 15) hx hb dL_count_9 (by decide) ?_
  refine lv_iconst (v := 0) hx hb dL_count_15 (by decide) ?_
  refine W.widen (show _ ≤ 1 from Nat.le_of_ble_eq_true rfl) (show _ ≤ 6 from Nat.le_of_ble_eq_true rfl) ?_
  exact fb_iret hx hb hr hlocks hM ⟨rfl, v, _, hpv, rfl⟩ dL_count_16
set_option maxHeartbeats 4000000 in
set_option maxRecDepth 100000 in
theorem c_L_count_IOE (a0 : Nat × Nat) (D : va_G) (y : Nat → ClassId) (l : Launch) (S : fb_Sh) (V I : fb_V) (h0 : 0 ∈ sR S ∧ sk S 0 = 3) (hO : RA S 2000 13 1) (p0 : Int32) (hc : CX a0 D y l yX3_count wsX3_count rm_X3_count [.ref (sa S 0), .int p0] (S, V, (sT V), I) "java/lang/IndexOutOfBoundsException" 1 6) : CWr a0 D y l yL_count wsL_count rm_L_count [.ref (sa S 0), .int p0, .ref (sa S 2000)] (S, V, (sT V), I) (fun z u => z = 1 ∧ u = (S, V, sT V, I)) 1 6 := by
  refine CWr.of (cc := cL_count) (maxL := 4) (ret := (some .int)) (hh := [(0, 9, 12, 21)]) (by decide) rfl (Nat.le_of_ble_eq_true rfl) ?_
  intro pv ev s mv below meth cv A hx hb hml hr hown hts hlocks htab hM hE hNc ls hl
  have hown : s.vm.findClass RL = some mv.cls := hown
  have hl : lv_has ls 4 [(0, .ref (sa S 0)), (1, .int p0), (2, .ref (sa S 2000))] := hl
  refine vx_ret ?_
  refine lv_aload_n hx hb dL_count_0 rfl (lv_at hl 2 rfl) ?_
  refine lv_iconst (v := 0) hx hb dL_count_1 (by decide) ?_
  refine lv_aload_n hx hb dL_count_2 rfl (lv_at hl 0 rfl) ?_
  refine lv_iload_n hx hb dL_count_3 rfl (lv_at hl 1 rfl) ?_
  refine fb_xcatchV (r := 0) hx hb hml hown hts hM hE (h0.1) (ce3 (h0.2)) rfl (As := [.int p0]) (rest := [.int 0, .ref (sa S 2000)]) (hc) (cwV 1 hts gL_count_X3_count rfl rfl rfl (by decide +kernel) ⟨Nat.le_of_ble_eq_true rfl, Nat.le_of_ble_eq_true rfl⟩) rfl hl.1 rfl (Nat.le_of_ble_eq_true rfl) dL_count_4 ⟨Nat.le_of_ble_eq_true rfl, Nat.le_of_ble_eq_true rfl⟩ (fun ce q9 H locs hM hce hcv hcl => ?_)
  refine vx_catch (name := "java/lang/IndexOutOfBoundsException") hown [] ⟨0, 9, 12, 21⟩ [] (htab.trans rfl) (fun z hz => nomatch hz) (by decide) (by decide) (hts (.classLink RL 21 "java/lang/IndexOutOfBoundsException") (by decide +kernel)) (va_Nw.use rfl (hE.1.1 "java/lang/IndexOutOfBoundsException" (by simp [fb_exc]))) hce hcv hcl ?_
  refine lv_astore_n (lv' := [(3, .ref q9), (0, .ref (sa S 0)), (1, .int p0), (2, .ref (sa S 2000))]) hx hb dL_count_12 rfl hl (by decide) rfl (fun ls hl => ?_)
  refine lv_iconst (v := 1) hx hb dL_count_13 (by decide) ?_
  refine W.widen (show _ ≤ 1 from Nat.le_of_ble_eq_true rfl) (show _ ≤ 6 from Nat.le_of_ble_eq_true rfl) ?_
  exact fb_iret hx hb hr hlocks hM ⟨rfl, rfl⟩ dL_count_14

abbrev rm_L_foresee : Room := { frames := 8, cells := 3, slots := 18, locals := 175 }
set_option maxHeartbeats 4000000 in
set_option maxRecDepth 100000 in
theorem c_L_foresee_ok (a0 : Nat × Nat) (D : va_G) (y : Nat → ClassId) (l : Launch) (S : fb_Sh) (V I : fb_V) (h0 : 0 ∈ sR S ∧ sk S 0 = 3) (hO : RA S 2000 13 1) (p0 : Int32) (p1 : Int32) (p2 : Int32) {post : Int32 → fb_W → Prop} (hc : CI D y l yX3_foresee wsX3_foresee rm_X3_foresee [.ref (sa S 0), .int p0, .int p1, .int p2] (S, V, (sT V), I) post 3 18) (hp : ∀ v u, post v u → RA u.1 2000 13 1 ∧ sa u.1 2000 = sa S 2000) : CWr a0 D y l yL_foresee wsL_foresee rm_L_foresee [.ref (sa S 0), .int p0, .int p1, .int p2, .ref (sa S 2000)] (S, V, (sT V), I) (fun z u => z = 0 ∧ ∃ v u1, post v u1 ∧ u = (u1.1, u1.2.1, u1.2.2.1, va_up u1.2.2.2 2000 (upd (u1.2.2.2 2000) 0 v))) 3 18 := by
  refine CWr.of (cc := cL_foresee) (maxL := 6) (ret := (some .int)) (hh := [(0, 12, 15, 21), (0, 12, 19, 13)]) (by decide) rfl (Nat.le_of_ble_eq_true rfl) ?_
  intro pv ev s mv below meth cv A hx hb hml hr hown hts hlocks htab hM hE hNc ls hl
  have hown : s.vm.findClass RL = some mv.cls := hown
  have hl : lv_has ls 6 [(0, .ref (sa S 0)), (1, .int p0), (2, .int p1), (3, .int p2), (4, .ref (sa S 2000))] := hl
  refine vx_ret ?_
  refine lv_aload hx hb dL_foresee_0 (lv_at hl 4 rfl) ?_
  refine lv_iconst (v := 0) hx hb dL_foresee_2 (by decide) ?_
  refine lv_aload_n hx hb dL_foresee_3 rfl (lv_at hl 0 rfl) ?_
  refine lv_iload_n hx hb dL_foresee_4 rfl (lv_at hl 1 rfl) ?_
  refine lv_iload_n hx hb dL_foresee_5 rfl (lv_at hl 2 rfl) ?_
  refine lv_iload_n hx hb dL_foresee_6 rfl (lv_at hl 3 rfl) ?_
  refine fb_callVi (r := 0) hx hb hml hown hts hM (h0.1) (ce3 (h0.2)) rfl (As := [.int p0, .int p1, .int p2]) (rest := [.int 0, .ref (sa S 2000)]) (hc) (cwV 3 hts gL_foresee_X3_foresee rfl rfl rfl (by decide +kernel) ⟨Nat.le_of_ble_eq_true rfl, Nat.le_of_ble_eq_true rfl⟩) rfl hl.1 rfl (Nat.le_of_ble_eq_true rfl) dL_foresee_7 ⟨Nat.le_of_ble_eq_true rfl, Nat.le_of_ble_eq_true rfl⟩ (fun v u H locs hpv hM => ?_)
  obtain ⟨S1, V1, T1, I1⟩ := u
  obtain ⟨hO1, hO2⟩ := hp _ _ hpv
  have hO1 : RA S1 2000 13 1 := hO1
  have hO2 : sa S1 2000 = sa S 2000 := hO2
  refine lv_i2l hx hb dL_foresee_10 rfl ?_
  rw [← hO2]
  refine fb_last13 hx hb hM hO1 (i := 0) (k := 0) (by decide) (vp_in_nI (n := 0) (N := 1) (by decide) (by decide)) dL_foresee_11 (fun H locs hM => ?_)
  refine lv_goto (tgt := 23) hx hb dL_foresee_12 (by decide) ?_
  refine lv_iconst (v := 0) hx hb dL_foresee_23 (by decide) ?_
  refine W.widen (show _ ≤ 3 from Nat.le_of_ble_eq_true rfl) (show _ ≤ 18 from Nat.le_of_ble_eq_true rfl) ?_
  exact fb_iret hx hb hr hlocks hM ⟨rfl, v, _, hpv, rfl⟩ dL_foresee_24
set_option maxHeartbeats 4000000 in
set_option maxRecDepth 100000 in
theorem c_L_foresee_IOE (a0 : Nat × Nat) (D : va_G) (y : Nat → ClassId) (l : Launch) (S : fb_Sh) (V I : fb_V) (h0 : 0 ∈ sR S ∧ sk S 0 = 3) (hO : RA S 2000 13 1) (p0 : Int32) (p1 : Int32) (p2 : Int32) (hc : CX a0 D y l yX3_foresee wsX3_foresee rm_X3_foresee [.ref (sa S 0), .int p0, .int p1, .int p2] (S, V, (sT V), I) "java/lang/IndexOutOfBoundsException" 3 18) : CWr a0 D y l yL_foresee wsL_foresee rm_L_foresee [.ref (sa S 0), .int p0, .int p1, .int p2, .ref (sa S 2000)] (S, V, (sT V), I) (fun z u => z = 1 ∧ u = (S, V, sT V, I)) 3 18 := by
  refine CWr.of (cc := cL_foresee) (maxL := 6) (ret := (some .int)) (hh := [(0, 12, 15, 21), (0, 12, 19, 13)]) (by decide) rfl (Nat.le_of_ble_eq_true rfl) ?_
  intro pv ev s mv below meth cv A hx hb hml hr hown hts hlocks htab hM hE hNc ls hl
  have hown : s.vm.findClass RL = some mv.cls := hown
  have hl : lv_has ls 6 [(0, .ref (sa S 0)), (1, .int p0), (2, .int p1), (3, .int p2), (4, .ref (sa S 2000))] := hl
  refine vx_ret ?_
  refine lv_aload hx hb dL_foresee_0 (lv_at hl 4 rfl) ?_
  refine lv_iconst (v := 0) hx hb dL_foresee_2 (by decide) ?_
  refine lv_aload_n hx hb dL_foresee_3 rfl (lv_at hl 0 rfl) ?_
  refine lv_iload_n hx hb dL_foresee_4 rfl (lv_at hl 1 rfl) ?_
  refine lv_iload_n hx hb dL_foresee_5 rfl (lv_at hl 2 rfl) ?_
  refine lv_iload_n hx hb dL_foresee_6 rfl (lv_at hl 3 rfl) ?_
  refine fb_xcatchV (r := 0) hx hb hml hown hts hM hE (h0.1) (ce3 (h0.2)) rfl (As := [.int p0, .int p1, .int p2]) (rest := [.int 0, .ref (sa S 2000)]) (hc) (cwV 3 hts gL_foresee_X3_foresee rfl rfl rfl (by decide +kernel) ⟨Nat.le_of_ble_eq_true rfl, Nat.le_of_ble_eq_true rfl⟩) rfl hl.1 rfl (Nat.le_of_ble_eq_true rfl) dL_foresee_7 ⟨Nat.le_of_ble_eq_true rfl, Nat.le_of_ble_eq_true rfl⟩ (fun ce q9 H locs hM hce hcv hcl => ?_)
  refine vx_catch (name := "java/lang/IndexOutOfBoundsException") hown [] ⟨0, 12, 15, 21⟩ [⟨0, 12, 19, 13⟩] (htab.trans rfl) (fun z hz => nomatch hz) (by decide) (by decide) (hts (.classLink RL 21 "java/lang/IndexOutOfBoundsException") (by decide +kernel)) (va_Nw.use rfl (hE.1.1 "java/lang/IndexOutOfBoundsException" (by simp [fb_exc]))) hce hcv hcl ?_
  refine lv_astore (lv' := [(5, .ref q9), (0, .ref (sa S 0)), (1, .int p0), (2, .int p1), (3, .int p2), (4, .ref (sa S 2000))]) hx hb dL_foresee_15 hl (by decide) rfl (fun ls hl => ?_)
  refine lv_iconst (v := 1) hx hb dL_foresee_17 (by decide) ?_
  refine W.widen (show _ ≤ 3 from Nat.le_of_ble_eq_true rfl) (show _ ≤ 18 from Nat.le_of_ble_eq_true rfl) ?_
  exact fb_iret hx hb hr hlocks hM ⟨rfl, rfl⟩ dL_foresee_18
set_option maxHeartbeats 4000000 in
set_option maxRecDepth 100000 in
theorem c_L_foresee_IAE (a0 : Nat × Nat) (D : va_G) (y : Nat → ClassId) (l : Launch) (S : fb_Sh) (V I : fb_V) (h0 : 0 ∈ sR S ∧ sk S 0 = 3) (hO : RA S 2000 13 1) (p0 : Int32) (p1 : Int32) (p2 : Int32) (hc : CX a0 D y l yX3_foresee wsX3_foresee rm_X3_foresee [.ref (sa S 0), .int p0, .int p1, .int p2] (S, V, (sT V), I) "java/lang/IllegalArgumentException" 3 18) : CWr a0 D y l yL_foresee wsL_foresee rm_L_foresee [.ref (sa S 0), .int p0, .int p1, .int p2, .ref (sa S 2000)] (S, V, (sT V), I) (fun z u => z = 2 ∧ u = (S, V, sT V, I)) 3 18 := by
  refine CWr.of (cc := cL_foresee) (maxL := 6) (ret := (some .int)) (hh := [(0, 12, 15, 21), (0, 12, 19, 13)]) (by decide) rfl (Nat.le_of_ble_eq_true rfl) ?_
  intro pv ev s mv below meth cv A hx hb hml hr hown hts hlocks htab hM hE hNc ls hl
  have hown : s.vm.findClass RL = some mv.cls := hown
  have hl : lv_has ls 6 [(0, .ref (sa S 0)), (1, .int p0), (2, .int p1), (3, .int p2), (4, .ref (sa S 2000))] := hl
  refine vx_ret ?_
  refine lv_aload hx hb dL_foresee_0 (lv_at hl 4 rfl) ?_
  refine lv_iconst (v := 0) hx hb dL_foresee_2 (by decide) ?_
  refine lv_aload_n hx hb dL_foresee_3 rfl (lv_at hl 0 rfl) ?_
  refine lv_iload_n hx hb dL_foresee_4 rfl (lv_at hl 1 rfl) ?_
  refine lv_iload_n hx hb dL_foresee_5 rfl (lv_at hl 2 rfl) ?_
  refine lv_iload_n hx hb dL_foresee_6 rfl (lv_at hl 3 rfl) ?_
  refine fb_xcatchV (r := 0) hx hb hml hown hts hM hE (h0.1) (ce3 (h0.2)) rfl (As := [.int p0, .int p1, .int p2]) (rest := [.int 0, .ref (sa S 2000)]) (hc) (cwV 3 hts gL_foresee_X3_foresee rfl rfl rfl (by decide +kernel) ⟨Nat.le_of_ble_eq_true rfl, Nat.le_of_ble_eq_true rfl⟩) rfl hl.1 rfl (Nat.le_of_ble_eq_true rfl) dL_foresee_7 ⟨Nat.le_of_ble_eq_true rfl, Nat.le_of_ble_eq_true rfl⟩ (fun ce q9 H locs hM hce hcv hcl => ?_)
  refine vx_catch (name := "java/lang/IllegalArgumentException") hown [⟨0, 12, 15, 21⟩] ⟨0, 12, 19, 13⟩ [] (htab.trans rfl) (fun z hz => by cases List.mem_singleton.mp hz; exact Or.inr ⟨by decide, _, (hts (.classLink RL 21 "java/lang/IndexOutOfBoundsException") (by decide +kernel)), hNc.1⟩) (by decide) (by decide) (hts (.classLink RL 13 "java/lang/IllegalArgumentException") (by decide +kernel)) (va_Nw.use rfl (hE.1.1 "java/lang/IllegalArgumentException" (by simp [fb_exc]))) hce hcv hcl ?_
  refine lv_astore (lv' := [(5, .ref q9), (0, .ref (sa S 0)), (1, .int p0), (2, .int p1), (3, .int p2), (4, .ref (sa S 2000))]) hx hb dL_foresee_19 hl (by decide) rfl (fun ls hl => ?_)
  refine lv_iconst (v := 2) hx hb dL_foresee_21 (by decide) ?_
  refine W.widen (show _ ≤ 3 from Nat.le_of_ble_eq_true rfl) (show _ ≤ 18 from Nat.le_of_ble_eq_true rfl) ?_
  exact fb_iret hx hb hr hlocks hM ⟨rfl, rfl⟩ dL_foresee_22

abbrev rm_L_lasts : Room := { frames := 8, cells := 2, slots := 12, locals := 175 }
set_option maxHeartbeats 4000000 in
set_option maxRecDepth 100000 in
theorem c_L_lasts_ok (a0 : Nat × Nat) (D : va_G) (y : Nat → ClassId) (l : Launch) (S : fb_Sh) (V I : fb_V) (h0 : 0 ∈ sR S ∧ sk S 0 = 3) (hO : RA S 2000 13 1) (p0 : Int32) (p1 : Int32) {post : Int32 → fb_W → Prop} (hc : CI D y l yX3_lasts wsX3_lasts rm_X3_lasts [.ref (sa S 0), .int p0, .int p1] (S, V, (sT V), I) post 2 12) (hp : ∀ v u, post v u → RA u.1 2000 13 1 ∧ sa u.1 2000 = sa S 2000) : CWr a0 D y l yL_lasts wsL_lasts rm_L_lasts [.ref (sa S 0), .int p0, .int p1, .ref (sa S 2000)] (S, V, (sT V), I) (fun z u => z = 0 ∧ ∃ v u1, post v u1 ∧ u = (u1.1, u1.2.1, u1.2.2.1, va_up u1.2.2.2 2000 (upd (u1.2.2.2 2000) 0 v))) 2 12 := by
  refine CWr.of (cc := cL_lasts) (maxL := 5) (ret := (some .int)) (hh := [(0, 10, 13, 21), (0, 10, 17, 13)]) (by decide) rfl (Nat.le_of_ble_eq_true rfl) ?_
  intro pv ev s mv below meth cv A hx hb hml hr hown hts hlocks htab hM hE hNc ls hl
  have hown : s.vm.findClass RL = some mv.cls := hown
  have hl : lv_has ls 5 [(0, .ref (sa S 0)), (1, .int p0), (2, .int p1), (3, .ref (sa S 2000))] := hl
  refine vx_ret ?_
  refine lv_aload_n hx hb dL_lasts_0 rfl (lv_at hl 3 rfl) ?_
  refine lv_iconst (v := 0) hx hb dL_lasts_1 (by decide) ?_
  refine lv_aload_n hx hb dL_lasts_2 rfl (lv_at hl 0 rfl) ?_
  refine lv_iload_n hx hb dL_lasts_3 rfl (lv_at hl 1 rfl) ?_
  refine lv_iload_n hx hb dL_lasts_4 rfl (lv_at hl 2 rfl) ?_
  refine fb_callVi (r := 0) hx hb hml hown hts hM (h0.1) (ce3 (h0.2)) rfl (As := [.int p0, .int p1]) (rest := [.int 0, .ref (sa S 2000)]) (hc) (cwV 2 hts gL_lasts_X3_lasts rfl rfl rfl (by decide +kernel) ⟨Nat.le_of_ble_eq_true rfl, Nat.le_of_ble_eq_true rfl⟩) rfl hl.1 rfl (Nat.le_of_ble_eq_true rfl) dL_lasts_5 ⟨Nat.le_of_ble_eq_true rfl, Nat.le_of_ble_eq_true rfl⟩ (fun v u H locs hpv hM => ?_)
  obtain ⟨S1, V1, T1, I1⟩ := u
  obtain ⟨hO1, hO2⟩ := hp _ _ hpv
  have hO1 : RA S1 2000 13 1 := hO1
  have hO2 : sa S1 2000 = sa S 2000 := hO2
  refine lv_i2l hx hb dL_lasts_8 rfl ?_
  rw [← hO2]
  refine fb_last13 hx hb hM hO1 (i := 0) (k := 0) (by decide) (vp_in_nI (n := 0) (N := 1) (by decide) (by decide)) dL_lasts_9 (fun H locs hM => ?_)
  refine lv_goto (tgt := 21) hx hb dL_lasts_10 (by decide) ?_
  refine lv_iconst (v := 0) hx hb dL_lasts_21 (by decide) ?_
  refine W.widen (show _ ≤ 2 from Nat.le_of_ble_eq_true rfl) (show _ ≤ 12 from Nat.le_of_ble_eq_true rfl) ?_
  exact fb_iret hx hb hr hlocks hM ⟨rfl, v, _, hpv, rfl⟩ dL_lasts_22
set_option maxHeartbeats 4000000 in
set_option maxRecDepth 100000 in
theorem c_L_lasts_IOE (a0 : Nat × Nat) (D : va_G) (y : Nat → ClassId) (l : Launch) (S : fb_Sh) (V I : fb_V) (h0 : 0 ∈ sR S ∧ sk S 0 = 3) (hO : RA S 2000 13 1) (p0 : Int32) (p1 : Int32) (hc : CX a0 D y l yX3_lasts wsX3_lasts rm_X3_lasts [.ref (sa S 0), .int p0, .int p1] (S, V, (sT V), I) "java/lang/IndexOutOfBoundsException" 2 12) : CWr a0 D y l yL_lasts wsL_lasts rm_L_lasts [.ref (sa S 0), .int p0, .int p1, .ref (sa S 2000)] (S, V, (sT V), I) (fun z u => z = 1 ∧ u = (S, V, sT V, I)) 2 12 := by
  refine CWr.of (cc := cL_lasts) (maxL := 5) (ret := (some .int)) (hh := [(0, 10, 13, 21), (0, 10, 17, 13)]) (by decide) rfl (Nat.le_of_ble_eq_true rfl) ?_
  intro pv ev s mv below meth cv A hx hb hml hr hown hts hlocks htab hM hE hNc ls hl
  have hown : s.vm.findClass RL = some mv.cls := hown
  have hl : lv_has ls 5 [(0, .ref (sa S 0)), (1, .int p0), (2, .int p1), (3, .ref (sa S 2000))] := hl
  refine vx_ret ?_
  refine lv_aload_n hx hb dL_lasts_0 rfl (lv_at hl 3 rfl) ?_
  refine lv_iconst (v := 0) hx hb dL_lasts_1 (by decide) ?_
  refine lv_aload_n hx hb dL_lasts_2 rfl (lv_at hl 0 rfl) ?_
  refine lv_iload_n hx hb dL_lasts_3 rfl (lv_at hl 1 rfl) ?_
  refine lv_iload_n hx hb dL_lasts_4 rfl (lv_at hl 2 rfl) ?_
  refine fb_xcatchV (r := 0) hx hb hml hown hts hM hE (h0.1) (ce3 (h0.2)) rfl (As := [.int p0, .int p1]) (rest := [.int 0, .ref (sa S 2000)]) (hc) (cwV 2 hts gL_lasts_X3_lasts rfl rfl rfl (by decide +kernel) ⟨Nat.le_of_ble_eq_true rfl, Nat.le_of_ble_eq_true rfl⟩) rfl hl.1 rfl (Nat.le_of_ble_eq_true rfl) dL_lasts_5 ⟨Nat.le_of_ble_eq_true rfl, Nat.le_of_ble_eq_true rfl⟩ (fun ce q9 H locs hM hce hcv hcl => ?_)
  refine vx_catch (name := "java/lang/IndexOutOfBoundsException") hown [] ⟨0, 10, 13, 21⟩ [⟨0, 10, 17, 13⟩] (htab.trans rfl) (fun z hz => nomatch hz) (by decide) (by decide) (hts (.classLink RL 21 "java/lang/IndexOutOfBoundsException") (by decide +kernel)) (va_Nw.use rfl (hE.1.1 "java/lang/IndexOutOfBoundsException" (by simp [fb_exc]))) hce hcv hcl ?_
  refine lv_astore (lv' := [(4, .ref q9), (0, .ref (sa S 0)), (1, .int p0), (2, .int p1), (3, .ref (sa S 2000))]) hx hb dL_lasts_13 hl (by decide) rfl (fun ls hl => ?_)
  refine lv_iconst (v := 1) hx hb dL_lasts_15 (by decide) ?_
  refine W.widen (show _ ≤ 2 from Nat.le_of_ble_eq_true rfl) (show _ ≤ 12 from Nat.le_of_ble_eq_true rfl) ?_
  exact fb_iret hx hb hr hlocks hM ⟨rfl, rfl⟩ dL_lasts_16
set_option maxHeartbeats 4000000 in
set_option maxRecDepth 100000 in
theorem c_L_lasts_IAE (a0 : Nat × Nat) (D : va_G) (y : Nat → ClassId) (l : Launch) (S : fb_Sh) (V I : fb_V) (h0 : 0 ∈ sR S ∧ sk S 0 = 3) (hO : RA S 2000 13 1) (p0 : Int32) (p1 : Int32) (hc : CX a0 D y l yX3_lasts wsX3_lasts rm_X3_lasts [.ref (sa S 0), .int p0, .int p1] (S, V, (sT V), I) "java/lang/IllegalArgumentException" 2 12) : CWr a0 D y l yL_lasts wsL_lasts rm_L_lasts [.ref (sa S 0), .int p0, .int p1, .ref (sa S 2000)] (S, V, (sT V), I) (fun z u => z = 2 ∧ u = (S, V, sT V, I)) 2 12 := by
  refine CWr.of (cc := cL_lasts) (maxL := 5) (ret := (some .int)) (hh := [(0, 10, 13, 21), (0, 10, 17, 13)]) (by decide) rfl (Nat.le_of_ble_eq_true rfl) ?_
  intro pv ev s mv below meth cv A hx hb hml hr hown hts hlocks htab hM hE hNc ls hl
  have hown : s.vm.findClass RL = some mv.cls := hown
  have hl : lv_has ls 5 [(0, .ref (sa S 0)), (1, .int p0), (2, .int p1), (3, .ref (sa S 2000))] := hl
  refine vx_ret ?_
  refine lv_aload_n hx hb dL_lasts_0 rfl (lv_at hl 3 rfl) ?_
  refine lv_iconst (v := 0) hx hb dL_lasts_1 (by decide) ?_
  refine lv_aload_n hx hb dL_lasts_2 rfl (lv_at hl 0 rfl) ?_
  refine lv_iload_n hx hb dL_lasts_3 rfl (lv_at hl 1 rfl) ?_
  refine lv_iload_n hx hb dL_lasts_4 rfl (lv_at hl 2 rfl) ?_
  refine fb_xcatchV (r := 0) hx hb hml hown hts hM hE (h0.1) (ce3 (h0.2)) rfl (As := [.int p0, .int p1]) (rest := [.int 0, .ref (sa S 2000)]) (hc) (cwV 2 hts gL_lasts_X3_lasts rfl rfl rfl (by decide +kernel) ⟨Nat.le_of_ble_eq_true rfl, Nat.le_of_ble_eq_true rfl⟩) rfl hl.1 rfl (Nat.le_of_ble_eq_true rfl) dL_lasts_5 ⟨Nat.le_of_ble_eq_true rfl, Nat.le_of_ble_eq_true rfl⟩ (fun ce q9 H locs hM hce hcv hcl => ?_)
  refine vx_catch (name := "java/lang/IllegalArgumentException") hown [⟨0, 10, 13, 21⟩] ⟨0, 10, 17, 13⟩ [] (htab.trans rfl) (fun z hz => by cases List.mem_singleton.mp hz; exact Or.inr ⟨by decide, _, (hts (.classLink RL 21 "java/lang/IndexOutOfBoundsException") (by decide +kernel)), hNc.1⟩) (by decide) (by decide) (hts (.classLink RL 13 "java/lang/IllegalArgumentException") (by decide +kernel)) (va_Nw.use rfl (hE.1.1 "java/lang/IllegalArgumentException" (by simp [fb_exc]))) hce hcv hcl ?_
  refine lv_astore (lv' := [(4, .ref q9), (0, .ref (sa S 0)), (1, .int p0), (2, .int p1), (3, .ref (sa S 2000))]) hx hb dL_lasts_17 hl (by decide) rfl (fun ls hl => ?_)
  refine lv_iconst (v := 2) hx hb dL_lasts_19 (by decide) ?_
  refine W.widen (show _ ≤ 2 from Nat.le_of_ble_eq_true rfl) (show _ ≤ 12 from Nat.le_of_ble_eq_true rfl) ?_
  exact fb_iret hx hb hr hlocks hM ⟨rfl, rfl⟩ dL_lasts_20

abbrev rm_L_advise : Room := { frames := 8, cells := 2, slots := 12, locals := 184 }
set_option maxHeartbeats 4000000 in
set_option maxRecDepth 100000 in
theorem c_L_advise_ok (a0 : Nat × Nat) (D : va_G) (y : Nat → ClassId) (l : Launch) (S : fb_Sh) (V I : fb_V) (h0 : 0 ∈ sR S ∧ sk S 0 = 3) (hO : RA S 2000 13 1) (p0 : Int32) (p1 : Int32) {post : Int32 → fb_W → Prop} (hc : CI D y l yX3_advise wsX3_advise rm_X3_advise [.ref (sa S 0), .int p0, .int p1] (S, V, (sT V), I) post 2 12) (hp : ∀ v u, post v u → RA u.1 2000 13 1 ∧ sa u.1 2000 = sa S 2000) : CWr a0 D y l yL_advise wsL_advise rm_L_advise [.ref (sa S 0), .int p0, .int p1, .ref (sa S 2000)] (S, V, (sT V), I) (fun z u => z = 0 ∧ ∃ v u1, post v u1 ∧ u = (u1.1, u1.2.1, u1.2.2.1, va_up u1.2.2.2 2000 (upd (u1.2.2.2 2000) 0 v))) 2 12 := by
  refine CWr.of (cc := cL_advise) (maxL := 5) (ret := (some .int)) (hh := [(0, 10, 13, 21), (0, 10, 17, 13)]) (by decide) rfl (Nat.le_of_ble_eq_true rfl) ?_
  intro pv ev s mv below meth cv A hx hb hml hr hown hts hlocks htab hM hE hNc ls hl
  have hown : s.vm.findClass RL = some mv.cls := hown
  have hl : lv_has ls 5 [(0, .ref (sa S 0)), (1, .int p0), (2, .int p1), (3, .ref (sa S 2000))] := hl
  refine vx_ret ?_
  refine lv_aload_n hx hb dL_advise_0 rfl (lv_at hl 3 rfl) ?_
  refine lv_iconst (v := 0) hx hb dL_advise_1 (by decide) ?_
  refine lv_aload_n hx hb dL_advise_2 rfl (lv_at hl 0 rfl) ?_
  refine lv_iload_n hx hb dL_advise_3 rfl (lv_at hl 1 rfl) ?_
  refine lv_iload_n hx hb dL_advise_4 rfl (lv_at hl 2 rfl) ?_
  refine fb_callVi (r := 0) hx hb hml hown hts hM (h0.1) (ce3 (h0.2)) rfl (As := [.int p0, .int p1]) (rest := [.int 0, .ref (sa S 2000)]) (hc) (cwV 2 hts gL_advise_X3_advise rfl rfl rfl (by decide +kernel) ⟨Nat.le_of_ble_eq_true rfl, Nat.le_of_ble_eq_true rfl⟩) rfl hl.1 rfl (Nat.le_of_ble_eq_true rfl) dL_advise_5 ⟨Nat.le_of_ble_eq_true rfl, Nat.le_of_ble_eq_true rfl⟩ (fun v u H locs hpv hM => ?_)
  obtain ⟨S1, V1, T1, I1⟩ := u
  obtain ⟨hO1, hO2⟩ := hp _ _ hpv
  have hO1 : RA S1 2000 13 1 := hO1
  have hO2 : sa S1 2000 = sa S 2000 := hO2
  refine lv_i2l hx hb dL_advise_8 rfl ?_
  rw [← hO2]
  refine fb_last13 hx hb hM hO1 (i := 0) (k := 0) (by decide) (vp_in_nI (n := 0) (N := 1) (by decide) (by decide)) dL_advise_9 (fun H locs hM => ?_)
  refine lv_goto (tgt := 21) hx hb dL_advise_10 (by decide) ?_
  refine lv_iconst (v := 0) hx hb dL_advise_21 (by decide) ?_
  refine W.widen (show _ ≤ 2 from Nat.le_of_ble_eq_true rfl) (show _ ≤ 12 from Nat.le_of_ble_eq_true rfl) ?_
  exact fb_iret hx hb hr hlocks hM ⟨rfl, v, _, hpv, rfl⟩ dL_advise_22
set_option maxHeartbeats 4000000 in
set_option maxRecDepth 100000 in
theorem c_L_advise_IOE (a0 : Nat × Nat) (D : va_G) (y : Nat → ClassId) (l : Launch) (S : fb_Sh) (V I : fb_V) (h0 : 0 ∈ sR S ∧ sk S 0 = 3) (hO : RA S 2000 13 1) (p0 : Int32) (p1 : Int32) (hc : CX a0 D y l yX3_advise wsX3_advise rm_X3_advise [.ref (sa S 0), .int p0, .int p1] (S, V, (sT V), I) "java/lang/IndexOutOfBoundsException" 2 12) : CWr a0 D y l yL_advise wsL_advise rm_L_advise [.ref (sa S 0), .int p0, .int p1, .ref (sa S 2000)] (S, V, (sT V), I) (fun z u => z = 1 ∧ u = (S, V, sT V, I)) 2 12 := by
  refine CWr.of (cc := cL_advise) (maxL := 5) (ret := (some .int)) (hh := [(0, 10, 13, 21), (0, 10, 17, 13)]) (by decide) rfl (Nat.le_of_ble_eq_true rfl) ?_
  intro pv ev s mv below meth cv A hx hb hml hr hown hts hlocks htab hM hE hNc ls hl
  have hown : s.vm.findClass RL = some mv.cls := hown
  have hl : lv_has ls 5 [(0, .ref (sa S 0)), (1, .int p0), (2, .int p1), (3, .ref (sa S 2000))] := hl
  refine vx_ret ?_
  refine lv_aload_n hx hb dL_advise_0 rfl (lv_at hl 3 rfl) ?_
  refine lv_iconst (v := 0) hx hb dL_advise_1 (by decide) ?_
  refine lv_aload_n hx hb dL_advise_2 rfl (lv_at hl 0 rfl) ?_
  refine lv_iload_n hx hb dL_advise_3 rfl (lv_at hl 1 rfl) ?_
  refine lv_iload_n hx hb dL_advise_4 rfl (lv_at hl 2 rfl) ?_
  refine fb_xcatchV (r := 0) hx hb hml hown hts hM hE (h0.1) (ce3 (h0.2)) rfl (As := [.int p0, .int p1]) (rest := [.int 0, .ref (sa S 2000)]) (hc) (cwV 2 hts gL_advise_X3_advise rfl rfl rfl (by decide +kernel) ⟨Nat.le_of_ble_eq_true rfl, Nat.le_of_ble_eq_true rfl⟩) rfl hl.1 rfl (Nat.le_of_ble_eq_true rfl) dL_advise_5 ⟨Nat.le_of_ble_eq_true rfl, Nat.le_of_ble_eq_true rfl⟩ (fun ce q9 H locs hM hce hcv hcl => ?_)
  refine vx_catch (name := "java/lang/IndexOutOfBoundsException") hown [] ⟨0, 10, 13, 21⟩ [⟨0, 10, 17, 13⟩] (htab.trans rfl) (fun z hz => nomatch hz) (by decide) (by decide) (hts (.classLink RL 21 "java/lang/IndexOutOfBoundsException") (by decide +kernel)) (va_Nw.use rfl (hE.1.1 "java/lang/IndexOutOfBoundsException" (by simp [fb_exc]))) hce hcv hcl ?_
  refine lv_astore (lv' := [(4, .ref q9), (0, .ref (sa S 0)), (1, .int p0), (2, .int p1), (3, .ref (sa S 2000))]) hx hb dL_advise_13 hl (by decide) rfl (fun ls hl => ?_)
  refine lv_iconst (v := 1) hx hb dL_advise_15 (by decide) ?_
  refine W.widen (show _ ≤ 2 from Nat.le_of_ble_eq_true rfl) (show _ ≤ 12 from Nat.le_of_ble_eq_true rfl) ?_
  exact fb_iret hx hb hr hlocks hM ⟨rfl, rfl⟩ dL_advise_16
set_option maxHeartbeats 4000000 in
set_option maxRecDepth 100000 in
theorem c_L_advise_IAE (a0 : Nat × Nat) (D : va_G) (y : Nat → ClassId) (l : Launch) (S : fb_Sh) (V I : fb_V) (h0 : 0 ∈ sR S ∧ sk S 0 = 3) (hO : RA S 2000 13 1) (p0 : Int32) (p1 : Int32) (hc : CX a0 D y l yX3_advise wsX3_advise rm_X3_advise [.ref (sa S 0), .int p0, .int p1] (S, V, (sT V), I) "java/lang/IllegalArgumentException" 2 12) : CWr a0 D y l yL_advise wsL_advise rm_L_advise [.ref (sa S 0), .int p0, .int p1, .ref (sa S 2000)] (S, V, (sT V), I) (fun z u => z = 2 ∧ u = (S, V, sT V, I)) 2 12 := by
  refine CWr.of (cc := cL_advise) (maxL := 5) (ret := (some .int)) (hh := [(0, 10, 13, 21), (0, 10, 17, 13)]) (by decide) rfl (Nat.le_of_ble_eq_true rfl) ?_
  intro pv ev s mv below meth cv A hx hb hml hr hown hts hlocks htab hM hE hNc ls hl
  have hown : s.vm.findClass RL = some mv.cls := hown
  have hl : lv_has ls 5 [(0, .ref (sa S 0)), (1, .int p0), (2, .int p1), (3, .ref (sa S 2000))] := hl
  refine vx_ret ?_
  refine lv_aload_n hx hb dL_advise_0 rfl (lv_at hl 3 rfl) ?_
  refine lv_iconst (v := 0) hx hb dL_advise_1 (by decide) ?_
  refine lv_aload_n hx hb dL_advise_2 rfl (lv_at hl 0 rfl) ?_
  refine lv_iload_n hx hb dL_advise_3 rfl (lv_at hl 1 rfl) ?_
  refine lv_iload_n hx hb dL_advise_4 rfl (lv_at hl 2 rfl) ?_
  refine fb_xcatchV (r := 0) hx hb hml hown hts hM hE (h0.1) (ce3 (h0.2)) rfl (As := [.int p0, .int p1]) (rest := [.int 0, .ref (sa S 2000)]) (hc) (cwV 2 hts gL_advise_X3_advise rfl rfl rfl (by decide +kernel) ⟨Nat.le_of_ble_eq_true rfl, Nat.le_of_ble_eq_true rfl⟩) rfl hl.1 rfl (Nat.le_of_ble_eq_true rfl) dL_advise_5 ⟨Nat.le_of_ble_eq_true rfl, Nat.le_of_ble_eq_true rfl⟩ (fun ce q9 H locs hM hce hcv hcl => ?_)
  refine vx_catch (name := "java/lang/IllegalArgumentException") hown [⟨0, 10, 13, 21⟩] ⟨0, 10, 17, 13⟩ [] (htab.trans rfl) (fun z hz => by cases List.mem_singleton.mp hz; exact Or.inr ⟨by decide, _, (hts (.classLink RL 21 "java/lang/IndexOutOfBoundsException") (by decide +kernel)), hNc.1⟩) (by decide) (by decide) (hts (.classLink RL 13 "java/lang/IllegalArgumentException") (by decide +kernel)) (va_Nw.use rfl (hE.1.1 "java/lang/IllegalArgumentException" (by simp [fb_exc]))) hce hcv hcl ?_
  refine lv_astore (lv' := [(4, .ref q9), (0, .ref (sa S 0)), (1, .int p0), (2, .int p1), (3, .ref (sa S 2000))]) hx hb dL_advise_17 hl (by decide) rfl (fun ls hl => ?_)
  refine lv_iconst (v := 2) hx hb dL_advise_19 (by decide) ?_
  refine W.widen (show _ ≤ 2 from Nat.le_of_ble_eq_true rfl) (show _ ≤ 12 from Nat.le_of_ble_eq_true rfl) ?_
  exact fb_iret hx hb hr hlocks hM ⟨rfl, rfl⟩ dL_advise_20
