abbrev rm_L_addSack : Room := { frames := 8, cells := 5, slots := 32, locals := 223 }
set_option maxHeartbeats 4000000 in
set_option maxRecDepth 100000 in
theorem c_L_addSack_ok (a0 : Nat × Nat) (D : va_G) (y : Nat → ClassId) (l : Launch) (S : fb_Sh) (V I : fb_V) (h0 : 0 ∈ sR S ∧ sk S 0 = 3) (hO : RA S 2000 13 1) (p0 : Int32) {post : Int32 → fb_W → Prop} (hc : CIE a0 D y l yX3_addSack wsX3_addSack rm_X3_addSack [.ref (sa S 0), .int p0] (S, V, (sT V), I) post 5 32) (hp : ∀ v u, post v u → RA u.1 2000 13 1 ∧ sa u.1 2000 = sa S 2000) : CWr a0 D y l yL_addSack wsL_addSack rm_L_addSack [.ref (sa S 0), .int p0, .ref (sa S 2000)] (S, V, (sT V), I) (fun z u => z = 0 ∧ ∃ v u1, post v u1 ∧ u = (u1.1, u1.2.1, u1.2.2.1, va_up u1.2.2.2 2000 (upd (u1.2.2.2 2000) 0 v))) 5 32 := by
  refine CWr.of (cc := cL_addSack) (maxL := 4) (ret := (some .int)) (hh := [(0, 9, 12, 13), (0, 9, 15, 15)]) (by decide) rfl (Nat.le_of_ble_eq_true rfl) ?_
  intro pv ev s mv below meth cv A hx hb hml hr hown hts hlocks htab hM hE hNc ls hl
  have hown : s.vm.findClass RL = some mv.cls := hown
  have hl : lv_has ls 4 [(0, .ref (sa S 0)), (1, .int p0), (2, .ref (sa S 2000))] := hl
  refine vx_ret ?_
  refine lv_aload_n hx hb dL_addSack_0 rfl (lv_at hl 2 rfl) ?_
  refine lv_iconst (v := 0) hx hb dL_addSack_1 (by decide) ?_
  refine lv_aload_n hx hb dL_addSack_2 rfl (lv_at hl 0 rfl) ?_
  refine lv_iload_n hx hb dL_addSack_3 rfl (lv_at hl 1 rfl) ?_
  refine fb_callEVi (r := 0) hx hb hml hown hts hM hE (h0.1) (ce3 (h0.2)) rfl (As := [.int p0]) (rest := [.int 0, .ref (sa S 2000)]) (hc) (cwV 1 hts gL_addSack_X3_addSack rfl rfl rfl (by decide +kernel) ⟨Nat.le_of_ble_eq_true rfl, Nat.le_of_ble_eq_true rfl⟩) rfl hl.1 rfl (Nat.le_of_ble_eq_true rfl) dL_addSack_4 ⟨Nat.le_of_ble_eq_true rfl, Nat.le_of_ble_eq_true rfl⟩ (fun v u H locs hpv hM => ?_)
  obtain ⟨S1, V1, T1, I1⟩ := u
  obtain ⟨hO1, hO2⟩ := hp _ _ hpv
  have hO1 : RA S1 2000 13 1 := hO1
  have hO2 : sa S1 2000 = sa S 2000 := hO2
  refine lv_i2l hx hb dL_addSack_7 rfl ?_
  rw [← hO2]
  refine fb_last13 hx hb hM hO1 (i := 0) (k := 0) (by decide) (vp_in_nI (n := 0) (N := 1) (by decide) (by decide)) dL_addSack_8 (fun H locs hM => ?_)
  refine lv_goto (tgt := 18) hx hb dL_addSack_9 (by decide) ?_
  refine lv_iconst (v := 0) hx hb dL_addSack_18 (by decide) ?_
  refine W.widen (show _ ≤ 5 from Nat.le_of_ble_eq_true rfl) (show _ ≤ 32 from Nat.le_of_ble_eq_true rfl) ?_
  exact fb_iret hx hb hr hlocks hM ⟨rfl, v, _, hpv, rfl⟩ dL_addSack_19
set_option maxHeartbeats 4000000 in
set_option maxRecDepth 100000 in
theorem c_L_addSack_IAE (a0 : Nat × Nat) (D : va_G) (y : Nat → ClassId) (l : Launch) (S : fb_Sh) (V I : fb_V) (h0 : 0 ∈ sR S ∧ sk S 0 = 3) (hO : RA S 2000 13 1) (p0 : Int32) (hc : CX a0 D y l yX3_addSack wsX3_addSack rm_X3_addSack [.ref (sa S 0), .int p0] (S, V, (sT V), I) "java/lang/IllegalArgumentException" 5 32) : CWr a0 D y l yL_addSack wsL_addSack rm_L_addSack [.ref (sa S 0), .int p0, .ref (sa S 2000)] (S, V, (sT V), I) (fun z u => z = 1 ∧ u = (S, V, sT V, I)) 5 32 := by
  refine CWr.of (cc := cL_addSack) (maxL := 4) (ret := (some .int)) (hh := [(0, 9, 12, 13), (0, 9, 15, 15)]) (by decide) rfl (Nat.le_of_ble_eq_true rfl) ?_
  intro pv ev s mv below meth cv A hx hb hml hr hown hts hlocks htab hM hE hNc ls hl
  have hown : s.vm.findClass RL = some mv.cls := hown
  have hl : lv_has ls 4 [(0, .ref (sa S 0)), (1, .int p0), (2, .ref (sa S 2000))] := hl
  refine vx_ret ?_
  refine lv_aload_n hx hb dL_addSack_0 rfl (lv_at hl 2 rfl) ?_
  refine lv_iconst (v := 0) hx hb dL_addSack_1 (by decide) ?_
  refine lv_aload_n hx hb dL_addSack_2 rfl (lv_at hl 0 rfl) ?_
  refine lv_iload_n hx hb dL_addSack_3 rfl (lv_at hl 1 rfl) ?_
  refine fb_xcatchV (r := 0) hx hb hml hown hts hM hE (h0.1) (ce3 (h0.2)) rfl (As := [.int p0]) (rest := [.int 0, .ref (sa S 2000)]) (hc) (cwV 1 hts gL_addSack_X3_addSack rfl rfl rfl (by decide +kernel) ⟨Nat.le_of_ble_eq_true rfl, Nat.le_of_ble_eq_true rfl⟩) rfl hl.1 rfl (Nat.le_of_ble_eq_true rfl) dL_addSack_4 ⟨Nat.le_of_ble_eq_true rfl, Nat.le_of_ble_eq_true rfl⟩ (fun ce q9 H locs hM hce hcv hcl => ?_)
  refine vx_catch (name := "java/lang/IllegalArgumentException") hown [] ⟨0, 9, 12, 13⟩ [⟨0, 9, 15, 15⟩] (htab.trans rfl) (fun z hz => nomatch hz) (by decide) (by decide) (hts (.classLink RL 13 "java/lang/IllegalArgumentException") (by decide +kernel)) (va_Nw.use rfl (hE.1.1 "java/lang/IllegalArgumentException" (by simp [fb_exc]))) hce hcv hcl ?_
  refine lv_astore_n (lv' := [(3, .ref q9), (0, .ref (sa S 0)), (1, .int p0), (2, .ref (sa S 2000))]) hx hb dL_addSack_12 rfl hl (by decide) rfl (fun ls hl => ?_)
  refine lv_iconst (v := 1) hx hb dL_addSack_13 (by decide) ?_
  refine W.widen (show _ ≤ 5 from Nat.le_of_ble_eq_true rfl) (show _ ≤ 32 from Nat.le_of_ble_eq_true rfl) ?_
  exact fb_iret hx hb hr hlocks hM ⟨rfl, rfl⟩ dL_addSack_14
set_option maxHeartbeats 4000000 in
set_option maxRecDepth 100000 in
theorem c_L_addSack_ISE (a0 : Nat × Nat) (D : va_G) (y : Nat → ClassId) (l : Launch) (S : fb_Sh) (V I : fb_V) (h0 : 0 ∈ sR S ∧ sk S 0 = 3) (hO : RA S 2000 13 1) (p0 : Int32) (hc : CX a0 D y l yX3_addSack wsX3_addSack rm_X3_addSack [.ref (sa S 0), .int p0] (S, V, (sT V), I) "java/lang/IllegalStateException" 5 32) : CWr a0 D y l yL_addSack wsL_addSack rm_L_addSack [.ref (sa S 0), .int p0, .ref (sa S 2000)] (S, V, (sT V), I) (fun z u => z = 2 ∧ u = (S, V, sT V, I)) 5 32 := by
  refine CWr.of (cc := cL_addSack) (maxL := 4) (ret := (some .int)) (hh := [(0, 9, 12, 13), (0, 9, 15, 15)]) (by decide) rfl (Nat.le_of_ble_eq_true rfl) ?_
  intro pv ev s mv below meth cv A hx hb hml hr hown hts hlocks htab hM hE hNc ls hl
  have hown : s.vm.findClass RL = some mv.cls := hown
  have hl : lv_has ls 4 [(0, .ref (sa S 0)), (1, .int p0), (2, .ref (sa S 2000))] := hl
  refine vx_ret ?_
  refine lv_aload_n hx hb dL_addSack_0 rfl (lv_at hl 2 rfl) ?_
  refine lv_iconst (v := 0) hx hb dL_addSack_1 (by decide) ?_
  refine lv_aload_n hx hb dL_addSack_2 rfl (lv_at hl 0 rfl) ?_
  refine lv_iload_n hx hb dL_addSack_3 rfl (lv_at hl 1 rfl) ?_
  refine fb_xcatchV (r := 0) hx hb hml hown hts hM hE (h0.1) (ce3 (h0.2)) rfl (As := [.int p0]) (rest := [.int 0, .ref (sa S 2000)]) (hc) (cwV 1 hts gL_addSack_X3_addSack rfl rfl rfl (by decide +kernel) ⟨Nat.le_of_ble_eq_true rfl, Nat.le_of_ble_eq_true rfl⟩) rfl hl.1 rfl (Nat.le_of_ble_eq_true rfl) dL_addSack_4 ⟨Nat.le_of_ble_eq_true rfl, Nat.le_of_ble_eq_true rfl⟩ (fun ce q9 H locs hM hce hcv hcl => ?_)
  refine vx_catch (name := "java/lang/IllegalStateException") hown [⟨0, 9, 12, 13⟩] ⟨0, 9, 15, 15⟩ [] (htab.trans rfl) (fun z hz => by cases List.mem_singleton.mp hz; exact Or.inr ⟨by decide, _, (hts (.classLink RL 13 "java/lang/IllegalArgumentException") (by decide +kernel)), hNc.2.2⟩) (by decide) (by decide) (hts (.classLink RL 15 "java/lang/IllegalStateException") (by decide +kernel)) (va_Nw.use rfl (hE.1.1 "java/lang/IllegalStateException" (by simp [fb_exc]))) hce hcv hcl ?_
  refine lv_astore_n (lv' := [(3, .ref q9), (0, .ref (sa S 0)), (1, .int p0), (2, .ref (sa S 2000))]) hx hb dL_addSack_15 rfl hl (by decide) rfl (fun ls hl => ?_)
  refine lv_iconst (v := 2) hx hb dL_addSack_16 (by decide) ?_
  refine W.widen (show _ ≤ 5 from Nat.le_of_ble_eq_true rfl) (show _ ≤ 32 from Nat.le_of_ble_eq_true rfl) ?_
  exact fb_iret hx hb hr hlocks hM ⟨rfl, rfl⟩ dL_addSack_17

abbrev rm_L_put : Room := { frames := 8, cells := 4, slots := 24, locals := 175 }
set_option maxHeartbeats 4000000 in
set_option maxRecDepth 100000 in
theorem c_L_put_ok (a0 : Nat × Nat) (D : va_G) (y : Nat → ClassId) (l : Launch) (S : fb_Sh) (V I : fb_V) (h0 : 0 ∈ sR S ∧ sk S 0 = 3) (hO : RA S 2000 13 1) (p0 : Int32) (p1 : Int32) (p2 : Int32) {post : Int32 → fb_W → Prop} (hc : CI D y l yX3_put wsX3_put rm_X3_put [.ref (sa S 0), .int p0, .int p1, .int p2] (S, V, (sT V), I) post 4 24) (hp : ∀ v u, post v u → RA u.1 2000 13 1 ∧ sa u.1 2000 = sa S 2000) : CWr a0 D y l yL_put wsL_put rm_L_put [.ref (sa S 0), .int p0, .int p1, .int p2, .ref (sa S 2000)] (S, V, (sT V), I) (fun z u => z = 0 ∧ ∃ v u1, post v u1 ∧ u = (u1.1, u1.2.1, u1.2.2.1, va_up u1.2.2.2 2000 (upd (u1.2.2.2 2000) 0 v))) 4 24 := by
  refine CWr.of (cc := cL_put) (maxL := 6) (ret := (some .int)) (hh := [(0, 12, 15, 21), (0, 12, 19, 13), (0, 12, 23, 15)]) (by decide) rfl (Nat.le_of_ble_eq_true rfl) ?_
  intro pv ev s mv below meth cv A hx hb hml hr hown hts hlocks htab hM hE hNc ls hl
  have hown : s.vm.findClass RL = some mv.cls := hown
  have hl : lv_has ls 6 [(0, .ref (sa S 0)), (1, .int p0), (2, .int p1), (3, .int p2), (4, .ref (sa S 2000))] := hl
  refine vx_ret ?_
  refine lv_aload hx hb dL_put_0 (lv_at hl 4 rfl) ?_
  refine lv_iconst (v := 0) hx hb dL_put_2 (by decide) ?_
  refine lv_aload_n hx hb dL_put_3 rfl (lv_at hl 0 rfl) ?_
  refine lv_iload_n hx hb dL_put_4 rfl (lv_at hl 1 rfl) ?_
  refine lv_iload_n hx hb dL_put_5 rfl (lv_at hl 2 rfl) ?_
  refine lv_iload_n hx hb dL_put_6 rfl (lv_at hl 3 rfl) ?_
  refine fb_callVi (r := 0) hx hb hml hown hts hM (h0.1) (ce3 (h0.2)) rfl (As := [.int p0, .int p1, .int p2]) (rest := [.int 0, .ref (sa S 2000)]) (hc) (cwV 3 hts gL_put_X3_put rfl rfl rfl (by decide +kernel) ⟨Nat.le_of_ble_eq_true rfl, Nat.le_of_ble_eq_true rfl⟩) rfl hl.1 rfl (Nat.le_of_ble_eq_true rfl) dL_put_7 ⟨Nat.le_of_ble_eq_true rfl, Nat.le_of_ble_eq_true rfl⟩ (fun v u H locs hpv hM => ?_)
  obtain ⟨S1, V1, T1, I1⟩ := u
  obtain ⟨hO1, hO2⟩ := hp _ _ hpv
  have hO1 : RA S1 2000 13 1 := hO1
  have hO2 : sa S1 2000 = sa S 2000 := hO2
  refine lv_i2l hx hb dL_put_10 rfl ?_
  rw [← hO2]
  refine fb_last13 hx hb hM hO1 (i := 0) (k := 0) (by decide) (vp_in_nI (n := 0) (N := 1) (by decide) (by decide)) dL_put_11 (fun H locs hM => ?_)
  refine lv_goto (tgt := 27) hx hb dL_put_12 (by decide) ?_
  refine lv_iconst (v := 0) hx hb dL_put_27 (by decide) ?_
  refine W.widen (show _ ≤ 4 from Nat.le_of_ble_eq_true rfl) (show _ ≤ 24 from Nat.le_of_ble_eq_true rfl) ?_
  exact fb_iret hx hb hr hlocks hM ⟨rfl, v, _, hpv, rfl⟩ dL_put_28
set_option maxHeartbeats 4000000 in
set_option maxRecDepth 100000 in
theorem c_L_put_IOE (a0 : Nat × Nat) (D : va_G) (y : Nat → ClassId) (l : Launch) (S : fb_Sh) (V I : fb_V) (h0 : 0 ∈ sR S ∧ sk S 0 = 3) (hO : RA S 2000 13 1) (p0 : Int32) (p1 : Int32) (p2 : Int32) (hc : CX a0 D y l yX3_put wsX3_put rm_X3_put [.ref (sa S 0), .int p0, .int p1, .int p2] (S, V, (sT V), I) "java/lang/IndexOutOfBoundsException" 4 24) : CWr a0 D y l yL_put wsL_put rm_L_put [.ref (sa S 0), .int p0, .int p1, .int p2, .ref (sa S 2000)] (S, V, (sT V), I) (fun z u => z = 1 ∧ u = (S, V, sT V, I)) 4 24 := by
  refine CWr.of (cc := cL_put) (maxL := 6) (ret := (some .int)) (hh := [(0, 12, 15, 21), (0, 12, 19, 13), (0, 12, 23, 15)]) (by decide) rfl (Nat.le_of_ble_eq_true rfl) ?_
  intro pv ev s mv below meth cv A hx hb hml hr hown hts hlocks htab hM hE hNc ls hl
  have hown : s.vm.findClass RL = some mv.cls := hown
  have hl : lv_has ls 6 [(0, .ref (sa S 0)), (1, .int p0), (2, .int p1), (3, .int p2), (4, .ref (sa S 2000))] := hl
  refine vx_ret ?_
  refine lv_aload hx hb dL_put_0 (lv_at hl 4 rfl) ?_
  refine lv_iconst (v := 0) hx hb dL_put_2 (by decide) ?_
  refine lv_aload_n hx hb dL_put_3 rfl (lv_at hl 0 rfl) ?_
  refine lv_iload_n hx hb dL_put_4 rfl (lv_at hl 1 rfl) ?_
  refine lv_iload_n hx hb dL_put_5 rfl (lv_at hl 2 rfl) ?_
  refine lv_iload_n hx hb dL_put_6 rfl (lv_at hl 3 rfl) ?_
  refine fb_xcatchV (r := 0) hx hb hml hown hts hM hE (h0.1) (ce3 (h0.2)) rfl (As := [.int p0, .int p1, .int p2]) (rest := [.int 0, .ref (sa S 2000)]) (hc) (cwV 3 hts gL_put_X3_put rfl rfl rfl (by decide +kernel) ⟨Nat.le_of_ble_eq_true rfl, Nat.le_of_ble_eq_true rfl⟩) rfl hl.1 rfl (Nat.le_of_ble_eq_true rfl) dL_put_7 ⟨Nat.le_of_ble_eq_true rfl, Nat.le_of_ble_eq_true rfl⟩ (fun ce q9 H locs hM hce hcv hcl => ?_)
  refine vx_catch (name := "java/lang/IndexOutOfBoundsException") hown [] ⟨0, 12, 15, 21⟩ [⟨0, 12, 19, 13⟩, ⟨0, 12, 23, 15⟩] (htab.trans rfl) (fun z hz => nomatch hz) (by decide) (by decide) (hts (.classLink RL 21 "java/lang/IndexOutOfBoundsException") (by decide +kernel)) (va_Nw.use rfl (hE.1.1 "java/lang/IndexOutOfBoundsException" (by simp [fb_exc]))) hce hcv hcl ?_
  refine lv_astore (lv' := [(5, .ref q9), (0, .ref (sa S 0)), (1, .int p0), (2, .int p1), (3, .int p2), (4, .ref (sa S 2000))]) hx hb dL_put_15 hl (by decide) rfl (fun ls hl => ?_)
  refine lv_iconst (v := 1) hx hb dL_put_17 (by decide) ?_
  refine W.widen (show _ ≤ 4 from Nat.le_of_ble_eq_true rfl) (show _ ≤ 24 from Nat.le_of_ble_eq_true rfl) ?_
  exact fb_iret hx hb hr hlocks hM ⟨rfl, rfl⟩ dL_put_18
set_option maxHeartbeats 4000000 in
set_option maxRecDepth 100000 in
theorem c_L_put_IAE (a0 : Nat × Nat) (D : va_G) (y : Nat → ClassId) (l : Launch) (S : fb_Sh) (V I : fb_V) (h0 : 0 ∈ sR S ∧ sk S 0 = 3) (hO : RA S 2000 13 1) (p0 : Int32) (p1 : Int32) (p2 : Int32) (hc : CX a0 D y l yX3_put wsX3_put rm_X3_put [.ref (sa S 0), .int p0, .int p1, .int p2] (S, V, (sT V), I) "java/lang/IllegalArgumentException" 4 24) : CWr a0 D y l yL_put wsL_put rm_L_put [.ref (sa S 0), .int p0, .int p1, .int p2, .ref (sa S 2000)] (S, V, (sT V), I) (fun z u => z = 2 ∧ u = (S, V, sT V, I)) 4 24 := by
  refine CWr.of (cc := cL_put) (maxL := 6) (ret := (some .int)) (hh := [(0, 12, 15, 21), (0, 12, 19, 13), (0, 12, 23, 15)]) (by decide) rfl (Nat.le_of_ble_eq_true rfl) ?_
  intro pv ev s mv below meth cv A hx hb hml hr hown hts hlocks htab hM hE hNc ls hl
  have hown : s.vm.findClass RL = some mv.cls := hown
  have hl : lv_has ls 6 [(0, .ref (sa S 0)), (1, .int p0), (2, .int p1), (3, .int p2), (4, .ref (sa S 2000))] := hl
  refine vx_ret ?_
  refine lv_aload hx hb dL_put_0 (lv_at hl 4 rfl) ?_
  refine lv_iconst (v := 0) hx hb dL_put_2 (by decide) ?_
  refine lv_aload_n hx hb dL_put_3 rfl (lv_at hl 0 rfl) ?_
  refine lv_iload_n hx hb dL_put_4 rfl (lv_at hl 1 rfl) ?_
  refine lv_iload_n hx hb dL_put_5 rfl (lv_at hl 2 rfl) ?_
  refine lv_iload_n hx hb dL_put_6 rfl (lv_at hl 3 rfl) ?_
  refine fb_xcatchV (r := 0) hx hb hml hown hts hM hE (h0.1) (ce3 (h0.2)) rfl (As := [.int p0, .int p1, .int p2]) (rest := [.int 0, .ref (sa S 2000)]) (hc) (cwV 3 hts gL_put_X3_put rfl rfl rfl (by decide +kernel) ⟨Nat.le_of_ble_eq_true rfl, Nat.le_of_ble_eq_true rfl⟩) rfl hl.1 rfl (Nat.le_of_ble_eq_true rfl) dL_put_7 ⟨Nat.le_of_ble_eq_true rfl, Nat.le_of_ble_eq_true rfl⟩ (fun ce q9 H locs hM hce hcv hcl => ?_)
  refine vx_catch (name := "java/lang/IllegalArgumentException") hown [⟨0, 12, 15, 21⟩] ⟨0, 12, 19, 13⟩ [⟨0, 12, 23, 15⟩] (htab.trans rfl) (fun z hz => by cases List.mem_singleton.mp hz; exact Or.inr ⟨by decide, _, (hts (.classLink RL 21 "java/lang/IndexOutOfBoundsException") (by decide +kernel)), hNc.1⟩) (by decide) (by decide) (hts (.classLink RL 13 "java/lang/IllegalArgumentException") (by decide +kernel)) (va_Nw.use rfl (hE.1.1 "java/lang/IllegalArgumentException" (by simp [fb_exc]))) hce hcv hcl ?_
  refine lv_astore (lv' := [(5, .ref q9), (0, .ref (sa S 0)), (1, .int p0), (2, .int p1), (3, .int p2), (4, .ref (sa S 2000))]) hx hb dL_put_19 hl (by decide) rfl (fun ls hl => ?_)
  refine lv_iconst (v := 2) hx hb dL_put_21 (by decide) ?_
  refine W.widen (show _ ≤ 4 from Nat.le_of_ble_eq_true rfl) (show _ ≤ 24 from Nat.le_of_ble_eq_true rfl) ?_
  exact fb_iret hx hb hr hlocks hM ⟨rfl, rfl⟩ dL_put_22
set_option maxHeartbeats 4000000 in
set_option maxRecDepth 100000 in
theorem c_L_put_ISE (a0 : Nat × Nat) (D : va_G) (y : Nat → ClassId) (l : Launch) (S : fb_Sh) (V I : fb_V) (h0 : 0 ∈ sR S ∧ sk S 0 = 3) (hO : RA S 2000 13 1) (p0 : Int32) (p1 : Int32) (p2 : Int32) (hc : CX a0 D y l yX3_put wsX3_put rm_X3_put [.ref (sa S 0), .int p0, .int p1, .int p2] (S, V, (sT V), I) "java/lang/IllegalStateException" 4 24) : CWr a0 D y l yL_put wsL_put rm_L_put [.ref (sa S 0), .int p0, .int p1, .int p2, .ref (sa S 2000)] (S, V, (sT V), I) (fun z u => z = 3 ∧ u = (S, V, sT V, I)) 4 24 := by
  refine CWr.of (cc := cL_put) (maxL := 6) (ret := (some .int)) (hh := [(0, 12, 15, 21), (0, 12, 19, 13), (0, 12, 23, 15)]) (by decide) rfl (Nat.le_of_ble_eq_true rfl) ?_
  intro pv ev s mv below meth cv A hx hb hml hr hown hts hlocks htab hM hE hNc ls hl
  have hown : s.vm.findClass RL = some mv.cls := hown
  have hl : lv_has ls 6 [(0, .ref (sa S 0)), (1, .int p0), (2, .int p1), (3, .int p2), (4, .ref (sa S 2000))] := hl
  refine vx_ret ?_
  refine lv_aload hx hb dL_put_0 (lv_at hl 4 rfl) ?_
  refine lv_iconst (v := 0) hx hb dL_put_2 (by decide) ?_
  refine lv_aload_n hx hb dL_put_3 rfl (lv_at hl 0 rfl) ?_
  refine lv_iload_n hx hb dL_put_4 rfl (lv_at hl 1 rfl) ?_
  refine lv_iload_n hx hb dL_put_5 rfl (lv_at hl 2 rfl) ?_
  refine lv_iload_n hx hb dL_put_6 rfl (lv_at hl 3 rfl) ?_
  refine fb_xcatchV (r := 0) hx hb hml hown hts hM hE (h0.1) (ce3 (h0.2)) rfl (As := [.int p0, .int p1, .int p2]) (rest := [.int 0, .ref (sa S 2000)]) (hc) (cwV 3 hts gL_put_X3_put rfl rfl rfl (by decide +kernel) ⟨Nat.le_of_ble_eq_true rfl, Nat.le_of_ble_eq_true rfl⟩) rfl hl.1 rfl (Nat.le_of_ble_eq_true rfl) dL_put_7 ⟨Nat.le_of_ble_eq_true rfl, Nat.le_of_ble_eq_true rfl⟩ (fun ce q9 H locs hM hce hcv hcl => ?_)
  refine vx_catch (name := "java/lang/IllegalStateException") hown [⟨0, 12, 15, 21⟩, ⟨0, 12, 19, 13⟩] ⟨0, 12, 23, 15⟩ [] (htab.trans rfl) (fun z hz => by rcases List.mem_cons.mp hz with h | h; (cases h; exact Or.inr ⟨by decide, _, (hts (.classLink RL 21 "java/lang/IndexOutOfBoundsException") (by decide +kernel)), hNc.2.1⟩); (cases List.mem_singleton.mp h; exact Or.inr ⟨by decide, _, (hts (.classLink RL 13 "java/lang/IllegalArgumentException") (by decide +kernel)), hNc.2.2⟩)) (by decide) (by decide) (hts (.classLink RL 15 "java/lang/IllegalStateException") (by decide +kernel)) (va_Nw.use rfl (hE.1.1 "java/lang/IllegalStateException" (by simp [fb_exc]))) hce hcv hcl ?_
  refine lv_astore (lv' := [(5, .ref q9), (0, .ref (sa S 0)), (1, .int p0), (2, .int p1), (3, .int p2), (4, .ref (sa S 2000))]) hx hb dL_put_23 hl (by decide) rfl (fun ls hl => ?_)
  refine lv_iconst (v := 3) hx hb dL_put_25 (by decide) ?_
  refine W.widen (show _ ≤ 4 from Nat.le_of_ble_eq_true rfl) (show _ ≤ 24 from Nat.le_of_ble_eq_true rfl) ?_
  exact fb_iret hx hb hr hlocks hM ⟨rfl, rfl⟩ dL_put_26

abbrev rm_L_dry : Room := { frames := 8, cells := 2, slots := 12, locals := 174 }
set_option maxHeartbeats 4000000 in
set_option maxRecDepth 100000 in
theorem c_L_dry_ok (a0 : Nat × Nat) (D : va_G) (y : Nat → ClassId) (l : Launch) (S : fb_Sh) (V I : fb_V) (h0 : 0 ∈ sR S ∧ sk S 0 = 3) (hO : RA S 2000 13 1) (p0 : Int32) (p1 : Int32) {post : Int32 → fb_W → Prop} (hc : CI D y l yX3_dry wsX3_dry rm_X3_dry [.ref (sa S 0), .int p0, .int p1] (S, V, (sT V), I) post 2 12) (hp : ∀ v u, post v u → RA u.1 2000 13 1 ∧ sa u.1 2000 = sa S 2000) : CWr a0 D y l yL_dry wsL_dry rm_L_dry [.ref (sa S 0), .int p0, .int p1, .ref (sa S 2000)] (S, V, (sT V), I) (fun z u => z = 0 ∧ ∃ v u1, post v u1 ∧ u = (u1.1, u1.2.1, u1.2.2.1, va_up u1.2.2.2 2000 (upd (u1.2.2.2 2000) 0 v))) 2 12 := by
  refine CWr.of (cc := cL_dry) (maxL := 5) (ret := (some .int)) (hh := [(0, 10, 13, 21), (0, 10, 17, 13)]) (by decide) rfl (Nat.le_of_ble_eq_true rfl) ?_
  intro pv ev s mv below meth cv A hx hb hml hr hown hts hlocks htab hM hE hNc ls hl
  have hown : s.vm.findClass RL = some mv.cls := hown
  have hl : lv_has ls 5 [(0, .ref (sa S 0)), (1, .int p0), (2, .int p1), (3, .ref (sa S 2000))] := hl
  refine vx_ret ?_
  refine lv_aload_n hx hb dL_dry_0 rfl (lv_at hl 3 rfl) ?_
  refine lv_iconst (v := 0) hx hb dL_dry_1 (by decide) ?_
  refine lv_aload_n hx hb dL_dry_2 rfl (lv_at hl 0 rfl) ?_
  refine lv_iload_n hx hb dL_dry_3 rfl (lv_at hl 1 rfl) ?_
  refine lv_iload_n hx hb dL_dry_4 rfl (lv_at hl 2 rfl) ?_
  refine fb_callVi (r := 0) hx hb hml hown hts hM (h0.1) (ce3 (h0.2)) rfl (As := [.int p0, .int p1]) (rest := [.int 0, .ref (sa S 2000)]) (hc) (cwV 2 hts gL_dry_X3_dry rfl rfl rfl (by decide +kernel) ⟨Nat.le_of_ble_eq_true rfl, Nat.le_of_ble_eq_true rfl⟩) rfl hl.1 rfl (Nat.le_of_ble_eq_true rfl) dL_dry_5 ⟨Nat.le_of_ble_eq_true rfl, Nat.le_of_ble_eq_true rfl⟩ (fun v u H locs hpv hM => ?_)
  obtain ⟨S1, V1, T1, I1⟩ := u
  obtain ⟨hO1, hO2⟩ := hp _ _ hpv
  have hO1 : RA S1 2000 13 1 := hO1
  have hO2 : sa S1 2000 = sa S 2000 := hO2
  refine lv_i2l hx hb dL_dry_8 rfl ?_
  rw [← hO2]
  refine fb_last13 hx hb hM hO1 (i := 0) (k := 0) (by decide) (vp_in_nI (n := 0) (N := 1) (by decide) (by decide)) dL_dry_9 (fun H locs hM => ?_)
  refine lv_goto (tgt := 21) hx hb dL_dry_10 (by decide) ?_
  refine lv_iconst (v := 0) hx hb dL_dry_21 (by decide) ?_
  refine W.widen (show _ ≤ 2 from Nat.le_of_ble_eq_true rfl) (show _ ≤ 12 from Nat.le_of_ble_eq_true rfl) ?_
  exact fb_iret hx hb hr hlocks hM ⟨rfl, v, _, hpv, rfl⟩ dL_dry_22
set_option maxHeartbeats 4000000 in
set_option maxRecDepth 100000 in
theorem c_L_dry_IOE (a0 : Nat × Nat) (D : va_G) (y : Nat → ClassId) (l : Launch) (S : fb_Sh) (V I : fb_V) (h0 : 0 ∈ sR S ∧ sk S 0 = 3) (hO : RA S 2000 13 1) (p0 : Int32) (p1 : Int32) (hc : CX a0 D y l yX3_dry wsX3_dry rm_X3_dry [.ref (sa S 0), .int p0, .int p1] (S, V, (sT V), I) "java/lang/IndexOutOfBoundsException" 2 12) : CWr a0 D y l yL_dry wsL_dry rm_L_dry [.ref (sa S 0), .int p0, .int p1, .ref (sa S 2000)] (S, V, (sT V), I) (fun z u => z = 1 ∧ u = (S, V, sT V, I)) 2 12 := by
  refine CWr.of (cc := cL_dry) (maxL := 5) (ret := (some .int)) (hh := [(0, 10, 13, 21), (0, 10, 17, 13)]) (by decide) rfl (Nat.le_of_ble_eq_true rfl) ?_
  intro pv ev s mv below meth cv A hx hb hml hr hown hts hlocks htab hM hE hNc ls hl
  have hown : s.vm.findClass RL = some mv.cls := hown
  have hl : lv_has ls 5 [(0, .ref (sa S 0)), (1, .int p0), (2, .int p1), (3, .ref (sa S 2000))] := hl
  refine vx_ret ?_
  refine lv_aload_n hx hb dL_dry_0 rfl (lv_at hl 3 rfl) ?_
  refine lv_iconst (v := 0) hx hb dL_dry_1 (by decide) ?_
  refine lv_aload_n hx hb dL_dry_2 rfl (lv_at hl 0 rfl) ?_
  refine lv_iload_n hx hb dL_dry_3 rfl (lv_at hl 1 rfl) ?_
  refine lv_iload_n hx hb dL_dry_4 rfl (lv_at hl 2 rfl) ?_
  refine fb_xcatchV (r := 0) hx hb hml hown hts hM hE (h0.1) (ce3 (h0.2)) rfl (As := [.int p0, .int p1]) (rest := [.int 0, .ref (sa S 2000)]) (hc) (cwV 2 hts gL_dry_X3_dry rfl rfl rfl (by decide +kernel) ⟨Nat.le_of_ble_eq_true rfl, Nat.le_of_ble_eq_true rfl⟩) rfl hl.1 rfl (Nat.le_of_ble_eq_true rfl) dL_dry_5 ⟨Nat.le_of_ble_eq_true rfl, Nat.le_of_ble_eq_true rfl⟩ (fun ce q9 H locs hM hce hcv hcl => ?_)
  refine vx_catch (name := "java/lang/IndexOutOfBoundsException") hown [] ⟨0, 10, 13, 21⟩ [⟨0, 10, 17, 13⟩] (htab.trans rfl) (fun z hz => nomatch hz) (by decide) (by decide) (hts (.classLink RL 21 "java/lang/IndexOutOfBoundsException") (by decide +kernel)) (va_Nw.use rfl (hE.1.1 "java/lang/IndexOutOfBoundsException" (by simp [fb_exc]))) hce hcv hcl ?_
  refine lv_astore (lv' := [(4, .ref q9), (0, .ref (sa S 0)), (1, .int p0), (2, .int p1), (3, .ref (sa S 2000))]) hx hb dL_dry_13 hl (by decide) rfl (fun ls hl => ?_)
  refine lv_iconst (v := 1) hx hb dL_dry_15 (by decide) ?_
  refine W.widen (show _ ≤ 2 from Nat.le_of_ble_eq_true rfl) (show _ ≤ 12 from Nat.le_of_ble_eq_true rfl) ?_
  exact fb_iret hx hb hr hlocks hM ⟨rfl, rfl⟩ dL_dry_16
set_option maxHeartbeats 4000000 in
set_option maxRecDepth 100000 in
theorem c_L_dry_IAE (a0 : Nat × Nat) (D : va_G) (y : Nat → ClassId) (l : Launch) (S : fb_Sh) (V I : fb_V) (h0 : 0 ∈ sR S ∧ sk S 0 = 3) (hO : RA S 2000 13 1) (p0 : Int32) (p1 : Int32) (hc : CX a0 D y l yX3_dry wsX3_dry rm_X3_dry [.ref (sa S 0), .int p0, .int p1] (S, V, (sT V), I) "java/lang/IllegalArgumentException" 2 12) : CWr a0 D y l yL_dry wsL_dry rm_L_dry [.ref (sa S 0), .int p0, .int p1, .ref (sa S 2000)] (S, V, (sT V), I) (fun z u => z = 2 ∧ u = (S, V, sT V, I)) 2 12 := by
  refine CWr.of (cc := cL_dry) (maxL := 5) (ret := (some .int)) (hh := [(0, 10, 13, 21), (0, 10, 17, 13)]) (by decide) rfl (Nat.le_of_ble_eq_true rfl) ?_
  intro pv ev s mv below meth cv A hx hb hml hr hown hts hlocks htab hM hE hNc ls hl
  have hown : s.vm.findClass RL = some mv.cls := hown
  have hl : lv_has ls 5 [(0, .ref (sa S 0)), (1, .int p0), (2, .int p1), (3, .ref (sa S 2000))] := hl
  refine vx_ret ?_
  refine lv_aload_n hx hb dL_dry_0 rfl (lv_at hl 3 rfl) ?_
  refine lv_iconst (v := 0) hx hb dL_dry_1 (by decide) ?_
  refine lv_aload_n hx hb dL_dry_2 rfl (lv_at hl 0 rfl) ?_
  refine lv_iload_n hx hb dL_dry_3 rfl (lv_at hl 1 rfl) ?_
  refine lv_iload_n hx hb dL_dry_4 rfl (lv_at hl 2 rfl) ?_
  refine fb_xcatchV (r := 0) hx hb hml hown hts hM hE (h0.1) (ce3 (h0.2)) rfl (As := [.int p0, .int p1]) (rest := [.int 0, .ref (sa S 2000)]) (hc) (cwV 2 hts gL_dry_X3_dry rfl rfl rfl (by decide +kernel) ⟨Nat.le_of_ble_eq_true rfl, Nat.le_of_ble_eq_true rfl⟩) rfl hl.1 rfl (Nat.le_of_ble_eq_true rfl) dL_dry_5 ⟨Nat.le_of_ble_eq_true rfl, Nat.le_of_ble_eq_true rfl⟩ (fun ce q9 H locs hM hce hcv hcl => ?_)
  refine vx_catch (name := "java/lang/IllegalArgumentException") hown [⟨0, 10, 13, 21⟩] ⟨0, 10, 17, 13⟩ [] (htab.trans rfl) (fun z hz => by cases List.mem_singleton.mp hz; exact Or.inr ⟨by decide, _, (hts (.classLink RL 21 "java/lang/IndexOutOfBoundsException") (by decide +kernel)), hNc.1⟩) (by decide) (by decide) (hts (.classLink RL 13 "java/lang/IllegalArgumentException") (by decide +kernel)) (va_Nw.use rfl (hE.1.1 "java/lang/IllegalArgumentException" (by simp [fb_exc]))) hce hcv hcl ?_
  refine lv_astore (lv' := [(4, .ref q9), (0, .ref (sa S 0)), (1, .int p0), (2, .int p1), (3, .ref (sa S 2000))]) hx hb dL_dry_17 hl (by decide) rfl (fun ls hl => ?_)
  refine lv_iconst (v := 2) hx hb dL_dry_19 (by decide) ?_
  refine W.widen (show _ ≤ 2 from Nat.le_of_ble_eq_true rfl) (show _ ≤ 12 from Nat.le_of_ble_eq_true rfl) ?_
  exact fb_iret hx hb hr hlocks hM ⟨rfl, rfl⟩ dL_dry_20

abbrev rm_L_sack : Room := { frames := 8, cells := 2, slots := 12, locals := 174 }
set_option maxHeartbeats 4000000 in
set_option maxRecDepth 100000 in
theorem c_L_sack_ok (a0 : Nat × Nat) (D : va_G) (y : Nat → ClassId) (l : Launch) (S : fb_Sh) (V I : fb_V) (h0 : 0 ∈ sR S ∧ sk S 0 = 3) (hO : RA S 2000 13 1) (p0 : Int32) (p1 : Int32) {post : Int32 → fb_W → Prop} (hc : CI D y l yX3_sack wsX3_sack rm_X3_sack [.ref (sa S 0), .int p0, .int p1] (S, V, (sT V), I) post 2 12) (hp : ∀ v u, post v u → RA u.1 2000 13 1 ∧ sa u.1 2000 = sa S 2000) : CWr a0 D y l yL_sack wsL_sack rm_L_sack [.ref (sa S 0), .int p0, .int p1, .ref (sa S 2000)] (S, V, (sT V), I) (fun z u => z = 0 ∧ ∃ v u1, post v u1 ∧ u = (u1.1, u1.2.1, u1.2.2.1, va_up u1.2.2.2 2000 (upd (u1.2.2.2 2000) 0 v))) 2 12 := by
  refine CWr.of (cc := cL_sack) (maxL := 5) (ret := (some .int)) (hh := [(0, 10, 13, 21)]) (by decide) rfl (Nat.le_of_ble_eq_true rfl) ?_
  intro pv ev s mv below meth cv A hx hb hml hr hown hts hlocks htab hM hE hNc ls hl
  have hown : s.vm.findClass RL = some mv.cls := hown
  have hl : lv_has ls 5 [(0, .ref (sa S 0)), (1, .int p0), (2, .int p1), (3, .ref (sa S 2000))] := hl
  refine vx_ret ?_
  refine lv_aload_n hx hb dL_sack_0 rfl (lv_at hl 3 rfl) ?_
  refine lv_iconst (v := 0) hx hb dL_sack_1 (by decide) ?_
  refine lv_aload_n hx hb dL_sack_2 rfl (lv_at hl 0 rfl) ?_
  refine lv_iload_n hx hb dL_sack_3 rfl (lv_at hl 1 rfl) ?_
  refine lv_iload_n hx hb dL_sack_4 rfl (lv_at hl 2 rfl) ?_
  refine fb_callVi (r := 0) hx hb hml hown hts hM (h0.1) (ce3 (h0.2)) rfl (As := [.int p0, .int p1]) (rest := [.int 0, .ref (sa S 2000)]) (hc) (cwV 2 hts gL_sack_X3_sack rfl rfl rfl (by decide +kernel) ⟨Nat.le_of_ble_eq_true rfl, Nat.le_of_ble_eq_true rfl⟩) rfl hl.1 rfl (Nat.le_of_ble_eq_true rfl) dL_sack_5 ⟨Nat.le_of_ble_eq_true rfl, Nat.le_of_ble_eq_true rfl⟩ (fun v u H locs hpv hM => ?_)
  obtain ⟨S1, V1, T1, I1⟩ := u
  obtain ⟨hO1, hO2⟩ := hp _ _ hpv
  have hO1 : RA S1 2000 13 1 := hO1
  have hO2 : sa S1 2000 = sa S 2000 := hO2
  refine lv_i2l hx hb dL_sack_8 rfl ?_
  rw [← hO2]
  refine fb_last13 hx hb hM hO1 (i := 0) (k := 0) (by decide) (vp_in_nI (n := 0) (N := 1) (by decide) (by decide)) dL_sack_9 (fun H locs hM => ?_)
  refine lv_goto (tgt := 17) hx hb dL_sack_10 (by decide) ?_
  refine lv_iconst (v := 0) hx hb dL_sack_17 (by decide) ?_
  refine W.widen (show _ ≤ 2 from Nat.le_of_ble_eq_true rfl) (show _ ≤ 12 from Nat.le_of_ble_eq_true rfl) ?_
  exact fb_iret hx hb hr hlocks hM ⟨rfl, v, _, hpv, rfl⟩ dL_sack_18
set_option maxHeartbeats 4000000 in
set_option maxRecDepth 100000 in
theorem c_L_sack_IOE (a0 : Nat × Nat) (D : va_G) (y : Nat → ClassId) (l : Launch) (S : fb_Sh) (V I : fb_V) (h0 : 0 ∈ sR S ∧ sk S 0 = 3) (hO : RA S 2000 13 1) (p0 : Int32) (p1 : Int32) (hc : CX a0 D y l yX3_sack wsX3_sack rm_X3_sack [.ref (sa S 0), .int p0, .int p1] (S, V, (sT V), I) "java/lang/IndexOutOfBoundsException" 2 12) : CWr a0 D y l yL_sack wsL_sack rm_L_sack [.ref (sa S 0), .int p0, .int p1, .ref (sa S 2000)] (S, V, (sT V), I) (fun z u => z = 1 ∧ u = (S, V, sT V, I)) 2 12 := by
  refine CWr.of (cc := cL_sack) (maxL := 5) (ret := (some .int)) (hh := [(0, 10, 13, 21)]) (by decide) rfl (Nat.le_of_ble_eq_true rfl) ?_
  intro pv ev s mv below meth cv A hx hb hml hr hown hts hlocks htab hM hE hNc ls hl
  have hown : s.vm.findClass RL = some mv.cls := hown
  have hl : lv_has ls 5 [(0, .ref (sa S 0)), (1, .int p0), (2, .int p1), (3, .ref (sa S 2000))] := hl
  refine vx_ret ?_
  refine lv_aload_n hx hb dL_sack_0 rfl (lv_at hl 3 rfl) ?_
  refine lv_iconst (v := 0) hx hb dL_sack_1 (by decide) ?_
  refine lv_aload_n hx hb dL_sack_2 rfl (lv_at hl 0 rfl) ?_
  refine lv_iload_n hx hb dL_sack_3 rfl (lv_at hl 1 rfl) ?_
  refine lv_iload_n hx hb dL_sack_4 rfl (lv_at hl 2 rfl) ?_
  refine fb_xcatchV (r := 0) hx hb hml hown hts hM hE (h0.1) (ce3 (h0.2)) rfl (As := [.int p0, .int p1]) (rest := [.int 0, .ref (sa S 2000)]) (hc) (cwV 2 hts gL_sack_X3_sack rfl rfl rfl (by decide +kernel) ⟨Nat.le_of_ble_eq_true rfl, Nat.le_of_ble_eq_true rfl⟩) rfl hl.1 rfl (Nat.le_of_ble_eq_true rfl) dL_sack_5 ⟨Nat.le_of_ble_eq_true rfl, Nat.le_of_ble_eq_true rfl⟩ (fun ce q9 H locs hM hce hcv hcl => ?_)
  refine vx_catch (name := "java/lang/IndexOutOfBoundsException") hown [] ⟨0, 10, 13, 21⟩ [] (htab.trans rfl) (fun z hz => nomatch hz) (by decide) (by decide) (hts (.classLink RL 21 "java/lang/IndexOutOfBoundsException") (by decide +kernel)) (va_Nw.use rfl (hE.1.1 "java/lang/IndexOutOfBoundsException" (by simp [fb_exc]))) hce hcv hcl ?_
  refine lv_astore (lv' := [(4, .ref q9), (0, .ref (sa S 0)), (1, .int p0), (2, .int p1), (3, .ref (sa S 2000))]) hx hb dL_sack_13 hl (by decide) rfl (fun ls hl => ?_)
  refine lv_iconst (v := 1) hx hb dL_sack_15 (by decide) ?_
  refine W.widen (show _ ≤ 2 from Nat.le_of_ble_eq_true rfl) (show _ ≤ 12 from Nat.le_of_ble_eq_true rfl) ?_
  exact fb_iret hx hb hr hlocks hM ⟨rfl, rfl⟩ dL_sack_16

abbrev rm_L_setWind : Room := { frames := 8, cells := 1, slots := 6, locals := 173 }
set_option maxHeartbeats 4000000 in
set_option maxRecDepth 100000 in
theorem c_L_setWind_ok (a0 : Nat × Nat) (D : va_G) (y : Nat → ClassId) (l : Launch) (S : fb_Sh) (V I : fb_V) (h0 : 0 ∈ sR S ∧ sk S 0 = 3) (hO : RA S 2000 13 1) (p0 : Int32) {post : Int32 → fb_W → Prop} (hc : CI D y l yX3_setWind wsX3_setWind rm_X3_setWind [.ref (sa S 0), .int p0] (S, V, (sT V), I) post 1 6) (hp : ∀ v u, post v u → RA u.1 2000 13 1 ∧ sa u.1 2000 = sa S 2000) : CWr a0 D y l yL_setWind wsL_setWind rm_L_setWind [.ref (sa S 0), .int p0, .ref (sa S 2000)] (S, V, (sT V), I) (fun z u => z = 0 ∧ ∃ v u1, post v u1 ∧ u = (u1.1, u1.2.1, u1.2.2.1, va_up u1.2.2.2 2000 (upd (u1.2.2.2 2000) 0 v))) 1 6 := by
  refine CWr.of (cc := cL_setWind) (maxL := 4) (ret := (some .int)) (hh := [(0, 9, 12, 13)]) (by decide) rfl (Nat.le_of_ble_eq_true rfl) ?_
  intro pv ev s mv below meth cv A hx hb hml hr hown hts hlocks htab hM hE hNc ls hl
  have hown : s.vm.findClass RL = some mv.cls := hown
  have hl : lv_has ls 4 [(0, .ref (sa S 0)), (1, .int p0), (2, .ref (sa S 2000))] := hl
  refine vx_ret ?_
  refine lv_aload_n hx hb dL_setWind_0 rfl (lv_at hl 2 rfl) ?_
  refine lv_iconst (v := 0) hx hb dL_setWind_1 (by decide) ?_
  refine lv_aload_n hx hb dL_setWind_2 rfl (lv_at hl 0 rfl) ?_
  refine lv_iload_n hx hb dL_setWind_3 rfl (lv_at hl 1 rfl) ?_
  refine fb_callVi (r := 0) hx hb hml hown hts hM (h0.1) (ce3 (h0.2)) rfl (As := [.int p0]) (rest := [.int 0, .ref (sa S 2000)]) (hc) (cwV 1 hts gL_setWind_X3_setWind rfl rfl rfl (by decide +kernel) ⟨Nat.le_of_ble_eq_true rfl, Nat.le_of_ble_eq_true rfl⟩) rfl hl.1 rfl (Nat.le_of_ble_eq_true rfl) dL_setWind_4 ⟨Nat.le_of_ble_eq_true rfl, Nat.le_of_ble_eq_true rfl⟩ (fun v u H locs hpv hM => ?_)
  obtain ⟨S1, V1, T1, I1⟩ := u
  obtain ⟨hO1, hO2⟩ := hp _ _ hpv
  have hO1 : RA S1 2000 13 1 := hO1
  have hO2 : sa S1 2000 = sa S 2000 := hO2
  refine lv_i2l hx hb dL_setWind_7 rfl ?_
  rw [← hO2]
  refine fb_last13 hx hb hM hO1 (i := 0) (k := 0) (by decide) (vp_in_nI (n := 0) (N := 1) (by decide) (by decide)) dL_setWind_8 (fun H locs hM => ?_)
  refine lv_goto (tgt := 15) hx hb dL_setWind_9 (by decide) ?_
  refine lv_iconst (v := 0) hx hb dL_setWind_15 (by decide) ?_
  refine W.widen (show _ ≤ 1 from Nat.le_of_ble_eq_true rfl) (show _ ≤ 6 from Nat.le_of_ble_eq_true rfl) ?_
  exact fb_iret hx hb hr hlocks hM ⟨rfl, v, _, hpv, rfl⟩ dL_setWind_16
set_option maxHeartbeats 4000000 in
set_option maxRecDepth 100000 in
theorem c_L_setWind_IAE (a0 : Nat × Nat) (D : va_G) (y : Nat → ClassId) (l : Launch) (S : fb_Sh) (V I : fb_V) (h0 : 0 ∈ sR S ∧ sk S 0 = 3) (hO : RA S 2000 13 1) (p0 : Int32) (hc : CX a0 D y l yX3_setWind wsX3_setWind rm_X3_setWind [.ref (sa S 0), .int p0] (S, V, (sT V), I) "java/lang/IllegalArgumentException" 1 6) : CWr a0 D y l yL_setWind wsL_setWind rm_L_setWind [.ref (sa S 0), .int p0, .ref (sa S 2000)] (S, V, (sT V), I) (fun z u => z = 1 ∧ u = (S, V, sT V, I)) 1 6 := by
  refine CWr.of (cc := cL_setWind) (maxL := 4) (ret := (some .int)) (hh := [(0, 9, 12, 13)]) (by decide) rfl (Nat.le_of_ble_eq_true rfl) ?_
  intro pv ev s mv below meth cv A hx hb hml hr hown hts hlocks htab hM hE hNc ls hl
  have hown : s.vm.findClass RL = some mv.cls := hown
  have hl : lv_has ls 4 [(0, .ref (sa S 0)), (1, .int p0), (2, .ref (sa S 2000))] := hl
  refine vx_ret ?_
  refine lv_aload_n hx hb dL_setWind_0 rfl (lv_at hl 2 rfl) ?_
  refine lv_iconst (v := 0) hx hb dL_setWind_1 (by decide) ?_
  refine lv_aload_n hx hb dL_setWind_2 rfl (lv_at hl 0 rfl) ?_
  refine lv_iload_n hx hb dL_setWind_3 rfl (lv_at hl 1 rfl) ?_
  refine fb_xcatchV (r := 0) hx hb hml hown hts hM hE (h0.1) (ce3 (h0.2)) rfl (As := [.int p0]) (rest := [.int 0, .ref (sa S 2000)]) (hc) (cwV 1 hts gL_setWind_X3_setWind rfl rfl rfl (by decide +kernel) ⟨Nat.le_of_ble_eq_true rfl, Nat.le_of_ble_eq_true rfl⟩) rfl hl.1 rfl (Nat.le_of_ble_eq_true rfl) dL_setWind_4 ⟨Nat.le_of_ble_eq_true rfl, Nat.le_of_ble_eq_true rfl⟩ (fun ce q9 H locs hM hce hcv hcl => ?_)
  refine vx_catch (name := "java/lang/IllegalArgumentException") hown [] ⟨0, 9, 12, 13⟩ [] (htab.trans rfl) (fun z hz => nomatch hz) (by decide) (by decide) (hts (.classLink RL 13 "java/lang/IllegalArgumentException") (by decide +kernel)) (va_Nw.use rfl (hE.1.1 "java/lang/IllegalArgumentException" (by simp [fb_exc]))) hce hcv hcl ?_
  refine lv_astore_n (lv' := [(3, .ref q9), (0, .ref (sa S 0)), (1, .int p0), (2, .ref (sa S 2000))]) hx hb dL_setWind_12 rfl hl (by decide) rfl (fun ls hl => ?_)
  refine lv_iconst (v := 1) hx hb dL_setWind_13 (by decide) ?_
  refine W.widen (show _ ≤ 1 from Nat.le_of_ble_eq_true rfl) (show _ ≤ 6 from Nat.le_of_ble_eq_true rfl) ?_
  exact fb_iret hx hb hr hlocks hM ⟨rfl, rfl⟩ dL_setWind_14

abbrev rm_L_blow : Room := { frames := 8, cells := 1, slots := 6, locals := 177 }
set_option maxHeartbeats 4000000 in
set_option maxRecDepth 100000 in
theorem c_L_blow_ok (a0 : Nat × Nat) (D : va_G) (y : Nat → ClassId) (l : Launch) (S : fb_Sh) (V I : fb_V) (h0 : 0 ∈ sR S ∧ sk S 0 = 3) (hO : RA S 2000 13 1) (p0 : Int32) {post : Int32 → fb_W → Prop} (hc : CI D y l yX3_blow wsX3_blow rm_X3_blow [.ref (sa S 0), .int p0] (S, V, (sT V), I) post 1 6) (hp : ∀ v u, post v u → RA u.1 2000 13 1 ∧ sa u.1 2000 = sa S 2000) : CWr a0 D y l yL_blow wsL_blow rm_L_blow [.ref (sa S 0), .int p0, .ref (sa S 2000)] (S, V, (sT V), I) (fun z u => z = 0 ∧ ∃ v u1, post v u1 ∧ u = (u1.1, u1.2.1, u1.2.2.1, va_up u1.2.2.2 2000 (upd (u1.2.2.2 2000) 0 v))) 1 6 := by
  refine CWr.of (cc := cL_blow) (maxL := 4) (ret := (some .int)) (hh := [(0, 9, 12, 21)]) (by decide) rfl (Nat.le_of_ble_eq_true rfl) ?_
  intro pv ev s mv below meth cv A hx hb hml hr hown hts hlocks htab hM hE hNc ls hl
  have hown : s.vm.findClass RL = some mv.cls := hown
  have hl : lv_has ls 4 [(0, .ref (sa S 0)), (1, .int p0), (2, .ref (sa S 2000))] := hl
  refine vx_ret ?_
  refine lv_aload_n hx hb dL_blow_0 rfl (lv_at hl 2 rfl) ?_
  refine lv_iconst (v := 0) hx hb dL_blow_1 (by decide) ?_
  refine lv_aload_n hx hb dL_blow_2 rfl (lv_at hl 0 rfl) ?_
  refine lv_iload_n hx hb dL_blow_3 rfl (lv_at hl 1 rfl) ?_
  refine fb_callVi (r := 0) hx hb hml hown hts hM (h0.1) (ce3 (h0.2)) rfl (As := [.int p0]) (rest := [.int 0, .ref (sa S 2000)]) (hc) (cwV 1 hts gL_blow_X3_blow rfl rfl rfl (by decide +kernel) ⟨Nat.le_of_ble_eq_true rfl, Nat.le_of_ble_eq_true rfl⟩) rfl hl.1 rfl (Nat.le_of_ble_eq_true rfl) dL_blow_4 ⟨Nat.le_of_ble_eq_true rfl, Nat.le_of_ble_eq_true rfl⟩ (fun v u H locs hpv hM => ?_)
  obtain ⟨S1, V1, T1, I1⟩ := u
  obtain ⟨hO1, hO2⟩ := hp _ _ hpv
  have hO1 : RA S1 2000 13 1 := hO1
  have hO2 : sa S1 2000 = sa S 2000 := hO2
  refine lv_i2l hx hb dL_blow_7 rfl ?_
  rw [← hO2]
  refine fb_last13 hx hb hM hO1 (i := 0) (k := 0) (by decide) (vp_in_nI (n := 0) (N := 1) (by decide) (by decide)) dL_blow_8 (fun H locs hM => ?_)
  refine lv_goto (tgt := 15) hx hb dL_blow_9 (by decide) ?_
  refine lv_iconst (v := 0) hx hb dL_blow_15 (by decide) ?_
  refine W.widen (show _ ≤ 1 from Nat.le_of_ble_eq_true rfl) (show _ ≤ 6 from Nat.le_of_ble_eq_true rfl) ?_
  exact fb_iret hx hb hr hlocks hM ⟨rfl, v, _, hpv, rfl⟩ dL_blow_16
set_option maxHeartbeats 4000000 in
set_option maxRecDepth 100000 in
theorem c_L_blow_IOE (a0 : Nat × Nat) (D : va_G) (y : Nat → ClassId) (l : Launch) (S : fb_Sh) (V I : fb_V) (h0 : 0 ∈ sR S ∧ sk S 0 = 3) (hO : RA S 2000 13 1) (p0 : Int32) (hc : CX a0 D y l yX3_blow wsX3_blow rm_X3_blow [.ref (sa S 0), .int p0] (S, V, (sT V), I) "java/lang/IndexOutOfBoundsException" 1 6) : CWr a0 D y l yL_blow wsL_blow rm_L_blow [.ref (sa S 0), .int p0, .ref (sa S 2000)] (S, V, (sT V), I) (fun z u => z = 1 ∧ u = (S, V, sT V, I)) 1 6 := by
  refine CWr.of (cc := cL_blow) (maxL := 4) (ret := (some .int)) (hh := [(0, 9, 12, 21)]) (by decide) rfl (Nat.le_of_ble_eq_true rfl) ?_
  intro pv ev s mv below meth cv A hx hb hml hr hown hts hlocks htab hM hE hNc ls hl
  have hown : s.vm.findClass RL = some mv.cls := hown
  have hl : lv_has ls 4 [(0, .ref (sa S 0)), (1, .int p0), (2, .ref (sa S 2000))] := hl
  refine vx_ret ?_
  refine lv_aload_n hx hb dL_blow_0 rfl (lv_at hl 2 rfl) ?_
  refine lv_iconst (v := 0) hx hb dL_blow_1 (by decide) ?_
  refine lv_aload_n hx hb dL_blow_2 rfl (lv_at hl 0 rfl) ?_
  refine lv_iload_n hx hb dL_blow_3 rfl (lv_at hl 1 rfl) ?_
  refine fb_xcatchV (r := 0) hx hb hml hown hts hM hE (h0.1) (ce3 (h0.2)) rfl (As := [.int p0]) (rest := [.int 0, .ref (sa S 2000)]) (hc) (cwV 1 hts gL_blow_X3_blow rfl rfl rfl (by decide +kernel) ⟨Nat.le_of_ble_eq_true rfl, Nat.le_of_ble_eq_true rfl⟩) rfl hl.1 rfl (Nat.le_of_ble_eq_true rfl) dL_blow_4 ⟨Nat.le_of_ble_eq_true rfl, Nat.le_of_ble_eq_true rfl⟩ (fun ce q9 H locs hM hce hcv hcl => ?_)
  refine vx_catch (name := "java/lang/IndexOutOfBoundsException") hown [] ⟨0, 9, 12, 21⟩ [] (htab.trans rfl) (fun z hz => nomatch hz) (by decide) (by decide) (hts (.classLink RL 21 "java/lang/IndexOutOfBoundsException") (by decide +kernel)) (va_Nw.use rfl (hE.1.1 "java/lang/IndexOutOfBoundsException" (by simp [fb_exc]))) hce hcv hcl ?_
  refine lv_astore_n (lv' := [(3, .ref q9), (0, .ref (sa S 0)), (1, .int p0), (2, .ref (sa S 2000))]) hx hb dL_blow_12 rfl hl (by decide) rfl (fun ls hl => ?_)
  refine lv_iconst (v := 1) hx hb dL_blow_13 (by decide) ?_
  refine W.widen (show _ ≤ 1 from Nat.le_of_ble_eq_true rfl) (show _ ≤ 6 from Nat.le_of_ble_eq_true rfl) ?_
  exact fb_iret hx hb hr hlocks hM ⟨rfl, rfl⟩ dL_blow_14

abbrev rm_L_sweep : Room := { frames := 8, cells := 2, slots := 12, locals := 178 }
set_option maxHeartbeats 4000000 in
set_option maxRecDepth 100000 in
theorem c_L_sweep_ok (a0 : Nat × Nat) (D : va_G) (y : Nat → ClassId) (l : Launch) (S : fb_Sh) (V I : fb_V) (h0 : 0 ∈ sR S ∧ sk S 0 = 3) (hO : RA S 2000 13 1) (p0 : Int32) (p1 : Int32) {post : Int32 → fb_W → Prop} (hc : CI D y l yX3_sweep wsX3_sweep rm_X3_sweep [.ref (sa S 0), .int p0, .int p1] (S, V, (sT V), I) post 2 12) (hp : ∀ v u, post v u → RA u.1 2000 13 1 ∧ sa u.1 2000 = sa S 2000) : CWr a0 D y l yL_sweep wsL_sweep rm_L_sweep [.ref (sa S 0), .int p0, .int p1, .ref (sa S 2000)] (S, V, (sT V), I) (fun z u => z = 0 ∧ ∃ v u1, post v u1 ∧ u = (u1.1, u1.2.1, u1.2.2.1, va_up u1.2.2.2 2000 (upd (u1.2.2.2 2000) 0 v))) 2 12 := by
  refine CWr.of (cc := cL_sweep) (maxL := 5) (ret := (some .int)) (hh := [(0, 10, 13, 21)]) (by decide) rfl (Nat.le_of_ble_eq_true rfl) ?_
  intro pv ev s mv below meth cv A hx hb hml hr hown hts hlocks htab hM hE hNc ls hl
  have hown : s.vm.findClass RL = some mv.cls := hown
  have hl : lv_has ls 5 [(0, .ref (sa S 0)), (1, .int p0), (2, .int p1), (3, .ref (sa S 2000))] := hl
  refine vx_ret ?_
  refine lv_aload_n hx hb dL_sweep_0 rfl (lv_at hl 3 rfl) ?_
  refine lv_iconst (v := 0) hx hb dL_sweep_1 (by decide) ?_
  refine lv_aload_n hx hb dL_sweep_2 rfl (lv_at hl 0 rfl) ?_
  refine lv_iload_n hx hb dL_sweep_3 rfl (lv_at hl 1 rfl) ?_
  refine lv_iload_n hx hb dL_sweep_4 rfl (lv_at hl 2 rfl) ?_
  refine fb_callVi (r := 0) hx hb hml hown hts hM (h0.1) (ce3 (h0.2)) rfl (As := [.int p0, .int p1]) (rest := [.int 0, .ref (sa S 2000)]) (hc) (cwV 2 hts gL_sweep_X3_sweep rfl rfl rfl (by decide +kernel) ⟨Nat.le_of_ble_eq_true rfl, Nat.le_of_ble_eq_true rfl⟩) rfl hl.1 rfl (Nat.le_of_ble_eq_true rfl) dL_sweep_5 ⟨Nat.le_of_ble_eq_true rfl, Nat.le_of_ble_eq_true rfl⟩ (fun v u H locs hpv hM => ?_)
  obtain ⟨S1, V1, T1, I1⟩ := u
  obtain ⟨hO1, hO2⟩ := hp _ _ hpv
  have hO1 : RA S1 2000 13 1 := hO1
  have hO2 : sa S1 2000 = sa S 2000 := hO2
  refine lv_i2l hx hb dL_sweep_8 rfl ?_
  rw [← hO2]
  refine fb_last13 hx hb hM hO1 (i := 0) (k := 0) (by decide) (vp_in_nI (n := 0) (N := 1) (by decide) (by decide)) dL_sweep_9 (fun H locs hM => ?_)
  refine lv_goto (tgt := 17) hx hb dL_sweep_10 (by decide) ?_
  refine lv_iconst (v := 0) hx hb dL_sweep_17 (by decide) ?_
  refine W.widen (show _ ≤ 2 from Nat.le_of_ble_eq_true rfl) (show _ ≤ 12 from Nat.le_of_ble_eq_true rfl) ?_
  exact fb_iret hx hb hr hlocks hM ⟨rfl, v, _, hpv, rfl⟩ dL_sweep_18
set_option maxHeartbeats 4000000 in
set_option maxRecDepth 100000 in
theorem c_L_sweep_IOE (a0 : Nat × Nat) (D : va_G) (y : Nat → ClassId) (l : Launch) (S : fb_Sh) (V I : fb_V) (h0 : 0 ∈ sR S ∧ sk S 0 = 3) (hO : RA S 2000 13 1) (p0 : Int32) (p1 : Int32) (hc : CX a0 D y l yX3_sweep wsX3_sweep rm_X3_sweep [.ref (sa S 0), .int p0, .int p1] (S, V, (sT V), I) "java/lang/IndexOutOfBoundsException" 2 12) : CWr a0 D y l yL_sweep wsL_sweep rm_L_sweep [.ref (sa S 0), .int p0, .int p1, .ref (sa S 2000)] (S, V, (sT V), I) (fun z u => z = 1 ∧ u = (S, V, sT V, I)) 2 12 := by
  refine CWr.of (cc := cL_sweep) (maxL := 5) (ret := (some .int)) (hh := [(0, 10, 13, 21)]) (by decide) rfl (Nat.le_of_ble_eq_true rfl) ?_
  intro pv ev s mv below meth cv A hx hb hml hr hown hts hlocks htab hM hE hNc ls hl
  have hown : s.vm.findClass RL = some mv.cls := hown
  have hl : lv_has ls 5 [(0, .ref (sa S 0)), (1, .int p0), (2, .int p1), (3, .ref (sa S 2000))] := hl
  refine vx_ret ?_
  refine lv_aload_n hx hb dL_sweep_0 rfl (lv_at hl 3 rfl) ?_
  refine lv_iconst (v := 0) hx hb dL_sweep_1 (by decide) ?_
  refine lv_aload_n hx hb dL_sweep_2 rfl (lv_at hl 0 rfl) ?_
  refine lv_iload_n hx hb dL_sweep_3 rfl (lv_at hl 1 rfl) ?_
  refine lv_iload_n hx hb dL_sweep_4 rfl (lv_at hl 2 rfl) ?_
  refine fb_xcatchV (r := 0) hx hb hml hown hts hM hE (h0.1) (ce3 (h0.2)) rfl (As := [.int p0, .int p1]) (rest := [.int 0, .ref (sa S 2000)]) (hc) (cwV 2 hts gL_sweep_X3_sweep rfl rfl rfl (by decide +kernel) ⟨Nat.le_of_ble_eq_true rfl, Nat.le_of_ble_eq_true rfl⟩) rfl hl.1 rfl (Nat.le_of_ble_eq_true rfl) dL_sweep_5 ⟨Nat.le_of_ble_eq_true rfl, Nat.le_of_ble_eq_true rfl⟩ (fun ce q9 H locs hM hce hcv hcl => ?_)
  refine vx_catch (name := "java/lang/IndexOutOfBoundsException") hown [] ⟨0, 10, 13, 21⟩ [] (htab.trans rfl) (fun z hz => nomatch hz) (by decide) (by decide) (hts (.classLink RL 21 "java/lang/IndexOutOfBoundsException") (by decide +kernel)) (va_Nw.use rfl (hE.1.1 "java/lang/IndexOutOfBoundsException" (by simp [fb_exc]))) hce hcv hcl ?_
  refine lv_astore (lv' := [(4, .ref q9), (0, .ref (sa S 0)), (1, .int p0), (2, .int p1), (3, .ref (sa S 2000))]) hx hb dL_sweep_13 hl (by decide) rfl (fun ls hl => ?_)
  refine lv_iconst (v := 1) hx hb dL_sweep_15 (by decide) ?_
  refine W.widen (show _ ≤ 2 from Nat.le_of_ble_eq_true rfl) (show _ ≤ 12 from Nat.le_of_ble_eq_true rfl) ?_
  exact fb_iret hx hb hr hlocks hM ⟨rfl, rfl⟩ dL_sweep_16

abbrev rm_L_chamber : Room := { frames := 8, cells := 2, slots := 12, locals := 174 }
set_option maxHeartbeats 4000000 in
set_option maxRecDepth 100000 in
theorem c_L_chamber_ok (a0 : Nat × Nat) (D : va_G) (y : Nat → ClassId) (l : Launch) (S : fb_Sh) (V I : fb_V) (h0 : 0 ∈ sR S ∧ sk S 0 = 3) (hO : RA S 2000 13 1) (p0 : Int32) (p1 : Int32) {post : Int32 → fb_W → Prop} (hc : CI D y l yX3_chamber wsX3_chamber rm_X3_chamber [.ref (sa S 0), .int p0, .int p1] (S, V, (sT V), I) post 2 12) (hp : ∀ v u, post v u → RA u.1 2000 13 1 ∧ sa u.1 2000 = sa S 2000) : CWr a0 D y l yL_chamber wsL_chamber rm_L_chamber [.ref (sa S 0), .int p0, .int p1, .ref (sa S 2000)] (S, V, (sT V), I) (fun z u => z = 0 ∧ ∃ v u1, post v u1 ∧ u = (u1.1, u1.2.1, u1.2.2.1, va_up u1.2.2.2 2000 (upd (u1.2.2.2 2000) 0 v))) 2 12 := by
  refine CWr.of (cc := cL_chamber) (maxL := 5) (ret := (some .int)) (hh := [(0, 10, 13, 21)]) (by decide) rfl (Nat.le_of_ble_eq_true rfl) ?_
  intro pv ev s mv below meth cv A hx hb hml hr hown hts hlocks htab hM hE hNc ls hl
  have hown : s.vm.findClass RL = some mv.cls := hown
  have hl : lv_has ls 5 [(0, .ref (sa S 0)), (1, .int p0), (2, .int p1), (3, .ref (sa S 2000))] := hl
  refine vx_ret ?_
  refine lv_aload_n hx hb dL_chamber_0 rfl (lv_at hl 3 rfl) ?_
  refine lv_iconst (v := 0) hx hb dL_chamber_1 (by decide) ?_
  refine lv_aload_n hx hb dL_chamber_2 rfl (lv_at hl 0 rfl) ?_
  refine lv_iload_n hx hb dL_chamber_3 rfl (lv_at hl 1 rfl) ?_
  refine lv_iload_n hx hb dL_chamber_4 rfl (lv_at hl 2 rfl) ?_
  refine fb_callVi (r := 0) hx hb hml hown hts hM (h0.1) (ce3 (h0.2)) rfl (As := [.int p0, .int p1]) (rest := [.int 0, .ref (sa S 2000)]) (hc) (cwV 2 hts gL_chamber_X3_chamber rfl rfl rfl (by decide +kernel) ⟨Nat.le_of_ble_eq_true rfl, Nat.le_of_ble_eq_true rfl⟩) rfl hl.1 rfl (Nat.le_of_ble_eq_true rfl) dL_chamber_5 ⟨Nat.le_of_ble_eq_true rfl, Nat.le_of_ble_eq_true rfl⟩ (fun v u H locs hpv hM => ?_)
  obtain ⟨S1, V1, T1, I1⟩ := u
  obtain ⟨hO1, hO2⟩ := hp _ _ hpv
  have hO1 : RA S1 2000 13 1 := hO1
  have hO2 : sa S1 2000 = sa S 2000 := hO2
  refine lv_i2l hx hb dL_chamber_8 rfl ?_
  rw [← hO2]
  refine fb_last13 hx hb hM hO1 (i := 0) (k := 0) (by decide) (vp_in_nI (n := 0) (N := 1) (by decide) (by decide)) dL_chamber_9 (fun H locs hM => ?_)
  refine lv_goto (tgt := 17) hx hb dL_chamber_10 (by decide) ?_
  refine lv_iconst (v := 0) hx hb dL_chamber_17 (by decide) ?_
  refine W.widen (show _ ≤ 2 from Nat.le_of_ble_eq_true rfl) (show _ ≤ 12 from Nat.le_of_ble_eq_true rfl) ?_
  exact fb_iret hx hb hr hlocks hM ⟨rfl, v, _, hpv, rfl⟩ dL_chamber_18
set_option maxHeartbeats 4000000 in
set_option maxRecDepth 100000 in
theorem c_L_chamber_IOE (a0 : Nat × Nat) (D : va_G) (y : Nat → ClassId) (l : Launch) (S : fb_Sh) (V I : fb_V) (h0 : 0 ∈ sR S ∧ sk S 0 = 3) (hO : RA S 2000 13 1) (p0 : Int32) (p1 : Int32) (hc : CX a0 D y l yX3_chamber wsX3_chamber rm_X3_chamber [.ref (sa S 0), .int p0, .int p1] (S, V, (sT V), I) "java/lang/IndexOutOfBoundsException" 2 12) : CWr a0 D y l yL_chamber wsL_chamber rm_L_chamber [.ref (sa S 0), .int p0, .int p1, .ref (sa S 2000)] (S, V, (sT V), I) (fun z u => z = 1 ∧ u = (S, V, sT V, I)) 2 12 := by
  refine CWr.of (cc := cL_chamber) (maxL := 5) (ret := (some .int)) (hh := [(0, 10, 13, 21)]) (by decide) rfl (Nat.le_of_ble_eq_true rfl) ?_
  intro pv ev s mv below meth cv A hx hb hml hr hown hts hlocks htab hM hE hNc ls hl
  have hown : s.vm.findClass RL = some mv.cls := hown
  have hl : lv_has ls 5 [(0, .ref (sa S 0)), (1, .int p0), (2, .int p1), (3, .ref (sa S 2000))] := hl
  refine vx_ret ?_
  refine lv_aload_n hx hb dL_chamber_0 rfl (lv_at hl 3 rfl) ?_
  refine lv_iconst (v := 0) hx hb dL_chamber_1 (by decide) ?_
  refine lv_aload_n hx hb dL_chamber_2 rfl (lv_at hl 0 rfl) ?_
  refine lv_iload_n hx hb dL_chamber_3 rfl (lv_at hl 1 rfl) ?_
  refine lv_iload_n hx hb dL_chamber_4 rfl (lv_at hl 2 rfl) ?_
  refine fb_xcatchV (r := 0) hx hb hml hown hts hM hE (h0.1) (ce3 (h0.2)) rfl (As := [.int p0, .int p1]) (rest := [.int 0, .ref (sa S 2000)]) (hc) (cwV 2 hts gL_chamber_X3_chamber rfl rfl rfl (by decide +kernel) ⟨Nat.le_of_ble_eq_true rfl, Nat.le_of_ble_eq_true rfl⟩) rfl hl.1 rfl (Nat.le_of_ble_eq_true rfl) dL_chamber_5 ⟨Nat.le_of_ble_eq_true rfl, Nat.le_of_ble_eq_true rfl⟩ (fun ce q9 H locs hM hce hcv hcl => ?_)
  refine vx_catch (name := "java/lang/IndexOutOfBoundsException") hown [] ⟨0, 10, 13, 21⟩ [] (htab.trans rfl) (fun z hz => nomatch hz) (by decide) (by decide) (hts (.classLink RL 21 "java/lang/IndexOutOfBoundsException") (by decide +kernel)) (va_Nw.use rfl (hE.1.1 "java/lang/IndexOutOfBoundsException" (by simp [fb_exc]))) hce hcv hcl ?_
  refine lv_astore (lv' := [(4, .ref q9), (0, .ref (sa S 0)), (1, .int p0), (2, .int p1), (3, .ref (sa S 2000))]) hx hb dL_chamber_13 hl (by decide) rfl (fun ls hl => ?_)
  refine lv_iconst (v := 1) hx hb dL_chamber_15 (by decide) ?_
  refine W.widen (show _ ≤ 2 from Nat.le_of_ble_eq_true rfl) (show _ ≤ 12 from Nat.le_of_ble_eq_true rfl) ?_
  exact fb_iret hx hb hr hlocks hM ⟨rfl, rfl⟩ dL_chamber_16

abbrev rm_L_bestWind : Room := { frames := 8, cells := 3, slots := 18, locals := 181 }
set_option maxHeartbeats 4000000 in
set_option maxRecDepth 100000 in
theorem c_L_bestWind_ok (a0 : Nat × Nat) (D : va_G) (y : Nat → ClassId) (l : Launch) (S : fb_Sh) (V I : fb_V) (h0 : 0 ∈ sR S ∧ sk S 0 = 3) (hO : RA S 2000 13 1) (p0 : Int32) (p1 : Int32) (p2 : Int32) {post : Int32 → fb_W → Prop} (hc : CI D y l yX3_bestWind wsX3_bestWind rm_X3_bestWind [.ref (sa S 0), .int p0, .int p1, .int p2] (S, V, (sT V), I) post 3 18) (hp : ∀ v u, post v u → RA u.1 2000 13 1 ∧ sa u.1 2000 = sa S 2000) : CWr a0 D y l yL_bestWind wsL_bestWind rm_L_bestWind [.ref (sa S 0), .int p0, .int p1, .int p2, .ref (sa S 2000)] (S, V, (sT V), I) (fun z u => z = 0 ∧ ∃ v u1, post v u1 ∧ u = (u1.1, u1.2.1, u1.2.2.1, va_up u1.2.2.2 2000 (upd (u1.2.2.2 2000) 0 v))) 3 18 := by
  refine CWr.of (cc := cL_bestWind) (maxL := 6) (ret := (some .int)) (hh := [(0, 12, 15, 21)]) (by decide) rfl (Nat.le_of_ble_eq_true rfl) ?_
  intro pv ev s mv below meth cv A hx hb hml hr hown hts hlocks htab hM hE hNc ls hl
  have hown : s.vm.findClass RL = some mv.cls := hown
  have hl : lv_has ls 6 [(0, .ref (sa S 0)), (1, .int p0), (2, .int p1), (3, .int p2), (4, .ref (sa S 2000))] := hl
  refine vx_ret ?_
  refine lv_aload hx hb dL_bestWind_0 (lv_at hl 4 rfl) ?_
  refine lv_iconst (v := 0) hx hb dL_bestWind_2 (by decide) ?_
  refine lv_aload_n hx hb dL_bestWind_3 rfl (lv_at hl 0 rfl) ?_
  refine lv_iload_n hx hb dL_bestWind_4 rfl (lv_at hl 1 rfl) ?_
  refine lv_iload_n hx hb dL_bestWind_5 rfl (lv_at hl 2 rfl) ?_
  refine lv_iload_n hx hb dL_bestWind_6 rfl (lv_at hl 3 rfl) ?_
  refine fb_callVi (r := 0) hx hb hml hown hts hM (h0.1) (ce3 (h0.2)) rfl (As := [.int p0, .int p1, .int p2]) (rest := [.int 0, .ref (sa S 2000)]) (hc) (cwV 3 hts gL_bestWind_X3_bestWind rfl rfl rfl (by decide +kernel) ⟨Nat.le_of_ble_eq_true rfl, Nat.le_of_ble_eq_true rfl⟩) rfl hl.1 rfl (Nat.le_of_ble_eq_true rfl) dL_bestWind_7 ⟨Nat.le_of_ble_eq_true rfl, Nat.le_of_ble_eq_true rfl⟩ (fun v u H locs hpv hM => ?_)
  obtain ⟨S1, V1, T1, I1⟩ := u
  obtain ⟨hO1, hO2⟩ := hp _ _ hpv
  have hO1 : RA S1 2000 13 1 := hO1
  have hO2 : sa S1 2000 = sa S 2000 := hO2
  refine lv_i2l hx hb dL_bestWind_10 rfl ?_
  rw [← hO2]
  refine fb_last13 hx hb hM hO1 (i := 0) (k := 0) (by decide) (vp_in_nI (n := 0) (N := 1) (by decide) (by decide)) dL_bestWind_11 (fun H locs hM => ?_)
  refine lv_goto (tgt := 19) hx hb dL_bestWind_12 (by decide) ?_
  refine lv_iconst (v := 0) hx hb dL_bestWind_19 (by decide) ?_
  refine W.widen (show _ ≤ 3 from Nat.le_of_ble_eq_true rfl) (show _ ≤ 18 from Nat.le_of_ble_eq_true rfl) ?_
  exact fb_iret hx hb hr hlocks hM ⟨rfl, v, _, hpv, rfl⟩ dL_bestWind_20
set_option maxHeartbeats 4000000 in
set_option maxRecDepth 100000 in
theorem c_L_bestWind_IOE (a0 : Nat × Nat) (D : va_G) (y : Nat → ClassId) (l : Launch) (S : fb_Sh) (V I : fb_V) (h0 : 0 ∈ sR S ∧ sk S 0 = 3) (hO : RA S 2000 13 1) (p0 : Int32) (p1 : Int32) (p2 : Int32) (hc : CX a0 D y l yX3_bestWind wsX3_bestWind rm_X3_bestWind [.ref (sa S 0), .int p0, .int p1, .int p2] (S, V, (sT V), I) "java/lang/IndexOutOfBoundsException" 3 18) : CWr a0 D y l yL_bestWind wsL_bestWind rm_L_bestWind [.ref (sa S 0), .int p0, .int p1, .int p2, .ref (sa S 2000)] (S, V, (sT V), I) (fun z u => z = 1 ∧ u = (S, V, sT V, I)) 3 18 := by
  refine CWr.of (cc := cL_bestWind) (maxL := 6) (ret := (some .int)) (hh := [(0, 12, 15, 21)]) (by decide) rfl (Nat.le_of_ble_eq_true rfl) ?_
  intro pv ev s mv below meth cv A hx hb hml hr hown hts hlocks htab hM hE hNc ls hl
  have hown : s.vm.findClass RL = some mv.cls := hown
  have hl : lv_has ls 6 [(0, .ref (sa S 0)), (1, .int p0), (2, .int p1), (3, .int p2), (4, .ref (sa S 2000))] := hl
  refine vx_ret ?_
  refine lv_aload hx hb dL_bestWind_0 (lv_at hl 4 rfl) ?_
  refine lv_iconst (v := 0) hx hb dL_bestWind_2 (by decide) ?_
  refine lv_aload_n hx hb dL_bestWind_3 rfl (lv_at hl 0 rfl) ?_
  refine lv_iload_n hx hb dL_bestWind_4 rfl (lv_at hl 1 rfl) ?_
  refine lv_iload_n hx hb dL_bestWind_5 rfl (lv_at hl 2 rfl) ?_
  refine lv_iload_n hx hb dL_bestWind_6 rfl (lv_at hl 3 rfl) ?_
  refine fb_xcatchV (r := 0) hx hb hml hown hts hM hE (h0.1) (ce3 (h0.2)) rfl (As := [.int p0, .int p1, .int p2]) (rest := [.int 0, .ref (sa S 2000)]) (hc) (cwV 3 hts gL_bestWind_X3_bestWind rfl rfl rfl (by decide +kernel) ⟨Nat.le_of_ble_eq_true rfl, Nat.le_of_ble_eq_true rfl⟩) rfl hl.1 rfl (Nat.le_of_ble_eq_true rfl) dL_bestWind_7 ⟨Nat.le_of_ble_eq_true rfl, Nat.le_of_ble_eq_true rfl⟩ (fun ce q9 H locs hM hce hcv hcl => ?_)
  refine vx_catch (name := "java/lang/IndexOutOfBoundsException") hown [] ⟨0, 12, 15, 21⟩ [] (htab.trans rfl) (fun z hz => nomatch hz) (by decide) (by decide) (hts (.classLink RL 21 "java/lang/IndexOutOfBoundsException") (by decide +kernel)) (va_Nw.use rfl (hE.1.1 "java/lang/IndexOutOfBoundsException" (by simp [fb_exc]))) hce hcv hcl ?_
  refine lv_astore (lv' := [(5, .ref q9), (0, .ref (sa S 0)), (1, .int p0), (2, .int p1), (3, .int p2), (4, .ref (sa S 2000))]) hx hb dL_bestWind_15 hl (by decide) rfl (fun ls hl => ?_)
  refine lv_iconst (v := 1) hx hb dL_bestWind_17 (by decide) ?_
  refine W.widen (show _ ≤ 3 from Nat.le_of_ble_eq_true rfl) (show _ ≤ 18 from Nat.le_of_ble_eq_true rfl) ?_
  exact fb_iret hx hb hr hlocks hM ⟨rfl, rfl⟩ dL_bestWind_18

abbrev rm_L_addTick : Room := { frames := 8, cells := 81, slots := 480, locals := 225 }
set_option maxHeartbeats 4000000 in
set_option maxRecDepth 100000 in
theorem c_L_addTick_ok (a0 : Nat × Nat) (D : va_G) (y : Nat → ClassId) (l : Launch) (S : fb_Sh) (V I : fb_V) (h0 : 0 ∈ sR S ∧ sk S 0 = 3) (hO : RA S 2000 13 1) (p0 : Int32) (p1 : Int32) (p2 : Int32) {post : Int32 → fb_W → Prop} (hc : CIE a0 D y l yX3_addTick wsX3_addTick rm_X3_addTick [.ref (sa S 0), .int p0, .int p1, .int p2] (S, V, (sT V), I) post 81 480) (hp : ∀ v u, post v u → RA u.1 2000 13 1 ∧ sa u.1 2000 = sa S 2000) : CWr a0 D y l yL_addTick wsL_addTick rm_L_addTick [.ref (sa S 0), .int p0, .int p1, .int p2, .ref (sa S 2000)] (S, V, (sT V), I) (fun z u => z = 0 ∧ ∃ v u1, post v u1 ∧ u = (u1.1, u1.2.1, u1.2.2.1, va_up u1.2.2.2 2000 (upd (u1.2.2.2 2000) 0 v))) 81 480 := by
  refine CWr.of (cc := cL_addTick) (maxL := 6) (ret := (some .int)) (hh := [(0, 12, 15, 13), (0, 12, 19, 15)]) (by decide) rfl (Nat.le_of_ble_eq_true rfl) ?_
  intro pv ev s mv below meth cv A hx hb hml hr hown hts hlocks htab hM hE hNc ls hl
  have hown : s.vm.findClass RL = some mv.cls := hown
  have hl : lv_has ls 6 [(0, .ref (sa S 0)), (1, .int p0), (2, .int p1), (3, .int p2), (4, .ref (sa S 2000))] := hl
  refine vx_ret ?_
  refine lv_aload hx hb dL_addTick_0 (lv_at hl 4 rfl) ?_
  refine lv_iconst (v := 0) hx hb dL_addTick_2 (by decide) ?_
  refine lv_aload_n hx hb dL_addTick_3 rfl (lv_at hl 0 rfl) ?_
  refine lv_iload_n hx hb dL_addTick_4 rfl (lv_at hl 1 rfl) ?_
  refine lv_iload_n hx hb dL_addTick_5 rfl (lv_at hl 2 rfl) ?_
  refine lv_iload_n hx hb dL_addTick_6 rfl (lv_at hl 3 rfl) ?_
  refine fb_callEVi (r := 0) hx hb hml hown hts hM hE (h0.1) (ce3 (h0.2)) rfl (As := [.int p0, .int p1, .int p2]) (rest := [.int 0, .ref (sa S 2000)]) (hc) (cwV 3 hts gL_addTick_X3_addTick rfl rfl rfl (by decide +kernel) ⟨Nat.le_of_ble_eq_true rfl, Nat.le_of_ble_eq_true rfl⟩) rfl hl.1 rfl (Nat.le_of_ble_eq_true rfl) dL_addTick_7 ⟨Nat.le_of_ble_eq_true rfl, Nat.le_of_ble_eq_true rfl⟩ (fun v u H locs hpv hM => ?_)
  obtain ⟨S1, V1, T1, I1⟩ := u
  obtain ⟨hO1, hO2⟩ := hp _ _ hpv
  have hO1 : RA S1 2000 13 1 := hO1
  have hO2 : sa S1 2000 = sa S 2000 := hO2
  refine lv_i2l hx hb dL_addTick_10 rfl ?_
  rw [← hO2]
  refine fb_last13 hx hb hM hO1 (i := 0) (k := 0) (by decide) (vp_in_nI (n := 0) (N := 1) (by decide) (by decide)) dL_addTick_11 (fun H locs hM => ?_)
  refine lv_goto (tgt := 23) hx hb dL_addTick_12 (by decide) ?_
  refine lv_iconst (v := 0) hx hb dL_addTick_23 (by decide) ?_
  refine W.widen (show _ ≤ 81 from Nat.le_of_ble_eq_true rfl) (show _ ≤ 480 from Nat.le_of_ble_eq_true rfl) ?_
  exact fb_iret hx hb hr hlocks hM ⟨rfl, v, _, hpv, rfl⟩ dL_addTick_24
set_option maxHeartbeats 4000000 in
set_option maxRecDepth 100000 in
theorem c_L_addTick_IAE (a0 : Nat × Nat) (D : va_G) (y : Nat → ClassId) (l : Launch) (S : fb_Sh) (V I : fb_V) (h0 : 0 ∈ sR S ∧ sk S 0 = 3) (hO : RA S 2000 13 1) (p0 : Int32) (p1 : Int32) (p2 : Int32) (hc : CX a0 D y l yX3_addTick wsX3_addTick rm_X3_addTick [.ref (sa S 0), .int p0, .int p1, .int p2] (S, V, (sT V), I) "java/lang/IllegalArgumentException" 81 480) : CWr a0 D y l yL_addTick wsL_addTick rm_L_addTick [.ref (sa S 0), .int p0, .int p1, .int p2, .ref (sa S 2000)] (S, V, (sT V), I) (fun z u => z = 1 ∧ u = (S, V, sT V, I)) 81 480 := by
  refine CWr.of (cc := cL_addTick) (maxL := 6) (ret := (some .int)) (hh := [(0, 12, 15, 13), (0, 12, 19, 15)]) (by decide) rfl (Nat.le_of_ble_eq_true rfl) ?_
  intro pv ev s mv below meth cv A hx hb hml hr hown hts hlocks htab hM hE hNc ls hl
  have hown : s.vm.findClass RL = some mv.cls := hown
  have hl : lv_has ls 6 [(0, .ref (sa S 0)), (1, .int p0), (2, .int p1), (3, .int p2), (4, .ref (sa S 2000))] := hl
  refine vx_ret ?_
  refine lv_aload hx hb dL_addTick_0 (lv_at hl 4 rfl) ?_
  refine lv_iconst (v := 0) hx hb dL_addTick_2 (by decide) ?_
  refine lv_aload_n hx hb dL_addTick_3 rfl (lv_at hl 0 rfl) ?_
  refine lv_iload_n hx hb dL_addTick_4 rfl (lv_at hl 1 rfl) ?_
  refine lv_iload_n hx hb dL_addTick_5 rfl (lv_at hl 2 rfl) ?_
  refine lv_iload_n hx hb dL_addTick_6 rfl (lv_at hl 3 rfl) ?_
  refine fb_xcatchV (r := 0) hx hb hml hown hts hM hE (h0.1) (ce3 (h0.2)) rfl (As := [.int p0, .int p1, .int p2]) (rest := [.int 0, .ref (sa S 2000)]) (hc) (cwV 3 hts gL_addTick_X3_addTick rfl rfl rfl (by decide +kernel) ⟨Nat.le_of_ble_eq_true rfl, Nat.le_of_ble_eq_true rfl⟩) rfl hl.1 rfl (Nat.le_of_ble_eq_true rfl) dL_addTick_7 ⟨Nat.le_of_ble_eq_true rfl, Nat.le_of_ble_eq_true rfl⟩ (fun ce q9 H locs hM hce hcv hcl => ?_)
  refine vx_catch (name := "java/lang/IllegalArgumentException") hown [] ⟨0, 12, 15, 13⟩ [⟨0, 12, 19, 15⟩] (htab.trans rfl) (fun z hz => nomatch hz) (by decide) (by decide) (hts (.classLink RL 13 "java/lang/IllegalArgumentException") (by decide +kernel)) (va_Nw.use rfl (hE.1.1 "java/lang/IllegalArgumentException" (by simp [fb_exc]))) hce hcv hcl ?_
  refine lv_astore (lv' := [(5, .ref q9), (0, .ref (sa S 0)), (1, .int p0), (2, .int p1), (3, .int p2), (4, .ref (sa S 2000))]) hx hb dL_addTick_15 hl (by decide) rfl (fun ls hl => ?_)
  refine lv_iconst (v := 1) hx hb dL_addTick_17 (by decide) ?_
  refine W.widen (show _ ≤ 81 from Nat.le_of_ble_eq_true rfl) (show _ ≤ 480 from Nat.le_of_ble_eq_true rfl) ?_
  exact fb_iret hx hb hr hlocks hM ⟨rfl, rfl⟩ dL_addTick_18
set_option maxHeartbeats 4000000 in
set_option maxRecDepth 100000 in
theorem c_L_addTick_ISE (a0 : Nat × Nat) (D : va_G) (y : Nat → ClassId) (l : Launch) (S : fb_Sh) (V I : fb_V) (h0 : 0 ∈ sR S ∧ sk S 0 = 3) (hO : RA S 2000 13 1) (p0 : Int32) (p1 : Int32) (p2 : Int32) (hc : CX a0 D y l yX3_addTick wsX3_addTick rm_X3_addTick [.ref (sa S 0), .int p0, .int p1, .int p2] (S, V, (sT V), I) "java/lang/IllegalStateException" 81 480) : CWr a0 D y l yL_addTick wsL_addTick rm_L_addTick [.ref (sa S 0), .int p0, .int p1, .int p2, .ref (sa S 2000)] (S, V, (sT V), I) (fun z u => z = 2 ∧ u = (S, V, sT V, I)) 81 480 := by
  refine CWr.of (cc := cL_addTick) (maxL := 6) (ret := (some .int)) (hh := [(0, 12, 15, 13), (0, 12, 19, 15)]) (by decide) rfl (Nat.le_of_ble_eq_true rfl) ?_
  intro pv ev s mv below meth cv A hx hb hml hr hown hts hlocks htab hM hE hNc ls hl
  have hown : s.vm.findClass RL = some mv.cls := hown
  have hl : lv_has ls 6 [(0, .ref (sa S 0)), (1, .int p0), (2, .int p1), (3, .int p2), (4, .ref (sa S 2000))] := hl
  refine vx_ret ?_
  refine lv_aload hx hb dL_addTick_0 (lv_at hl 4 rfl) ?_
  refine lv_iconst (v := 0) hx hb dL_addTick_2 (by decide) ?_
  refine lv_aload_n hx hb dL_addTick_3 rfl (lv_at hl 0 rfl) ?_
  refine lv_iload_n hx hb dL_addTick_4 rfl (lv_at hl 1 rfl) ?_
  refine lv_iload_n hx hb dL_addTick_5 rfl (lv_at hl 2 rfl) ?_
  refine lv_iload_n hx hb dL_addTick_6 rfl (lv_at hl 3 rfl) ?_
  refine fb_xcatchV (r := 0) hx hb hml hown hts hM hE (h0.1) (ce3 (h0.2)) rfl (As := [.int p0, .int p1, .int p2]) (rest := [.int 0, .ref (sa S 2000)]) (hc) (cwV 3 hts gL_addTick_X3_addTick rfl rfl rfl (by decide +kernel) ⟨Nat.le_of_ble_eq_true rfl, Nat.le_of_ble_eq_true rfl⟩) rfl hl.1 rfl (Nat.le_of_ble_eq_true rfl) dL_addTick_7 ⟨Nat.le_of_ble_eq_true rfl, Nat.le_of_ble_eq_true rfl⟩ (fun ce q9 H locs hM hce hcv hcl => ?_)
  refine vx_catch (name := "java/lang/IllegalStateException") hown [⟨0, 12, 15, 13⟩] ⟨0, 12, 19, 15⟩ [] (htab.trans rfl) (fun z hz => by cases List.mem_singleton.mp hz; exact Or.inr ⟨by decide, _, (hts (.classLink RL 13 "java/lang/IllegalArgumentException") (by decide +kernel)), hNc.2.2⟩) (by decide) (by decide) (hts (.classLink RL 15 "java/lang/IllegalStateException") (by decide +kernel)) (va_Nw.use rfl (hE.1.1 "java/lang/IllegalStateException" (by simp [fb_exc]))) hce hcv hcl ?_
  refine lv_astore (lv' := [(5, .ref q9), (0, .ref (sa S 0)), (1, .int p0), (2, .int p1), (3, .int p2), (4, .ref (sa S 2000))]) hx hb dL_addTick_19 hl (by decide) rfl (fun ls hl => ?_)
  refine lv_iconst (v := 2) hx hb dL_addTick_21 (by decide) ?_
  refine W.widen (show _ ≤ 81 from Nat.le_of_ble_eq_true rfl) (show _ ≤ 480 from Nat.le_of_ble_eq_true rfl) ?_
  exact fb_iret hx hb hr hlocks hM ⟨rfl, rfl⟩ dL_addTick_22
