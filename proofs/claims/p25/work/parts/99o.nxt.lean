/-! the invariant over new roles, over trials and parts, over a night -/
theorem Iv.more {a1 : Nat} {P : Nat → Prop} {S S' : fb_Sh} {V I J : fb_V} {ns nt N F F' : Nat} {rho cf rf df : Nat → Nat} (h : Iv a1 S V I ns nt rho cf rf df N F) (hE : Ext P S S') (hP : ∀ x, P x → F ≤ x) (hF : Fs S' F') (hJ : ∀ x, x < F → J x = I x) : Iv a1 S' V J ns nt rho cf rf df N F' := by
  obtain ⟨⟨hC, hA⟩, ⟨hR, hFs⟩, ⟨c1, c2, c3, c4, c5⟩, ⟨hW, hs, hc, ht, hz⟩, g5, g6⟩ := h
  have h4 := hFs.1
  have hPn (x : Nat) (hx : P x) : x ∉ sR S := fun z => by have := hFs.2 x z; have := hP x hx; omega
  refine ⟨⟨hC.hi hE (fun x hx => by have := hP x hx; omega) (by omega) (by omega), hA.grow hE hPn⟩, ⟨hR, hF⟩, ⟨by rw [hJ 1 (by omega)]; exact c1, by rw [hJ 2 (by omega)]; exact c2, c3, c4, fun t htl => ?_⟩, ⟨hW.same (hJ 0 (by omega)) (hJ 1000 (by omega)) (Nat.le_refl _), fun i hi => (hs i hi).same rfl (hJ _ (hA.rlt hFs hi)) (hJ _ (by omega)) (by rw [hJ 1001 (by omega)]), fun c hc5 => (hc c hc5).same rfl (hJ _ (by omega)) (Nat.le_refl _), fun t htl => (ht t htl).same (fun _ _ => rfl) (fun x h1 h2 => hJ x (by omega)) (hJ _ (by omega)), hz⟩, g5, g6⟩
  have h6 := c5 t htl
  unfold TF at h6 ⊢
  rw [hJ (30 + 4 * t) (by omega)]
  exact h6
def NxR (V I V' J : fb_V) : Prop := (∀ x, x < 732 → V' x = V x) ∧ ∀ x, x ≠ 54 → x ≠ 56 → (∀ t, t < 7 → x ≠ 33 + 4 * t) → J x = I x
theorem Iv.nx {a1 : Nat} {S : fb_Sh} {V I V' J : fb_V} {ns nt N F : Nat} {rho cf rf df : Nat → Nat} (h : Iv a1 S V I ns nt rho cf rf df N F) (hR : NxR V I V' J) (hz : TZ (tv V' 732)) : Iv a1 S V' J ns nt rho cf rf df N F := by
  obtain ⟨hV, hJ⟩ := hR
  obtain ⟨g1, ⟨hRh, hFs⟩, ⟨c1, c2, c3, c4, c5⟩, ⟨hW, hs, hc, ht, -⟩, g5, g6⟩ := h
  have hi3 (i : Nat) (hi : i < ns) := hRh.1 i hi
  refine ⟨g1, ⟨hRh, hFs⟩, ⟨by rw [hJ 1 (by omega) (by omega) (fun t _ => by omega)]; exact c1, by rw [hJ 2 (by omega) (by omega) (fun t _ => by omega)]; exact c2, c3, c4, fun t htl => ?_⟩, ⟨hW.same (hJ 0 (by omega) (by omega) (fun t _ => by omega)) (hJ 1000 (by omega) (by omega) (fun t _ => by omega)) (Nat.le_refl _), fun i hi => (hs i hi).same (hV _ (by omega)) (by have := hi3 i hi; exact hJ _ (by omega) (by omega) (fun t _ => by omega)) (hJ _ (by omega) (by omega) (fun t _ => by omega)) (by rw [hJ 1001 (by omega) (by omega) (fun t _ => by omega)]), fun c hc5 => (hc c hc5).same (hV _ (by omega)) (hJ _ (by omega) (by omega) (fun t _ => by omega)) (Nat.le_refl _), fun t htl => (ht t htl).same (fun q hq => hV _ (by omega)) (fun x h1 h2 => hJ x (by omega) (by omega) (fun t _ => by omega)) (hJ _ (by omega) (by omega) (fun t _ => by omega)), hz⟩, g5, g6⟩
  have h6 := c5 t htl
  unfold TF at h6 ⊢
  rw [hJ (30 + 4 * t) (by omega) (by omega) (fun t _ => by omega)]
  exact h6
/-- what is told of a tick: nothing but trials and parts moves -/
def Nx (a1 : Nat) (S : fb_Sh) (V I : fb_V) (ns nt : Nat) (rho cf rf df : Nat → Nat) (N F : Nat) (u : fb_W) : Prop := ∃ V' J, u = (S, V', sT V', J) ∧ NxR V I V' J ∧ Iv a1 S V' J ns nt rho cf rf df N F
theorem Jt.nb {V I : fb_V} {t c r d : Nat} (h : Jt V I t c r d) : ∀ k, k < 2 * (c * r) → trB I (30 + 4 * t) k = I (30 + 4 * t + 2) k := fun k hk => by
  rw [trB_cg I (30 + 4 * t) h.n36.2 k hk]
  have h5 := (h.2.2.2.2 (k / 2) (k % 2) (by omega) (by omega)).2
  rw [show 2 * (k / 2) + k % 2 = k by omega] at h5
  unfold nbB
  rcases h5 with e | e
  · rw [e]; decide
  · rw [e]; decide
theorem Jt.c1 {V I : fb_V} {t c r d : Nat} (h : Jt V I t c r d) : 1 ≤ c ∧ d ≤ 9 := ⟨h.1.2.2.2.1, h.1.2.2.2.2.2.2.2.2⟩
section NXC
variable (D : va_G) (y : Nat → ClassId) (l : Launch) (S : fb_Sh) (V I : fb_V) (a1 ns nt N F : Nat) (rho cf rf df : Nat → Nat)
theorem nx_tri (hI : Iv a1 S V I ns nt rho cf rf df N F) (t : Nat) (ht : t < nt) {Y : fb_V} (hY : TZ Y) {u : fb_W} (hu : u = (S, stv (trV V (300 + 72 * t)) 732 Y, sT (stv (trV V (300 + 72 * t)) 732 Y), trI I (30 + 4 * t) (cf t) (rf t) (df t))) : Nx a1 S V I ns nt rho cf rf df N F u := by
  have hR : NxR V I (stv (trV V (300 + 72 * t)) 732 Y) (trI I (30 + 4 * t) (cf t) (rf t) (df t)) := ⟨fun x hx => by
    rw [stv_out _ _ _ (Or.inl hx)]
    unfold trV
    rw [stv_out _ _ _ (Or.inl hx)], fun x h1 h2 _ => trI_out _ _ _ _ _ h1 h2⟩
  refine ⟨_, _, hu, hR, hI.nx hR (fun q hq => ?_)⟩
  rw [tv_stv _ _ _ hq]
  exact hY q hq
theorem nx_k (hI : Iv a1 S V I ns nt rho cf rf df N F) (t : Nat) (ht : t < nt) : (∀ q, q < 36 → trX V (300 + 72 * t) q = tv V (300 + 72 * t) q) ∧ BX (trX V (300 + 72 * t)) := by
  have htk := hI.2.2.2.1.2.2.2.1 t ht
  have h3 := hI.2.2.2.2.2
  have hX : ∀ q, q < 36 → trX V (300 + 72 * t) q = tv V (300 + 72 * t) q := trX_c0 (by omega) htk.2.1.tz hI.2.2.2.1.2.2.2.2
  exact ⟨hX, fun q hq => by rw [hX q hq]; exact htk.2.1 q hq⟩
theorem nx_ngs (hI : Iv a1 S V I ns nt rho cf rf df N F) (t : Nat) (ht : t < nt) (z : Nat) : ∀ q, q < 36 → ngs (cf t) (cf t * rf t) (df t) (trB I (30 + 4 * t)) (trX V (300 + 72 * t)) z q = ngs (cf t) (cf t * rf t) (df t) (I (30 + 4 * t + 2)) (tv V (300 + 72 * t)) z q := by
  have htk := hI.2.2.2.1.2.2.2.1 t ht
  exact ngs_cg rfl htk.c1.1 htk.n36.2 htk.nb (nx_k S V I a1 ns nt N F rho cf rf df hI t ht).1 z
theorem nx_tz (hI : Iv a1 S V I ns nt rho cf rf df N F) (t : Nat) (ht : t < nt) (z : Nat) : TZ (ngs (cf t) (cf t * rf t) (df t) (trB I (30 + 4 * t)) (trX V (300 + 72 * t)) z) := by
  have htk := hI.2.2.2.1.2.2.2.1 t ht
  exact ngs_tz rfl htk.c1.1 htk.n36.2 (nx_k S V I a1 ns nt N F rho cf rf df hI t ht).2.tz z
theorem nx_nf (hI : Iv a1 S V I ns nt rho cf rf df N F) (t : Nat) (ht : t < nt) (z : Nat) : NF (cf t) (cf t * rf t) (df t) (trB I (30 + 4 * t)) (trX V (300 + 72 * t)) z := by
  have htk := hI.2.2.2.1.2.2.2.1 t ht
  exact NF_B rfl htk.c1.1 htk.n36.2 htk.c1.2 (nx_k S V I a1 ns nt N F rho cf rf df hI t ht).2 z
theorem nx_cw (hI : Iv a1 S V I ns nt rho cf rf df N F) (t : Nat) (ht : t < nt) (z : Nat) : wm (ngs (cf t) (cf t * rf t) (df t) (trB I (30 + 4 * t)) (trX V (300 + 72 * t)) z (cld (ngs (cf t) (cf t * rf t) (df t) (trB I (30 + 4 * t)) (trX V (300 + 72 * t)) z) (cf t * rf t))) = cwk (cf t) (cf t * rf t) (df t) (I (30 + 4 * t + 2)) (tv V (300 + 72 * t)) z := by
  have htk := hI.2.2.2.1.2.2.2.1 t ht
  exact cwk_cg rfl htk.c1.1 htk.n36.1 htk.n36.2 htk.nb (nx_k S V I a1 ns nt N F rho cf rf df hI t ht).1 z
theorem c_fs0 (hI : Iv a1 S V I ns nt rho cf rf df N F) (t : Nat) (ht : t < nt) : CI D y l yX3_foresee wsX3_foresee rm_X3_foresee [.ref (sa S 0), .int (nI t), .int 1, .int 0] (S, V, (sT V), I) (fun v u => v = fsum (ngt (cf t) (cf t * rf t) (df t) (I (30 + 4 * t + 2)) (tv V (300 + 72 * t))) 36 ∧ Nx a1 S V I ns nt rho cf rf df N F u) 3 18 :=
  (c_X3_foresee_ok0 D y l S V I a1 ns nt 4 10 hI.1.1 cf rf df hI.2.2.1 t ht 1 (by decide) (by decide) (nx_nf S V I a1 ns nt N F rho cf rf df hI t ht 1)).mono (fun v u h => ⟨h.1.trans (fsum_cg 36 (nx_ngs S V I a1 ns nt N F rho cf rf df hI t ht 1)), nx_tri S V I a1 ns nt N F rho cf rf df hI t ht (nx_tz S V I a1 ns nt N F rho cf rf df hI t ht 1) h.2⟩)
theorem c_fs1 (hI : Iv a1 S V I ns nt rho cf rf df N F) (t : Nat) (ht : t < nt) : CI D y l yX3_foresee wsX3_foresee rm_X3_foresee [.ref (sa S 0), .int (nI t), .int 1, .int 1] (S, V, (sT V), I) (fun v u => v = cwk (cf t) (cf t * rf t) (df t) (I (30 + 4 * t + 2)) (tv V (300 + 72 * t)) 1 ∧ Nx a1 S V I ns nt rho cf rf df N F u) 3 18 :=
  (c_X3_foresee_ok1 D y l S V I a1 ns nt 4 10 hI.1.1 cf rf df hI.2.2.1 t ht 1 (by decide) (by decide) (nx_nf S V I a1 ns nt N F rho cf rf df hI t ht 1)).mono (fun v u h => ⟨h.1.trans (nx_cw S V I a1 ns nt N F rho cf rf df hI t ht 1), nx_tri S V I a1 ns nt N F rho cf rf df hI t ht (nx_tz S V I a1 ns nt N F rho cf rf df hI t ht 1) h.2⟩)
theorem c_fs2 (hI : Iv a1 S V I ns nt rho cf rf df N F) (t : Nat) (ht : t < nt) : CI D y l yX3_foresee wsX3_foresee rm_X3_foresee [.ref (sa S 0), .int (nI t), .int 1, .int 2] (S, V, (sT V), I) (fun v u => v = nI (cld (ngt (cf t) (cf t * rf t) (df t) (I (30 + 4 * t + 2)) (tv V (300 + 72 * t))) (cf t * rf t)) ∧ Nx a1 S V I ns nt rho cf rf df N F u) 3 18 :=
  (c_X3_foresee_ok2 D y l S V I a1 ns nt 4 10 hI.1.1 cf rf df hI.2.2.1 t ht 1 (by decide) (by decide) (nx_nf S V I a1 ns nt N F rho cf rf df hI t ht 1)).mono (fun v u h => ⟨h.1.trans (congrArg nI (cld_cg _ (fun q hq => nx_ngs S V I a1 ns nt N F rho cf rf df hI t ht 1 q (by have := (hI.2.2.2.1.2.2.2.1 t ht).n36; omega)))), nx_tri S V I a1 ns nt N F rho cf rf df hI t ht (nx_tz S V I a1 ns nt N F rho cf rf df hI t ht 1) h.2⟩)
theorem c_ls (hI : Iv a1 S V I ns nt rho cf rf df N F) (t : Nat) (ht : t < nt) : CI D y l yX3_lasts wsX3_lasts rm_X3_lasts [.ref (sa S 0), .int (nI t), .int 40] (S, V, (sT V), I) (fun v u => LsP (cwk (cf t) (cf t * rf t) (df t) (I (30 + 4 * t + 2)) (tv V (300 + 72 * t))) v ∧ Nx a1 S V I ns nt rho cf rf df N F u) 2 12 :=
  (c_X3_lasts_ok D y l S V I a1 ns nt 4 10 hI.1.1 cf rf df hI.2.2.1 t ht 40 (by decide) (by decide)).mono (fun v u h => by
    obtain ⟨k, Y, k1, k2, k3, k4, ⟨z, hz⟩, k5⟩ := h
    refine ⟨⟨k, k1, fun j hj => ?_, fun hk => ?_, ?_⟩, nx_tri S V I a1 ns nt N F rho cf rf df hI t ht (by rw [hz]; exact nx_tz S V I a1 ns nt N F rho cf rf df hI t ht z) k5⟩
    · rw [← nx_cw S V I a1 ns nt N F rho cf rf df hI t ht j]; exact k2 j hj
    · rw [← nx_cw S V I a1 ns nt N F rho cf rf df hI t ht k]; exact k3 hk
    · rw [← nx_cw S V I a1 ns nt N F rho cf rf df hI t ht k]; exact k4)
theorem c_tk (hI : Iv a1 S V I ns nt rho cf rf df N F) (t : Nat) (ht : t < nt) (k : Nat) (hk : k < 8) : CI D y l yX3_tick wsX3_tick rm_X3_tick [.ref (sa S 0), .int (nI t), .int (nI k)] (S, V, (sT V), I) (fun z u => z = ctk (cf t) (rf t) (df t) (tv V (300 + 72 * t)) (I (30 + 4 * t + 2)) 0 k ∧ ∃ J, u = (S, V, sT V, J) ∧ NxR V I V J ∧ Iv a1 S V J ns nt rho cf rf df N F) 2 12 :=
  (c_X3_tick_ok D y l S V I a1 ns nt 4 10 hI.1.1 cf rf df hI.2.2.1 t ht k (by omega)).mono (fun z u h => by
    obtain ⟨p, g, -, h2, h3⟩ := h
    have hR : NxR V I V (va_up I (30 + 4 * t + 3) g) := ⟨fun _ _ => rfl, fun x _ _ h9 => va_up_ne _ _ (by have := h9 t (by have := hI.2.2.2.2.2; omega); omega)⟩
    exact ⟨h2.trans (ctk_p _ _ _ _ _ _ _ hk), _, h3, hR, hI.nx hR hI.2.2.2.1.2.2.2.2⟩)
end NXC
/-- a night, on both sides -/
theorem Iv.pass {a1 : Nat} {S : fb_Sh} {V I J : fb_V} {ns nt N F : Nat} {rho cf rf df : Nat → Nat} (h : Iv a1 S V I ns nt rho cf rf df N F) (e4 : J 0 4 = I 0 4) (e6 : J 0 6 = I 0 6) (e2 : J 1000 2 = I 1000 2) (er : ∀ t, t < nt → ∀ q, q < cf t * rf t → J (1100 + 100 * t + 10 + q) = ngt (cf t) (cf t * rf t) (df t) (I (30 + 4 * t + 2)) (tv V (300 + 72 * t)) q) (eo : ∀ x, x ≠ 0 → x ≠ 1000 → (∀ t, t < nt → x < 1100 + 100 * t + 10 ∨ 1100 + 100 * t + 10 + cf t * rf t ≤ x) → J x = I x) : Iv a1 S (psV V I cf rf df 1 nt) J ns nt rho cf rf df N F := by
  obtain ⟨g1, ⟨hRh, hFs⟩, ⟨c1, c2, c3, c4, c5⟩, ⟨⟨⟨w, w1, w2, w3, w4⟩, y6, y1, y2⟩, hs, hc, ht, hz⟩, g5, g6⟩ := h
  have n36 (t : Nat) (htl : t < nt) := (ht t htl).n36
  have hi3 (i : Nat) (hi : i < ns) := hRh.1 i hi
  have lo (x : Nat) (h0 : x ≠ 0) (h1 : x ≠ 1000) (h2 : x < 1110) : J x = I x := eo x h0 h1 (fun t _ => Or.inl (by omega))
  have vo (x : Nat) (hx : x < 300 ∨ 300 + 72 * nt ≤ x) : psV V I cf rf df 1 nt x = V x := psV_out V I cf rf df 1 nt hx
  have vi (t : Nat) (htl : t < nt) (q : Nat) (hq : q < 36) : psV V I cf rf df 1 nt (300 + 72 * t + 2 * q) = ngt (cf t) (cf t * rf t) (df t) (I (30 + 4 * t + 2)) (tv V (300 + 72 * t)) q := psV_in V I cf rf df 1 nt t q htl hq
  refine ⟨g1, ⟨hRh, hFs⟩, ⟨by rw [lo 1 (by omega) (by omega) (by omega)]; exact c1, by rw [lo 2 (by omega) (by omega) (by omega)]; exact c2, c3, c4, fun t htl => ?_⟩, ⟨⟨⟨w, w1, w2, e4.trans w3, e2.trans w4⟩, y6, y1, e6.trans y2⟩, fun i hi => (hs i hi).same (vo _ (by omega)) ?_ (lo _ (by omega) (by omega) (by omega)) (by rw [lo 1001 (by omega) (by omega) (by omega)]), fun c hc5 => (hc c hc5).same (vo _ (by omega)) (lo _ (by omega) (by omega) (by omega)) (Nat.le_refl _), fun t htl => ?_, fun q hq => ?_⟩, g5, g6⟩
  · have h6 := c5 t htl
    unfold TF at h6 ⊢
    rw [lo (30 + 4 * t) (by omega) (by omega) (by omega)]
    exact h6
  · have := hi3 i hi
    refine eo _ (by omega) (by omega) (fun t htl => ?_)
    have := n36 t htl
    omega
  · have hk := ht t htl
    have hn := n36 t htl
    have ro (x : Nat) (h1 : 1100 + 100 * t ≤ x) (h2 : x < 1110 + 100 * t ∨ (1146 + 100 * t ≤ x ∧ x < 1200 + 100 * t)) : J x = I x := eo x (by omega) (by omega) (fun u hu => by have := n36 u hu; omega)
    refine ⟨hk.1.row (ro _ (by omega) (by omega)), fun q hq => ?_, fun q hq => ?_, fun q h1 h2 => ?_, fun q e hq he => ?_⟩
    · show Bd (psV V I cf rf df 1 nt (300 + 72 * t + 2 * q)) 300
      rw [vi t htl q hq]
      exact ngs_B (B := I (30 + 4 * t + 2)) rfl hk.c1.1 hn.2 hk.c1.2 hk.2.1 1 q hq
    · rw [er t htl q hq, vi t htl q (by omega)]
    · rw [vi t htl q h2]
      exact ngt_z rfl hk.c1.1 h1 h2 (hk.2.2.2.1 q h1 h2)
    · rw [ro _ (by omega) (by omega), lo _ (by omega) (by omega) (by omega)]
      exact hk.2.2.2.2 q e hq he
  · show tz (psV V I cf rf df 1 nt (732 + 2 * q))
    rw [vo _ (by omega)]
    exact hz q hq
theorem tsum_ps {V V' I : fb_V} {nt : Nat} {cf rf df : Nat → Nat} (hk : ∀ t, t < nt → 1 ≤ cf t ∧ cf t * rf t ≤ 36) (h : ∀ t, t < nt → ∀ q, q < 36 → V' (300 + 72 * t + 2 * q) = ngt (cf t) (cf t * rf t) (df t) (I (30 + 4 * t + 2)) (tv V (300 + 72 * t)) q) : ∀ m, m ≤ nt → tsum V' m = tsum V m - psL V I cf rf df 1 m
  | 0, _ => by show (0 : Int32) = 0 - 0; decide
  | m + 1, hm => by
    show tsum V' m + fsum (tv V' (300 + 72 * m)) 36 = tsum V m + fsum (tv V (300 + 72 * m)) 36 - (psL V I cf rf df 1 m + ngl (cf m) (cf m * rf m) (df m) (I (30 + 4 * m + 2)) (tv V (300 + 72 * m)) 1)
    rw [tsum_ps hk h m (by omega), fsum_cg (X := tv V' (300 + 72 * m)) 36 (fun q hq => h m (by omega) q hq), ngt_fsum rfl (hk m (by omega)).1 (hk m (by omega)).2, ngl_1]
    grind
theorem tot_ps {V I J : fb_V} {a1 ns nt N F : Nat} {S : fb_Sh} {rho cf rf df : Nat → Nat} (h : Iv a1 S V I ns nt rho cf rf df N F) (e6 : J 0 6 = I 0 6) : tsum (psV V I cf rf df 1 nt) nt = tsum V nt - psL V I cf rf df 1 nt ∧ tot (psV V I cf rf df 1 nt) J ns nt = tot V I ns nt - psL V I cf rf df 1 nt := by
  have hns := h.2.2.2.2.1
  have e1 := tsum_ps (V' := psV V I cf rf df 1 nt) (fun t ht => ⟨(h.2.2.2.1.2.2.2.1 t ht).c1.1, (h.2.2.2.1.2.2.2.1 t ht).n36.2⟩) (fun t ht q hq => psV_in V I cf rf df 1 nt t q ht hq) nt (Nat.le_refl _)
  refine ⟨e1, ?_⟩
  unfold tot
  rw [e1, e6, csum_cg (V' := psV V I cf rf df 1 nt) (V := V) ns (fun i hi => psV_out V I cf rf df 1 nt (Or.inl (by omega))), csum_cg (V' := psV V I cf rf df 1 nt) (V := V) 5 (fun i hi => psV_out V I cf rf df 1 nt (Or.inl (by omega)))]
  grind
