/-! the answers are alike -/
section ANS
variable {V I : fb_V} {o ns nt N t : Nat} {cf rf df : Nat → Nat}
theorem an_B (h : RlT V I o t cf rf) : ∀ k, k < 2 * (cf t * rf t) → I (30 + 4 * t + 2) k = I (o + 20 + t) k := fun k hk => (h.2.2 k hk).1
theorem an_X (h : RlT V I o t cf rf) : ∀ q, q < 36 → tv V (300 + 72 * t) q = mx (I (o + 10 + t)) q := fun q hq => (h.2.1 q hq).1
theorem an_square (h : RlT V I o t cf rf) (h36 : cf t * rf t ≤ 36) {q : Nat} (hq : q < cf t * rf t) : ∀ k, k < 10 → csq (cf t) (cf t * rf t) (I (30 + 4 * t + 2)) (tv V (300 + 72 * t)) q k = sqv (cf t) (cf t * rf t) (I (o + 20 + t)) (I (o + 10 + t)) q k := by
  have e := an_X h q (by omega)
  have eb (d : Nat) (hd : d < 2) : ob (cf t) (cf t * rf t) (I (30 + 4 * t + 2)) q d = ob (cf t) (cf t * rf t) (I (o + 20 + t)) q d := by
    unfold ob
    rw [opn_cg (C := I (o + 20 + t)) (an_B h _ (by omega))]
  intro k hk
  match k, hk with
  | 0, _ => exact congrFun e 0
  | 1, _ => exact congrFun e 1
  | 2, _ => exact congrFun e 2
  | 3, _ => exact congrFun e 3
  | 4, _ => exact congrFun e 4
  | 5, _ => exact congrFun e 5
  | 6, _ => exact congrArg s6 e
  | 7, _ => exact congrArg wm e
  | 8, _ => exact eb 0 (by decide)
  | 9, _ => exact eb 1 (by decide)
  | k + 10, h => exact absurd h (by omega)
theorem an_cld (h : RlT V I o t cf rf) (h36 : cf t * rf t ≤ 36) : cld (tv V (300 + 72 * t)) (cf t * rf t) = cld (mx (I (o + 10 + t))) (cf t * rf t) := cld_cg _ (fun q hq => an_X h q (by omega))
theorem an_fsum (h : RlT V I o t cf rf) (h36 : cf t * rf t ≤ 36) : fsum (tv V (300 + 72 * t)) 36 = asf (I (o + 10 + t)) (6 * (cf t * rf t)) := by
  rw [fsum_cg 36 (an_X h), fsum_z h.1 36 h36, asf_fsum]
theorem an_tick (h : RlT V I o t cf rf) (hc : 1 ≤ cf t) (h1 : 1 ≤ cf t * rf t) (h36 : cf t * rf t ≤ 36) {p p' : Int32} (hp : cpt (cf t) (cf t * rf t) (I (30 + 4 * t + 2)) p) (hp' : pts (cf t) (cf t * rf t) (I (o + 20 + t)) p') : ∀ k, k < 9 → ctk (cf t) (rf t) (df t) (tv V (300 + 72 * t)) (I (30 + 4 * t + 2)) p k = tkv (cf t) (rf t) (df t) (I (o + 20 + t)) (I (o + 10 + t)) p' k := by
  intro k hk
  match k, hk with
  | 0, _ => rfl
  | 1, _ => rfl
  | 2, _ => rfl
  | 3, _ => exact an_fsum h h36
  | 4, _ =>
    show wsm (tv V (300 + 72 * t)) 36 = wsm (mx (I (o + 10 + t))) (cf t * rf t)
    rw [wsm_cg 36 (an_X h), wsm_z h.1 36 h36]
  | 5, _ =>
    show wm (tv V (300 + 72 * t) (cld (tv V (300 + 72 * t)) (cf t * rf t))) = wm (mx (I (o + 10 + t)) (cld (mx (I (o + 10 + t))) (cf t * rf t)))
    have hl := cld_lt (mx (I (o + 10 + t))) (cf t * rf t)
    rw [an_cld h h36, an_X h _ (by omega)]
  | 6, _ => exact congrArg nI (an_cld h h36)
  | 7, _ => exact opc_cg _ (an_B h)
  | 8, _ => exact cpt_pts rfl hc h36 (an_B h) hp hp'
  | k + 9, h => exact absurd h (by omega)
theorem an_tickL (h : RlT V I o t cf rf) (h1 : 1 ≤ cf t * rf t) (h36 : cf t * rf t ≤ 36) (hc : 1 ≤ cf t) (p p' : Int32) : ∀ k, k < 8 → ctk (cf t) (rf t) (df t) (tv V (300 + 72 * t)) (I (30 + 4 * t + 2)) p k = tkv (cf t) (rf t) (df t) (I (o + 20 + t)) (I (o + 10 + t)) p' k := by
  intro k hk
  obtain ⟨P0, hP0⟩ : ∃ P0 : Nat → Int32, P0 = P0 := ⟨fun _ => 0, rfl⟩
  match k, hk with
  | 0, _ => rfl
  | 1, _ => rfl
  | 2, _ => rfl
  | 3, _ => exact an_fsum h h36
  | 4, _ =>
    show wsm (tv V (300 + 72 * t)) 36 = wsm (mx (I (o + 10 + t))) (cf t * rf t)
    rw [wsm_cg 36 (an_X h), wsm_z h.1 36 h36]
  | 5, _ =>
    show wm (tv V (300 + 72 * t) (cld (tv V (300 + 72 * t)) (cf t * rf t))) = wm (mx (I (o + 10 + t)) (cld (mx (I (o + 10 + t))) (cf t * rf t)))
    have hl := cld_lt (mx (I (o + 10 + t))) (cf t * rf t)
    rw [an_cld h h36, an_X h _ (by omega)]
  | 6, _ => exact congrArg nI (an_cld h h36)
  | 7, _ => exact opc_cg _ (an_B h)
  | k + 8, h => exact absurd h (by omega)
theorem an_tsum (hT : ∀ t, t < nt → RlT V I o t cf rf ∧ cf t * rf t ≤ 36) : ∀ m, m ≤ nt → tsum V m = ftk I o cf rf m
  | 0, _ => rfl
  | m + 1, hm => by
    show tsum V m + fsum (tv V (300 + 72 * m)) 36 = ftk I o cf rf m + asf (I (o + 10 + m)) (6 * (cf m * rf m))
    rw [an_tsum hT m (by omega), an_fsum (hT m (by omega)).1 (hT m (by omega)).2]
theorem an_sacks (h : RlS V I o ns) (hns : ns ≤ 12) : csum V 200 ns = asf (I (o + 1)) 72 := by
  rw [csum_asf (g := I (o + 1)) ns (fun i hi => (h i (by omega)).2.1 hi), show (72 : Nat) = 6 * 12 from rfl]
  exact (asf_z 12 hns (fun i h1 h2 => (h i h2).2.2 h1)).symm
theorem an_chs (h : RlC V I o N) : csum V 100 5 = asf (I (o + 3)) 30 := csum_asf (g := I (o + 3)) 5 (fun c hc => (h c hc).1)
theorem an_count (h : Rl V I o ns nt cf rf N) (hns : ns ≤ 12) (hcr : ∀ t, t < nt → cf t * rf t ≤ 36) : ∀ k, k < 9 → cnc V I ns nt k = cnm I o ns nt cf rf k := by
  obtain ⟨⟨q1, q2, q3, q4, q5⟩, r2, r3, r4, r5, r6⟩ := h
  intro k hk
  match k, hk with
  | 0, _ => exact q3
  | 1, _ => rfl
  | 2, _ => rfl
  | 3, _ => exact an_sacks r2 hns
  | 4, _ => exact an_chs r4
  | 5, _ => exact an_tsum (fun t ht => ⟨r5 t ht, hcr t ht⟩) nt (Nat.le_refl _)
  | 6, _ => exact q4
  | 7, _ => exact q5
  | 8, _ => exact q1
  | k + 9, h => exact absurd h (by omega)
/-- the trial after it has become the tick -/
theorem an_tB (h : RlT V I o t cf rf) (h36 : cf t * rf t ≤ 36) : ∀ k, k < 2 * (cf t * rf t) → trB I (30 + 4 * t) k = I (o + 20 + t) k := fun k hk => by
  rw [trB_cg I (30 + 4 * t) h36 k hk, nbB_01 (m := 2 * (cf t * rf t)) (fun j hj => by rw [an_B h j hj]; exact (h.2.2 j hj).2) k hk, an_B h k hk]
theorem an_tX (h : RlT V I o t cf rf) (ht : t < 6) (hz : TZ (tv V 732)) : ∀ q, q < 36 → trX V (300 + 72 * t) q = mx (I (o + 10 + t)) q := fun q hq => by
  rw [trX_c0 (by omega) (tick_B h).tz hz q hq, an_X h q hq]
theorem an_ngs (h : RlT V I o t cf rf) (ht : t < 6) (hz : TZ (tv V 732)) (hc : 1 ≤ cf t) (h36 : cf t * rf t ≤ 36) (d z : Nat) : ∀ q, q < 36 → ngs (cf t) (cf t * rf t) d (trB I (30 + 4 * t)) (trX V (300 + 72 * t)) z q = mx (ngf (cf t) (cf t * rf t) d (I (o + 20 + t)) (I (o + 10 + t)) z) q := fun q hq => by
  rw [ngf_mx rfl hc h36 h.1 z q hq]
  exact ngs_cg rfl hc h36 (an_tB h h36) (an_tX h ht hz) z q hq
theorem an_NF (h : RlT V I o t cf rf) (ht : t < 6) (hz : TZ (tv V 732)) (hc : 1 ≤ cf t) (h36 : cf t * rf t ≤ 36) {d : Nat} (hd : d ≤ 9) (z : Nat) (B : Nat → Int32) : NF (cf t) (cf t * rf t) d B (trX V (300 + 72 * t)) z := NF_B rfl hc h36 hd (fun q hq => by rw [an_tX h ht hz q hq]; exact (h.2.1 q hq).2) z
theorem an_NF1 (h : RlT V I o t cf rf) (hc : 1 ≤ cf t) (h36 : cf t * rf t ≤ 36) {d : Nat} (hd : d ≤ 9) (z : Nat) (B : Nat → Int32) : NF (cf t) (cf t * rf t) d B (tv V (300 + 72 * t)) z := NF_B rfl hc h36 hd (tick_B h) z
theorem an_f0 (h : RlT V I o t cf rf) (ht : t < 6) (hz : TZ (tv V 732)) (hc : 1 ≤ cf t) (h36 : cf t * rf t ≤ 36) (d z : Nat) : fsum (ngs (cf t) (cf t * rf t) d (trB I (30 + 4 * t)) (trX V (300 + 72 * t)) z) 36 = asf (ngf (cf t) (cf t * rf t) d (I (o + 20 + t)) (I (o + 10 + t)) z) (6 * (cf t * rf t)) := by
  rw [fsum_cg 36 (an_ngs h ht hz hc h36 d z), fsum_z (ngf_FZ rfl hc h.1 z) 36 h36, asf_fsum]
theorem an_f2 (h : RlT V I o t cf rf) (ht : t < 6) (hz : TZ (tv V 732)) (hc : 1 ≤ cf t) (h36 : cf t * rf t ≤ 36) (d z : Nat) : cld (ngs (cf t) (cf t * rf t) d (trB I (30 + 4 * t)) (trX V (300 + 72 * t)) z) (cf t * rf t) = cld (mx (ngf (cf t) (cf t * rf t) d (I (o + 20 + t)) (I (o + 10 + t)) z)) (cf t * rf t) := cld_cg _ (fun q hq => an_ngs h ht hz hc h36 d z q (by omega))
theorem an_f1 (h : RlT V I o t cf rf) (ht : t < 6) (hz : TZ (tv V 732)) (hc : 1 ≤ cf t) (h1 : 1 ≤ cf t * rf t) (h36 : cf t * rf t ≤ 36) (d z : Nat) : wm (ngs (cf t) (cf t * rf t) d (trB I (30 + 4 * t)) (trX V (300 + 72 * t)) z (cld (ngs (cf t) (cf t * rf t) d (trB I (30 + 4 * t)) (trX V (300 + 72 * t)) z) (cf t * rf t))) = wmk (cf t) (cf t * rf t) d (I (o + 20 + t)) (I (o + 10 + t)) z := by
  unfold wmk
  have hl := cld_lt (mx (ngf (cf t) (cf t * rf t) d (I (o + 20 + t)) (I (o + 10 + t)) z)) (cf t * rf t)
  rw [an_f2 h ht hz hc h36 d z, an_ngs h ht hz hc h36 d z _ (by omega)]
/-- the first of its kind is one alone -/
theorem an_first {W U : Nat → Int32} {w v v' : Int32} (hW : ∀ z, W z = U z) (h : ∃ k, k ≤ 200 ∧ (∀ j, j < k → ¬ W j < w) ∧ (k < 200 → W k < w) ∧ v = (if W k < w then nI k else -1)) (h' : ∃ k, k ≤ 200 ∧ (∀ j, j < k → ¬ U j < w) ∧ (k < 200 → U k < w) ∧ v' = (if U k < w then nI k else -1)) : v = v' := by
  obtain ⟨k, a1, a2, a3, a4⟩ := h
  obtain ⟨l, b1, b2, b3, b4⟩ := h'
  have e : k = l := by
    rcases Nat.lt_trichotomy k l with h | h | h
    · exact absurd (hW k ▸ a3 (by omega)) (b2 k h)
    · exact h
    · exact absurd (by rw [hW l]; exact b3 (by omega)) (a2 l h)
  subst e
  rw [a4, b4, hW k]
theorem an_cwk (h : RlT V I o t cf rf) (hc : 1 ≤ cf t) (h1 : 1 ≤ cf t * rf t) (h36 : cf t * rf t ≤ 36) (d z : Nat) {B C : Nat → Int32} (hB : ∀ k, k < 2 * (cf t * rf t) → B k = C k) : cwk (cf t) (cf t * rf t) d B (tv V (300 + 72 * t)) z = wmk (cf t) (cf t * rf t) d C (I (o + 10 + t)) z := by
  have e (q : Nat) (hq : q < 36) : ngs (cf t) (cf t * rf t) d B (tv V (300 + 72 * t)) z q = mx (ngf (cf t) (cf t * rf t) d C (I (o + 10 + t)) z) q := by
    rw [ngf_mx rfl hc h36 h.1 z q hq]
    exact ngs_cg rfl hc h36 hB (an_X h) z q hq
  unfold cwk wmk
  have hl := cld_lt (mx (ngf (cf t) (cf t * rf t) d C (I (o + 10 + t)) z)) (cf t * rf t)
  rw [cld_cg _ (fun q hq => e q (by omega)), e _ (by omega)]
theorem an_adv (h : RlT V I o t cf rf) (hc : 1 ≤ cf t) (h1 : 1 ≤ cf t * rf t) (h36 : cf t * rf t ≤ 36) (d z : Nat) : ∀ k, k ≤ 2 * (cf t * rf t) → cadv (cf t) (cf t * rf t) d z (I (30 + 4 * t + 2)) (nbB (I (30 + 4 * t + 2))) (tv V (300 + 72 * t)) k = adv (cf t) (cf t * rf t) d z (I (o + 20 + t)) (I (o + 10 + t)) k := by
  have eB (k : Nat) (hk : k < 2 * (cf t * rf t)) : nbB (I (30 + 4 * t + 2)) k = I (o + 20 + t) k := by
    rw [nbB_01 (m := 2 * (cf t * rf t)) (fun j hj => by rw [an_B h j hj]; exact (h.2.2 j hj).2) k hk, an_B h k hk]
  intro k
  induction k with
  | zero =>
    intro _
    show (-1, cwk (cf t) (cf t * rf t) d (nbB (I (30 + 4 * t + 2))) (tv V (300 + 72 * t)) z) = (-1, wmk (cf t) (cf t * rf t) d (I (o + 20 + t)) (I (o + 10 + t)) z)
    rw [an_cwk h hc h1 h36 d z eB]
  | succ k ih =>
    intro hk
    show (if opn (cf t) (cf t * rf t) (I (30 + 4 * t + 2)) (k / 2) (k % 2) = true then (if (cadv (cf t) (cf t * rf t) d z (I (30 + 4 * t + 2)) (nbB (I (30 + 4 * t + 2))) (tv V (300 + 72 * t)) k).2 < cwk (cf t) (cf t * rf t) d (upd (nbB (I (30 + 4 * t + 2))) k (nb 1)) (tv V (300 + 72 * t)) z then (nI k, cwk (cf t) (cf t * rf t) d (upd (nbB (I (30 + 4 * t + 2))) k (nb 1)) (tv V (300 + 72 * t)) z) else cadv (cf t) (cf t * rf t) d z (I (30 + 4 * t + 2)) (nbB (I (30 + 4 * t + 2))) (tv V (300 + 72 * t)) k) else cadv (cf t) (cf t * rf t) d z (I (30 + 4 * t + 2)) (nbB (I (30 + 4 * t + 2))) (tv V (300 + 72 * t)) k) = (if opn (cf t) (cf t * rf t) (I (o + 20 + t)) (k / 2) (k % 2) = true then (if (adv (cf t) (cf t * rf t) d z (I (o + 20 + t)) (I (o + 10 + t)) k).2 < wmk (cf t) (cf t * rf t) d (sewn (I (o + 20 + t)) k) (I (o + 10 + t)) z then (nI k, wmk (cf t) (cf t * rf t) d (sewn (I (o + 20 + t)) k) (I (o + 10 + t)) z) else adv (cf t) (cf t * rf t) d z (I (o + 20 + t)) (I (o + 10 + t)) k) else adv (cf t) (cf t * rf t) d z (I (o + 20 + t)) (I (o + 10 + t)) k)
    rw [ih (by omega), opn_cg (C := I (o + 20 + t)) (an_B h (2 * (k / 2) + k % 2) (by omega)), show cwk (cf t) (cf t * rf t) d (upd (nbB (I (30 + 4 * t + 2))) k (nb 1)) (tv V (300 + 72 * t)) z = wmk (cf t) (cf t * rf t) d (sewn (I (o + 20 + t)) k) (I (o + 10 + t)) z from an_cwk (C := sewn (I (o + 20 + t)) k) h hc h1 h36 d z (upd_cg eB)]
theorem an_dig (h : Rl V I o ns nt cf rf N) (hns : ns ≤ 12) (hN : N < 2 ^ 30) (hcr : ∀ t, t < nt → 1 ≤ cf t ∧ 1 ≤ cf t * rf t ∧ cf t * rf t ≤ 36) {P P' : Nat → Int32} (hP : ∀ t, t < nt → cpt (cf t) (cf t * rf t) (I (30 + 4 * t + 2)) (P t)) (hP' : ∀ t, t < nt → pts (cf t) (cf t * rf t) (I (o + 20 + t)) (P' t)) : cd4 V I ns nt cf rf df P nt = dg4 I o ns nt cf rf df P' nt := by
  have hc := an_count h hns (fun t ht => (hcr t ht).2.2)
  obtain ⟨r1, r2, r3, r4, r5, r6⟩ := h
  refine dtk_congr ?_ nt (fun j hj => ⟨rfl, fun k hk => ?_, fun q hq k hk => ?_⟩)
  · refine dgr_congr (dgr_congr (dg_congr rfl 9 hc) 8 ns (fun i hi k hk => ?_)) 9 5 (fun c hc k hk => ?_)
    · unfold cS dS
      rw [(r2 i (by omega)).2.1 hi, (r3 i hi).1]
    · unfold cH dH
      rw [(r4 c hc).1]
      exact ctl_ch (r4 c hc).2 hN k hk
  · exact an_tick (r5 j hj) (hcr j hj).1 (hcr j hj).2.1 (hcr j hj).2.2 (hP j hj) (hP' j hj) k hk
  · exact an_square (r5 j hj) (hcr j hj).2.2 hq k hk
theorem ftk_B (hT : ∀ t, t < nt → (∀ q, q < 36 → Bd (mx (I (o + 10 + t)) q) 300) ∧ cf t * rf t ≤ 36) : ∀ m, m ≤ nt → ∃ t, t ≤ m * 10800 ∧ ftk I o cf rf m = nI t
  | 0, _ => ⟨0, Nat.zero_le _, rfl⟩
  | m + 1, hm => by
    obtain ⟨t, h1, h2⟩ := ftk_B hT m (by omega)
    obtain ⟨g1, g2⟩ := hT m (by omega)
    obtain ⟨u, u1, u2⟩ := asf_B (g := I (o + 10 + m)) (N := 300) (cf m * rf m) g2 (by decide) (fun i hi => g1 i (by omega))
    have : cf m * rf m * 300 ≤ 36 * 300 := Nat.mul_le_mul_right _ g2
    refine ⟨t + u, by omega, ?_⟩
    show ftk I o cf rf m + asf (I (o + 10 + m)) (6 * (cf m * rf m)) = _
    rw [h2, u2, nI_add]
theorem an_fil (h : Rl V I o ns nt cf rf N) (hns : ns ≤ 12) (hnt : nt ≤ 6) (hN : N < 2 ^ 24) (hcr : ∀ t, t < nt → cf t * rf t ≤ 36) : (if csum V 200 ns + csum V 100 5 + tsum V nt ≤ 0 then FP.dconst0 else FP.ddiv (FP.i2d (tsum V nt)) (FP.i2d (csum V 200 ns + csum V 100 5 + tsum V nt))) = fil (cnm I o ns nt cf rf 5) (cnm I o ns nt cf rf 3 + cnm I o ns nt cf rf 4 + cnm I o ns nt cf rf 5) := by
  have hc := an_count h hns hcr
  have e3 : csum V 200 ns = cnm I o ns nt cf rf 3 := hc 3 (by decide)
  have e4 : csum V 100 5 = cnm I o ns nt cf rf 4 := hc 4 (by decide)
  have e5 : tsum V nt = cnm I o ns nt cf rf 5 := hc 5 (by decide)
  obtain ⟨r1, r2, r3, r4, r5, r6⟩ := h
  obtain ⟨t3, a3, b3⟩ := asf_B (g := I (o + 1)) (N := 3000) 12 (by decide) (by decide) (fun i hi => (r2 i hi).1.Bd)
  obtain ⟨t4, a4, b4⟩ := asf_B (g := I (o + 3)) (N := N) 5 (by decide) hN (fun i hi => (r4 i hi).2)
  obtain ⟨t5, a5, b5⟩ := ftk_B (I := I) (o := o) (cf := cf) (rf := rf) (nt := nt) (fun t ht => ⟨fun q hq => ((r5 t ht).2.1 q hq).2, hcr t ht⟩) nt (Nat.le_refl _)
  have f3 : cnm I o ns nt cf rf 3 = nI t3 := b3
  have f4 : cnm I o ns nt cf rf 4 = nI t4 := b4
  have f5 : cnm I o ns nt cf rf 5 = nI t5 := b5
  rw [e3, e4, e5, f3, f4, f5, nI_add, nI_add]
  unfold fil
  by_cases z : t3 + t4 + t5 = 0
  · rw [z, if_pos (by decide), if_pos (by decide)]
  · rw [if_neg (nI_nle (by omega) (by omega)), if_neg (nI_ne0 (by omega) (by omega))]
end ANS
