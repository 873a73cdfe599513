/-! the law's night: what it holds while it looks -/
def wsI (I : fb_V) (b n : Nat) (U : fb_V) (q k : Nat) : fb_V := rB I b n (fun z j => if j < (if z < q then 8 else if z = q then k else 0) then U z j else 0)
theorem wsI_0 (I : fb_V) (b n : Nat) (U : fb_V) : rB I b n (fun _ _ => 0) = wsI I b n U 0 0 := rB_ext I b (fun q _ => by
  funext j
  have h : ¬ j < (if q < 0 then 8 else if q = 0 then 0 else 0) := by
    rw [if_neg (Nat.not_lt_zero q)]
    split <;> omega
  exact (if_neg h).symm)
theorem wsI_s (I : fb_V) (b : Nat) {n : Nat} (U : fb_V) {q k : Nat} (hq : q < n) : va_up (wsI I b n U q k) (b + q) (upd (wsI I b n U q k (b + q)) k (U q k)) = wsI I b n U q (k + 1) := by
  unfold wsI
  rw [rB_at I b _ hq, rB_up I b _ hq]
  refine rB_ext I b (fun z hz => ?_)
  by_cases e : z = q
  · subst e
    rw [va_up_self]
    funext j
    unfold upd
    by_cases e2 : j = k
    · subst e2
      rw [if_pos rfl, if_neg (Nat.lt_irrefl _), if_pos rfl, if_pos (by omega)]
    · rw [if_neg e2, if_neg (Nat.lt_irrefl _), if_pos rfl, if_neg (Nat.lt_irrefl _), if_pos rfl]
      show (if j < k then U z j else 0) = _
      by_cases h : j < k
      · rw [if_pos h, if_pos (by omega)]
      · rw [if_neg h, if_neg (by omega)]
  · rw [va_up_ne _ _ e]
    funext j
    by_cases h : z < q
    · simp only [if_pos h]
    · simp only [if_neg h, if_neg e]
theorem wsI_n (I : fb_V) (b n : Nat) (U : fb_V) (q : Nat) : wsI I b n U q 8 = wsI I b n U (q + 1) 0 := rB_ext I b (fun z _ => by
  funext j
  by_cases h : z < q
  · rw [if_pos h, if_pos (show z < q + 1 by omega)]
  · rw [if_neg h]
    by_cases e : z = q
    · rw [if_pos e, if_pos (show z < q + 1 by omega)]
    · rw [if_neg e, if_neg (show ¬ z < q + 1 by omega)]
      by_cases e2 : z = q + 1
      · rw [if_pos e2]
      · rw [if_neg e2])
theorem wsI_at (I : fb_V) (b : Nat) {n : Nat} (U : fb_V) {z j : Nat} (hz : z < n) (hj : j < 8) : wsI I b n U n 0 (b + z) j = U z j := by
  unfold wsI
  rw [rB_at I b _ hz, if_pos hz]
  exact if_pos hj
theorem wsI_lo (I : fb_V) {b n : Nat} (U : fb_V) (q k : Nat) {x : Nat} (h : x < b) : wsI I b n U q k x = I x := rB_out I _ (Or.inl h)
def Zt (a1 : Nat) (S : fb_Sh) (V J : fb_V) (ns nt : Nat) (rho cf rf df : Nat → Nat) (N F t : Nat) (B0 : Nat → Int32) (X : fb_V) (G : Nat) (U : fb_V) (R0 : Nat → Int32) (T5 T : Int32) : Prop :=
  Iv a1 S V J ns nt rho cf rf df N F ∧ (J (30 + 4 * t + 2) = B0 ∧ ∀ q, q < 36 → tv V (300 + 72 * t) q = X q) ∧ (∀ z, z < cf t * rf t → ∀ j, j < 8 → J (G + 1 + z) j = U z j) ∧ J 0 = R0 ∧ tsum V nt = T5 ∧ tot V J ns nt = T
section ZTS
variable {a1 : Nat} {S : fb_Sh} {V J V' J' : fb_V} {ns nt N F t G : Nat} {rho cf rf df : Nat → Nat} {B0 : Nat → Int32} {X U : fb_V} {R0 : Nat → Int32} {T5 T : Int32}
theorem Zt.nx (h : Zt a1 S V J ns nt rho cf rf df N F t B0 X G U R0 T5 T) (ht : t < nt) (hG : 4000 ≤ G) (hR : NxR V J V' J') (hI : Iv a1 S V' J' ns nt rho cf rf df N F) : Zt a1 S V' J' ns nt rho cf rf df N F t B0 X G U R0 T5 T := by
  obtain ⟨h1, ⟨h2, h3⟩, h4, h5, h6, h7⟩ := h
  obtain ⟨g1, g2⟩ := hR
  have n3 := h1.2.2.2.2.2
  have n4 := h1.2.2.2.2.1
  have e0 : J' 0 = J 0 := g2 0 (by omega) (by omega) (fun t _ => by omega)
  have e5 : tsum V' nt = tsum V nt := tsum_cg nt (fun u hu q hq => g1 _ (by omega))
  refine ⟨hI, ⟨(g2 _ (by omega) (by omega) (fun u _ => by omega)).trans h2, fun q hq => ?_⟩, fun z hz j hj => ?_, e0.trans h5, e5.trans h6, ?_⟩
  · rw [← h3 q hq]
    exact g1 _ (by omega)
  · rw [g2 _ (by omega) (by omega) (fun u _ => by omega)]
    exact h4 z hz j hj
  · rw [← h7]
    unfold tot
    rw [e5, e0, csum_cg (V' := V') (V := V) ns (fun i hi => g1 _ (by omega)), csum_cg (V' := V') (V := V) 5 (fun i hi => g1 _ (by omega))]
theorem Zt.more {P : Nat → Prop} {S' : fb_Sh} {F' : Nat} (h : Zt a1 S V J ns nt rho cf rf df N F t B0 X G U R0 T5 T) (ht : t < nt) (hG : G + 1 + cf t * rf t ≤ F) (hE : Ext P S S') (hP : ∀ x, P x → F ≤ x) (hF : Fs S' F') (hJ : ∀ x, x < F → J' x = J x) : Zt a1 S' V J' ns nt rho cf rf df N F' t B0 X G U R0 T5 T := by
  obtain ⟨h1, ⟨h2, h3⟩, h4, h5, h6, h7⟩ := h
  have n3 := h1.2.2.2.2.2
  have n4 := h1.2.1.2.1
  refine ⟨h1.more hE hP hF hJ, ⟨(hJ _ (by omega)).trans h2, h3⟩, fun z hz j hj => ?_, (hJ 0 (by omega)).trans h5, h6, ?_⟩
  · rw [hJ _ (by omega)]
    exact h4 z hz j hj
  · rw [← h7]
    unfold tot
    rw [hJ 0 (by omega)]
/-- the row of the differences moves -/
theorem Zt.upF {E : Nat} (h : Zt a1 S V J ns nt rho cf rf df N F t B0 X G U R0 T5 T) (ht : t < nt) (hE : 4000 ≤ E) (hG : G + 1 + cf t * rf t ≤ E) (hr : ∀ i, i < ns → rho i ≠ E) (v : Nat → Int32) : Zt a1 S V (va_up J E v) ns nt rho cf rf df N F t B0 X G U R0 T5 T := by
  obtain ⟨h1, ⟨h2, h3⟩, h4, h5, h6, h7⟩ := h
  have n3 := h1.2.2.2.2.2
  have n4 := h1.2.2.2.2.1
  have g (x : Nat) (hx : x ≠ E) : va_up J E v x = J x := va_up_ne _ _ hx
  have ht36 (u : Nat) (hu : u < nt) := (h1.2.2.2.1.2.2.2.1 u hu).n36
  refine ⟨h1.frame (h1.2.2.2.1.1.same (g 0 (by omega)) (g 1000 (by omega)) (Nat.le_refl _)) (g 1 (by omega)) (g 2 (by omega)) (fun u hu => g _ (by omega)) (fun i hi => (h1.2.2.2.1.2.1 i hi).same rfl (g _ (hr i hi)) (g _ (by omega)) (by rw [g 1001 (by omega)])) (fun c hc => (h1.2.2.2.1.2.2.1 c hc).same rfl (g _ (by omega)) (Nat.le_refl _)) (fun u hu => (h1.2.2.2.1.2.2.2.1 u hu).same (fun _ _ => rfl) (fun x k1 k2 => g x (by omega)) (g _ (by omega))) (fun _ _ => rfl), ⟨(g _ (by omega)).trans h2, h3⟩, fun z hz j hj => ?_, (g 0 (by omega)).trans h5, h6, ?_⟩
  · rw [g _ (by omega)]
    exact h4 z hz j hj
  · rw [← h7]
    unfold tot
    rw [g 0 (by omega)]
theorem Zt.pass {J2 : fb_V} (h : Zt a1 S V J ns nt rho cf rf df N F t B0 X G U R0 T5 T) (ht : t < nt) (hG : 4000 ≤ G) (e0 : J2 0 = upd (upd (J 0) 5 (J 0 5 + 1)) 7 (J 0 7 + psL V J cf rf df 1 nt)) (e2 : J2 1000 2 = J 1000 2) (er : ∀ u, u < nt → ∀ q, q < cf u * rf u → J2 (1100 + 100 * u + 10 + q) = ngt (cf u) (cf u * rf u) (df u) (J (30 + 4 * u + 2)) (tv V (300 + 72 * u)) q) (eo : ∀ x, x ≠ 0 → x ≠ 1000 → (∀ u, u < nt → x < 1100 + 100 * u + 10 ∨ 1100 + 100 * u + 10 + cf u * rf u ≤ x) → J2 x = J x) : Zt a1 S (psV V J cf rf df 1 nt) J2 ns nt rho cf rf df N F t B0 (ngt (cf t) (cf t * rf t) (df t) B0 X) G U (upd (upd R0 5 (R0 5 + 1)) 7 (R0 7 + psL V J cf rf df 1 nt)) (T5 - psL V J cf rf df 1 nt) (T - psL V J cf rf df 1 nt) := by
  obtain ⟨h1, ⟨h2, h3⟩, h4, h5, h6, h7⟩ := h
  have n3 := h1.2.2.2.2.2
  have n36 (u : Nat) (hu : u < nt) := (h1.2.2.2.1.2.2.2.1 u hu).n36
  have hk := h1.2.2.2.1.2.2.2.1 t ht
  have e6 : J2 0 6 = J 0 6 := by rw [e0]; rfl
  obtain ⟨s1, s2⟩ := tot_ps (J := J2) h1 e6
  refine ⟨h1.pass (by rw [e0]; rfl) e6 e2 er eo, ⟨(eo _ (by omega) (by omega) (fun u hu => by omega)).trans h2, fun q hq => ?_⟩, fun z hz j hj => ?_, by rw [e0, h5], by rw [s1, h6], by rw [s2, h7]⟩
  · show psV V J cf rf df 1 nt (300 + 72 * t + 2 * q) = _
    rw [psV_in V J cf rf df 1 nt t q ht hq, ← h2]
    exact ngt_cg rfl hk.c1.1 hk.n36.2 (fun _ _ => rfl) h3 q hq
  · rw [eo _ (by omega) (by omega) (fun u hu => by have := n36 u hu; omega)]
    exact h4 z hz j hj
theorem ctk_0 (c r d : Nat) (X : fb_V) (B : Nat → Int32) (p : Int32) : ctk c r d X B p 0 = nI c := by delta ctk; rfl
theorem ctk_1 (c r d : Nat) (X : fb_V) (B : Nat → Int32) (p : Int32) : ctk c r d X B p 1 = nI r := by delta ctk; rfl
theorem ctk_2 (c r d : Nat) (X : fb_V) (B : Nat → Int32) (p : Int32) : ctk c r d X B p 2 = nI d := by delta ctk; rfl
theorem ctk_3 (c r d : Nat) (X : fb_V) (B : Nat → Int32) (p : Int32) : ctk c r d X B p 3 = fsum X 36 := by delta ctk; rfl
theorem ctk_4 (c r d : Nat) (X : fb_V) (B : Nat → Int32) (p : Int32) : ctk c r d X B p 4 = wsm X 36 := by delta ctk; rfl
theorem ctk_5 (c r d : Nat) (X : fb_V) (B : Nat → Int32) (p : Int32) : ctk c r d X B p 5 = wm (X (cld X (c * r))) := by delta ctk; rfl
theorem ctk_6 (c r d : Nat) (X : fb_V) (B : Nat → Int32) (p : Int32) : ctk c r d X B p 6 = nI (cld X (c * r)) := by delta ctk; rfl
theorem ctk_7 (c r d : Nat) (X : fb_V) (B : Nat → Int32) (p : Int32) : ctk c r d X B p 7 = opc c (c * r) B (2 * (c * r)) := by delta ctk; rfl
theorem ctk_cg3 {c r d : Nat} {B : Nat → Int32} {Y : fb_V} (h1 : 1 ≤ c * r) (h36 : c * r ≤ 36) (h : ∀ q, q < 36 → X q = Y q) : ctk c r d X B 0 3 = ctk c r d Y B 0 3 := (ctk_3 c r d X B 0).trans ((fsum_cg 36 h).trans (ctk_3 c r d Y B 0).symm)
theorem ctk_cg4 {c r d : Nat} {B : Nat → Int32} {Y : fb_V} (h1 : 1 ≤ c * r) (h36 : c * r ≤ 36) (h : ∀ q, q < 36 → X q = Y q) : ctk c r d X B 0 4 = ctk c r d Y B 0 4 := (ctk_4 c r d X B 0).trans ((wsm_cg 36 h).trans (ctk_4 c r d Y B 0).symm)
theorem ctk_cg5 {c r d : Nat} {B : Nat → Int32} {Y : fb_V} (h1 : 1 ≤ c * r) (h36 : c * r ≤ 36) (h : ∀ q, q < 36 → X q = Y q) : ctk c r d X B 0 5 = ctk c r d Y B 0 5 := by
  have hl := cld_cg (X := X) (Y := Y) (c * r) (fun q hq => h q (by omega))
  have hc := cld_lt X (c * r)
  rw [ctk_5, ctk_5, ← hl, h _ (by omega)]
theorem ctk_cg6 {c r d : Nat} {B : Nat → Int32} {Y : fb_V} (h1 : 1 ≤ c * r) (h36 : c * r ≤ 36) (h : ∀ q, q < 36 → X q = Y q) : ctk c r d X B 0 6 = ctk c r d Y B 0 6 := by
  rw [ctk_6, ctk_6, cld_cg (X := X) (Y := Y) (c * r) (fun q hq => h q (by omega))]
theorem ctk_cg7 {c r d : Nat} {B : Nat → Int32} {Y : fb_V} (h1 : 1 ≤ c * r) (h36 : c * r ≤ 36) (h : ∀ q, q < 36 → X q = Y q) : ctk c r d X B 0 7 = ctk c r d Y B 0 7 := (ctk_7 c r d X B 0).trans (ctk_7 c r d Y B 0).symm
theorem ctk_cg {c r d : Nat} {B : Nat → Int32} {Y : fb_V} (h1 : 1 ≤ c * r) (h36 : c * r ≤ 36) (h : ∀ q, q < 36 → X q = Y q) (k : Nat) (hk : k < 8) : ctk c r d X B 0 k = ctk c r d Y B 0 k := by
  rcases Nat.lt_or_ge k 3 with g | g
  · by_cases e0 : k = 0
    · rw [e0]; exact (ctk_0 c r d X B 0).trans (ctk_0 c r d Y B 0).symm
    · by_cases e1 : k = 1
      · rw [e1]; exact (ctk_1 c r d X B 0).trans (ctk_1 c r d Y B 0).symm
      · rw [show k = 2 by omega]; exact (ctk_2 c r d X B 0).trans (ctk_2 c r d Y B 0).symm
  · by_cases e3 : k = 3
    · rw [e3]; exact ctk_cg3 h1 h36 h
    · by_cases e4 : k = 4
      · rw [e4]; exact ctk_cg4 h1 h36 h
      · by_cases e5 : k = 5
        · rw [e5]; exact ctk_cg5 h1 h36 h
        · by_cases e6 : k = 6
          · rw [e6]; exact ctk_cg6 h1 h36 h
          · rw [show k = 7 by omega]; exact ctk_cg7 h1 h36 h
theorem csq_cg {c n : Nat} {B : Nat → Int32} {Y : fb_V} {q : Nat} (h : X q = Y q) : ∀ k, csq c n B X q k = csq c n B Y q k := fun k => by
  unfold csq
  split <;> simp only [h]
theorem csq_6 (c n : Nat) (B : Nat → Int32) (X : fb_V) (q : Nat) {k : Nat} (hk : k < 6) : csq c n B X q k = X q k := by
  unfold csq
  split <;> first | omega | rfl
theorem z_fs0 (D : va_G) (y : Nat → ClassId) (l : Launch) (h : Zt a1 S V J ns nt rho cf rf df N F t B0 X G U R0 T5 T) (ht : t < nt) (hG : 4000 ≤ G) : CI D y l yX3_foresee wsX3_foresee rm_X3_foresee [.ref (sa S 0), .int (nI t), .int 1, .int 0] (S, V, (sT V), J) (fun v u => v = fsum (ngt (cf t) (cf t * rf t) (df t) B0 X) 36 ∧ ∃ V' J', u = (S, V', sT V', J') ∧ Zt a1 S V' J' ns nt rho cf rf df N F t B0 X G U R0 T5 T) 3 18 :=
  (c_fs0 D y l S V J a1 ns nt N F rho cf rf df h.1 t ht).mono (fun v u g => by
    obtain ⟨g1, V', J', g2, g3, g4⟩ := g
    have hk := h.1.2.2.2.1.2.2.2.1 t ht
    exact ⟨g1.trans (by rw [h.2.1.1]; exact fsum_cg 36 (ngt_cg rfl hk.c1.1 hk.n36.2 (fun _ _ => rfl) h.2.1.2)), V', J', g2, h.nx ht hG g3 g4⟩)
theorem z_cw (h : Zt a1 S V J ns nt rho cf rf df N F t B0 X G U R0 T5 T) (ht : t < nt) (z : Nat) : cwk (cf t) (cf t * rf t) (df t) (J (30 + 4 * t + 2)) (tv V (300 + 72 * t)) z = cwk (cf t) (cf t * rf t) (df t) B0 X z := by
  have hk := h.1.2.2.2.1.2.2.2.1 t ht
  rw [h.2.1.1]
  exact cwk_cg rfl hk.c1.1 hk.n36.1 hk.n36.2 (fun _ _ => rfl) h.2.1.2 z
theorem z_fs1 (D : va_G) (y : Nat → ClassId) (l : Launch) (h : Zt a1 S V J ns nt rho cf rf df N F t B0 X G U R0 T5 T) (ht : t < nt) (hG : 4000 ≤ G) : CI D y l yX3_foresee wsX3_foresee rm_X3_foresee [.ref (sa S 0), .int (nI t), .int 1, .int 1] (S, V, (sT V), J) (fun v u => v = cwk (cf t) (cf t * rf t) (df t) B0 X 1 ∧ ∃ V' J', u = (S, V', sT V', J') ∧ Zt a1 S V' J' ns nt rho cf rf df N F t B0 X G U R0 T5 T) 3 18 :=
  (c_fs1 D y l S V J a1 ns nt N F rho cf rf df h.1 t ht).mono (fun v u g => by
    obtain ⟨g1, V', J', g2, g3, g4⟩ := g
    exact ⟨g1.trans (z_cw h ht 1), V', J', g2, h.nx ht hG g3 g4⟩)
theorem z_fs2 (D : va_G) (y : Nat → ClassId) (l : Launch) (h : Zt a1 S V J ns nt rho cf rf df N F t B0 X G U R0 T5 T) (ht : t < nt) (hG : 4000 ≤ G) : CI D y l yX3_foresee wsX3_foresee rm_X3_foresee [.ref (sa S 0), .int (nI t), .int 1, .int 2] (S, V, (sT V), J) (fun v u => v = nI (cld (ngt (cf t) (cf t * rf t) (df t) B0 X) (cf t * rf t)) ∧ ∃ V' J', u = (S, V', sT V', J') ∧ Zt a1 S V' J' ns nt rho cf rf df N F t B0 X G U R0 T5 T) 3 18 :=
  (c_fs2 D y l S V J a1 ns nt N F rho cf rf df h.1 t ht).mono (fun v u g => by
    obtain ⟨g1, V', J', g2, g3, g4⟩ := g
    have hk := h.1.2.2.2.1.2.2.2.1 t ht
    have h36 := hk.n36.2
    exact ⟨g1.trans (by rw [h.2.1.1]; exact congrArg nI (cld_cg _ (fun q hq => ngt_cg rfl hk.c1.1 h36 (fun _ _ => rfl) h.2.1.2 q (by omega)))), V', J', g2, h.nx ht hG g3 g4⟩)
theorem z_ls (D : va_G) (y : Nat → ClassId) (l : Launch) (h : Zt a1 S V J ns nt rho cf rf df N F t B0 X G U R0 T5 T) (ht : t < nt) (hG : 4000 ≤ G) : CI D y l yX3_lasts wsX3_lasts rm_X3_lasts [.ref (sa S 0), .int (nI t), .int 40] (S, V, (sT V), J) (fun v u => LsP (cwk (cf t) (cf t * rf t) (df t) B0 X) v ∧ ∃ V' J', u = (S, V', sT V', J') ∧ Zt a1 S V' J' ns nt rho cf rf df N F t B0 X G U R0 T5 T) 2 12 :=
  (c_ls D y l S V J a1 ns nt N F rho cf rf df h.1 t ht).mono (fun v u g => by
    obtain ⟨g1, V', J', g2, g3, g4⟩ := g
    refine ⟨?_, V', J', g2, h.nx ht hG g3 g4⟩
    rw [← show cwk (cf t) (cf t * rf t) (df t) (J (30 + 4 * t + 2)) (tv V (300 + 72 * t)) = cwk (cf t) (cf t * rf t) (df t) B0 X from funext (fun z => z_cw h ht z)]
    exact g1)
theorem z_tk (D : va_G) (y : Nat → ClassId) (l : Launch) (h : Zt a1 S V J ns nt rho cf rf df N F t B0 X G U R0 T5 T) (ht : t < nt) (hG : 4000 ≤ G) (k : Nat) (hk : k < 8) : CI D y l yX3_tick wsX3_tick rm_X3_tick [.ref (sa S 0), .int (nI t), .int (nI k)] (S, V, (sT V), J) (fun v u => v = ctk (cf t) (rf t) (df t) X B0 0 k ∧ ∃ J', u = (S, V, sT V, J') ∧ (∀ x, 4000 ≤ x → J' x = J x) ∧ Zt a1 S V J' ns nt rho cf rf df N F t B0 X G U R0 T5 T) 2 12 :=
  (c_tk D y l S V J a1 ns nt N F rho cf rf df h.1 t ht k hk).mono (fun v u g => by
    obtain ⟨g1, J', g2, g3, g4⟩ := g
    have hj := (h.1.2.2.2.1.2.2.2.1 t ht).n36
    exact ⟨g1.trans (by rw [h.2.1.1]; exact ctk_cg hj.1 hj.2 h.2.1.2 k hk), J', g2, fun x hx => g3.2 x (by omega) (by omega) (fun u _ => by omega), h.nx ht hG g3 g4⟩)
theorem z_sq (D : va_G) (y : Nat → ClassId) (l : Launch) (h : Zt a1 S V J ns nt rho cf rf df N F t B0 X G U R0 T5 T) (ht : t < nt) (q : Nat) (hq : q < cf t * rf t) (k : Nat) (hk : k < 10) : CI D y l yX3_square wsX3_square rm_X3_square [.ref (sa S 0), .int (nI t), .int (nI q), .int (nI k)] (S, V, (sT V), J) (fun v u => v = csq (cf t) (cf t * rf t) B0 X q k ∧ u = (S, V, sT V, J)) 3 18 :=
  (c_X3_square_ok D y l S V J a1 ns nt 4 10 h.1.1.1 cf rf df h.1.2.2.1 t ht q hq k hk).mono (fun v u g => by
    have hj := (h.1.2.2.2.1.2.2.2.1 t ht).n36
    exact ⟨g.1.trans (by rw [h.2.1.1]; exact csq_cg (h.2.1.2 q (by omega)) k), g.2⟩)
theorem z_ct (D : va_G) (y : Nat → ClassId) (l : Launch) (h : Zt a1 S V J ns nt rho cf rf df N F t B0 X G U R0 T5 T) (k : Nat) (hk : k < 9) : CI D y l yX3_count wsX3_count rm_X3_count [.ref (sa S 0), .int (nI k)] (S, V, (sT V), J) (fun z u => z = cnc V J ns nt k ∧ u = (S, V, sT V, J)) 1 6 :=
  c_X3_count_ok D y l S V J a1 ns nt 4 10 h.1.1.1 cf rf df h.1.2.2.1 k hk
end ZTS
