/-! nights of all ticks, flights, what is added -/
theorem psV_in (V I : fb_V) (cf rf df : Nat → Nat) (z : Nat) : ∀ m t q, t < m → q < 36 → psV V I cf rf df z m (300 + 72 * t + 2 * q) = ngs (cf t) (cf t * rf t) (df t) (I (30 + 4 * t + 2)) (tv V (300 + 72 * t)) z q
  | 0, _, _, ht, _ => absurd ht (Nat.not_lt_zero _)
  | m + 1, t, q, ht, hq => by
    show stv (psV V I cf rf df z m) (300 + 72 * m) _ (300 + 72 * t + 2 * q) = _
    by_cases e : t = m
    · subst e
      exact stv_at _ _ _ hq
    · rw [stv_out _ _ _ (by omega)]
      exact psV_in V I cf rf df z m t q (by omega) hq
theorem add4 (a b c d : Int32) : a + b + (c + d) = a + c + (b + d) := by rw [Int32.add_assoc, ← Int32.add_assoc b, Int32.add_comm b c, Int32.add_assoc c, ← Int32.add_assoc a]
def lsT (V I : fb_V) (cf rf df : Nat → Nat) (k : Nat) : Nat → Int32
  | 0 => 0
  | t + 1 => lsT V I cf rf df k t + pkS (nI (df t)) (ngs (cf t) (cf t * rf t) (df t) (I (30 + 4 * t + 2)) (tv V (300 + 72 * t)) k) 36
theorem psL_s (V I : fb_V) (cf rf df : Nat → Nat) (z : Nat) : ∀ t, psL V I cf rf df (z + 1) t = psL V I cf rf df z t + lsT V I cf rf df z t
  | 0 => (Int32.add_zero 0).symm
  | t + 1 => by
    show psL V I cf rf df (z + 1) t + (ngl (cf t) (cf t * rf t) (df t) (I (30 + 4 * t + 2)) (tv V (300 + 72 * t)) z + pkS (nI (df t)) (ngs (cf t) (cf t * rf t) (df t) (I (30 + 4 * t + 2)) (tv V (300 + 72 * t)) z) 36) = (psL V I cf rf df z t + ngl (cf t) (cf t * rf t) (df t) (I (30 + 4 * t + 2)) (tv V (300 + 72 * t)) z) + (lsT V I cf rf df z t + pkS (nI (df t)) (ngs (cf t) (cf t * rf t) (df t) (I (30 + 4 * t + 2)) (tv V (300 + 72 * t)) z) 36)
    rw [psL_s V I cf rf df z t]
    exact add4 _ _ _ _
theorem psL_0 (V I : fb_V) (cf rf df : Nat → Nat) : ∀ t, psL V I cf rf df 0 t = 0
  | 0 => rfl
  | t + 1 => by
    show psL V I cf rf df 0 t + 0 = 0
    rw [psL_0 V I cf rf df t]
    rfl
theorem tick_ngs {V I : fb_V} {o t : Nat} {cf rf : Nat → Nat} (h : RlT V I o t cf rf) (hc : 1 ≤ cf t) (h36 : cf t * rf t ≤ 36) (d z : Nat) : ∀ q, q < 36 → ngs (cf t) (cf t * rf t) d (I (30 + 4 * t + 2)) (tv V (300 + 72 * t)) z q = mx (ngf (cf t) (cf t * rf t) d (I (o + 20 + t)) (I (o + 10 + t)) z) q := fun q hq => by
  obtain ⟨h1, h2, h3⟩ := h
  rw [ngf_mx rfl hc h36 h1 z q hq]
  exact ngs_cg rfl hc h36 (fun k hk => (h3 k hk).1) (fun q hq => (h2 q hq).1) z q hq
theorem tick_B {V I : fb_V} {o t : Nat} {cf rf : Nat → Nat} (h : RlT V I o t cf rf) : BX (tv V (300 + 72 * t)) := fun q hq => by
  show Bd (V (300 + 72 * t + 2 * q)) 300
  rw [(h.2.1 q hq).1]
  exact (h.2.1 q hq).2
section UPD
variable {a1 : Nat} {S S' : fb_Sh} {V V' I J : fb_V} {o ns nt es na N : Nat} {cf rf df : Nat → Nat}
theorem psl_lsT (hT : ∀ t, t < nt → RlT V I o t cf rf ∧ 1 ≤ cf t ∧ cf t * rf t ≤ 36) (s0 : Int32) (k : Nat) : ∀ t, t ≤ nt → psl I o cf rf df s0 k t = s0 + lsT V I cf rf df k t
  | 0, _ => (Int32.add_zero _).symm
  | t + 1, ht => by
    obtain ⟨g1, g2, g3⟩ := hT t (by omega)
    show psl I o cf rf df s0 k t + fpl (nI (df t)) (ngf (cf t) (cf t * rf t) (df t) (I (o + 20 + t)) (I (o + 10 + t)) k) (6 * (cf t * rf t)) = s0 + (lsT V I cf rf df k t + pkS (nI (df t)) (ngs (cf t) (cf t * rf t) (df t) (I (30 + 4 * t + 2)) (tv V (300 + 72 * t)) k) 36)
    rw [psl_lsT hT s0 k t (by omega), fpl_pkS, ← pkS_z (nI (df t)) (ngf_FZ rfl g2 g1.1 k) 36 g3, pkS_x (fun q hq => (tick_ngs g1 g2 g3 (df t) k q hq).symm), Int32.add_assoc]
theorem psL_psn (hT : ∀ t, t < nt → RlT V I o t cf rf ∧ 1 ≤ cf t ∧ cf t * rf t ≤ 36) : ∀ z, psL V I cf rf df z nt = psn I o nt cf rf df z
  | 0 => psL_0 V I cf rf df nt
  | z + 1 => by
    show _ = psl I o cf rf df (psn I o nt cf rf df z) z nt
    rw [psl_lsT hT _ z nt (Nat.le_refl _), psL_s, psL_psn hT z]
theorem Iv.pass (ho : o = 1000) (h : Iv a1 S V I o ns nt es na cf rf df N) {z : Nat} (eV : V' = psV V I cf rf df z nt) {L : Int32} (e0 : J 0 = upd (upd (I 0) 5 (I 0 5 + nI z)) 7 (I 0 7 + L)) (e1 : ∀ t, t < nt → J (o + 10 + t) = ngf (cf t) (cf t * rf t) (df t) (I (o + 20 + t)) (I (o + 10 + t)) z) (eo : ∀ j, j ≠ 0 → J o j = upd (upd (I o) 10 (I o 10 + nI z)) 12 (I o 12 + L) j) (ex : ∀ x, x ≠ 0 → ¬ (o + 10 ≤ x ∧ x < o + 10 + nt) → x ≠ o → x ≠ 2000 → J x = I x) : Iv a1 S V' J o ns nt es na cf rf df N := by
  obtain ⟨h1, h2, ⟨h3, h4⟩, r1, r2, r3, r4, r5, r6⟩ := h
  have hns := h3.2.2.1
  have hnt := h3.2.2.2.1
  have eVn (x : Nat) (hx : x < 300 ∨ 300 + 72 * nt ≤ x) : V' x = V x := by rw [eV]; exact psV_out V I cf rf df z nt hx
  have en (x : Nat) (a : x ≠ 0) (b : x < o + 10 ∨ o + 16 ≤ x) (c : x ≠ o) (d : x ≠ 2000) : J x = I x := ex x a (by omega) c d
  refine ⟨h1, h2, ⟨cfc h3 (en 1 (by omega) (by omega) (by omega) (by omega)) (en 2 (by omega) (by omega) (by omega) (by omega)) (fun t ht => en _ (by omega) (by omega) (by omega) (by omega)), mfc h4 (eo 1 (by decide)) (eo 6 (by decide)) (en _ (by omega) (by omega) (by omega) (by omega)) (en _ (by omega) (by omega) (by omega) (by omega))⟩, ?_, rS r2 (fun i hi => eVn _ (by omega)) (en _ (by omega) (by omega) (by omega) (by omega)), rD r3 (fun i hi => en _ (by omega) (by omega) (by omega) (by omega)) (en _ (by omega) (by omega) (by omega) (by omega)), rC r4 (fun c hc => eVn _ (by omega)) (en _ (by omega) (by omega) (by omega) (by omega)), fun u hu => ?_, rZ r6 (fun q hq => eVn _ (by omega))⟩
  · obtain ⟨q1, q2, q3, q4, q5⟩ := r1
    unfold RlW
    rw [e0, eo 4 (by decide), eo 10 (by decide), eo 11 (by decide), eo 12 (by decide)]
    refine ⟨q1, q2, ?_, q4, ?_⟩
    · show I 0 5 + nI z = I o 10 + nI z
      rw [q3]
    · show I 0 7 + L = I o 12 + L
      rw [q5]
  · have g := r5 u hu
    obtain ⟨-, -, -, -, f1, f2, f3, f4, f5, f6⟩ := h3.2.2.2.2 u hu
    have hcr := (h3.2.2.2.2 u hu).le.2
    have gB := ngs_B (B := I (30 + 4 * u + 2)) (d := df u) rfl f1 hcr f6 (tick_B g) z
    unfold RlT
    rw [e1 u hu, en (o + 20 + u) (by omega) (by omega) (by omega) (by omega), en (30 + 4 * u + 2) (by omega) (by omega) (by omega) (by omega)]
    refine ⟨ngf_FZ rfl f1 g.1 z, fun q hq => ?_, g.2.2⟩
    rw [eV, psV_in V I cf rf df z nt u q hu hq, ← tick_ngs g f1 hcr (df u) z q hq]
    exact ⟨rfl, gB q hq⟩
end UPD
/-! flights -/
theorem brn_nI {a : Nat} (ha : a ≤ 500) (to p : Int32) : ∃ b, b ≤ a ∧ brn (nI a) to p = nI b := by
  have d1 : nI a * 6 / 10 = nI (a * 6 / 10) := by rw [show (6 : Int32) = nI 6 from rfl, pk_mul, show (10 : Int32) = nI 10 from rfl, pk_div (by omega) (by decide) (by decide)]
  have d2 : nI a / 4 = nI (a / 4) := by rw [show (4 : Int32) = nI 4 from rfl, pk_div (by omega) (by decide) (by decide)]
  unfold brn
  rw [d1, d2]
  by_cases c1 : p = to
  · rw [if_pos c1]; exact ⟨_, by omega, rfl⟩
  · rw [if_neg c1]
    by_cases c2 : p = to + 1
    · rw [if_pos c2]; exact ⟨_, by omega, rfl⟩
    · rw [if_neg c2]
      by_cases c3 : p = to - 1
      · rw [if_pos c3, pk_sub (by omega), pk_sub (by omega)]; exact ⟨_, by omega, rfl⟩
      · rw [if_neg c3]; exact ⟨0, Nat.zero_le _, rfl⟩
theorem brn_F {x : Nat → Int32} (hx : Bk x 500) (tt : Nat → Int32) (p : Int32) : ∃ b : Nat → Nat, (∀ k, k < 6 → b k ≤ 500 ∧ brn (x k) (tt k) p = nI (b k)) := by
  obtain ⟨f, rfl, hf⟩ := hx
  refine ⟨fun k => if h : k < 6 then (brn_nI (hf k h) (tt k) p).choose else 0, fun k hk => ?_⟩
  have h := (brn_nI (hf k hk) (tt k) p).choose_spec
  have h2 := hf k hk
  rw [nv_k f hk]
  simp only [dif_pos hk]
  exact ⟨by omega, h.2⟩
