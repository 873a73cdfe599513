/-! a Sim that grows: its rows of sacks and of ticks are laid anew -/
def ptf (f : Nat → Nat) (k : Nat) : Nat → Option Nat := fun j => if j < k then some (f j) else none
theorem ptf_0 (f : Nat → Nat) : ptf f 0 = fun _ => none := by
  funext j
  exact if_neg (Nat.not_lt_zero _)
theorem ptf_s (f : Nat → Nat) (k : Nat) : va_up (ptf f k) k (some (f k)) = ptf f (k + 1) := by
  funext j
  by_cases e : j = k
  · subst e
    rw [va_up_self]
    exact (if_pos (Nat.lt_succ_self _)).symm
  · rw [va_up_ne _ _ e]
    unfold ptf
    by_cases c : j < k
    · rw [if_pos c, if_pos (by omega)]
    · rw [if_neg c, if_neg (by omega)]
theorem setps_0 (S : fb_Sh) (r q k n : Nat) (f : Nat → Nat) : fb_setps (fb_new S r q k n) r (ptf f 0) = fb_new S r q k n := by
  unfold fb_setps
  rw [up_id _ _ _ (by rw [ptf_0, nw_p])]
  rfl
theorem setps_s (S : fb_Sh) (r : Nat) (f : Nat → Nat) (k : Nat) : fb_setp (fb_setps S r (ptf f k)) r k (some (f k)) = fb_setps S r (ptf f (k + 1)) := by
  show (sR S, sa S, sk S, sn S, va_up (va_up (sp S) r (ptf f k)) r (va_up (va_up (sp S) r (ptf f k) r) k (some (f k)))) = _
  rw [va_up_self, up_up, ptf_s]
  rfl
theorem setps_E (S : fb_Sh) (r : Nat) (f : Nat → Option Nat) : Ext (fun x => x = r) S (fb_setps S r f) := fun x hx => ⟨Iff.rfl, rfl, rfl, rfl, va_up_ne _ _ hx⟩
theorem setps_p (S : fb_Sh) (r : Nat) (f : Nat → Option Nat) : sp (fb_setps S r f) r = f := va_up_self _ _ _
/-- only the pointers of the roles of P are others -/
def Pxt (P : Nat → Prop) (S S' : fb_Sh) : Prop := sR S' = sR S ∧ sa S' = sa S ∧ sk S' = sk S ∧ sn S' = sn S ∧ ∀ x, ¬ P x → sp S' x = sp S x
theorem Pxt.ra {P : Nat → Prop} {S S' : fb_Sh} (h : Pxt P S S') {r k n : Nat} (g : RA S r k n) : RA S' r k n := by
  obtain ⟨h1, h2, h3, h4, h5⟩ := h
  unfold RA
  rw [h1, h3, h4]
  exact g
theorem Pxt.rs {P : Nat → Prop} {S S' : fb_Sh} (h : Pxt P S S') {r k : Nat} (g : r ∈ sR S ∧ sk S r = k) : r ∈ sR S' ∧ sk S' r = k := by
  obtain ⟨h1, h2, h3, h4, h5⟩ := h
  rw [h1, h3]
  exact g
theorem Pxt.pa {P : Nat → Prop} {S S' : fb_Sh} (h : Pxt P S S') {r j t : Nat} (hr : ¬ P r) (g : PA S r j t) : PA S' r j t := by
  obtain ⟨h1, h2, h3, h4, h5⟩ := h
  unfold PA
  rw [h5 r hr, h2]
  exact g
theorem Pxt.setp (S : fb_Sh) (r j : Nat) (v : Option Nat) : Pxt (fun x => x = r) S (fb_setp S r j v) := ⟨rfl, rfl, rfl, rfl, fun x hx => va_up_ne _ _ hx⟩
theorem Pxt.setps (S : fb_Sh) (r : Nat) (f : Nat → Option Nat) : Pxt (fun x => x = r) S (fb_setps S r f) := ⟨rfl, rfl, rfl, rfl, fun x hx => va_up_ne _ _ hx⟩
theorem LtAt.pxt {P : Nat → Prop} {S S' : fb_Sh} (h : Pxt P S S') {o n : Nat} (g : ∀ x, o ≤ x → ¬ P x) (hT : LtAt S o n) : LtAt S' o n := by
  obtain ⟨h1, h2, h3, h4, h5, h6⟩ := hT
  exact ⟨h.rs h1, h.pa (g _ (by omega)) h2, h.pa (g _ (by omega)) h3, h.ra h4, h.ra h5, fun q hq => ⟨⟨h.pa (g _ (by omega)) (h6 q hq).1.1, h.ra (h6 q hq).1.2⟩, h.pa (g _ (by omega)) (h6 q hq).2.1, h.ra (h6 q hq).2.2⟩⟩
theorem SmAt.pxt {P : Nat → Prop} {S S' : fb_Sh} (h : Pxt P S S') {ns nt : Nat} {rho cf rf : Nat → Nat} (g0 : ¬ P 1000) (g1 : ¬ P (1020 + ns)) (g2 : ¬ P 1009) (g3 : ¬ P (1040 + nt)) (g4 : ∀ x, 1100 ≤ x → ¬ P x) (hA : SmAt S ns nt rho cf rf) : SmAt S' ns nt rho cf rf := by
  obtain ⟨h1, ⟨p0, p1, p3, p4⟩, r0, r1, r3, r4, hs, hc, ht⟩ := hA
  exact ⟨h.rs h1, ⟨h.pa g0 p0, h.pa g0 p1, h.pa g0 p3, h.pa g0 p4⟩, h.ra r0, h.ra r1, h.ra r3, h.ra r4, fun i hi => ⟨h.pa g1 (hs i hi).1, h.ra (hs i hi).2⟩, fun c hc5 => ⟨h.pa g2 (hc c hc5).1, h.ra (hc c hc5).2⟩, fun t htl => ⟨h.pa g3 (ht t htl).1, (ht t htl).2.pxt h (fun x hx => g4 x (by omega))⟩⟩
theorem SmAt.addS {S : fb_Sh} {ns nt : Nat} {rho cf rf : Nat → Nat} (h : SmAt S ns nt rho cf rf) (hn : ns < 12) (rA : RA S (1020 + (ns + 1)) 10 (ns + 1)) (hp : ∀ i, i < ns → PA S (1020 + (ns + 1)) i (rho i)) (pn : PA S (1020 + (ns + 1)) ns (1030 + ns)) (rn : RA S (1030 + ns) 6 6) : SmAt (fb_setp S 1000 0 (some (sa S (1020 + (ns + 1))))) (ns + 1) nt (va_up rho ns (1030 + ns)) cf rf := by
  have hx := Pxt.setp S 1000 0 (some (sa S (1020 + (ns + 1))))
  obtain ⟨h1, ⟨p0, p1, p3, p4⟩, r0, r1, r3, r4, hs, hc, ht⟩ := h
  refine ⟨hx.rs h1, ⟨PA.put S 1000 0 (1020 + (ns + 1)), p1.setp _ (Or.inr (by decide)), p3.setp _ (Or.inr (by decide)), p4.setp _ (Or.inr (by decide))⟩, hx.ra rA, hx.ra r1, hx.ra r3, hx.ra r4, fun i hi => ?_, fun c hc5 => ⟨hx.pa (by omega) (hc c hc5).1, hx.ra (hc c hc5).2⟩, fun t htl => ⟨hx.pa (by omega) (ht t htl).1, (ht t htl).2.pxt hx (fun x hx => by omega)⟩⟩
  by_cases e : i = ns
  · subst e
    rw [va_up_self]
    exact ⟨hx.pa (by omega) pn, hx.ra rn⟩
  · rw [va_up_ne _ _ e]
    exact ⟨hx.pa (by omega) (hp i (by omega)), hx.ra (hs i (by omega)).2⟩
theorem SmAt.addT {S : fb_Sh} {ns nt c r : Nat} {rho cf rf : Nat → Nat} (h : SmAt S ns nt rho cf rf) (hn : ns ≤ 12) (hm : nt < 6) (rA : RA S (1040 + (nt + 1)) 13 (nt + 1)) (hp : ∀ t, t < nt → PA S (1040 + (nt + 1)) t (1100 + 100 * t)) (pn : PA S (1040 + (nt + 1)) nt (1100 + 100 * nt)) (rn : LtAt S (1100 + 100 * nt) (c * r)) : SmAt (fb_setp S 1000 4 (some (sa S (1040 + (nt + 1))))) ns (nt + 1) rho (va_up cf nt c) (va_up rf nt r) := by
  have hx := Pxt.setp S 1000 4 (some (sa S (1040 + (nt + 1))))
  obtain ⟨h1, ⟨p0, p1, p3, p4⟩, r0, r1, r3, r4, hs, hc, ht⟩ := h
  refine ⟨hx.rs h1, ⟨p0.setp _ (Or.inr (by decide)), p1.setp _ (Or.inr (by decide)), p3.setp _ (Or.inr (by decide)), PA.put S 1000 4 (1040 + (nt + 1))⟩, hx.ra r0, hx.ra r1, hx.ra r3, hx.ra rA, fun i hi => ⟨hx.pa (by omega) (hs i hi).1, hx.ra (hs i hi).2⟩, fun c hc5 => ⟨hx.pa (by omega) (hc c hc5).1, hx.ra (hc c hc5).2⟩, fun t htl => ?_⟩
  by_cases e : t = nt
  · subst e
    rw [va_up_self, va_up_self]
    exact ⟨hx.pa (by omega) pn, rn.pxt hx (fun x hx => by omega)⟩
  · rw [va_up_ne _ _ e, va_up_ne _ _ e]
    exact ⟨hx.pa (by omega) (hp t (by omega)), (ht t (by omega)).2.pxt hx (fun x hx => by omega)⟩
theorem upa_13 {y : Nat → ClassId} {S : fb_Sh} {V I : fb_V} {T : fb_T} {r j : Nat} {v : Option Nat} (hk : sk S r = 13) : ∀ q, va_up (fb_g y (S, V, T, I)) r (.inl (y 6, sn S r, .inr (.inr (.inr (.inr (va_up (sp S r) j v)))))) q = fb_g y (fb_setp S r j v, V, T, I) q :=
  up_P (by rw [ce13 (S := fb_setp S r j v) (show sk (fb_setp S r j v) r = 13 from hk), st_p]; rfl)
theorem SmAt.ext25 {P : Nat → Prop} {S S' : fb_Sh} (hE : Ext P S S') {ns nt : Nat} {rho cf rf : Nat → Nat} (h : SmAt S ns nt rho cf rf) (hn : ns ≤ 12) (hm : nt < 6) (hP : ∀ x, P x → 1100 + 100 * nt ≤ x) (hr : ∀ i, i < ns → ¬ P (rho i)) (hcr : ∀ t, t < nt → cf t * rf t ≤ 36) : SmAt S' ns nt rho cf rf := by
  have g (x : Nat) (hx : x < 1100 + 100 * nt) : ¬ P x := fun z => by have := hP x z; omega
  obtain ⟨h1, ⟨p0, p1, p3, p4⟩, r0, r1, r3, r4, hs, hc, ht⟩ := h
  refine ⟨RS.ext hE (g _ (by omega)) h1, ⟨p0.ext hE (g _ (by omega)) (g _ (by omega)), p1.ext hE (g _ (by omega)) (g _ (by omega)), p3.ext hE (g _ (by omega)) (g _ (by omega)), p4.ext hE (g _ (by omega)) (g _ (by omega))⟩, r0.ext hE (g _ (by omega)), r1.ext hE (g _ (by omega)), r3.ext hE (g _ (by omega)), r4.ext hE (g _ (by omega)), fun i hi => ?_, fun c hc5 => ?_, fun t htl => ?_⟩
  · exact ⟨(hs i hi).1.ext hE (g _ (by omega)) (hr i hi), (hs i hi).2.ext hE (hr i hi)⟩
  · exact ⟨(hc c hc5).1.ext hE (g _ (by omega)) (g _ (by omega)), (hc c hc5).2.ext hE (g _ (by omega))⟩
  · exact ⟨(ht t htl).1.ext hE (g _ (by omega)) (g _ (by omega)), (ht t htl).2.ext hE (hcr t htl) (fun x h1 h2 => g x (by omega))⟩
