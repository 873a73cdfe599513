/-! while sacks and ticks are made -/
def rho0 (i : Nat) : Nat := 1030 + i
theorem rho0_up (n : Nat) : va_up rho0 n (1030 + n) = rho0 := up_id _ _ _ rfl
theorem Rho_0 (ns : Nat) : Rho rho0 ns := ⟨fun i _ => Or.inl rfl, fun i j _ _ h => by unfold rho0 at h; omega⟩
def Al (ns nt x : Nat) : Prop := x < 4 ∨ (x = 4 ∧ 0 < ns) ∨ (x = 5 ∧ 0 < nt) ∨ (10 ≤ x ∧ x < 10 + ns) ∨ (30 ≤ x ∧ x < 30 + 4 * nt) ∨ (54 ≤ x ∧ x < 58) ∨ (100 ≤ x ∧ x < 110) ∨ (200 ≤ x ∧ x < 200 + 2 * ns) ∨ (300 ≤ x ∧ x < 300 + 72 * nt) ∨ (732 ≤ x ∧ x < 804) ∨ x = 1000 ∨ x = 1001 ∨ (1009 ≤ x ∧ x ≤ 1014) ∨ (1020 ≤ x ∧ x ≤ 1020 + ns) ∨ (1030 ≤ x ∧ x < 1030 + ns) ∨ (1040 ≤ x ∧ x ≤ 1040 + nt) ∨ (1100 ≤ x ∧ x < 1100 + 100 * nt)
def Bi (a1 : Nat) (S : fb_Sh) (V I : fb_V) (ns nt : Nat) (cf rf df : Nat → Nat) (N : Nat) : Prop := Iv a1 S V I ns nt rho0 cf rf df N 4000 ∧ (∀ x, x ∈ sR S → Al ns nt x) ∧ (I 0 5 = 0 ∧ I 0 6 = 0 ∧ I 0 7 = 0) ∧ csum V 100 5 = 0 ∧ tsum V nt = 0
theorem al_grow {P : Nat → Prop} {S S' : fb_Sh} {Q Q' : Nat → Prop} (hE : Ext P S S') (h : ∀ x, x ∈ sR S → Q x) (h1 : ∀ x, P x → Q' x) (h2 : ∀ x, Q x → Q' x) : ∀ x, x ∈ sR S' → Q' x := fun x hx => by
  by_cases c : P x
  · exact h1 x c
  · exact h2 x (h x ((hE x c).1.mp hx))
theorem SmAt.lo {P : Nat → Prop} {S S' : fb_Sh} (hE : Ext P S S') (hP : ∀ x, P x → x < 1000) {ns nt : Nat} {cf rf : Nat → Nat} (h : SmAt S ns nt rho0 cf rf) : SmAt S' ns nt rho0 cf rf := by
  have g (x : Nat) (hx : 1000 ≤ x) : ¬ P x := fun z => by have := hP x z; omega
  obtain ⟨h1, ⟨p0, p1, p3, p4⟩, r0, r1, r3, r4, hs, hc, ht⟩ := h
  refine ⟨RS.ext hE (g _ (by omega)) h1, ⟨p0.ext hE (g _ (by omega)) (g _ (by omega)), p1.ext hE (g _ (by omega)) (g _ (by omega)), p3.ext hE (g _ (by omega)) (g _ (by omega)), p4.ext hE (g _ (by omega)) (g _ (by omega))⟩, r0.ext hE (g _ (by omega)), r1.ext hE (g _ (by omega)), r3.ext hE (g _ (by omega)), r4.ext hE (g _ (by omega)), fun i hi => ?_, fun c hc5 => ?_, fun t htl => ?_⟩
  · have e : 1000 ≤ rho0 i := by unfold rho0; omega
    exact ⟨(hs i hi).1.ext hE (g _ (by omega)) (g _ e), (hs i hi).2.ext hE (g _ e)⟩
  · exact ⟨(hc c hc5).1.ext hE (g _ (by omega)) (g _ (by omega)), (hc c hc5).2.ext hE (g _ (by omega))⟩
  · exact ⟨(ht t htl).1.ext hE (g _ (by omega)) (g _ (by omega)), (ht t htl).2.ge hE (fun x hx => g x (by omega))⟩
theorem CpAt.hi {P : Nat → Prop} {S S' : fb_Sh} (hE : Ext P S S') (hP : ∀ x, P x → 1000 ≤ x) {a1 ns nt : Nat} (hns : ns ≤ 12) (hnt : nt ≤ 6) (h : CpAt S a1 ns nt 4 10) : CpAt S' a1 ns nt 4 10 :=
  h.ext hE (fun y hy => by
    have := hP y hy
    exact ⟨by omega, by omega, by omega, by omega, by omega, fun p hp => ⟨by omega, by omega, by omega⟩, fun t ht => ⟨by omega, by omega⟩⟩)
section BLD
variable {a1 : Nat} {S S' : fb_Sh} {V I V' J : fb_V} {ns nt N : Nat} {cf rf df : Nat → Nat}
theorem Bi.start (hC : CpAt S a1 0 0 4 10) (hA : SmAt S 0 0 rho0 cf rf) (hal : ∀ x, x ∈ sR S → Al 0 0 x) (e1 : I 1 2 = 0) (e2 : I 2 2 = 0) (e4 : I 0 4 = 10) (e5 : I 0 5 = 0) (e6 : I 0 6 = 0) (e7 : I 0 7 = 0) (ew : I 1000 2 = 10) (hc : ∀ c, c < 5 → V (100 + 2 * c) = (fun _ => 0) ∧ I (1010 + c) = fun _ => 0) (hz : ∀ q, q < 36 → V (732 + 2 * q) = fun _ => 0) : Bi a1 S V I 0 0 cf rf df 0 := by
  refine ⟨⟨⟨hC, hA⟩, ⟨Rho_0 0, by omega, fun x hx => by have := hal x hx; unfold Al at this; omega⟩, ⟨e1, e2, by omega, by omega, fun t ht => absurd ht (Nat.not_lt_zero _)⟩, ⟨⟨⟨10, by omega, by omega, e4, ew⟩, 0, by omega, e6⟩, fun i hi => absurd hi (Nat.not_lt_zero _), fun c hc5 => ⟨by rw [(hc c hc5).1, (hc c hc5).2], by rw [(hc c hc5).1]; exact Bd_0 0⟩, fun t ht => absurd ht (Nat.not_lt_zero _), fun q hq => ?_⟩, by omega, by omega⟩, hal, ⟨e5, e6, e7⟩, ?_, rfl⟩
  · show tz (V (732 + 2 * q))
    rw [hz q hq]
    exact fun _ _ => rfl
  · show 0 + s6 (V (100 + 2 * 0)) + s6 (V (100 + 2 * 1)) + s6 (V (100 + 2 * 2)) + s6 (V (100 + 2 * 3)) + s6 (V (100 + 2 * 4)) = 0
    rw [(hc 0 (by decide)).1, (hc 1 (by decide)).1, (hc 2 (by decide)).1, (hc 3 (by decide)).1, (hc 4 (by decide)).1]
    decide
theorem Bi.addS (h : Bi a1 S V I ns nt cf rf df N) (hn : ns < 4) {d : Nat} (hd : d ≤ 9) {S2 : fb_Sh} (hC2 : CpAt S2 a1 (ns + 1) nt 4 10) (hE : Ext (fun x => x = 10 + ns ∨ x = 200 + 2 * ns ∨ x = 200 + 2 * ns + 1 ∨ x = 1 ∨ x = 4) S S2) (hA3 : SmAt S' (ns + 1) nt (va_up rho0 ns (1030 + ns)) cf rf) (hE3 : Ext (fun x => x = 1000 ∨ x = 1020 + (ns + 1) ∨ x = 1030 + ns) S2 S')
    (eV : V' = va_up V (200 + 2 * ns) (fun _ => 0)) (e1 : J 1 2 = nI (ns + 1)) (e2 : J (10 + ns) 1 = nI d) (e3 : J (1030 + ns) = fun _ => 0) (e4 : J 1001 = upd (I 1001) ns (nI d)) (ex : ∀ x, x ≠ 10 + ns → x ≠ 1 → x ≠ 1030 + ns → x ≠ 1001 → J x = I x) : Bi a1 S' V' J (ns + 1) nt cf rf df N := by
  obtain ⟨⟨⟨k1, k2⟩, ⟨g2, g3⟩, ⟨c1, c2, c3, c4, c5⟩, ⟨j1, j2, j3, j4, j5⟩, g5, g6⟩, hal, ⟨z5, z6, z7⟩, zc, zt⟩ := h
  rw [rho0_up] at hA3
  have hal' : ∀ x, x ∈ sR S' → Al (ns + 1) nt x := al_grow hE3 (al_grow (Q' := Al (ns + 1) nt) hE hal (fun x hx => by unfold Al; omega) (fun x hx => by unfold Al at hx ⊢; omega)) (fun x hx => by unfold Al; omega) (fun x hx => hx)
  have ev (x : Nat) (hx : x ≠ 200 + 2 * ns) : V' x = V x := by rw [eV]; exact va_up_ne _ _ hx
  have en (x : Nat) (h1 : x ≠ 10 + ns) (h2 : x ≠ 1) (h3 : x ≠ 1030 + ns) (h4 : x ≠ 1001) : J x = I x := ex x h1 h2 h3 h4
  have e0 : J 0 = I 0 := en 0 (by omega) (by omega) (by omega) (by omega)
  refine ⟨⟨⟨hC2.hi hE3 (fun x hx => by omega) (by omega) (by omega), hA3⟩, ⟨Rho_0 _, by omega, fun x hx => by have := hal' x hx; unfold Al at this; omega⟩, ⟨e1, by rw [en 2 (by omega) (by omega) (by omega) (by omega)]; exact c2, by omega, c4, fun t ht => ?_⟩, ⟨j1.same e0 (en _ (by omega) (by omega) (by omega) (by omega)) (by omega), fun i hi => ?_, fun c hc => (j3 c hc).same (ev _ (by omega)) (en _ (by omega) (by omega) (by omega) (by omega)) (by omega), fun t ht => (j4 t ht).same (fun q hq => ev _ (by omega)) (fun x h1 h2 => en _ (by omega) (by omega) (by omega) (by omega)) (en _ (by omega) (by omega) (by omega) (by omega)), fun q hq => ?_⟩, by omega, g6⟩, hal', ⟨by rw [e0]; exact z5, by rw [e0]; exact z6, by rw [e0]; exact z7⟩, ?_, ?_⟩
  · have h6 := c5 t ht
    unfold TF at h6 ⊢
    rw [en (30 + 4 * t) (by omega) (by omega) (by omega) (by omega)]
    exact h6
  · by_cases e : i = ns
    · subst e
      refine ⟨?_, ?_, d, hd, e2, by rw [e4]; exact if_pos rfl⟩
      · show J (1030 + i) = _
        rw [e3, eV, va_up_self]
      · rw [eV, va_up_self]
        exact Bk_0 500
    · obtain ⟨s1, s2, dm, s5, s6', s7⟩ := j2 i (by omega)
      refine ⟨?_, by rw [ev _ (by omega)]; exact s2, dm, s5, by rw [en _ (by omega) (by omega) (by omega) (by omega)]; exact s6', by rw [e4]; exact (if_neg e).trans s7⟩
      show J (1030 + i) = _
      rw [ev _ (by omega), en _ (by omega) (by omega) (by omega) (by omega)]
      exact s1
  · show tz (V' (732 + 2 * q))
    rw [ev _ (by omega)]
    exact j5 q hq
  · rw [csum_cg (V := V) 5 (fun c hc => ev _ (by omega))]
    exact zc
  · rw [tsum_cg (V := V) nt (fun t ht q hq => ev _ (by omega))]
    exact zt
theorem Bi.put (h : Bi a1 S V I ns nt cf rf df N) {i k m : Nat} (hi : i < ns) (hk : k < 6) (hv : V (200 + 2 * i) k = 0) (hm : m ≤ 500) (eV : V' = va_up V (200 + 2 * i) (chv (V (200 + 2 * i)) k (nI m))) (eJ : J = va_up I (1030 + i) (upd (I (1030 + i)) k (nI m))) : Bi a1 S V' J ns nt cf rf df (N + 3000) := by
  obtain ⟨h1, hal, ⟨z5, z6, z7⟩, zc, zt⟩ := h
  have e0 : J 0 = I 0 := by rw [eJ]; exact va_up_ne _ _ (by omega)
  have hns := h1.2.2.2.2.1
  have hnt := h1.2.2.2.2.2
  have ev (x : Nat) (hx : x ≠ 200 + 2 * i) : V' x = V x := by rw [eV]; exact va_up_ne _ _ hx
  refine ⟨(Ac.put h1 (v := 0) (m := m) hi hk hv (by omega) eV (by rw [eJ, Nat.zero_add]; rfl)).1, hal, ⟨by rw [e0]; exact z5, by rw [e0]; exact z6, by rw [e0]; exact z7⟩, ?_, ?_⟩
  · rw [csum_cg (V := V) 5 (fun c hc => ev _ (by omega))]
    exact zc
  · rw [tsum_cg (V := V) nt (fun t ht q hq => ev _ (by omega))]
    exact zt
theorem fsum_0 : ∀ n, fsum (fun _ _ => 0) n = 0
  | 0 => rfl
  | n + 1 => by
    show fsum (fun _ _ => 0) n + s6 (fun _ => 0) = 0
    rw [fsum_0 n]
    decide
theorem Bi.addT (h : Bi a1 S V I ns nt cf rf df N) (hn : nt < 3) {c rr d : Nat} (hc1 : 1 ≤ c) (hc6 : c ≤ 6) (hr1 : 1 ≤ rr) (hr6 : rr ≤ 6) (hd1 : 1 ≤ d) (hd9 : d ≤ 9) {S2 : fb_Sh} (hC2 : CpAt S2 a1 ns (nt + 1) 4 10) (hE : Ext (fun x => (30 + 4 * nt ≤ x ∧ x < 30 + 4 * nt + 4) ∨ (300 + 72 * nt ≤ x ∧ x < 300 + 72 * nt + 72) ∨ x = 2 ∨ x = 5) S S2) (hA3 : SmAt S' ns (nt + 1) rho0 (va_up cf nt c) (va_up rf nt rr)) (hE3 : Ext (fun x => x = 1000 ∨ x = 1040 + (nt + 1) ∨ (1100 + 100 * nt ≤ x ∧ x < 1100 + 100 * nt + 100)) S2 S')
    (eV : V' = zV V (300 + 72 * nt) 36) (e1 : J 2 2 = nI (nt + 1)) (e2 : TF J (30 + 4 * nt) c rr d) (e3 : J (30 + 4 * nt + 2) = fun _ => 0) (e4 : LF J (1100 + 100 * nt) c rr d) (e5 : ∀ q, q < c * rr → J (1100 + 100 * nt + 10 + q) = (fun _ => 0) ∧ J (1100 + 100 * nt + 50 + q) = fun _ => 0) (ex : ∀ x, x ≠ 2 → ¬ (30 + 4 * nt ≤ x ∧ x < 30 + 4 * nt + 4) → ¬ (1100 + 100 * nt ≤ x ∧ x < 1100 + 100 * nt + 100) → J x = I x) : Bi a1 S' V' J ns (nt + 1) (va_up cf nt c) (va_up rf nt rr) (va_up df nt d) N := by
  obtain ⟨⟨⟨k1, k2⟩, ⟨g2, g3⟩, ⟨c1, c2, c3, c4, c5⟩, ⟨j1, j2, j3, j4, j5⟩, g5, g6⟩, hal, ⟨z5, z6, z7⟩, zc, zt⟩ := h
  have hal' : ∀ x, x ∈ sR S' → Al ns (nt + 1) x := al_grow hE3 (al_grow (Q' := Al ns (nt + 1)) hE hal (fun x hx => by unfold Al; omega) (fun x hx => by unfold Al at hx ⊢; omega)) (fun x hx => by unfold Al; omega) (fun x hx => hx)
  have ev (x : Nat) (hx : x < 300 + 72 * nt ∨ 300 + 72 * nt + 72 ≤ x) : V' x = V x := by rw [eV]; exact zV_out V _ 36 (by omega)
  have ev0 (q : Nat) (hq : q < 36) : V' (300 + 72 * nt + 2 * q) = fun _ => 0 := by rw [eV]; exact zV_at V _ 36 hq
  have en (x : Nat) (h1 : x ≠ 2) (h2 : ¬ (30 + 4 * nt ≤ x ∧ x < 30 + 4 * nt + 4)) (h3 : ¬ (1100 + 100 * nt ≤ x ∧ x < 1100 + 100 * nt + 100)) : J x = I x := ex x h1 h2 h3
  have e0 : J 0 = I 0 := en 0 (by omega) (by omega) (by omega)
  refine ⟨⟨⟨hC2.hi hE3 (fun x hx => by omega) (by omega) (by omega), hA3⟩, ⟨Rho_0 _, by omega, fun x hx => by have := hal' x hx; unfold Al at this; omega⟩, ⟨by rw [en 1 (by omega) (by omega) (by omega)]; exact c1, e1, c3, by omega, fun t ht => ?_⟩, ⟨j1.same e0 (en _ (by omega) (by omega) (by omega)) (by omega), fun i hi => ?_, fun c hc => (j3 c hc).same (ev _ (by omega)) (en _ (by omega) (by omega) (by omega)) (by omega), fun t ht => ?_, fun q hq => ?_⟩, g5, by omega⟩, hal', ⟨by rw [e0]; exact z5, by rw [e0]; exact z6, by rw [e0]; exact z7⟩, ?_, ?_⟩
  · by_cases e : t = nt
    · subst e
      rw [va_up_self, va_up_self, va_up_self]
      exact e2
    · rw [va_up_ne _ _ e, va_up_ne _ _ e, va_up_ne _ _ e]
      have h6 := c5 t (by omega)
      unfold TF at h6 ⊢
      rw [en (30 + 4 * t) (by omega) (by omega) (by omega)]
      exact h6
  · have hri : rho0 i = 1030 + i := rfl
    exact (j2 i hi).same (ev _ (by omega)) (by rw [hri]; exact en _ (by omega) (by omega) (by omega)) (en _ (by omega) (by omega) (by omega)) (by rw [en 1001 (by omega) (by omega) (by omega)])
  · by_cases e : t = nt
    · subst e
      rw [va_up_self, va_up_self, va_up_self]
      refine ⟨e4, fun q hq => ?_, fun q hq => ?_, fun q h1 h2 => ev0 q h2, fun q e' hq he => ?_⟩
      · show Bd (V' (300 + 72 * t + 2 * q)) 300
        rw [ev0 q hq]
        exact Bd_0 300
      · have := e4.le
        rw [(e5 q hq).1, ev0 q (by omega)]
      · rw [(e5 q hq).2, e3]
        exact ⟨rfl, Or.inl rfl⟩
    · rw [va_up_ne _ _ e, va_up_ne _ _ e, va_up_ne _ _ e]
      exact (j4 t (by omega)).same (fun q hq => ev _ (by omega)) (fun x h1 h2 => en _ (by omega) (by omega) (by omega)) (en _ (by omega) (by omega) (by omega))
  · show tz (V' (732 + 2 * q))
    rw [ev _ (by omega)]
    exact j5 q hq
  · rw [csum_cg (V := V) 5 (fun c hc => ev _ (by omega))]
    exact zc
  · show tsum V' nt + fsum (tv V' (300 + 72 * nt)) 36 = 0
    rw [tsum_cg (V := V) nt (fun t ht q hq => ev _ (by omega)), zt, fsum_cg (X := tv V' (300 + 72 * nt)) (Y := fun _ _ => 0) 36 (fun q hq => ev0 q hq), fsum_0]
    rfl
end BLD
