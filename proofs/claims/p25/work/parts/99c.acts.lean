/-! the acts, done to both -/
def Ac (a1 : Nat) (S : fb_Sh) (V I V' J : fb_V) (ns nt : Nat) (rho cf rf df : Nat → Nat) (N F k : Nat) : Prop := Iv a1 S V' J ns nt rho cf rf df (N + 3000) F ∧ tot V' J ns nt = tot V I ns nt + nI k ∧ J 0 5 = I 0 5 ∧ J 0 7 = I 0 7
section ACT
variable {a1 : Nat} {S : fb_Sh} {V I V' J : fb_V} {ns nt N F : Nat} {rho cf rf df : Nat → Nat}
theorem Ac.nil (h : Iv a1 S V I ns nt rho cf rf df N F) : Ac a1 S V I V I ns nt rho cf rf df N F 0 := ⟨h.le (by omega), (Int32.add_zero _).symm, rfl, rfl⟩
theorem Ac.wind (h : Iv a1 S V I ns nt rho cf rf df N F) {w : Nat} (hw1 : 1 ≤ w) (hw : w ≤ 20) (e0 : J 0 = upd (I 0) 4 (nI w)) (e1 : J 1000 = upd (I 1000) 2 (nI w)) (ex : ∀ x, x ≠ 0 → x ≠ 1000 → J x = I x) : Ac a1 S V I V J ns nt rho cf rf df N F 0 := by
  obtain ⟨g1, ⟨g2, g3⟩, g4, ⟨⟨-, y, j1, j0⟩, j2, j3, j4, j5⟩, g5, g6⟩ := id h
  refine ⟨h.frame ⟨⟨w, hw1, hw, by rw [e0]; exact if_pos rfl, by rw [e1]; exact if_pos rfl⟩, y, by omega, by rw [e0]; exact j0⟩ (ex _ (by omega) (by omega)) (ex _ (by omega) (by omega)) (fun t ht => ex _ (by omega) (by omega)) (fun i hi => ?_) (fun c hc => (j3 c hc).same rfl (ex _ (by omega) (by omega)) (by omega)) (fun t ht => (j4 t ht).same (fun _ _ => rfl) (fun x h1 h2 => ex _ (by omega) (by omega)) (ex _ (by omega) (by omega))) (fun _ _ => rfl), ?_, by rw [e0]; rfl, by rw [e0]; rfl⟩
  · have := g2.1 i hi
    exact (j2 i hi).same rfl (ex _ (by omega) (by omega)) (ex _ (by omega) (by omega)) (by rw [ex 1001 (by omega) (by omega)])
  · unfold tot
    rw [e0, show nI 0 = 0 from rfl, Int32.add_zero]
    rfl
theorem Ac.dry (h : Iv a1 S V I ns nt rho cf rf df N F) {i D : Nat} (hi : i < ns) (hD : D ≤ 9) (e1 : J (10 + i) = upd (I (10 + i)) 1 (nI D)) (e2 : J 1001 = upd (I 1001) i (nI D)) (ex : ∀ x, x ≠ 10 + i → x ≠ 1001 → J x = I x) : Ac a1 S V I V J ns nt rho cf rf df N F 0 := by
  obtain ⟨g1, ⟨g2, g3⟩, g4, ⟨j1, j2, j3, j4, j5⟩, g5, g6⟩ := id h
  have e0 := ex 0 (by omega) (by omega)
  refine ⟨h.frame (j1.same e0 (ex _ (by omega) (by omega)) (by omega)) (ex _ (by omega) (by omega)) (ex _ (by omega) (by omega)) (fun t ht => ex _ (by omega) (by omega)) (fun p hp => ?_) (fun c hc => (j3 c hc).same rfl (ex _ (by omega) (by omega)) (by omega)) (fun t ht => (j4 t ht).same (fun _ _ => rfl) (fun x h1 h2 => ex _ (by omega) (by omega)) (ex _ (by omega) (by omega))) (fun _ _ => rfl), ?_, by rw [e0], by rw [e0]⟩
  · have := g2.1 p hp
    by_cases e : p = i
    · subst e
      obtain ⟨s1, s2, s3⟩ := j2 p hp
      refine ⟨by rw [ex _ (by omega) (by omega)]; exact s1, s2, D, hD, by rw [e1]; exact if_pos rfl, by rw [e2]; exact if_pos rfl⟩
    · exact (j2 p hp).same rfl (ex _ (by omega) (by omega)) (ex _ (by omega) (by omega)) (by rw [e2]; exact if_neg e)
  · unfold tot
    rw [e0, show nI 0 = 0 from rfl, Int32.add_zero]
theorem Ac.put (h : Iv a1 S V I ns nt rho cf rf df N F) {i k v m : Nat} (hi : i < ns) (hk : k < 6) (hv : V (200 + 2 * i) k = nI v) (hs : v + m ≤ 500) (eV : V' = va_up V (200 + 2 * i) (chv (V (200 + 2 * i)) k (nI m))) (eJ : J = va_up I (rho i) (upd (I (rho i)) k (nI (v + m)))) : Ac a1 S V I V' J ns nt rho cf rf df N F m := by
  obtain ⟨g1, ⟨g2, g3⟩, g4, ⟨j1, j2, j3, j4, j5⟩, g5, g6⟩ := id h
  have hri := g2.1 i hi
  have ex (x : Nat) (hx : x ≠ rho i) : J x = I x := by rw [eJ]; exact va_up_ne _ _ hx
  have ev (x : Nat) (hx : x ≠ 200 + 2 * i) : V' x = V x := by rw [eV]; exact va_up_ne _ _ hx
  have e0 := ex 0 (by omega)
  have eX : V' (200 + 2 * i) = upd (V (200 + 2 * i)) k (nI (v + m)) := by
    rw [eV, va_up_self]
    unfold chv
    rw [hv, nI_add]
  refine ⟨h.frame (j1.same e0 (ex _ (by omega)) (by omega)) (ex _ (by omega)) (ex _ (by omega)) (fun t ht => ex _ (by omega)) (fun p hp => ?_) (fun c hc => (j3 c hc).same (ev _ (by omega)) (ex _ (by omega)) (by omega)) (fun t ht => (j4 t ht).same (fun q hq => ev _ (by omega)) (fun x h1 h2 => ex _ (by omega)) (ex _ (by omega))) (fun q hq => ev _ (by omega)), ?_, by rw [e0], by rw [e0]⟩
  · have hrp := g2.1 p hp
    by_cases e : p = i
    · subst e
      obtain ⟨s1, ⟨f, s2, s4⟩, dm, s5, s6, s7⟩ := j2 p hp
      refine ⟨?_, ⟨fun j => if j = k then v + m else f j, ?_, fun j hj => ?_⟩, dm, s5, by rw [ex _ (by omega)]; exact s6, by rw [ex _ (by omega)]; exact s7⟩
      · rw [eX, eJ, va_up_self, s1]
      · rw [eX, s2]
        funext j
        unfold upd nv
        by_cases e : j = k
        · subst e
          rw [if_pos rfl, if_pos hk]
          exact congrArg nI (if_pos rfl).symm
        · rw [if_neg e]
          by_cases c : j < 6
          · rw [if_pos c, if_pos c]
            exact congrArg nI (if_neg e).symm
          · rw [if_neg c, if_neg c]
      · show (if j = k then v + m else f j) ≤ 500
        split
        · exact hs
        · exact s4 j hj
    · have hne : rho p ≠ rho i := fun z => e (g2.2 p i hp hi z)
      exact (j2 p hp).same (ev _ (by omega)) (ex _ hne) (ex _ (by omega)) (by rw [ex _ (by omega)])
  · unfold tot
    rw [e0, csum_up (V := V) (V' := V') (i := i) ns hi (fun j hj hne => ev _ (by omega)), csum_cg (V := V) (V' := V') 5 (fun c hc => ev _ (by omega)), tsum_cg (V := V) (V' := V') nt (fun t ht q hq => ev _ (by omega)), eV, va_up_self, s6_ch _ hk]
    grind
theorem Ac.sweep (h : Iv a1 S V I ns nt rho cf rf df N F) (hN : N < 2 ^ 29) {i c : Nat} (hi : i < ns) (hc : c < 5) (eV : V' = va_up (va_up V (100 + 2 * c) (swa (V (100 + 2 * c)) (V (200 + 2 * i)) 6)) (200 + 2 * i) (swb (V (100 + 2 * c)) (V (200 + 2 * i)) 6)) (e1 : J (rho i) = swb (V (100 + 2 * c)) (V (200 + 2 * i)) 6) (e2 : J (1010 + c) = swa (V (100 + 2 * c)) (V (200 + 2 * i)) 6) (ex : ∀ x, x ≠ rho i → x ≠ 1010 + c → J x = I x) : Ac a1 S V I V' J ns nt rho cf rf df N F 0 := by
  obtain ⟨g1, ⟨g2, g3⟩, g4, ⟨j1, j2, j3, j4, j5⟩, g5, g6⟩ := id h
  have hri := g2.1 i hi
  have ev (x : Nat) (hx : x ≠ 200 + 2 * i) (hx2 : x ≠ 100 + 2 * c) : V' x = V x := by rw [eV, va_up_ne _ _ hx, va_up_ne _ _ hx2]
  have ev1 : V' (200 + 2 * i) = swb (V (100 + 2 * c)) (V (200 + 2 * i)) 6 := by rw [eV, va_up_self]
  have ev2 : V' (100 + 2 * c) = swa (V (100 + 2 * c)) (V (200 + 2 * i)) 6 := by rw [eV, va_up_ne _ _ (by omega), va_up_self]
  have e0 := ex 0 (by omega) (by omega)
  obtain ⟨b1, b2⟩ := SWE (j3 c hc).2 hN (j2 i hi).2.1
  refine ⟨h.frame (j1.same e0 (ex _ (by omega) (by omega)) (by omega)) (ex _ (by omega) (by omega)) (ex _ (by omega) (by omega)) (fun t ht => ex _ (by omega) (by omega)) (fun p hp => ?_) (fun q hq => ?_) (fun t ht => (j4 t ht).same (fun q hq => ev _ (by omega) (by omega)) (fun x h1 h2 => ex _ (by omega) (by omega)) (ex _ (by omega) (by omega))) (fun q hq => ev _ (by omega) (by omega)), ?_, by rw [e0], by rw [e0]⟩
  · have hrp := g2.1 p hp
    by_cases e : p = i
    · subst e
      obtain ⟨s1, s2, dm, s5, s6, s7⟩ := j2 p hp
      exact ⟨by rw [e1, ev1], by rw [ev1]; exact b2, dm, s5, by rw [ex _ (by omega) (by omega)]; exact s6, by rw [ex _ (by omega) (by omega)]; exact s7⟩
    · have hne : rho p ≠ rho i := fun z => e (g2.2 p i hp hi z)
      exact (j2 p hp).same (ev _ (by omega) (by omega)) (ex _ hne (by omega)) (ex _ (by omega) (by omega)) (by rw [ex _ (by omega) (by omega)])
  · by_cases e : q = c
    · subst e
      exact ⟨by rw [e2, ev2], by rw [ev2]; exact b1.le (by omega)⟩
    · exact (j3 q hq).same (ev _ (by omega) (by omega)) (ex _ (by omega) (by omega)) (by omega)
  · unfold tot
    have hs := s6_sw (V (100 + 2 * c)) (V (200 + 2 * i))
    rw [e0, csum_up (V := V) (V' := V') (b := 200) (i := i) ns hi (fun j hj hne => ev _ (by omega) (by omega)), csum_up (V := V) (V' := V') (b := 100) (i := c) 5 hc (fun j hj hne => ev _ (by omega) (by omega)), tsum_cg (V := V) (V' := V') nt (fun t ht q hq => ev _ (by omega) (by omega)), ev1, ev2, show nI 0 = 0 from rfl]
    grind
theorem Ac.sew (h : Iv a1 S V I ns nt rho cf rf df N F) {t q e : Nat} {b : Int32} (ht : t < nt) (hq : q < cf t * rf t) (he : e < 2) (hb : b = 0 ∨ b = 1) (e1 : J (1100 + 100 * t + 50 + q) = upd (I (1100 + 100 * t + 50 + q)) e b) (e2 : J (30 + 4 * t + 2) = upd (I (30 + 4 * t + 2)) (2 * q + e) b) (ex : ∀ x, x ≠ 1100 + 100 * t + 50 + q → x ≠ 30 + 4 * t + 2 → J x = I x) : Ac a1 S V I V J ns nt rho cf rf df N F 0 := by
  obtain ⟨g1, ⟨g2, g3⟩, g4, ⟨j1, j2, j3, j4, j5⟩, g5, g6⟩ := id h
  have e0 := ex 0 (by omega) (by omega)
  have hn := (j4 t ht).n36
  refine ⟨h.frame (j1.same e0 (ex _ (by omega) (by omega)) (by omega)) (ex _ (by omega) (by omega)) (ex _ (by omega) (by omega)) (fun u hu => ex _ (by omega) (by omega)) (fun p hp => ?_) (fun c hc => (j3 c hc).same rfl (ex _ (by omega) (by omega)) (by omega)) (fun u hu => ?_) (fun _ _ => rfl), ?_, by rw [e0], by rw [e0]⟩
  · have := g2.1 p hp
    exact (j2 p hp).same rfl (ex _ (by omega) (by omega)) (ex _ (by omega) (by omega)) (by rw [ex _ (by omega) (by omega)])
  · by_cases eu : u = t
    · subst eu
      obtain ⟨h1, h2, h3, h4, h5⟩ := j4 u hu
      refine ⟨h1.row (ex _ (by omega) (by omega)), h2, fun z hz => by rw [ex _ (by omega) (by omega)]; exact h3 z hz, h4, fun z d hz hd => ?_⟩
      rw [e2]
      by_cases ez : z = q
      · subst ez
        rw [e1]
        by_cases ed : d = e
        · subst ed
          rw [show upd (I (1100 + 100 * u + 50 + z)) d b d = b from if_pos rfl, show upd (I (30 + 4 * u + 2)) (2 * z + d) b (2 * z + d) = b from if_pos rfl]
          exact ⟨rfl, hb⟩
        · rw [show upd (I (1100 + 100 * u + 50 + z)) e b d = I (1100 + 100 * u + 50 + z) d from if_neg ed, show upd (I (30 + 4 * u + 2)) (2 * z + e) b (2 * z + d) = I (30 + 4 * u + 2) (2 * z + d) from if_neg (by omega)]
          exact h5 z d hz hd
      · rw [ex _ (by omega) (by omega), show upd (I (30 + 4 * u + 2)) (2 * q + e) b (2 * z + d) = I (30 + 4 * u + 2) (2 * z + d) from if_neg (by omega)]
        exact h5 z d hz hd
    · have hnu := (j4 u hu).n36
      exact (j4 u hu).same (fun _ _ => rfl) (fun x h1 h2 => ex _ (by omega) (by omega)) (ex _ (by omega) (by omega))
  · unfold tot
    rw [e0, show nI 0 = 0 from rfl, Int32.add_zero]
/-- a square's feathers under new numbers -/
theorem Jt.put {t c r d q : Nat} (h : Jt V I t c r d) (hq : q < c * r) {Y : Nat → Int32} (hY : Bd Y 300) (eV : V' (300 + 72 * t + 2 * q) = Y) (eVn : ∀ z, z < 36 → z ≠ q → V' (300 + 72 * t + 2 * z) = V (300 + 72 * t + 2 * z)) (eJ : J (1100 + 100 * t + 10 + q) = Y) (eJn : ∀ x, 1100 + 100 * t ≤ x → x < 1200 + 100 * t → x ≠ 1100 + 100 * t + 10 + q → J x = I x) (e2 : J (30 + 4 * t + 2) = I (30 + 4 * t + 2)) : Jt V' J t c r d := by
  have hn := h.n36
  obtain ⟨h1, h2, h3, h4, h5⟩ := h
  refine ⟨h1.row (eJn _ (by omega) (by omega) (by omega)), fun z hz => ?_, fun z hz => ?_, fun z z1 z2 => ?_, fun z e hz he => ?_⟩
  · show Bd (V' (300 + 72 * t + 2 * z)) 300
    by_cases e : z = q
    · subst e
      rw [eV]
      exact hY
    · rw [eVn z hz e]
      exact h2 z hz
  · by_cases e : z = q
    · subst e
      rw [eV, eJ]
    · rw [eVn z (by omega) e, eJn _ (by omega) (by omega) (by omega)]
      exact h3 z hz
  · rw [eVn z z2 (by omega)]
    exact h4 z z1 z2
  · rw [eJn _ (by omega) (by omega) (by omega), e2]
    exact h5 z e hz he
theorem Ac.shift (h : Iv a1 S V I ns nt rho cf rf df N F) {t f z : Nat} (ht : t < nt) (hf : f < cf t * rf t) (hz : z < cf t * rf t) (hne : f ≠ z) {X Y : Nat → Int32} (hX : Bd X 300) (hY : Bd Y 300) (hs : s6 X + s6 Y = s6 (V (300 + 72 * t + 2 * f)) + s6 (V (300 + 72 * t + 2 * z))) (eV : V' = va_up (va_up V (300 + 72 * t + 2 * f) X) (300 + 72 * t + 2 * z) Y) (eJ : J = va_up (va_up I (1100 + 100 * t + 10 + f) X) (1100 + 100 * t + 10 + z) Y) : Ac a1 S V I V' J ns nt rho cf rf df N F 0 := by
  obtain ⟨g1, ⟨g2, g3⟩, g4, ⟨j1, j2, j3, j4, j5⟩, g5, g6⟩ := id h
  have hn := (j4 t ht).n36
  have ex (x : Nat) (h1 : x ≠ 1100 + 100 * t + 10 + z) (h2 : x ≠ 1100 + 100 * t + 10 + f) : J x = I x := by rw [eJ, va_up_ne _ _ h1, va_up_ne _ _ h2]
  have ev (x : Nat) (h1 : x ≠ 300 + 72 * t + 2 * z) (h2 : x ≠ 300 + 72 * t + 2 * f) : V' x = V x := by rw [eV, va_up_ne _ _ h1, va_up_ne _ _ h2]
  have e0 := ex 0 (by omega) (by omega)
  refine ⟨h.frame (j1.same e0 (ex _ (by omega) (by omega)) (by omega)) (ex _ (by omega) (by omega)) (ex _ (by omega) (by omega)) (fun u hu => ex _ (by omega) (by omega)) (fun p hp => ?_) (fun c hc => (j3 c hc).same (ev _ (by omega) (by omega)) (ex _ (by omega) (by omega)) (by omega)) (fun u hu => ?_) (fun q hq => ev _ (by omega) (by omega)), ?_, by rw [e0], by rw [e0]⟩
  · have := g2.1 p hp
    exact (j2 p hp).same (ev _ (by omega) (by omega)) (ex _ (by omega) (by omega)) (ex _ (by omega) (by omega)) (by rw [ex _ (by omega) (by omega)])
  · by_cases eu : u = t
    · subst eu
      have m1 : Jt (va_up V (300 + 72 * u + 2 * f) X) (va_up I (1100 + 100 * u + 10 + f) X) u (cf u) (rf u) (df u) := (j4 u hu).put hf hX (va_up_self _ _ _) (fun q hq hqf => va_up_ne _ _ (by omega)) (va_up_self _ _ _) (fun x _ _ hx => va_up_ne _ _ hx) (va_up_ne _ _ (by omega))
      exact m1.put hz hY (by rw [eV, va_up_self]) (fun q hq hqf => by rw [eV]; exact va_up_ne _ _ (by omega)) (by rw [eJ, va_up_self]) (fun x _ _ hx => by rw [eJ]; exact va_up_ne _ _ hx) (by rw [eJ]; exact va_up_ne _ _ (by omega))
    · have hnu := (j4 u hu).n36
      exact (j4 u hu).same (fun q hq => ev _ (by omega) (by omega)) (fun x h1 h2 => ex _ (by omega) (by omega)) (ex _ (by omega) (by omega))
  · unfold tot
    have t1 := tsum_up (V := V) (V' := va_up V (300 + 72 * t + 2 * f) X) (t := t) (q := f) (by omega) nt ht (fun u hu q hq hne => va_up_ne _ _ (by omega))
    have t2 := tsum_up (V := va_up V (300 + 72 * t + 2 * f) X) (V' := V') (t := t) (q := z) (by omega) nt ht (fun u hu q hq hne => by rw [eV]; exact va_up_ne _ _ (by omega))
    rw [va_up_self] at t1
    rw [show V' (300 + 72 * t + 2 * z) = Y from by rw [eV, va_up_self], va_up_ne _ _ (by omega)] at t2
    rw [e0, csum_cg (V := V) (V' := V') (b := 200) ns (fun j hj => ev _ (by omega) (by omega)), csum_cg (V := V) (V' := V') (b := 100) 5 (fun j hj => ev _ (by omega) (by omega)), t2, t1, show nI 0 = 0 from rfl]
    grind
theorem Ac.fill (h : Iv a1 S V I ns nt rho cf rf df N F) {t q c : Nat} (ht : t < nt) (hq : q < cf t * rf t) (hc : c < 5) {X Y : Nat → Int32} (hX : Bd X N) (hY : Bd Y 300) (hs : s6 X + s6 Y = s6 (V (100 + 2 * c)) + s6 (V (300 + 72 * t + 2 * q))) (eV : V' = va_up (va_up V (100 + 2 * c) X) (300 + 72 * t + 2 * q) Y) (eJ : J = va_up (va_up I (1010 + c) X) (1100 + 100 * t + 10 + q) Y) : Ac a1 S V I V' J ns nt rho cf rf df N F 0 := by
  obtain ⟨g1, ⟨g2, g3⟩, g4, ⟨j1, j2, j3, j4, j5⟩, g5, g6⟩ := id h
  have hn := (j4 t ht).n36
  have ex (x : Nat) (h1 : x ≠ 1100 + 100 * t + 10 + q) (h2 : x ≠ 1010 + c) : J x = I x := by rw [eJ, va_up_ne _ _ h1, va_up_ne _ _ h2]
  have ev (x : Nat) (h1 : x ≠ 300 + 72 * t + 2 * q) (h2 : x ≠ 100 + 2 * c) : V' x = V x := by rw [eV, va_up_ne _ _ h1, va_up_ne _ _ h2]
  have e0 := ex 0 (by omega) (by omega)
  have ev1 : V' (100 + 2 * c) = X := by rw [eV, va_up_ne _ _ (by omega), va_up_self]
  refine ⟨h.frame (j1.same e0 (ex _ (by omega) (by omega)) (by omega)) (ex _ (by omega) (by omega)) (ex _ (by omega) (by omega)) (fun u hu => ex _ (by omega) (by omega)) (fun p hp => ?_) (fun b hb => ?_) (fun u hu => ?_) (fun z hz => ev _ (by omega) (by omega)), ?_, by rw [e0], by rw [e0]⟩
  · have := g2.1 p hp
    exact (j2 p hp).same (ev _ (by omega) (by omega)) (ex _ (by omega) (by omega)) (ex _ (by omega) (by omega)) (by rw [ex _ (by omega) (by omega)])
  · by_cases e : b = c
    · subst e
      refine ⟨?_, by rw [ev1]; exact hX.le (by omega)⟩
      rw [ev1, eJ, va_up_ne _ _ (by omega), va_up_self]
    · exact (j3 b hb).same (ev _ (by omega) (by omega)) (ex _ (by omega) (by omega)) (by omega)
  · by_cases eu : u = t
    · subst eu
      exact (j4 u hu).put hq hY (by rw [eV, va_up_self]) (fun z hz hzq => ev _ (by omega) (by omega)) (by rw [eJ, va_up_self]) (fun x h1 h2 hx => ex _ hx (by omega)) (ex _ (by omega) (by omega))
    · have hnu := (j4 u hu).n36
      exact (j4 u hu).same (fun z hz => ev _ (by omega) (by omega)) (fun x h1 h2 => ex _ (by omega) (by omega)) (ex _ (by omega) (by omega))
  · unfold tot
    have t1 := tsum_up (V := V) (V' := V') (t := t) (q := q) (by omega) nt ht (fun u hu z hz hne => ev _ (by omega) (by omega))
    have t2 := csum_up (V := V) (V' := V') (b := 100) (i := c) 5 hc (fun j hj hne => ev _ (by omega) (by omega))
    rw [show V' (300 + 72 * t + 2 * q) = Y from by rw [eV, va_up_self]] at t1
    rw [ev1] at t2
    rw [e0, csum_cg (V := V) (V' := V') (b := 200) ns (fun j hj => ev _ (by omega) (by omega)), t2, t1, show nI 0 = 0 from rfl]
    grind
end ACT
