/-! what holds between the class and the law's Sim, between acts -/
def Jt (V I : fb_V) (t c r d : Nat) : Prop := LF I (1100 + 100 * t) c r d ∧ BX (tv V (300 + 72 * t)) ∧ (∀ q, q < c * r → I (1100 + 100 * t + 10 + q) = V (300 + 72 * t + 2 * q)) ∧ (∀ q, c * r ≤ q → q < 36 → V (300 + 72 * t + 2 * q) = fun _ => 0) ∧ ∀ q e, q < c * r → e < 2 → I (1100 + 100 * t + 50 + q) e = I (30 + 4 * t + 2) (2 * q + e) ∧ (I (30 + 4 * t + 2) (2 * q + e) = 0 ∨ I (30 + 4 * t + 2) (2 * q + e) = 1)
def Js (V I : fb_V) (rho : Nat → Nat) (i : Nat) : Prop := I (rho i) = V (200 + 2 * i) ∧ Bk (V (200 + 2 * i)) 500 ∧ ∃ dm, dm ≤ 9 ∧ I (10 + i) 1 = nI dm ∧ I 1001 i = nI dm
def Jc (V I : fb_V) (N c : Nat) : Prop := I (1010 + c) = V (100 + 2 * c) ∧ Bd (V (100 + 2 * c)) N
def Jw (I : fb_V) (N : Nat) : Prop := (∃ w, 1 ≤ w ∧ w ≤ 20 ∧ I 0 4 = nI w ∧ I 1000 2 = nI w) ∧ ∃ y, y ≤ N ∧ I 0 6 = nI y
def Jv (V I : fb_V) (ns nt : Nat) (rho cf rf df : Nat → Nat) (N : Nat) : Prop := Jw I N ∧ (∀ i, i < ns → Js V I rho i) ∧ (∀ c, c < 5 → Jc V I N c) ∧ (∀ t, t < nt → Jt V I t (cf t) (rf t) (df t)) ∧ TZ (tv V 732)
def Iv (a1 : Nat) (S : fb_Sh) (V I : fb_V) (ns nt : Nat) (rho cf rf df : Nat → Nat) (N F : Nat) : Prop := (CpAt S a1 ns nt 4 10 ∧ SmAt S ns nt rho cf rf) ∧ (Rho rho ns ∧ Fs S F) ∧ CF I ns nt cf rf df ∧ Jv V I ns nt rho cf rf df N ∧ ns ≤ 4 ∧ nt ≤ 3
theorem Rho.ne {rho : Nat → Nat} {ns : Nat} (h : Rho rho ns) {i : Nat} (hi : i < ns) {x : Nat} (hx : x < 1030 ∨ (1030 + ns ≤ x ∧ x < 4000)) : x ≠ rho i := by
  have := h.1 i hi
  omega
theorem Jw.same {I J : fb_V} {N N' : Nat} (h : Jw I N) (e0 : J 0 = I 0) (e1 : J 1000 = I 1000) (hN : N ≤ N') : Jw J N' := by
  obtain ⟨h1, y, h2, h3⟩ := h
  unfold Jw
  rw [e0, e1]
  exact ⟨h1, y, by omega, h3⟩
theorem Js.same {V V' I J : fb_V} {rho : Nat → Nat} {i : Nat} (h : Js V I rho i) (eV : V' (200 + 2 * i) = V (200 + 2 * i)) (e1 : J (rho i) = I (rho i)) (e2 : J (10 + i) = I (10 + i)) (e3 : J 1001 i = I 1001 i) : Js V' J rho i := by
  unfold Js
  rw [eV, e1, e2, e3]
  exact h
theorem Jc.same {V V' I J : fb_V} {N N' c : Nat} (h : Jc V I N c) (eV : V' (100 + 2 * c) = V (100 + 2 * c)) (e : J (1010 + c) = I (1010 + c)) (hN : N ≤ N') : Jc V' J N' c := by
  unfold Jc
  rw [eV, e]
  exact ⟨h.1, h.2.le hN⟩
theorem Jt.n36 {V I : fb_V} {t c r d : Nat} (h : Jt V I t c r d) : 1 ≤ c * r ∧ c * r ≤ 36 := h.1.le
theorem Jt.same {V V' I J : fb_V} {t c r d : Nat} (h : Jt V I t c r d) (eV : ∀ q, q < 36 → V' (300 + 72 * t + 2 * q) = V (300 + 72 * t + 2 * q)) (eJ : ∀ x, 1100 + 100 * t ≤ x → x < 1200 + 100 * t → J x = I x) (e2 : J (30 + 4 * t + 2) = I (30 + 4 * t + 2)) : Jt V' J t c r d := by
  have hn := h.n36
  obtain ⟨h1, h2, h3, h4, h5⟩ := h
  refine ⟨h1.row (eJ _ (by omega) (by omega)), fun q hq => ?_, fun q hq => ?_, fun q h1 h2 => ?_, fun q e hq he => ?_⟩
  · show Bd (V' (300 + 72 * t + 2 * q)) 300
    rw [eV q hq]
    exact h2 q hq
  · rw [eV q (by omega), eJ _ (by omega) (by omega)]
    exact h3 q hq
  · rw [eV q h2]
    exact h4 q h1 h2
  · rw [eJ _ (by omega) (by omega), e2]
    exact h5 q e hq he
theorem Iv.frame {a1 : Nat} {S : fb_Sh} {V I V' J : fb_V} {ns nt N F N' : Nat} {rho cf rf df : Nat → Nat} (h : Iv a1 S V I ns nt rho cf rf df N F) (hw : Jw J N') (e1 : J 1 = I 1) (e2 : J 2 = I 2) (e3 : ∀ t, t < nt → J (30 + 4 * t) = I (30 + 4 * t)) (hs : ∀ i, i < ns → Js V' J rho i) (hc : ∀ c, c < 5 → Jc V' J N' c) (ht : ∀ t, t < nt → Jt V' J t (cf t) (rf t) (df t)) (hz : ∀ q, q < 36 → V' (732 + 2 * q) = V (732 + 2 * q)) : Iv a1 S V' J ns nt rho cf rf df N' F := by
  obtain ⟨g1, g2, ⟨c1, c2, c3, c4, c5⟩, ⟨j1, j2, j3, j4, j5⟩, g5, g6⟩ := h
  refine ⟨g1, g2, ⟨by rw [e1]; exact c1, by rw [e2]; exact c2, c3, c4, fun t htl => ?_⟩, ⟨hw, hs, hc, ht, fun q hq => ?_⟩, g5, g6⟩
  · have h6 := c5 t htl
    unfold TF at h6 ⊢
    rw [e3 t htl]
    exact h6
  · show tz (V' (732 + 2 * q))
    rw [hz q hq]
    exact j5 q hq
theorem Iv.le {a1 : Nat} {S : fb_Sh} {V I : fb_V} {ns nt N F N' : Nat} {rho cf rf df : Nat → Nat} (h : Iv a1 S V I ns nt rho cf rf df N F) (hN : N ≤ N') : Iv a1 S V I ns nt rho cf rf df N' F :=
  h.frame (h.2.2.2.1.1.same rfl rfl hN) rfl rfl (fun _ _ => rfl) h.2.2.2.1.2.1 (fun c hc => (h.2.2.2.1.2.2.1 c hc).same rfl rfl hN) h.2.2.2.1.2.2.2.1 (fun _ _ => rfl)
/-! all feathers that are not lost by pricking -/
def tot (V I : fb_V) (ns nt : Nat) : Int32 := csum V 200 ns + csum V 100 5 + tsum V nt + I 0 6
theorem al1 (a x y : Int32) : a + x = a + y + (x - y) := by grind
theorem al2 (a d y : Int32) : a + d + y = a + y + d := by grind
theorem csum_cg {V V' : fb_V} {b : Nat} : ∀ n, (∀ i, i < n → V' (b + 2 * i) = V (b + 2 * i)) → csum V' b n = csum V b n
  | 0, _ => rfl
  | n + 1, h => by
    show csum V' b n + s6 (V' (b + 2 * n)) = csum V b n + s6 (V (b + 2 * n))
    rw [csum_cg n (fun i hi => h i (by omega)), h n (by omega)]
theorem csum_up {V V' : fb_V} {b i : Nat} : ∀ n, i < n → (∀ j, j < n → j ≠ i → V' (b + 2 * j) = V (b + 2 * j)) → csum V' b n = csum V b n + (s6 (V' (b + 2 * i)) - s6 (V (b + 2 * i)))
  | 0, hi, _ => absurd hi (Nat.not_lt_zero _)
  | n + 1, hi, h => by
    show csum V' b n + s6 (V' (b + 2 * n)) = csum V b n + s6 (V (b + 2 * n)) + _
    by_cases e : i = n
    · subst e
      rw [csum_cg i (fun j hj => h j (by omega) (by omega))]
      exact al1 _ _ _
    · rw [csum_up n (by omega) (fun j hj hne => h j (by omega) hne), h n (by omega) (fun z => e z.symm)]
      exact al2 _ _ _
theorem fsum_up {X X' : fb_V} {i : Nat} : ∀ n, i < n → (∀ j, j < n → j ≠ i → X' j = X j) → fsum X' n = fsum X n + (s6 (X' i) - s6 (X i))
  | 0, hi, _ => absurd hi (Nat.not_lt_zero _)
  | n + 1, hi, h => by
    show fsum X' n + s6 (X' n) = fsum X n + s6 (X n) + _
    by_cases e : i = n
    · subst e
      rw [fsum_cg i (fun j hj => h j (by omega) (by omega))]
      exact al1 _ _ _
    · rw [fsum_up n (by omega) (fun j hj hne => h j (by omega) hne), h n (by omega) (fun z => e z.symm)]
      exact al2 _ _ _
theorem tsum_cg {V V' : fb_V} : ∀ n, (∀ t, t < n → ∀ q, q < 36 → V' (300 + 72 * t + 2 * q) = V (300 + 72 * t + 2 * q)) → tsum V' n = tsum V n
  | 0, _ => rfl
  | n + 1, h => by
    show tsum V' n + fsum (tv V' (300 + 72 * n)) 36 = tsum V n + fsum (tv V (300 + 72 * n)) 36
    rw [tsum_cg n (fun t ht => h t (by omega)), fsum_cg (X := tv V' (300 + 72 * n)) (Y := tv V (300 + 72 * n)) 36 (fun q hq => h n (by omega) q hq)]
theorem tsum_up {V V' : fb_V} {t q : Nat} (hq : q < 36) : ∀ n, t < n → (∀ u, u < n → ∀ z, z < 36 → (u ≠ t ∨ z ≠ q) → V' (300 + 72 * u + 2 * z) = V (300 + 72 * u + 2 * z)) → tsum V' n = tsum V n + (s6 (V' (300 + 72 * t + 2 * q)) - s6 (V (300 + 72 * t + 2 * q)))
  | 0, hi, _ => absurd hi (Nat.not_lt_zero _)
  | n + 1, hi, h => by
    show tsum V' n + fsum (tv V' (300 + 72 * n)) 36 = tsum V n + fsum (tv V (300 + 72 * n)) 36 + _
    by_cases e : t = n
    · subst e
      rw [tsum_cg t (fun u hu z hz => h u (by omega) z hz (Or.inl (by omega))), fsum_up (X := tv V (300 + 72 * t)) (X' := tv V' (300 + 72 * t)) (i := q) 36 hq (fun z hz hne => h t (by omega) z hz (Or.inr hne)), ← Int32.add_assoc]
      rfl
    · rw [tsum_up hq n (by omega) (fun u hu z hz hne => h u (by omega) z hz hne), fsum_cg (X := tv V' (300 + 72 * n)) (Y := tv V (300 + 72 * n)) 36 (fun z hz => h n (by omega) z hz (Or.inl (fun z => e z.symm)))]
      exact al2 _ _ _
theorem s6_mv (A B : Nat → Int32) (m : Int32) : s6 (mva A m 6) + s6 (mvb A B m 6) = s6 A + s6 B := by
  have a (j : Nat) (h : j < 6) : mva A m 6 j = A j + -mvn A m j := if_pos h
  have b (j : Nat) (h : j < 6) : mvb A B m 6 j = B j + mvn A m j := if_pos h
  unfold s6
  rw [a 0 (by decide), a 1 (by decide), a 2 (by decide), a 3 (by decide), a 4 (by decide), a 5 (by decide), b 0 (by decide), b 1 (by decide), b 2 (by decide), b 3 (by decide), b 4 (by decide), b 5 (by decide)]
  grind
theorem s6_sw (A B : Nat → Int32) : s6 (swa A B 6) + s6 (swb A B 6) = s6 A + s6 B := by
  have a (j : Nat) (h : j < 6) : swa A B 6 j = A j - swn A B j := if_pos h
  have b (j : Nat) (h : j < 6) : swb A B 6 j = B j + swn A B j := if_pos h
  unfold s6
  rw [a 0 (by decide), a 1 (by decide), a 2 (by decide), a 3 (by decide), a 4 (by decide), a 5 (by decide), b 0 (by decide), b 1 (by decide), b 2 (by decide), b 3 (by decide), b 4 (by decide), b 5 (by decide)]
  grind
