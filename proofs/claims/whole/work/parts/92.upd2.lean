/-! feathers carried from one place to another -/
theorem MVE {A B : Nat → Int32} {N m : Nat} (hA : Bd A N) (hN : N < 2 ^ 29) (hB : Bd B 300) (hm : m ≤ 300) : mvm A (mn (nI m) (300 - s6 B)) 6 = mn (nI m) (mn (s6 A) (300 - s6 B)) ∧ mva A (mn (nI m) (300 - s6 B)) 6 = mva A (mn (nI m) (mn (s6 A) (300 - s6 B))) 6 ∧ mvb A B (mn (nI m) (300 - s6 B)) 6 = mvb A B (mn (nI m) (mn (s6 A) (300 - s6 B))) 6 ∧ Bd (mva A (mn (nI m) (mn (s6 A) (300 - s6 B))) 6) N ∧ Bd (mvb A B (mn (nI m) (mn (s6 A) (300 - s6 B))) 6) 300 := by
  obtain ⟨a, rfl, ha⟩ := hA
  obtain ⟨b, rfl, hb⟩ := hB
  have e1 : (300 : Int32) - s6 (nv b) = nI (300 - sm b) := by rw [s6_nv, show (300 : Int32) = nI 300 from rfl, pk_sub hb]
  have e2 : mn (nI m) (300 - s6 (nv b)) = nI (min m (300 - sm b)) := by rw [e1, mn_nI (by omega) (by omega)]
  have e3 : mn (nI m) (mn (s6 (nv a)) (300 - s6 (nv b))) = nI (min (min m (300 - sm b)) (sm a)) := by
    have := Nat.min_le_left (sm a) (300 - sm b)
    rw [e1, s6_nv, mn_nI (by omega) (by omega), mn_nI (by omega) (by omega)]
    congr 1
    simp only [Nat.min_def]
    repeat' split
    all_goals omega
  have b0 := Nat.min_le_left m (300 - sm b)
  have b1 := Nat.min_le_left (min m (300 - sm b)) (sm a)
  have b2 := Nat.min_le_right m (300 - sm b)
  obtain ⟨c1, c2, c3⟩ := mv_cap (a := a) (m := min m (300 - sm b)) (by omega) (by omega)
  rw [e2, e3]
  obtain ⟨k, hk⟩ : ∃ k, k = min (min m (300 - sm b)) (sm a) := ⟨_, rfl⟩
  rw [← hk] at c1 c2 c3 b1 ⊢
  refine ⟨c1, c2, c3 b, ?_, ?_⟩
  · rw [mva_nv (by omega) (by omega) (Nat.le_refl _)]
    have := sm_mva6 a k
    exact ⟨_, rfl, by omega⟩
  · rw [mvb_nv (by omega) (by omega) (Nat.le_refl _)]
    have := sm_mvb6 a b k
    have := mvN_le a k 6
    exact ⟨_, rfl, by omega⟩
theorem FZ_bk {f v : Nat → Int32} {n q : Nat} (h : FZ f n) (hq : q < n) : FZ (bk f q v) n := fun k hk => by
  rw [bk_out (by omega)]
  exact h k hk
section UPD
variable {a1 : Nat} {S : fb_Sh} {V V' I J : fb_V} {o ns nt es na N : Nat} {cf rf df : Nat → Nat}
theorem Iv.fill (ho : o = 1000) (h : Iv a1 S V I o ns nt es na cf rf df N) {t q c : Nat} (ht : t < nt) (hq : q < cf t * rf t) (hc : c < 5) {X Y : Nat → Int32} (hX : Bd X N) (hY : Bd Y 300) (eV : V' = va_up (va_up V (100 + 2 * c) X) (300 + 72 * t + 2 * q) Y) (e1 : J (o + 3) = bk (I (o + 3)) c X) (e2 : J (o + 10 + t) = bk (I (o + 10 + t)) q Y) (eo : ∀ j, j ≠ 0 → J o j = I o j) (ex : ∀ x, x ≠ o + 3 → x ≠ o + 10 + t → x ≠ o → x ≠ 2000 → J x = I x) : Iv a1 S V' J o ns nt es na cf rf df N := by
  obtain ⟨h1, h2, ⟨h3, h4⟩, r1, r2, r3, r4, r5, r6⟩ := h
  have hns := h3.2.2.1
  have hnt := h3.2.2.2.1
  have hcr := (h3.2.2.2.2 t ht).le.2
  have eVn (x : Nat) (hx : x ≠ 100 + 2 * c) (hx2 : x ≠ 300 + 72 * t + 2 * q) : V' x = V x := by rw [eV, va_up_ne _ _ hx2, va_up_ne _ _ hx]
  refine ⟨h1, h2, ⟨cfc h3 (ex 1 (by omega) (by omega) (by omega) (by omega)) (ex 2 (by omega) (by omega) (by omega) (by omega)) (fun t ht => ex _ (by omega) (by omega) (by omega) (by omega)), mfc h4 (eo 1 (by decide)) (eo 6 (by decide)) (ex _ (by omega) (by omega) (by omega) (by omega)) (ex _ (by omega) (by omega) (by omega) (by omega))⟩, rW r1 (ex 0 (by omega) (by omega) (by omega) (by omega)) eo, rS r2 (fun i hi => eVn _ (by omega) (by omega)) (ex _ (by omega) (by omega) (by omega) (by omega)), rD r3 (fun i hi => ex _ (by omega) (by omega) (by omega) (by omega)) (ex _ (by omega) (by omega) (by omega) (by omega)), fun p hp => ?_, fun u hu => ?_, rZ r6 (fun q hq => eVn _ (by omega) (by omega))⟩
  · rw [e1]
    by_cases e : p = c
    · rw [e, mx_bk_e hX.tz]
      exact ⟨by rw [eV, va_up_ne _ _ (by omega), va_up_self], hX⟩
    · rw [mx_bk_n e, eVn _ (by omega) (by omega)]
      exact r4 p hp
  · by_cases e : u = t
    · subst e
      obtain ⟨g1, g2, g3⟩ := r5 u hu
      unfold RlT
      rw [e2, ex (o + 20 + u) (by omega) (by omega) (by omega) (by omega), ex (30 + 4 * u + 2) (by omega) (by omega) (by omega) (by omega)]
      refine ⟨FZ_bk g1 hq, fun p hp => ?_, g3⟩
      by_cases e : p = q
      · rw [e, mx_bk_e hY.tz, eV, va_up_self]
        exact ⟨rfl, hY⟩
      · rw [mx_bk_n e, eVn _ (by omega) (by omega)]
        exact g2 p hp
    · exact rT (r5 u hu) (fun p hp => eVn _ (by omega) (by omega)) (ex _ (by omega) (by omega) (by omega) (by omega)) (ex _ (by omega) (by omega) (by omega) (by omega)) (ex _ (by omega) (by omega) (by omega) (by omega))
theorem Iv.shift (ho : o = 1000) (h : Iv a1 S V I o ns nt es na cf rf df N) {t f z : Nat} (ht : t < nt) (hf : f < cf t * rf t) (hz : z < cf t * rf t) (hne : f ≠ z) {X Y : Nat → Int32} (hX : Bd X 300) (hY : Bd Y 300) (eV : V' = va_up (va_up V (300 + 72 * t + 2 * f) X) (300 + 72 * t + 2 * z) Y) (e2 : J (o + 10 + t) = bk (bk (I (o + 10 + t)) f X) z Y) (eo : ∀ j, j ≠ 0 → J o j = I o j) (ex : ∀ x, x ≠ o + 10 + t → x ≠ o → x ≠ 2000 → J x = I x) : Iv a1 S V' J o ns nt es na cf rf df N := by
  obtain ⟨h1, h2, ⟨h3, h4⟩, r1, r2, r3, r4, r5, r6⟩ := h
  have hns := h3.2.2.1
  have hnt := h3.2.2.2.1
  have hcr := (h3.2.2.2.2 t ht).le.2
  have eVn (x : Nat) (hx : x ≠ 300 + 72 * t + 2 * f) (hx2 : x ≠ 300 + 72 * t + 2 * z) : V' x = V x := by rw [eV, va_up_ne _ _ hx2, va_up_ne _ _ hx]
  refine ⟨h1, h2, ⟨cfc h3 (ex 1 (by omega) (by omega) (by omega)) (ex 2 (by omega) (by omega) (by omega)) (fun t ht => ex _ (by omega) (by omega) (by omega)), mfc h4 (eo 1 (by decide)) (eo 6 (by decide)) (ex _ (by omega) (by omega) (by omega)) (ex _ (by omega) (by omega) (by omega))⟩, rW r1 (ex 0 (by omega) (by omega) (by omega)) eo, rS r2 (fun i hi => eVn _ (by omega) (by omega)) (ex _ (by omega) (by omega) (by omega)), rD r3 (fun i hi => ex _ (by omega) (by omega) (by omega)) (ex _ (by omega) (by omega) (by omega)), rC r4 (fun c hc => eVn _ (by omega) (by omega)) (ex _ (by omega) (by omega) (by omega)), fun u hu => ?_, rZ r6 (fun q hq => eVn _ (by omega) (by omega))⟩
  by_cases e : u = t
  · subst e
    obtain ⟨g1, g2, g3⟩ := r5 u hu
    unfold RlT
    rw [e2, ex (o + 20 + u) (by omega) (by omega) (by omega), ex (30 + 4 * u + 2) (by omega) (by omega) (by omega)]
    refine ⟨FZ_bk (FZ_bk g1 hf) hz, fun p hp => ?_, g3⟩
    by_cases e : p = z
    · rw [e, mx_bk_e hY.tz, eV, va_up_self]
      exact ⟨rfl, hY⟩
    · rw [mx_bk_n e]
      by_cases e3 : p = f
      · rw [e3, mx_bk_e hX.tz, eV, va_up_ne _ _ (by omega), va_up_self]
        exact ⟨rfl, hX⟩
      · rw [mx_bk_n e3, eVn _ (by omega) (by omega)]
        exact g2 p hp
  · exact rT (r5 u hu) (fun p hp => eVn _ (by omega) (by omega)) (ex _ (by omega) (by omega) (by omega)) (ex _ (by omega) (by omega) (by omega)) (ex _ (by omega) (by omega) (by omega))
theorem Iv.sweep (ho : o = 1000) (h : Iv a1 S V I o ns nt es na cf rf df N) {i c : Nat} (hi : i < ns) (hc : c < 5) {X Y : Nat → Int32} (hX : Bd X N) (hY : Bk Y 500) (eV : V' = va_up (va_up V (100 + 2 * c) X) (200 + 2 * i) Y) (e1 : J (o + 3) = bk (I (o + 3)) c X) (e2 : J (o + 1) = bk (I (o + 1)) i Y) (eo : ∀ j, j ≠ 0 → J o j = I o j) (ex : ∀ x, x ≠ o + 3 → x ≠ o + 1 → x ≠ o → x ≠ 2000 → J x = I x) : Iv a1 S V' J o ns nt es na cf rf df N := by
  obtain ⟨h1, h2, ⟨h3, h4⟩, r1, r2, r3, r4, r5, r6⟩ := h
  have hns := h3.2.2.1
  have hnt := h3.2.2.2.1
  have eVn (x : Nat) (hx : x ≠ 100 + 2 * c) (hx2 : x ≠ 200 + 2 * i) : V' x = V x := by rw [eV, va_up_ne _ _ hx2, va_up_ne _ _ hx]
  refine ⟨h1, h2, ⟨cfc h3 (ex 1 (by omega) (by omega) (by omega) (by omega)) (ex 2 (by omega) (by omega) (by omega) (by omega)) (fun t ht => ex _ (by omega) (by omega) (by omega) (by omega)), mfc h4 (eo 1 (by decide)) (eo 6 (by decide)) (ex _ (by omega) (by omega) (by omega) (by omega)) (ex _ (by omega) (by omega) (by omega) (by omega))⟩, rW r1 (ex 0 (by omega) (by omega) (by omega) (by omega)) eo, fun p hp => ?_, rD r3 (fun i hi => ex _ (by omega) (by omega) (by omega) (by omega)) (ex _ (by omega) (by omega) (by omega) (by omega)), fun p hp => ?_, fun u hu => rT (r5 u hu) (fun p hp => eVn _ (by omega) (by omega)) (ex _ (by omega) (by omega) (by omega) (by omega)) (ex _ (by omega) (by omega) (by omega) (by omega)) (ex _ (by omega) (by omega) (by omega) (by omega)), rZ r6 (fun q hq => eVn _ (by omega) (by omega))⟩
  · rw [e2]
    by_cases e : p = i
    · rw [e, mx_bk_e hY.Bd.tz]
      exact ⟨hY, fun _ => by rw [eV, va_up_self], fun h => absurd h (by omega)⟩
    · rw [mx_bk_n e, eVn _ (by omega) (by omega)]
      exact r2 p hp
  · rw [e1]
    by_cases e : p = c
    · rw [e, mx_bk_e hX.tz]
      exact ⟨by rw [eV, va_up_ne _ _ (by omega), va_up_self], hX⟩
    · rw [mx_bk_n e, eVn _ (by omega) (by omega)]
      exact r4 p hp
end UPD
def swN (a b : Nat → Nat) (k : Nat) : Nat := min (a k) (500 - b k)
theorem SWE {A B : Nat → Int32} {N : Nat} (hA : Bd A N) (hN : N < 2 ^ 29) (hB : Bk B 500) : Bd (swa A B 6) N ∧ Bk (swb A B 6) 500 := by
  obtain ⟨a, rfl, ha⟩ := hA
  obtain ⟨b, rfl, hb⟩ := hB
  have en (k : Nat) (hk : k < 6) : swn (nv a) (nv b) k = nI (swN a b k) := by
    have h1 := sm_le a hk
    have h2 := hb k hk
    unfold swn swN
    rw [nv_k a hk, nv_k b hk, show (500 : Int32) = nI 500 from rfl, pk_sub h2, mn_nI (by omega) (by omega)]
  have l1 (k : Nat) : swN a b k ≤ a k := Nat.min_le_left _ _
  have l2 (k : Nat) : swN a b k ≤ 500 - b k := Nat.min_le_right _ _
  refine ⟨⟨fun k => a k - swN a b k, ?_, ?_⟩, ⟨fun k => b k + swN a b k, ?_, fun k hk => ?_⟩⟩
  · funext k
    unfold swa
    by_cases hk : k < 6
    · rw [if_pos hk, en k hk, nv_k a hk, nv_k _ hk, pk_sub (l1 k)]
    · rw [if_neg hk, nv_o a (by omega), nv_o _ (by omega)]
  · show (a 0 - _) + (a 1 - _) + (a 2 - _) + (a 3 - _) + (a 4 - _) + (a 5 - _) ≤ N
    have e2 : sm a = a 0 + a 1 + a 2 + a 3 + a 4 + a 5 := rfl
    omega
  · funext k
    unfold swb
    by_cases hk : k < 6
    · rw [if_pos hk, en k hk, nv_k b hk, nv_k _ hk, nI_add]
    · rw [if_neg hk, nv_o b (by omega), nv_o _ (by omega)]
  · show b k + swN a b k ≤ 500
    have := l2 k
    have := hb k hk
    omega
