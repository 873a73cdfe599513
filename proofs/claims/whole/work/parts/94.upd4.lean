/-! a sack is blown; a sack, a tick is added -/
theorem bls_cg {x u tt uu : Nat → Int32} (hx : ∀ k, k < 6 → x k = u k) (ht : ∀ k, k < 6 → tt k = uu k) : ∀ k, k ≤ 6 → bls x tt k = bls u uu k
  | 0, _ => rfl
  | k + 1, hk => by
    have g : ∀ s c, bli x tt s k c = bli u uu s k c := by
      intro s c
      induction c with
      | zero => rfl
      | succ c ih =>
        show bli x tt s k c + brn (x k) (tt k) (nI c) = bli u uu s k c + brn (u k) (uu k) (nI c)
        rw [ih, hx k (by omega), ht k (by omega)]
    show bli x tt (bls x tt k) k 5 = bli u uu (bls u uu k) k 5
    rw [bls_cg hx ht k (by omega), g]
theorem bly_cg {x u tt uu : Nat → Int32} (hx : ∀ k, k < 6 → x k = u k) (ht : ∀ k, k < 6 → tt k = uu k) {y0 y1 : Int32} (hy : y0 = y1) : ∀ k, k ≤ 6 → bly x tt y0 k = bly u uu y1 k
  | 0, _ => hy
  | k + 1, hk => by
    show bly x tt y0 k + brn (x k) (tt k) 5 = bly u uu y1 k + brn (u k) (uu k) 5
    rw [bly_cg hx ht hy k (by omega), hx k (by omega), ht k (by omega)]
/-- a chamber behind a blowing, on both sides -/
theorem bcV_60 (V : fb_V) (x tt : Nat → Int32) {c : Nat} (hc : c < 5) : bcV V x tt 6 0 (100 + 2 * c) = fun j => if j < 6 then V (100 + 2 * c) j + brn (x j) (tt j) (nI c) else V (100 + 2 * c) j := by
  unfold bcV
  rw [if_pos (by omega), show (100 + 2 * c - 100) / 2 = c by omega]
  funext j
  by_cases hj : j < 6
  · rw [if_pos hj, if_pos ⟨hj, Or.inl hj⟩]
  · rw [if_neg hj, if_neg (fun z => hj z.1)]
theorem blC_mx {x u tt uu g : Nat → Int32} (hx : ∀ k, k < 6 → x k = u k) (ht : ∀ k, k < 6 → tt k = uu k) {c : Nat} (hc : c < 5) : mx (blC u uu g 6 0) c = fun j => if j < 6 then mx g c j + brn (x j) (tt j) (nI c) else mx g c j := by
  funext j
  show (if j < 6 then blC u uu g 6 0 (6 * c + j) else 0) = _
  by_cases hj : j < 6
  · rw [if_pos hj, if_pos hj, mx_k g c hj, hx j hj, ht j hj]
    unfold blC
    rw [if_pos ⟨by omega, Or.inl (by omega)⟩, show (6 * c + j) % 6 = j by omega, show (6 * c + j) / 6 = c by omega]
  · rw [if_neg hj, if_neg hj]
    exact (mx_tz g c j (by omega)).symm
theorem blH_mx {x u tt uu g : Nat → Int32} (hx : ∀ k, k < 6 → x k = u k) (ht : ∀ k, k < 6 → tt k = uu k) (hz : tz x) (i : Nat) : mx (blH u uu g i 6) i = cpn 6 (fun j => brn (x j) (tt j) (-1)) x := by
  funext j
  show (if j < 6 then blH u uu g i 6 (6 * i + j) else 0) = if j < 6 then brn (x j) (tt j) (-1) else x j
  by_cases hj : j < 6
  · rw [if_pos hj, if_pos hj, hx j hj, ht j hj]
    unfold blH
    rw [if_pos (by omega), show 6 * i + j - 6 * i = j by omega]
  · rw [if_neg hj, if_neg hj, hz j (by omega)]
theorem blH_n {u uu g : Nat → Int32} {i p : Nat} (h : p ≠ i) : mx (blH u uu g i 6) p = mx g p := by
  funext j
  show (if j < 6 then blH u uu g i 6 (6 * p + j) else 0) = if j < 6 then g (6 * p + j) else 0
  by_cases hj : j < 6
  · rw [if_pos hj, if_pos hj]
    unfold blH
    rw [if_neg (by omega)]
  · rw [if_neg hj, if_neg hj]
section UPD
variable {a1 : Nat} {S S' : fb_Sh} {V V' I J : fb_V} {o ns nt es na N : Nat} {cf rf df : Nat → Nat}
theorem Iv.blow (ho : o = 1000) (h : Iv a1 S V I o ns nt es na cf rf df N) {i : Nat} (hi : i < ns) {x u tt uu : Nat → Int32} (ex0 : x = V (200 + 2 * i)) (hx : ∀ k, k < 6 → x k = u k) (ht : ∀ k, k < 6 → tt k = uu k) (eV : V' = blV V i x tt 6 0) (e0 : J 0 = upd (I 0) 6 (bly x tt (I 0 6) 6)) (e1 : J (o + 1) = blH u uu (I (o + 1)) i 6) (e3 : J (o + 3) = blC u uu (I (o + 3)) 6 0) (eo : ∀ j, j ≠ 0 → J o j = upd (I o) 11 (bly u uu (I o 11) 6) j) (ex : ∀ x, x ≠ 0 → x ≠ o + 1 → x ≠ o + 3 → x ≠ o → x ≠ 2000 → J x = I x) : Iv a1 S V' J o ns nt es na cf rf df (N + 3000) := by
  obtain ⟨h1, h2, ⟨h3, h4⟩, r1, r2, r3, r4, r5, r6⟩ := h
  have hns := h3.2.2.1
  have hnt := h3.2.2.2.1
  have hX : Bk x 500 := by rw [ex0, (r2 i (by omega)).2.1 hi]; exact (r2 i (by omega)).1
  have eVn (y : Nat) (hy : y ≠ 200 + 2 * i) (hy2 : ¬ (100 ≤ y ∧ y < 110)) : V' y = V y := by
    rw [eV]
    unfold blV
    rw [va_up_ne _ _ hy, bcV_out V x tt 6 0 hy2]
  have en (y : Nat) (a : y ≠ 0) (b : y ≠ o + 1) (c : y ≠ o + 3) (d : y ≠ o) (e : y ≠ 2000) : J y = I y := ex y a b c d e
  refine ⟨h1, h2, ⟨cfc h3 (en 1 (by omega) (by omega) (by omega) (by omega) (by omega)) (en 2 (by omega) (by omega) (by omega) (by omega) (by omega)) (fun t ht => en _ (by omega) (by omega) (by omega) (by omega) (by omega)), mfc h4 (eo 1 (by decide)) (eo 6 (by decide)) (en _ (by omega) (by omega) (by omega) (by omega) (by omega)) (en _ (by omega) (by omega) (by omega) (by omega) (by omega))⟩, ?_, fun p hp => ?_, rD r3 (fun i hi => en _ (by omega) (by omega) (by omega) (by omega) (by omega)) (en _ (by omega) (by omega) (by omega) (by omega) (by omega)), fun c hc => ?_, fun t ht => rT (r5 t ht) (fun q hq => eVn _ (by omega) (by omega)) (en _ (by omega) (by omega) (by omega) (by omega) (by omega)) (en _ (by omega) (by omega) (by omega) (by omega) (by omega)) (en _ (by omega) (by omega) (by omega) (by omega) (by omega)), rZ r6 (fun q hq => eVn _ (by omega) (by omega))⟩
  · obtain ⟨q1, q2, q3, q4, q5⟩ := r1
    unfold RlW
    rw [e0, eo 4 (by decide), eo 10 (by decide), eo 11 (by decide), eo 12 (by decide)]
    exact ⟨q1, q2, q3, bly_cg hx ht q4 6 (Nat.le_refl _), q5⟩
  · rw [e1]
    by_cases e : p = i
    · subst e
      rw [blH_mx hx ht hX.Bd.tz p]
      refine ⟨?_, fun _ => ?_, fun h => absurd hi (by omega)⟩
      · obtain ⟨b, hb⟩ := brn_F hX tt (-1)
        refine ⟨b, ?_, fun k hk => (hb k hk).1⟩
        funext j
        unfold cpn
        by_cases hj : j < 6
        · rw [if_pos hj, nv_k _ hj]
          exact (hb j hj).2
        · rw [if_neg hj, nv_o _ (by omega)]
          exact hX.Bd.tz j (by omega)
      · rw [eV, blV_h]
    · rw [blH_n e, eVn _ (by omega) (by omega)]
      exact r2 p hp
  · obtain ⟨g1, g, g2, g3⟩ := r4 c hc
    have em : mx (J (o + 3)) c = fun j => if j < 6 then mx (I (o + 3)) c j + brn (x j) (tt j) (nI c) else mx (I (o + 3)) c j := by rw [e3, blC_mx hx ht hc]
    refine ⟨?_, ?_⟩
    · rw [em, eV, blV_c V (by omega) x tt 6 hc, bcV_60 V x tt hc, g1]
    · obtain ⟨b, hb⟩ := brn_F hX tt (nI c)
      rw [em, g2]
      refine ⟨fun k => g k + b k, ?_, ?_⟩
      · funext j
        by_cases hj : j < 6
        · rw [if_pos hj, nv_k _ hj, nv_k _ hj, (hb j hj).2, nI_add]
        · rw [if_neg hj, nv_o _ (by omega), nv_o _ (by omega)]
      · have a0 := (hb 0 (by decide)).1
        have a1 := (hb 1 (by decide)).1
        have a2 := (hb 2 (by decide)).1
        have a3 := (hb 3 (by decide)).1
        have a4 := (hb 4 (by decide)).1
        have a5 := (hb 5 (by decide)).1
        have e2 : sm g = g 0 + g 1 + g 2 + g 3 + g 4 + g 5 := rfl
        show (g 0 + b 0) + (g 1 + b 1) + (g 2 + b 2) + (g 3 + b 3) + (g 4 + b 4) + (g 5 + b 5) ≤ N + 3000
        omega
theorem Iv.addSack (ho : o = 1000) (h : Iv a1 S V I o ns nt es na cf rf df N) (hlt : ns < 12) {d es' na' : Nat} (hd : d ≤ 9) (hC : CpAt S' a1 (ns + 1) nt es' na') (hes : EsN (ns + 1) es' na') (hX : Ext (fun x => x = 10 + ns ∨ x = 200 + 2 * ns ∨ x = 200 + 2 * ns + 1 ∨ x = 1 ∨ x = es') S S') (h46 : (es' = 4 ∧ ns ≤ 9) ∨ (es' = 6 ∧ 10 ≤ ns)) (eV : V' = va_up V (200 + 2 * ns) (fun _ => 0)) (e1 : J (10 + ns) = upd (fun _ => 0) 1 (nI d)) (e2 : J 1 2 = nI (ns + 1)) (e3 : J (o + 2) = upd (I (o + 2)) ns (nI d)) (eo : ∀ j, j ≠ 0 → J o j = upd (I o) 1 (nI (ns + 1)) j) (ex : ∀ x, x ≠ 10 + ns → x ≠ 1 → x ≠ o + 2 → x ≠ o → x ≠ 2000 → J x = I x) : Iv a1 S' V' J o (ns + 1) nt es' na' cf rf df N := by
  obtain ⟨⟨k1, k2, k3⟩, ⟨k4, k5⟩, ⟨h3, h4⟩, r1, r2, r3, r4, r5, r6⟩ := h
  have hnt := h3.2.2.2.1
  have eVn (x : Nat) (hx : x ≠ 200 + 2 * ns) : V' x = V x := by rw [eV]; exact va_up_ne _ _ hx
  have np (x : Nat) (hx : x < 2000 + 1) (h : x ≠ 10 + ns ∧ x ≠ 200 + 2 * ns ∧ x ≠ 200 + 2 * ns + 1 ∧ x ≠ 1 ∧ x ≠ es') : ¬ (x = 10 + ns ∨ x = 200 + 2 * ns ∨ x = 200 + 2 * ns + 1 ∨ x = 1 ∨ x = es') := by omega
  have hD : RlD J o (ns + 1) := fun p hp => by
    rw [e3]
    by_cases e : p = ns
    · subst e
      rw [e1]
      exact ⟨by simp [upd], d, hd, by simp [upd]⟩
    · rw [ex (10 + p) (by omega) (by omega) (by omega) (by omega) (by omega)]
      simp only [upd, if_neg e]
      exact r3 p (by omega)
  refine ⟨⟨hC, k2.ext hX hnt (fun x a b => by omega) (fun t ht => ⟨by omega, by omega⟩), k3.ext hX (by omega)⟩, ⟨hes, ?_⟩, ⟨?_, ?_⟩, rW2 r1 (ex 0 (by omega) (by omega) (by omega) (by omega) (by omega)) eo, fun p hp => ?_, hD, rC r4 (fun c hc => eVn _ (by omega)) (ex _ (by omega) (by omega) (by omega) (by omega) (by omega)), fun t ht => rT (r5 t ht) (fun q hq => eVn _ (by omega)) (ex _ (by omega) (by omega) (by omega) (by omega) (by omega)) (ex _ (by omega) (by omega) (by omega) (by omega) (by omega)) (ex _ (by omega) (by omega) (by omega) (by omega) (by omega)), rZ r6 (fun q hq => eVn _ (by omega))⟩
  · obtain ⟨f1, f2, f3, f4, f5, f6, f7⟩ := k5
    refine ⟨fun h => absurd h (by omega), fun h => NA.ext hX (by omega) (f2 h), fun h => NA.ext hX (by omega) (f3 (by omega)), fun i i1 i2 => ⟨NA.ext hX (by omega) (f4 i (by omega) i2).1, NA.ext hX (by omega) (f4 i (by omega) i2).2.1, NA.ext hX (by omega) (f4 i (by omega) i2).2.2⟩, fun t t1 t2 => ⟨fun x a b => NA.ext hX (by omega) ((f5 t t1 t2).1 x a b), fun x a b => NA.ext hX (by omega) ((f5 t t1 t2).2.1 x a b), NA.ext hX (by omega) (f5 t t1 t2).2.2.1, NA.ext hX (by omega) (f5 t t1 t2).2.2.2⟩, NA.ext hX (by omega) f6, NA.ext hX (by omega) f7⟩
  · obtain ⟨c1, c2, c3, c4, c5⟩ := h3
    refine ⟨e2, by rw [ex 2 (by omega) (by omega) (by omega) (by omega) (by omega)]; exact c2, by omega, c4, fun t ht => ?_⟩
    have c6 := c5 t ht
    unfold TF at c6 ⊢
    rw [ex (30 + 4 * t) (by omega) (by omega) (by omega) (by omega) (by omega)]
    exact c6
  · unfold MF at h4 ⊢
    rw [ex (o + 4) (by omega) (by omega) (by omega) (by omega) (by omega), eo 1 (by decide), eo 6 (by decide)]
    exact ⟨by simp [upd], h4.2.1, by omega, h4.2.2.2.1, h4.2.2.2.2.1, fun p hp => (hD p hp).2⟩
  · rw [ex (o + 1) (by omega) (by omega) (by omega) (by omega) (by omega)]
    obtain ⟨g1, g2, g3⟩ := r2 p hp
    refine ⟨g1, fun hpn => ?_, fun hpn => g3 (by omega)⟩
    by_cases e : p = ns
    · rw [e, eV, va_up_self, ← e, g3 (by omega)]
    · rw [eVn _ (by omega)]
      exact g2 (by omega)
theorem Iv.addTick (ho : o = 1000) (h : Iv a1 S V I o ns nt es na cf rf df N) (hlt : nt < 6) {S2 : fb_Sh} {c rr d : Nat} (hc1 : 1 ≤ c) (hc : c ≤ 6) (hr1 : 1 ≤ rr) (hr : rr ≤ 6) (hd1 : 1 ≤ d) (hd : d ≤ 9) (hC : CpAt S2 a1 ns (nt + 1) es na) (hX : Ext (fun x => (30 + 4 * nt ≤ x ∧ x < 30 + 4 * nt + 4) ∨ (300 + 72 * nt ≤ x ∧ x < 300 + 72 * nt + 72) ∨ x = 2 ∨ x = 5) S S2) (hA : MdAt S' o (nt + 1) (va_up cf nt c) (va_up rf nt rr)) (hY : Ext (fun x => x = o + 5 ∨ x = o + 6 ∨ x = o + 10 + nt ∨ x = o + 20 + nt ∨ x = o + 31) S2 S') (h31 : o + 31 ∉ sR S') (eV : V' = zV V (300 + 72 * nt) 36) (e1 : J (30 + 4 * nt) = upd (upd (upd (upd (fun _ => 0) 0 (nI c)) 1 (nI rr)) 2 (nI d)) 3 (nI (c * rr))) (e2 : J (30 + 4 * nt + 2) = fun _ => 0) (e3 : J 2 2 = nI (nt + 1)) (e4 : J (o + 10 + nt) = fun _ => 0) (e5 : J (o + 20 + nt) = fun _ => 0) (hG : MF J o ns (nt + 1) (va_up cf nt c) (va_up rf nt rr) (va_up df nt d)) (eo : ∀ j, j ≠ 0 → j ≠ 6 → J o j = I o j) (ex : ∀ x, ¬ (30 + 4 * nt ≤ x ∧ x < 30 + 4 * nt + 4) → x ≠ 2 → x ≠ o + 4 → x ≠ o + 10 + nt → x ≠ o + 20 + nt → x ≠ o + 31 → x ≠ o → x ≠ 2000 → J x = I x) : Iv a1 S' V' J o ns (nt + 1) es na (va_up cf nt c) (va_up rf nt rr) (va_up df nt d) N := by
  obtain ⟨⟨k1, k2, k3⟩, ⟨k4, k5⟩, ⟨h3, h4⟩, r1, r2, r3, r4, r5, r6⟩ := h
  have hns := h3.2.2.1
  have hes : es = 4 ∨ es = 6 := by
    rcases Nat.lt_or_ge 10 ns with q | q
    · exact Or.inr (k4.2 q).1
    · exact Or.inl (k4.1 q).1
  have eVn (x : Nat) (hx : x < 300 + 72 * nt ∨ 300 + 72 * nt + 72 ≤ x) : V' x = V x := by rw [eV]; exact zV_out V _ _ (by omega)
  have en (x : Nat) (a : x < 30 + 4 * nt ∨ 30 + 4 * nt + 4 ≤ x) (b : x ≠ 2) (c : x < o + 4 ∨ o + 4 < x) (d : x ≠ o + 10 + nt) (e : x ≠ o + 20 + nt) (f : x ≠ o + 31) (g : x ≠ o) (h : x ≠ 2000) : J x = I x := ex x (by omega) b (by omega) d e f g h
  have na2 {x : Nat} (h : x ∉ sR S) (a : ¬ ((30 + 4 * nt ≤ x ∧ x < 30 + 4 * nt + 4) ∨ (300 + 72 * nt ≤ x ∧ x < 300 + 72 * nt + 72) ∨ x = 2 ∨ x = 5)) (b : ¬ (x = o + 5 ∨ x = o + 6 ∨ x = o + 10 + nt ∨ x = o + 20 + nt ∨ x = o + 31)) : x ∉ sR S' := NA.ext hY b (NA.ext hX a h)
  refine ⟨⟨hC.ext hY (fun x hx => ⟨by omega, by omega, by omega, by omega, by omega, fun i hi => by omega, fun t ht => by omega⟩), hA, (k3.ext hX (by omega)).ext hY (by omega)⟩, ⟨k4, ?_⟩, ⟨?_, hG⟩, ?_, rS r2 (fun i hi => eVn _ (by omega)) (en _ (by omega) (by omega) (by omega) (by omega) (by omega) (by omega) (by omega) (by omega)), rD r3 (fun i hi => en _ (by omega) (by omega) (by omega) (by omega) (by omega) (by omega) (by omega) (by omega)) (en _ (by omega) (by omega) (by omega) (by omega) (by omega) (by omega) (by omega) (by omega)), rC r4 (fun c hc => eVn _ (by omega)) (en _ (by omega) (by omega) (by omega) (by omega) (by omega) (by omega) (by omega) (by omega)), fun t ht => ?_, rZ r6 (fun q hq => eVn _ (by omega))⟩
  · obtain ⟨f1, f2, f3, f4, f5, f6, f7⟩ := k5
    exact ⟨fun h => na2 (f1 h) (by omega) (by omega), fun h => absurd h (by omega), fun h => na2 (f3 h) (by omega) (by omega), fun i i1 i2 => ⟨na2 (f4 i i1 i2).1 (by omega) (by omega), na2 (f4 i i1 i2).2.1 (by omega) (by omega), na2 (f4 i i1 i2).2.2 (by omega) (by omega)⟩, fun t t1 t2 => ⟨fun x a b => na2 ((f5 t (by omega) t2).1 x a b) (by omega) (by omega), fun x a b => na2 ((f5 t (by omega) t2).2.1 x a b) (by omega) (by omega), na2 (f5 t (by omega) t2).2.2.1 (by omega) (by omega), na2 (f5 t (by omega) t2).2.2.2 (by omega) (by omega)⟩, na2 f6 (by omega) (by omega), h31⟩
  · obtain ⟨c1, c2, c3, c4, c5⟩ := h3
    refine ⟨by rw [en 1 (by omega) (by omega) (by omega) (by omega) (by omega) (by omega) (by omega) (by omega)]; exact c1, e3, c3, by omega, fun t ht => ?_⟩
    by_cases e : t = nt
    · subst e
      rw [va_up_self, va_up_self, va_up_self]
      unfold TF
      rw [e1]
      exact ⟨by simp [upd], by simp [upd], by simp [upd], by simp [upd], hc1, hc, hr1, hr, hd1, hd⟩
    · rw [va_up_ne _ _ e, va_up_ne _ _ e, va_up_ne _ _ e]
      have c6 := c5 t (by omega)
      unfold TF at c6 ⊢
      rw [en (30 + 4 * t) (by omega) (by omega) (by omega) (by omega) (by omega) (by omega) (by omega) (by omega)]
      exact c6
  · unfold RlW
    rw [en 0 (by omega) (by omega) (by omega) (by omega) (by omega) (by omega) (by omega) (by omega), eo 4 (by decide) (by decide), eo 10 (by decide) (by decide), eo 11 (by decide) (by decide), eo 12 (by decide) (by decide)]
    exact r1
  · by_cases e : t = nt
    · subst e
      unfold RlT
      rw [e2, e4, e5]
      refine ⟨fun _ _ => rfl, fun q hq => ?_, fun _ _ => ⟨rfl, Or.inl rfl⟩⟩
      have em : mx (fun _ => (0 : Int32)) q = fun _ => 0 := by
        funext k
        unfold mx
        split <;> rfl
      rw [em, eV, zV_at V _ _ hq]
      exact ⟨rfl, Bd_0 300⟩
    · have g := rT (V' := V') (J := J) (r5 t (by omega)) (fun q hq => eVn _ (by omega)) (en _ (by omega) (by omega) (by omega) (by omega) (by omega) (by omega) (by omega) (by omega)) (en _ (by omega) (by omega) (by omega) (by omega) (by omega) (by omega) (by omega) (by omega)) (en _ (by omega) (by omega) (by omega) (by omega) (by omega) (by omega) (by omega) (by omega))
      unfold RlT at g ⊢
      rw [va_up_ne _ _ e, va_up_ne _ _ e]
      exact g
end UPD
