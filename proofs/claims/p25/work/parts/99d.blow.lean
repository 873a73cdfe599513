/-! a sack is blown, by both -/
theorem brn_sum (a : Int32) {c : Nat} (hc : c < 5) : brn a (nI c) (plc 0) + brn a (nI c) (plc 1) + brn a (nI c) (plc 2) + brn a (nI c) (plc 3) + brn a (nI c) (plc 4) + brn a (nI c) (plc 5) + brn a (nI c) (plc 6) = a := by
  rw [brn_at a c hc 0 (by decide), brn_at a c hc 1 (by decide), brn_at a c hc 2 (by decide), brn_at a c hc 3 (by decide), brn_at a c hc 4 (by decide), brn_at a c hc 5 (by decide), brn_at a c hc 6 (by decide)]
  rcases (show c = 0 ∨ c = 1 ∨ c = 2 ∨ c = 3 ∨ c = 4 by omega) with rfl | rfl | rfl | rfl | rfl
  all_goals
    simp
    grind
theorem gq_at (x tt : Nat → Int32) (r : Nat) {j : Nat} (hj : j < 6) : gq x tt 6 r j = brn (x j) (tt j) (plc r) := if_pos hj
theorem gq_sum (x tt : Nat → Int32) (ht : ∀ j, j < 6 → ∃ c, c < 5 ∧ tt j = nI c) : s6 (gq x tt 6 0) + s6 (gq x tt 6 1) + s6 (gq x tt 6 2) + s6 (gq x tt 6 3) + s6 (gq x tt 6 4) + s6 (gq x tt 6 5) + s6 (gq x tt 6 6) = s6 x := by
  have e (j : Nat) (hj : j < 6) : gq x tt 6 0 j + gq x tt 6 1 j + gq x tt 6 2 j + gq x tt 6 3 j + gq x tt 6 4 j + gq x tt 6 5 j + gq x tt 6 6 j = x j := by
    obtain ⟨c, hc, h⟩ := ht j hj
    rw [gq_at x tt 0 hj, gq_at x tt 1 hj, gq_at x tt 2 hj, gq_at x tt 3 hj, gq_at x tt 4 hj, gq_at x tt 5 hj, gq_at x tt 6 hj, h]
    exact brn_sum (x j) hc
  have e0 := e 0 (by decide)
  have e1 := e 1 (by decide)
  have e2 := e 2 (by decide)
  have e3 := e 3 (by decide)
  have e4 := e 4 (by decide)
  have e5 := e 5 (by decide)
  show (_ + _ + _ + _ + _ + _) + (_ + _ + _ + _ + _ + _) + (_ + _ + _ + _ + _ + _) + (_ + _ + _ + _ + _ + _) + (_ + _ + _ + _ + _ + _) + (_ + _ + _ + _ + _ + _) + (_ + _ + _ + _ + _ + _) = x 0 + x 1 + x 2 + x 3 + x 4 + x 5
  grind
theorem s6_addn (A B : Nat → Int32) : s6 (addn A B 6) = s6 A + s6 B := by
  have a (j : Nat) (h : j < 6) : addn A B 6 j = A j + B j := if_pos h
  unfold s6
  rw [a 0 (by decide), a 1 (by decide), a 2 (by decide), a 3 (by decide), a 4 (by decide), a 5 (by decide)]
  grind
theorem gq_F {x : Nat → Int32} (hx : Bk x 500) (tt : Nat → Int32) (r : Nat) : ∃ b : Nat → Nat, gq x tt 6 r = nv b ∧ ∀ k, k < 6 → b k ≤ 500 := by
  obtain ⟨b, hb⟩ := brn_F hx tt (plc r)
  refine ⟨b, ?_, fun k hk => (hb k hk).1⟩
  funext j
  by_cases hj : j < 6
  · rw [gq_at x tt r hj, nv_k _ hj, (hb j hj).2]
  · rw [nv_o _ (by omega)]
    exact if_neg hj
theorem bly_gq (x tt : Nat → Int32) (y0 : Int32) : bly x tt y0 6 = y0 + s6 (gq x tt 6 6) := by
  have a (j : Nat) (h : j < 6) : gq x tt 6 6 j = brn (x j) (tt j) 5 := if_pos h
  unfold s6
  rw [a 0 (by decide), a 1 (by decide), a 2 (by decide), a 3 (by decide), a 4 (by decide), a 5 (by decide)]
  show y0 + brn (x 0) (tt 0) 5 + brn (x 1) (tt 1) 5 + brn (x 2) (tt 2) 5 + brn (x 3) (tt 3) 5 + brn (x 4) (tt 4) 5 + brn (x 5) (tt 5) 5 = _
  grind
theorem gq_cg {x tt uu : Nat → Int32} (h : ∀ k, k < 6 → tt k = uu k) (r : Nat) : gq x tt 6 r = gq x uu 6 r := by
  funext j
  unfold gq
  by_cases hj : j < 6
  · rw [if_pos hj, if_pos hj, h j hj]
  · rw [if_neg hj, if_neg hj]
theorem bdadd {A B : Nat → Int32} {N : Nat} (hA : Bd A N) {b : Nat → Nat} (hB : B = nv b) (hb : ∀ k, k < 6 → b k ≤ 500) : Bd (addn A B 6) (N + 3000) := by
  obtain ⟨g, rfl, hg⟩ := hA
  refine ⟨fun k => g k + b k, ?_, ?_⟩
  · funext j
    unfold addn
    by_cases hj : j < 6
    · rw [if_pos hj, hB, nv_k _ hj, nv_k _ hj, nv_k _ hj, nI_add]
    · rw [if_neg hj, nv_o _ (by omega), nv_o _ (by omega)]
  · have a0 := hb 0 (by decide)
    have a1 := hb 1 (by decide)
    have a2 := hb 2 (by decide)
    have a3 := hb 3 (by decide)
    have a4 := hb 4 (by decide)
    have a5 := hb 5 (by decide)
    have e2 : sm g = g 0 + g 1 + g 2 + g 3 + g 4 + g 5 := rfl
    show (g 0 + b 0) + (g 1 + b 1) + (g 2 + b 2) + (g 3 + b 3) + (g 4 + b 4) + (g 5 + b 5) ≤ N + 3000
    omega
section BLW
variable {a1 : Nat} {S S3 : fb_Sh} {V I V' J : fb_V} {ns nt N F : Nat} {rho cf rf df : Nat → Nat}
theorem Iv.blow (h : Iv a1 S V I ns nt rho cf rf df N F) {i dm w : Nat} (hi : i < ns) (hd9 : dm ≤ 9) (hw : w ≤ 20) {x tt uu : Nat → Int32} (ex0 : x = V (200 + 2 * i)) (hu : ∀ j, j < 6 → uu j = nI (cN w j dm)) (ht : ∀ j, j < 6 → tt j = uu j) (hA3 : SmAt S3 ns nt (va_up rho i (F + 1 + 5)) cf rf) (hE3 : Ext (fun x => F ≤ x ∧ x ≤ F + 7 ∨ x = 1020 + ns) S S3)
    (eV : V' = blV V i x tt 6 0) (e0 : J 0 = upd (I 0) 6 (bly x tt (I 0 6) 6)) (e1 : J 1000 2 = I 1000 2) (e5 : J (F + 1 + 5) = gq x uu 6 5) (ec : ∀ c, c < 5 → J (1010 + c) = addn (I (1010 + c)) (gq x uu 6 c) 6) (ex : ∀ x, x ≠ 0 → x ≠ 1000 → ¬ (1010 ≤ x ∧ x < 1015) → x < F → J x = I x) : Iv a1 S3 V' J ns nt (va_up rho i (F + 1 + 5)) cf rf df (N + 3000) (F + 8) ∧ tot V' J ns nt = tot V I ns nt + nI 0 ∧ J 0 5 = I 0 5 ∧ J 0 7 = I 0 7 := by
  obtain ⟨⟨k1, k2⟩, ⟨g2, g3⟩, ⟨c1, c2, c3, c4, c5⟩, ⟨j1, j2, j3, j4, j5⟩, g5, g6⟩ := id h
  have hF4 := g3.1
  have hgt (r : Nat) : gq x tt 6 r = gq x uu 6 r := gq_cg ht r
  have hX : Bk x 500 := by rw [ex0]; exact (j2 i hi).2.1
  have hzx : tz x := hX.Bd.tz
  have eVn (y : Nat) (hy : y ≠ 200 + 2 * i) (hy2 : ¬ (100 ≤ y ∧ y < 110)) : V' y = V y := by
    rw [eV]
    unfold blV
    rw [va_up_ne _ _ hy, bcV_out V x tt 6 0 hy2]
  have eVs : V' (200 + 2 * i) = gq x uu 6 5 := by
    rw [eV, blV_h, ← hgt]
    funext j
    unfold cpn gq
    by_cases hj : j < 6
    · rw [if_pos hj, if_pos hj]
      rfl
    · rw [if_neg hj, if_neg hj]
      exact hzx j (by omega)
  have eVc (c : Nat) (hc : c < 5) : V' (100 + 2 * c) = addn (V (100 + 2 * c)) (gq x uu 6 c) 6 := by
    rw [eV, blV_c V (by omega) x tt 6 hc, bcV_60 V x tt hc, ← hgt]
    funext j
    unfold addn gq plc
    by_cases hj : j < 6
    · rw [if_pos hj, if_pos hj, if_pos hj, if_pos hc]
    · rw [if_neg hj, if_neg hj]
  have hin3 : ∀ y, y ∈ sR S3 → y < F + 8 := fun y hy => by
    by_cases c : F ≤ y ∧ y ≤ F + 7 ∨ y = 1020 + ns
    · omega
    · have := g3.2 y (((hE3 y c).1).mp hy)
      omega
  have hCp : CpAt S3 a1 ns nt 4 10 := k1.ext hE3 (fun y hy => ⟨by omega, by omega, by omega, by omega, by omega, fun p hp => ⟨by omega, by omega, by omega⟩, fun t ht => ⟨by omega, by omega⟩⟩)
  have hRho : Rho (va_up rho i (F + 1 + 5)) ns := by
    refine ⟨fun p hp => ?_, fun p q hp hq hpq => ?_⟩
    · by_cases e : p = i
      · subst e
        rw [va_up_self]
        exact Or.inr (by omega)
      · rw [va_up_ne _ _ e]
        exact g2.1 p hp
    · have b1 := k2.rlt g3 hp
      have b2 := k2.rlt g3 hq
      by_cases e : p = i <;> by_cases e' : q = i
      · rw [e, e']
      · rw [e, va_up_self, va_up_ne _ _ e'] at hpq
        omega
      · rw [e', va_up_self, va_up_ne _ _ e] at hpq
        omega
      · rw [va_up_ne _ _ e, va_up_ne _ _ e'] at hpq
        exact g2.2 p q hp hq hpq
  have en (y : Nat) (h1 : y ≠ 0) (h2 : y ≠ 1000) (h3 : ¬ (1010 ≤ y ∧ y < 1015)) (h4 : y < F) := ex y h1 h2 h3 h4
  obtain ⟨b6, eb6, hb6⟩ := gq_F hX uu 6
  obtain ⟨⟨w0, w1, w2, w3, w4⟩, y0, y1, y2⟩ := j1
  have e06 : J 0 6 = I 0 6 + s6 (gq x uu 6 6) := by
    rw [e0, ← hgt, ← bly_gq]
    exact if_pos rfl
  refine ⟨⟨⟨hCp, hA3⟩, ⟨hRho, by omega, hin3⟩, ⟨by rw [en 1 (by omega) (by omega) (by omega) (by omega)]; exact c1, by rw [en 2 (by omega) (by omega) (by omega) (by omega)]; exact c2, c3, c4, fun t htl => ?_⟩, ⟨⟨⟨w0, w1, w2, by rw [e0]; exact w3, by rw [e1]; exact w4⟩, y0 + sm b6, ?_, ?_⟩, fun p hp => ?_, fun c hc => ?_, fun t htl => ?_, fun q hq => ?_⟩, g5, g6⟩, ?_, by rw [e0]; rfl, by rw [e0]; rfl⟩
  · have h6 := c5 t htl
    unfold TF at h6 ⊢
    rw [en (30 + 4 * t) (by omega) (by omega) (by omega) (by omega)]
    exact h6
  · have a0 := hb6 0 (by decide)
    have a1 := hb6 1 (by decide)
    have a2 := hb6 2 (by decide)
    have a3 := hb6 3 (by decide)
    have a4 := hb6 4 (by decide)
    have a5 := hb6 5 (by decide)
    show y0 + (b6 0 + b6 1 + b6 2 + b6 3 + b6 4 + b6 5) ≤ N + 3000
    omega
  · rw [e06, y2, eb6, s6_nv, nI_add]
  · obtain ⟨s1, s2, dm', s5, s6', s7⟩ := j2 p hp
    by_cases e : p = i
    · subst e
      obtain ⟨b5, eb5, hb5⟩ := gq_F hX uu 5
      refine ⟨by rw [va_up_self, e5, eVs], by rw [eVs]; exact ⟨b5, eb5, hb5⟩, dm', s5, by rw [en _ (by omega) (by omega) (by omega) (by omega)]; exact s6', by rw [en _ (by omega) (by omega) (by omega) (by omega)]; exact s7⟩
    · have b1 := k2.rlt g3 hp
      have b2 := g2.1 p hp
      refine ⟨by rw [va_up_ne _ _ e, en _ (by omega) (by omega) (by omega) b1, eVn _ (by omega) (by omega)]; exact s1, by rw [eVn _ (by omega) (by omega)]; exact s2, dm', s5, by rw [en _ (by omega) (by omega) (by omega) (by omega)]; exact s6', by rw [en _ (by omega) (by omega) (by omega) (by omega)]; exact s7⟩
  · obtain ⟨b, eb, hb⟩ := gq_F hX uu c
    exact ⟨by rw [ec c hc, eVc c hc, (j3 c hc).1], by rw [eVc c hc]; exact bdadd (j3 c hc).2 eb hb⟩
  · have hn := (j4 t htl).n36
    exact (j4 t htl).same (fun q hq => eVn _ (by omega) (by omega)) (fun y h1 h2 => en _ (by omega) (by omega) (by omega) (by omega)) (en _ (by omega) (by omega) (by omega) (by omega))
  · show tz (V' (732 + 2 * q))
    rw [eVn _ (by omega) (by omega)]
    exact j5 q hq
  · have hs := gq_sum x uu (fun j hj => ⟨_, cN_lt w j dm, hu j hj⟩)
    have hc5 : csum V' 100 5 = csum V 100 5 + (s6 (gq x uu 6 0) + s6 (gq x uu 6 1) + s6 (gq x uu 6 2) + s6 (gq x uu 6 3) + s6 (gq x uu 6 4)) := by
      show 0 + s6 (V' (100 + 2 * 0)) + s6 (V' (100 + 2 * 1)) + s6 (V' (100 + 2 * 2)) + s6 (V' (100 + 2 * 3)) + s6 (V' (100 + 2 * 4)) = 0 + s6 (V (100 + 2 * 0)) + s6 (V (100 + 2 * 1)) + s6 (V (100 + 2 * 2)) + s6 (V (100 + 2 * 3)) + s6 (V (100 + 2 * 4)) + _
      rw [eVc 0 (by decide), eVc 1 (by decide), eVc 2 (by decide), eVc 3 (by decide), eVc 4 (by decide), s6_addn, s6_addn, s6_addn, s6_addn, s6_addn]
      grind
    unfold tot
    rw [csum_up (V := V) (V' := V') (b := 200) (i := i) ns hi (fun j hj hne => eVn _ (by omega) (by omega)), hc5, tsum_cg (V := V) (V' := V') nt (fun t ht q hq => eVn _ (by omega) (by omega)), eVs, e06, ← ex0, ← hs, show nI 0 = 0 from rfl]
    grind
end BLW
