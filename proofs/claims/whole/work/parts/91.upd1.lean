/-! what a call leaves: the parts that it doesn't write -/
theorem rS {V V' I J : fb_V} {o ns : Nat} (h : RlS V I o ns) (e1 : ∀ i, i < 12 → V' (200 + 2 * i) = V (200 + 2 * i)) (e2 : J (o + 1) = I (o + 1)) : RlS V' J o ns := fun i hi => by
  rw [e1 i hi, e2]
  exact h i hi
theorem rD {I J : fb_V} {o ns : Nat} (h : RlD I o ns) (e1 : ∀ i, i < ns → J (10 + i) = I (10 + i)) (e2 : J (o + 2) = I (o + 2)) : RlD J o ns := fun i hi => by
  rw [e1 i hi, e2]
  exact h i hi
theorem rC {V V' I J : fb_V} {o N : Nat} (h : RlC V I o N) (e1 : ∀ c, c < 5 → V' (100 + 2 * c) = V (100 + 2 * c)) (e2 : J (o + 3) = I (o + 3)) : RlC V' J o N := fun c hc => by
  rw [e1 c hc, e2]
  exact h c hc
theorem rT {V V' I J : fb_V} {o t : Nat} {cf rf : Nat → Nat} (h : RlT V I o t cf rf) (e1 : ∀ q, q < 36 → V' (300 + 72 * t + 2 * q) = V (300 + 72 * t + 2 * q)) (e2 : J (o + 10 + t) = I (o + 10 + t)) (e3 : J (o + 20 + t) = I (o + 20 + t)) (e4 : J (30 + 4 * t + 2) = I (30 + 4 * t + 2)) : RlT V' J o t cf rf := by
  unfold RlT
  rw [e2, e3, e4]
  exact ⟨h.1, fun q hq => by rw [e1 q hq]; exact h.2.1 q hq, h.2.2⟩
theorem rZ {V V' : fb_V} (h : TZ (tv V 732)) (e : ∀ q, q < 36 → V' (732 + 2 * q) = V (732 + 2 * q)) : TZ (tv V' 732) := fun q hq => by
  show tz (V' (732 + 2 * q))
  rw [e q hq]
  exact h q hq
theorem rW {I J : fb_V} {o : Nat} (h : RlW I o) (e1 : J 0 = I 0) (e2 : ∀ j, j ≠ 0 → J o j = I o j) : RlW J o := by
  unfold RlW
  rw [e1, e2 4 (by decide), e2 10 (by decide), e2 11 (by decide), e2 12 (by decide)]
  exact h
theorem rW2 {I J : fb_V} {o : Nat} {v : Int32} (h : RlW I o) (e1 : J 0 = I 0) (e2 : ∀ j, j ≠ 0 → J o j = upd (I o) 1 v j) : RlW J o := by
  unfold RlW
  rw [e1, e2 4 (by decide), e2 10 (by decide), e2 11 (by decide), e2 12 (by decide)]
  exact h
theorem cfc {I J : fb_V} {ns nt : Nat} {cf rf df : Nat → Nat} (h : CF I ns nt cf rf df) (e1 : J 1 = I 1) (e2 : J 2 = I 2) (e3 : ∀ t, t < 6 → J (30 + 4 * t) = I (30 + 4 * t)) : CF J ns nt cf rf df := by
  obtain ⟨h1, h2, h3, h4, h5⟩ := h
  refine ⟨by rw [e1]; exact h1, by rw [e2]; exact h2, h3, h4, fun t ht => ?_⟩
  have h6 := h5 t ht
  unfold TF at h6 ⊢
  rw [e3 t (by omega)]
  exact h6
theorem mfc {I J : fb_V} {o ns nt : Nat} {cf rf df : Nat → Nat} (h : MF I o ns nt cf rf df) (e1 : J o 1 = I o 1) (e6 : J o 6 = I o 6) (e4 : J (o + 4) = I (o + 4)) (e2 : J (o + 2) = I (o + 2)) : MF J o ns nt cf rf df := by
  unfold MF at h ⊢
  rw [e4, e2, e1, e6]
  exact h
section UPD
variable {a1 : Nat} {S : fb_Sh} {V V' I J : fb_V} {o ns nt es na N : Nat} {cf rf df : Nat → Nat}
theorem Iv.setWind (ho : o = 1000) (h : Iv a1 S V I o ns nt es na cf rf df N) {w : Nat} (hw1 : 1 ≤ w) (hw : w ≤ 20) (e0 : J 0 = upd (I 0) 4 (nI w)) (eo : ∀ j, j ≠ 0 → J o j = upd (I o) 4 (nI w) j) (ex : ∀ x, x ≠ 0 → x ≠ o → x ≠ 2000 → J x = I x) : Iv a1 S V J o ns nt es na cf rf df N := by
  obtain ⟨h1, h2, ⟨h3, h4⟩, r1, r2, r3, r4, r5, r6⟩ := h
  have hns := h3.2.2.1
  have hnt := h3.2.2.2.1
  have e (x : Nat) (a : x ≠ 0) (b : x ≠ o) (c : x ≠ 2000) : J x = I x := ex x a b c
  refine ⟨h1, h2, ⟨cfc h3 (e 1 (by omega) (by omega) (by omega)) (e 2 (by omega) (by omega) (by omega)) (fun t ht => e _ (by omega) (by omega) (by omega)), mfc h4 (eo 1 (by decide)) (eo 6 (by decide)) (e _ (by omega) (by omega) (by omega)) (e _ (by omega) (by omega) (by omega))⟩, ?_, rS r2 (fun _ _ => rfl) (e _ (by omega) (by omega) (by omega)), rD r3 (fun i hi => e _ (by omega) (by omega) (by have := h3.2.2.1; omega)) (e _ (by omega) (by omega) (by omega)), rC r4 (fun _ _ => rfl) (e _ (by omega) (by omega) (by omega)), fun t ht => rT (r5 t ht) (fun _ _ => rfl) (e _ (by omega) (by omega) (by have := h3.2.2.2.1; omega)) (e _ (by omega) (by omega) (by have := h3.2.2.2.1; omega)) (e _ (by omega) (by have := h3.2.2.2.1; omega) (by have := h3.2.2.2.1; omega)), r6⟩
  obtain ⟨-, -, q3, q4, q5⟩ := r1
  unfold RlW
  rw [e0, eo 4 (by decide), eo 10 (by decide), eo 11 (by decide), eo 12 (by decide)]
  exact ⟨rfl, ⟨w, hw1, hw, rfl⟩, q3, q4, q5⟩
theorem mx_upd_s (f : Nat → Int32) (i : Nat) {k : Nat} (hk : k < 6) (w : Int32) : mx (upd f (6 * i + k) w) i = upd (mx f i) k w := by
  funext j
  show (if j < 6 then (if 6 * i + j = 6 * i + k then w else f (6 * i + j)) else 0) = if j = k then w else (if j < 6 then f (6 * i + j) else 0)
  by_cases e : j = k
  · rw [if_pos (by omega), if_pos (by omega), if_pos e]
  · rw [if_neg e, if_neg (show ¬ 6 * i + j = 6 * i + k by omega)]
theorem mx_upd_n (f : Nat → Int32) {i p : Nat} (h : p ≠ i) {k : Nat} (hk : k < 6) (w : Int32) : mx (upd f (6 * i + k) w) p = mx f p := by
  funext j
  unfold mx upd
  by_cases hj : j < 6
  · rw [if_pos hj, if_pos hj, if_neg (by omega)]
  · rw [if_neg hj, if_neg hj]
theorem Iv.put (ho : o = 1000) (h : Iv a1 S V I o ns nt es na cf rf df N) {i k m v : Nat} (hi : i < ns) (hk : k < 6) (hv : I (o + 1) (6 * i + k) = nI v) (hs : v + m ≤ 500) (eV : V' = va_up V (200 + 2 * i) (chv (V (200 + 2 * i)) k (nI m))) (e1 : J (o + 1) = upd (I (o + 1)) (6 * i + k) (nI (v + m))) (eo : ∀ j, j ≠ 0 → J o j = I o j) (ex : ∀ x, x ≠ o + 1 → x ≠ o → x ≠ 2000 → J x = I x) : Iv a1 S V' J o ns nt es na cf rf df N := by
  obtain ⟨h1, h2, ⟨h3, h4⟩, r1, r2, r3, r4, r5, r6⟩ := h
  have hns := h3.2.2.1
  have hnt := h3.2.2.2.1
  have eVn (x : Nat) (hx : x ≠ 200 + 2 * i) : V' x = V x := by rw [eV]; exact va_up_ne _ _ hx
  refine ⟨h1, h2, ⟨cfc h3 (ex 1 (by omega) (by omega) (by omega)) (ex 2 (by omega) (by omega) (by omega)) (fun t ht => ex _ (by omega) (by omega) (by omega)), mfc h4 (eo 1 (by decide)) (eo 6 (by decide)) (ex _ (by omega) (by omega) (by omega)) (ex _ (by omega) (by omega) (by omega))⟩, rW r1 (ex 0 (by omega) (by omega) (by omega)) eo, fun p hp => ?_, rD r3 (fun i hi => ex _ (by omega) (by omega) (by omega)) (ex _ (by omega) (by omega) (by omega)), rC r4 (fun c hc => eVn _ (by omega)) (ex _ (by omega) (by omega) (by omega)), fun t ht => rT (r5 t ht) (fun q hq => eVn _ (by omega)) (ex _ (by omega) (by omega) (by omega)) (ex _ (by omega) (by omega) (by omega)) (ex _ (by omega) (by omega) (by omega)), rZ r6 (fun q hq => eVn _ (by omega))⟩
  obtain ⟨⟨f, f1, f2⟩, g2, g3⟩ := r2 p hp
  rw [e1]
  by_cases e : p = i
  · subst e
    have fk : nI (f k) = nI v := by rw [← nv_k f hk, ← f1, mx_k _ _ hk, hv]
    have em : mx (upd (I (o + 1)) (6 * p + k) (nI (v + m))) p = nv (nup f k (v + m)) := by
      rw [mx_upd_s _ _ hk, f1]
      funext j
      unfold upd nup
      by_cases ej : j = k
      · rw [if_pos ej, ej, nv_k _ hk, if_pos rfl]
      · rw [if_neg ej]
        by_cases hj : j < 6
        · rw [nv_k f hj, nv_k _ hj, if_neg ej]
        · rw [nv_o f (by omega), nv_o _ (by omega)]
    refine ⟨⟨_, em, fun j hj => ?_⟩, fun _ => ?_, fun h => absurd hi (by omega)⟩
    · unfold nup
      split
      · exact hs
      · exact f2 j hj
    · rw [eV, va_up_self, g2 hi, mx_upd_s _ _ hk]
      unfold chv
      rw [mx_k _ _ hk, hv, nI_add]
  · rw [mx_upd_n _ e hk, eVn _ (by omega)]
    exact ⟨⟨f, f1, f2⟩, g2, g3⟩
theorem dry_nI {dm n : Nat} (hd : dm ≤ 9) (hn : n ≤ 9) : (if 0 < nI dm - nI n then nI dm - nI n else 0) = nI (dm - n) := by
  by_cases h : n < dm
  · rw [pk_sub (by omega), if_pos (show (0 : Int32) < nI (dm - n) from by rw [← nI_0]; exact nI_lt (by omega) (by omega))]
  · rw [if_neg]
    · rw [show dm - n = 0 by omega]; rfl
    · by_cases e : dm = n
      · rw [e, pk_sub (Nat.le_refl _), Nat.sub_self]; decide
      · exact Int32.not_lt.mpr (Int32.le_of_lt (pk_sneg (by omega) (by omega)))
theorem Iv.dry (ho : o = 1000) (h : Iv a1 S V I o ns nt es na cf rf df N) {i w : Nat} (hi : i < ns) (hw : w ≤ 9) (e1 : J (10 + i) = upd (I (10 + i)) 1 (nI w)) (e2 : J (o + 2) = upd (I (o + 2)) i (nI w)) (eo : ∀ j, j ≠ 0 → J o j = I o j) (ex : ∀ x, x ≠ 10 + i → x ≠ o + 2 → x ≠ o → x ≠ 2000 → J x = I x) : Iv a1 S V J o ns nt es na cf rf df N := by
  obtain ⟨h1, h2, ⟨h3, h4⟩, r1, r2, r3, r4, r5, r6⟩ := h
  have hns := h3.2.2.1
  have hnt := h3.2.2.2.1
  have hD : RlD J o ns := fun p hp => by
    rw [e2]
    by_cases e : p = i
    · subst e
      rw [e1]
      exact ⟨by simp [upd], w, hw, by simp [upd]⟩
    · rw [ex (10 + p) (by omega) (by omega) (by omega) (by omega)]
      simp only [upd, if_neg e]
      exact r3 p hp
  refine ⟨h1, h2, ⟨cfc h3 (ex 1 (by omega) (by omega) (by omega) (by omega)) (ex 2 (by omega) (by omega) (by omega) (by omega)) (fun t ht => ex _ (by omega) (by omega) (by omega) (by omega)), ?_⟩, rW r1 (ex 0 (by omega) (by omega) (by omega) (by omega)) eo, rS r2 (fun _ _ => rfl) (ex _ (by omega) (by omega) (by omega) (by omega)), hD, rC r4 (fun c hc => rfl) (ex _ (by omega) (by omega) (by omega) (by omega)), fun t ht => rT (r5 t ht) (fun q hq => rfl) (ex _ (by omega) (by omega) (by omega) (by omega)) (ex _ (by omega) (by omega) (by omega) (by omega)) (ex _ (by omega) (by omega) (by omega) (by omega)), r6⟩
  unfold MF at h4 ⊢
  rw [ex (o + 4) (by omega) (by omega) (by omega) (by omega), eo 1 (by decide), eo 6 (by decide)]
  exact ⟨h4.1, h4.2.1, h4.2.2.1, h4.2.2.2.1, h4.2.2.2.2.1, fun p hp => (hD p hp).2⟩
theorem Iv.sew (ho : o = 1000) (h : Iv a1 S V I o ns nt es na cf rf df N) {t j : Nat} {b : Int32} (ht : t < nt) (e1 : J (30 + 4 * t + 2) = upd (I (30 + 4 * t + 2)) j (nb b)) (e2 : J (o + 20 + t) = upd (I (o + 20 + t)) j (nb b)) (hb : nb b = 0 ∨ nb b = 1) (eo : ∀ j, j ≠ 0 → J o j = I o j) (ex : ∀ x, x ≠ 30 + 4 * t + 2 → x ≠ o + 20 + t → x ≠ o → x ≠ 2000 → J x = I x) : Iv a1 S V J o ns nt es na cf rf df N := by
  obtain ⟨h1, h2, ⟨h3, h4⟩, r1, r2, r3, r4, r5, r6⟩ := h
  have hns := h3.2.2.1
  have hnt := h3.2.2.2.1
  refine ⟨h1, h2, ⟨cfc h3 (ex 1 (by omega) (by omega) (by omega) (by omega)) (ex 2 (by omega) (by omega) (by omega) (by omega)) (fun t ht => ex _ (by omega) (by omega) (by omega) (by omega)), mfc h4 (eo 1 (by decide)) (eo 6 (by decide)) (ex _ (by omega) (by omega) (by omega) (by omega)) (ex _ (by omega) (by omega) (by omega) (by omega))⟩, rW r1 (ex 0 (by omega) (by omega) (by omega) (by omega)) eo, rS r2 (fun _ _ => rfl) (ex _ (by omega) (by omega) (by omega) (by omega)), rD r3 (fun i hi => ex _ (by omega) (by omega) (by omega) (by omega)) (ex _ (by omega) (by omega) (by omega) (by omega)), rC r4 (fun c hc => rfl) (ex _ (by omega) (by omega) (by omega) (by omega)), fun u hu => ?_, r6⟩
  by_cases e : u = t
  · subst e
    obtain ⟨g1, g2, g3⟩ := r5 u hu
    unfold RlT
    rw [e1, e2, ex (o + 10 + u) (by omega) (by omega) (by omega) (by omega)]
    refine ⟨g1, g2, fun k hk => ?_⟩
    unfold upd
    by_cases ek : k = j
    · rw [if_pos ek, if_pos ek]
      exact ⟨rfl, hb⟩
    · rw [if_neg ek, if_neg ek]
      exact g3 k hk
  · exact rT (r5 u hu) (fun _ _ => rfl) (ex _ (by omega) (by omega) (by omega) (by omega)) (ex _ (by omega) (by omega) (by omega) (by omega)) (ex _ (by omega) (by omega) (by omega) (by omega))
end UPD
