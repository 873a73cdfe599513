/-! what holds between the two, between calls -/
def Bk (v : Nat → Int32) (N : Nat) : Prop := ∃ f, v = nv f ∧ ∀ k, k < 6 → f k ≤ N
theorem Bk.Bd {v : Nat → Int32} {N : Nat} (h : Bk v N) : Bd v (6 * N) := by
  obtain ⟨f, h1, h2⟩ := h
  refine ⟨f, h1, ?_⟩
  have a0 := h2 0 (by decide)
  have a1 := h2 1 (by decide)
  have a2 := h2 2 (by decide)
  have a3 := h2 3 (by decide)
  have a4 := h2 4 (by decide)
  have a5 := h2 5 (by decide)
  unfold sm
  omega
theorem Bk_0 (N : Nat) : Bk (fun _ => 0) N := ⟨fun _ => 0, nv_0.symm, fun _ _ => Nat.zero_le _⟩
def RlW (I : fb_V) (o : Nat) : Prop := I 0 4 = I o 4 ∧ (∃ w, 1 ≤ w ∧ w ≤ 20 ∧ I o 4 = nI w) ∧ I 0 5 = I o 10 ∧ I 0 6 = I o 11 ∧ I 0 7 = I o 12
def RlS (V I : fb_V) (o ns : Nat) : Prop := ∀ i, i < 12 → Bk (mx (I (o + 1)) i) 500 ∧ (i < ns → V (200 + 2 * i) = mx (I (o + 1)) i) ∧ (ns ≤ i → mx (I (o + 1)) i = fun _ => 0)
def RlD (I : fb_V) (o ns : Nat) : Prop := ∀ i, i < ns → I (10 + i) 1 = I (o + 2) i ∧ ∃ dm, dm ≤ 9 ∧ I (o + 2) i = nI dm
def RlC (V I : fb_V) (o N : Nat) : Prop := ∀ c, c < 5 → V (100 + 2 * c) = mx (I (o + 3)) c ∧ Bd (mx (I (o + 3)) c) N
def RlT (V I : fb_V) (o t : Nat) (cf rf : Nat → Nat) : Prop := FZ (I (o + 10 + t)) (cf t * rf t) ∧ (∀ q, q < 36 → V (300 + 72 * t + 2 * q) = mx (I (o + 10 + t)) q ∧ Bd (mx (I (o + 10 + t)) q) 300) ∧ ∀ k, k < 2 * (cf t * rf t) → I (30 + 4 * t + 2) k = I (o + 20 + t) k ∧ (I (o + 20 + t) k = 0 ∨ I (o + 20 + t) k = 1)
def Rl (V I : fb_V) (o ns nt : Nat) (cf rf : Nat → Nat) (N : Nat) : Prop := RlW I o ∧ RlS V I o ns ∧ RlD I o ns ∧ RlC V I o N ∧ (∀ t, t < nt → RlT V I o t cf rf) ∧ TZ (tv V 732)
/-- only what no call reads back was written -/
def Same (I J : fb_V) (o : Nat) : Prop := (∀ x, x ≠ o → x ≠ o + 7 → x ≠ 2000 → ¬ (54 ≤ x ∧ x < 58) → (∀ t, t < 6 → x ≠ 30 + 4 * t + 3) → J x = I x) ∧ ∀ j, j ≠ 0 → J o j = I o j
theorem Same.rf (I : fb_V) (o : Nat) : Same I I o := ⟨fun _ _ _ _ _ _ => rfl, fun _ _ => rfl⟩
theorem Same.trans {I J K : fb_V} {o : Nat} (h : Same I J o) (g : Same J K o) : Same I K o := ⟨fun x a b c d e => (g.1 x a b c d e).trans (h.1 x a b c d e), fun j hj => (g.2 j hj).trans (h.2 j hj)⟩
theorem sam_tf (I : fb_V) (o : Nat) (n : Int32) : Same I (tf I o n) o := ⟨fun x hx _ _ _ _ => va_up_ne _ _ hx, fun j hj => by unfold tf; rw [va_up_self]; exact if_neg hj⟩
theorem sam_t0 (I : fb_V) (o : Nat) : Same I (t0 I o) o := ⟨fun x hx _ _ _ _ => va_up_ne _ _ hx, fun j hj => by unfold t0; rw [va_up_self]; exact if_neg hj⟩
theorem sam_out (I : fb_V) {o : Nat} (ho : o = 1000) (g : Nat → Int32) : Same I (va_up I 2000 g) o := ⟨fun x _ _ h _ _ => va_up_ne _ _ h, fun j _ => by rw [va_up_ne _ _ (by omega)]⟩
theorem sam_7 (I : fb_V) {o : Nat} (g : Nat → Int32) : Same I (va_up I (o + 7) g) o := ⟨fun x _ h _ _ _ => va_up_ne _ _ h, fun j _ => by rw [va_up_ne _ _ (by omega)]⟩
theorem sam_pts {I J : fb_V} {o : Nat} (ho : o = 1000) (h : Pts I J) : Same I J o := ⟨fun x _ _ _ a b => h x (fun t ht e => by
  by_cases h6 : t = 6
  · exact a (by omega)
  · exact b t (by omega) (by omega)), fun j _ => by rw [h o (fun t ht => by omega)]⟩
theorem sam_tri {I J : fb_V} {o : Nat} (ho : o = 1000) (h : Tri I J) : Same I J o := ⟨fun x _ _ _ a _ => h x (by omega) (by omega), fun j _ => by rw [h o (by omega) (by omega)]⟩
theorem sam_p3 (I : fb_V) {o t : Nat} (ho : o = 1000) (ht : t < 6) (g : Nat → Int32) : Same I (va_up I (30 + 4 * t + 3) g) o := ⟨fun x _ _ _ _ b => va_up_ne _ _ (b t ht), fun j _ => by rw [va_up_ne _ _ (by omega)]⟩
theorem CF.same {I J : fb_V} {o ns nt : Nat} {cf rf df : Nat → Nat} (ho : o = 1000) (h : CF I ns nt cf rf df) (hs : Same I J o) : CF J ns nt cf rf df := by
  obtain ⟨h1, h2, h3, h4, h5⟩ := h
  have e (x : Nat) (hx : x < 54) (h3 : ∀ t, t < 6 → x ≠ 30 + 4 * t + 3) : J x = I x := hs.1 x (by omega) (by omega) (by omega) (by omega) h3
  refine ⟨by rw [e 1 (by decide) (fun t _ => by omega)]; exact h1, by rw [e 2 (by decide) (fun t _ => by omega)]; exact h2, h3, h4, fun t ht => ?_⟩
  have h6 := h5 t ht
  unfold TF at h6 ⊢
  rw [e (30 + 4 * t) (by omega) (fun t _ => by omega)]
  exact h6
theorem mf_same {I J : fb_V} {o ns nt : Nat} {cf rf df : Nat → Nat} (ho : o = 1000) (h : MF I o ns nt cf rf df) (hs : Same I J o) : MF J o ns nt cf rf df := by
  have e4 : J (o + 4) = I (o + 4) := hs.1 _ (by omega) (by omega) (by omega) (by omega) (fun t _ => by omega)
  have e2 : J (o + 2) = I (o + 2) := hs.1 _ (by omega) (by omega) (by omega) (by omega) (fun t _ => by omega)
  unfold MF at h ⊢
  rw [e4, e2, hs.2 1 (by decide), hs.2 6 (by decide)]
  exact h
/-- the class's cells but the trial's -/
def VSame (V V' : fb_V) : Prop := ∀ h, h < 732 ∨ 804 ≤ h → V' h = V h
theorem VSame.rf (V : fb_V) : VSame V V := fun _ _ => rfl
theorem VSame.stv (V Y : fb_V) : VSame V (stv V 732 Y) := fun h hh => stv_out V 732 Y (by omega)
theorem TZ_stv (V : fb_V) {Y : fb_V} (h : TZ Y) : TZ (tv (stv V 732 Y) 732) := fun q hq => by
  rw [tv_stv V 732 Y hq]
  exact h q hq
theorem RlT.same {V V' I J : fb_V} {o t : Nat} {cf rf : Nat → Nat} (ho : o = 1000) (ht : t < 6) (h : RlT V I o t cf rf) (hs : Same I J o) (hV : VSame V V') : RlT V' J o t cf rf := by
  obtain ⟨h1, h2, h3⟩ := h
  unfold RlT
  rw [hs.1 (o + 10 + t) (by omega) (by omega) (by omega) (by omega) (fun t _ => by omega), hs.1 (o + 20 + t) (by omega) (by omega) (by omega) (by omega) (fun t _ => by omega), hs.1 (30 + 4 * t + 2) (by omega) (by omega) (by omega) (by omega) (fun t _ => by omega)]
  exact ⟨h1, fun q hq => by rw [hV (300 + 72 * t + 2 * q) (by omega)]; exact h2 q hq, h3⟩
theorem Rl.same {V V' I J : fb_V} {o ns nt N : Nat} {cf rf : Nat → Nat} (ho : o = 1000) (hns : ns ≤ 12) (hnt : nt ≤ 6) (h : Rl V I o ns nt cf rf N) (hs : Same I J o) (hV : VSame V V') (hT : TZ (tv V' 732)) : Rl V' J o ns nt cf rf N := by
  obtain ⟨h1, h2, h3, h4, h5, h6⟩ := h
  have e (x : Nat) (hx : x < 30 ∨ x = o + 1 ∨ x = o + 2 ∨ x = o + 3) : J x = I x := hs.1 x (by omega) (by omega) (by omega) (by omega) (fun t _ => by omega)
  refine ⟨?_, fun i hi => ?_, fun i hi => ?_, fun c hc => ?_, fun t ht => (h5 t ht).same ho (by omega) hs hV, hT⟩
  · unfold RlW
    rw [e 0 (by omega), hs.2 4 (by decide), hs.2 10 (by decide), hs.2 11 (by decide), hs.2 12 (by decide)]
    exact h1
  · rw [e (o + 1) (by omega), hV (200 + 2 * i) (by omega)]
    exact h2 i hi
  · rw [e (10 + i) (by omega), e (o + 2) (by omega)]
    exact h3 i hi
  · rw [e (o + 3) (by omega), hV (100 + 2 * c) (by omega)]
    exact h4 c hc
/-- what isn't there yet -/
def Fr (S : fb_Sh) (o ns nt : Nat) : Prop := (ns = 0 → 4 ∉ sR S) ∧ (nt = 0 → 5 ∉ sR S) ∧ (ns ≤ 10 → 6 ∉ sR S) ∧ (∀ i, ns ≤ i → i < 12 → 10 + i ∉ sR S ∧ 200 + 2 * i ∉ sR S ∧ 200 + 2 * i + 1 ∉ sR S) ∧ (∀ t, nt ≤ t → t < 6 → (∀ x, 30 + 4 * t ≤ x → x < 30 + 4 * t + 4 → x ∉ sR S) ∧ (∀ x, 300 + 72 * t ≤ x → x < 300 + 72 * t + 72 → x ∉ sR S) ∧ o + 10 + t ∉ sR S ∧ o + 20 + t ∉ sR S) ∧ o + 30 ∉ sR S ∧ o + 31 ∉ sR S
def EsN (ns es na : Nat) : Prop := (ns ≤ 10 → es = 4 ∧ na = 10) ∧ (10 < ns → es = 6 ∧ na = 15)
/-- between calls: the component, the reference, the answer's place; N bounds what a chamber holds -/
def Iv (a1 : Nat) (S : fb_Sh) (V I : fb_V) (o ns nt es na : Nat) (cf rf df : Nat → Nat) (N : Nat) : Prop := (CpAt S a1 ns nt es na ∧ MdAt S o nt cf rf ∧ RA S 2000 13 1) ∧ (EsN ns es na ∧ Fr S o ns nt) ∧ (CF I ns nt cf rf df ∧ MF I o ns nt cf rf df) ∧ Rl V I o ns nt cf rf N
theorem Iv.same {a1 : Nat} {S : fb_Sh} {V V' I J : fb_V} {o ns nt es na N : Nat} {cf rf df : Nat → Nat} (ho : o = 1000) (h : Iv a1 S V I o ns nt es na cf rf df N) (hs : Same I J o) (hV : VSame V V') (hT : TZ (tv V' 732)) : Iv a1 S V' J o ns nt es na cf rf df N :=
  ⟨h.1, h.2.1, ⟨h.2.2.1.1.same ho hs, mf_same ho h.2.2.1.2 hs⟩, h.2.2.2.same ho h.2.2.1.1.2.2.1 h.2.2.1.1.2.2.2.1 hs hV hT⟩
theorem Iv.le {a1 : Nat} {S : fb_Sh} {V I : fb_V} {o ns nt es na N M : Nat} {cf rf df : Nat → Nat} (h : Iv a1 S V I o ns nt es na cf rf df N) (hM : N ≤ M) : Iv a1 S V I o ns nt es na cf rf df M := by
  obtain ⟨h1, h2, h3, r1, r2, r3, r4, r5⟩ := h
  exact ⟨h1, h2, h3, r1, r2, r3, fun c hc => ⟨(r4 c hc).1, (r4 c hc).2.le hM⟩, r5⟩
