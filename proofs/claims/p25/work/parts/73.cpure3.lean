/-! the digest of the class's ticks -/
theorem ctk_dg (c r d : Nat) (X : fb_V) (B : Nat → Int32) (p q : Int32) (s : Int64) {k : Nat} (h : k ≤ 8) : dg s (ctk c r d X B p) k = dg s (ctk c r d X B q) k := dg_congr rfl k (fun j hj => ctk_p c r d X B p q (by omega))
/-- rows of parts may be written, nothing else -/
def Pts (I J : fb_V) : Prop := ∀ x, (∀ t, t < 7 → x ≠ 33 + 4 * t) → J x = I x
theorem Pts.rf (I : fb_V) : Pts I I := fun _ _ => rfl
theorem Pts.up {I J : fb_V} (h : Pts I J) {t : Nat} (ht : t < 7) (g : Nat → Int32) : Pts I (va_up J (30 + 4 * t + 3) g) := fun x hx => by
  rw [va_up_ne _ _ (show x ≠ 30 + 4 * t + 3 from fun e => hx t ht (by omega))]
  exact h x hx
theorem CF.pts {I J : fb_V} {ns nt : Nat} {cf rf df : Nat → Nat} (h : CF I ns nt cf rf df) (hp : Pts I J) : CF J ns nt cf rf df := by
  obtain ⟨h1, h2, h3, h4, h5⟩ := h
  refine ⟨by rw [hp 1 (fun t _ => by omega)]; exact h1, by rw [hp 2 (fun t _ => by omega)]; exact h2, h3, h4, fun t ht => ?_⟩
  have h6 := h5 t ht
  unfold TF at h6 ⊢
  rw [hp (30 + 4 * t) (fun t _ => by omega)]
  exact h6
def cS (V I : fb_V) (i k : Nat) : Int32 := sckT (V (200 + 2 * i)) (I (10 + i) 1) (nI k)
def cH (V : fb_V) (q k : Nat) : Int32 := ctl (V (100 + 2 * q)) k
def cGt (V I : fb_V) (t : Nat) (cf rf df : Nat → Nat) (p : Int32) (k : Nat) : Int32 := ctk (cf t) (rf t) (df t) (tv V (300 + 72 * t)) (I (30 + 4 * t + 2)) p k
def cG (V I : fb_V) (cf rf df : Nat → Nat) (P : Nat → Int32) (t k : Nat) : Int32 := cGt V I t cf rf df (P t) k
def cFq (V I : fb_V) (cf rf : Nat → Nat) (t q k : Nat) : Int32 := csq (cf t) (cf t * rf t) (I (30 + 4 * t + 2)) (tv V (300 + 72 * t)) q k
def cd3 (V I : fb_V) (ns nt : Nat) : Int64 := dgr (dgr (dg 617 (cnc V I ns nt) 9) (cS V I) 8 ns) (cH V) 9 5
def cd4 (V I : fb_V) (ns nt : Nat) (cf rf df : Nat → Nat) (P : Nat → Int32) (t : Nat) : Int64 := dtk (cd3 V I ns nt) (cG V I cf rf df P) (fun z => cf z * rf z) (cFq V I cf rf) t
theorem cd4_s (V I : fb_V) (ns nt : Nat) (cf rf df : Nat → Nat) (P : Nat → Int32) (t : Nat) (p : Int32) : dgr (dg (cd4 V I ns nt cf rf df P t) (cGt V I t cf rf df p) 9) (cFq V I cf rf t) 10 (cf t * rf t) = cd4 V I ns nt cf rf df (va_up P t p) (t + 1) := by
  have e1 : cd4 V I ns nt cf rf df P t = cd4 V I ns nt cf rf df (va_up P t p) t := dtk_congr rfl t (fun j hj => ⟨rfl, fun k _ => by
    show cGt V I j cf rf df (P j) k = cGt V I j cf rf df (va_up P t p j) k
    rw [va_up_ne _ _ (show j ≠ t by omega)], fun _ _ _ _ => rfl⟩)
  have e2 : cGt V I t cf rf df p = cG V I cf rf df (va_up P t p) t := by
    show _ = cGt V I t cf rf df (va_up P t p t)
    rw [va_up_self]
  rw [e1, e2]
  rfl
theorem cS_pts {V I J : fb_V} (hp : Pts I J) {i : Nat} (hi : i < 12) (k : Nat) : cS V J i k = cS V I i k := by
  unfold cS
  rw [hp (10 + i) (fun t _ => by omega)]
theorem cGt_pts {V I J : fb_V} (hp : Pts I J) (t : Nat) (cf rf df : Nat → Nat) (p : Int32) (k : Nat) : cGt V J t cf rf df p k = cGt V I t cf rf df p k := by
  unfold cGt
  rw [hp (30 + 4 * t + 2) (fun t _ => by omega)]
theorem cFq_pts {V I J : fb_V} (hp : Pts I J) (cf rf : Nat → Nat) (t q k : Nat) : cFq V J cf rf t q k = cFq V I cf rf t q k := by
  unfold cFq
  rw [hp (30 + 4 * t + 2) (fun t _ => by omega)]
