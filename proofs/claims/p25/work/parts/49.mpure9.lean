/-! what the digest reads, whatever stands in 'thrown' -/
theorem ftk_t0 (I : fb_V) (o : Nat) (cf rf : Nat → Nat) (k : Nat) : ftk (t0 I o) o cf rf k = ftk I o cf rf k := by
  induction k with
  | zero => rfl
  | succ k ih =>
    show ftk (t0 I o) o cf rf k + asf (t0 I o (o + 10 + k)) (6 * (cf k * rf k)) = ftk I o cf rf k + asf (I (o + 10 + k)) (6 * (cf k * rf k))
    rw [ih, t0_ne I (show o + 10 + k ≠ o by omega)]
theorem cnm_t0 (I : fb_V) (o ns nt : Nat) (cf rf : Nat → Nat) (k : Nat) : cnm (t0 I o) o ns nt cf rf k = cnm I o ns nt cf rf k := by
  unfold cnm
  rw [ftk_t0, t0_ne I (show o + 1 ≠ o by omega), t0_ne I (show o + 3 ≠ o by omega), t0_f I o (show 10 ≠ 0 by decide), t0_f I o (show 11 ≠ 0 by decide), t0_f I o (show 12 ≠ 0 by decide), t0_f I o (show 4 ≠ 0 by decide)]
theorem tkv_p (c r d : Nat) (B f : Nat → Int32) (p q : Int32) {k : Nat} (h : k < 8) : tkv c r d B f p k = tkv c r d B f q k := by
  match k, h with
  | 0, _ => rfl
  | 1, _ => rfl
  | 2, _ => rfl
  | 3, _ => rfl
  | 4, _ => rfl
  | 5, _ => rfl
  | 6, _ => rfl
  | 7, _ => rfl
  | k + 8, h => exact absurd h (by omega)
def dS (I : fb_V) (o i k : Nat) : Int32 := sckT (mx (I (o + 1)) i) (I (o + 2) i) (nI k)
def dH (I : fb_V) (o q k : Nat) : Int32 := chTm (I (o + 3)) q k
def dGt (I : fb_V) (o t : Nat) (cf rf df : Nat → Nat) (p : Int32) (k : Nat) : Int32 := tkv (cf t) (rf t) (df t) (I (o + 20 + t)) (I (o + 10 + t)) p k
def dG (I : fb_V) (o : Nat) (cf rf df : Nat → Nat) (P : Nat → Int32) (t k : Nat) : Int32 := dGt I o t cf rf df (P t) k
def dF (I : fb_V) (o : Nat) (cf rf : Nat → Nat) (t q k : Nat) : Int32 := sqv (cf t) (cf t * rf t) (I (o + 20 + t)) (I (o + 10 + t)) q k
def dg3 (I : fb_V) (o ns nt : Nat) (cf rf : Nat → Nat) : Int64 := dgr (dgr (dg 617 (cnm I o ns nt cf rf) 9) (dS I o) 8 ns) (dH I o) 9 5
def dg4 (I : fb_V) (o ns nt : Nat) (cf rf df : Nat → Nat) (P : Nat → Int32) (t : Nat) : Int64 := dtk (dg3 I o ns nt cf rf) (dG I o cf rf df P) (fun z => cf z * rf z) (dF I o cf rf) t
theorem dg4_s (I : fb_V) (o ns nt : Nat) (cf rf df : Nat → Nat) (P : Nat → Int32) (t : Nat) (p : Int32) : dgr (dg (dg4 I o ns nt cf rf df P t) (dGt I o t cf rf df p) 9) (dF I o cf rf t) 10 (cf t * rf t) = dg4 I o ns nt cf rf df (va_up P t p) (t + 1) := by
  have e1 : dg4 I o ns nt cf rf df P t = dg4 I o ns nt cf rf df (va_up P t p) t := dtk_congr rfl t (fun j hj => ⟨rfl, fun k _ => by
    show dGt I o j cf rf df (P j) k = dGt I o j cf rf df (va_up P t p j) k
    rw [va_up_ne _ _ (show j ≠ t by omega)], fun _ _ _ _ => rfl⟩)
  have e2 : dGt I o t cf rf df p = dG I o cf rf df (va_up P t p) t := by
    show _ = dGt I o t cf rf df (va_up P t p t)
    rw [va_up_self]
  rw [e1, e2]
  rfl
theorem dGt_p (I : fb_V) (o t : Nat) (cf rf df : Nat → Nat) (p q : Int32) (s : Int64) {k : Nat} (h : k ≤ 8) : dg s (dGt I o t cf rf df p) k = dg s (dGt I o t cf rf df q) k := dg_congr rfl k (fun j hj => tkv_p _ _ _ _ _ p q (by omega))
theorem dS_t0 (I : fb_V) (o : Nat) : dS (t0 I o) o = dS I o := by
  funext i k
  unfold dS
  rw [t0_ne I (show o + 1 ≠ o by omega), t0_ne I (show o + 2 ≠ o by omega)]
theorem dH_t0 (I : fb_V) (o : Nat) : dH (t0 I o) o = dH I o := by
  funext i k
  unfold dH
  rw [t0_ne I (show o + 3 ≠ o by omega)]
