theorem bim_s (v : Nat → Int32) (st dm p : Int32) (z n : Nat) : bim v st dm p z (n + 1) = if n = z then brn (v n) (flm st (nI n) dm) p else bim v st dm p z n := by
  unfold bim
  by_cases h : n = z
  · subst h; rw [if_pos (by omega), if_pos rfl]
  · rw [if_neg h]
    by_cases h2 : z < n
    · rw [if_pos h2, if_pos (by omega)]
    · rw [if_neg h2, if_neg (by omega)]
/-- one night of a flat row -/
def nif (c n d : Nat) (B f : Nat → Int32) : Nat → Int32 := fsh c n B (fpk (nI d) f (6 * n)) (2 * n)
def ngf (c n d : Nat) (B f : Nat → Int32) : Nat → Nat → Int32
  | 0 => f
  | k + 1 => nif c n d B (ngf c n d B f k)
def nlf (c n d : Nat) (B f : Nat → Int32) : Nat → Int32
  | 0 => 0
  | k + 1 => nlf c n d B f k + fpl (nI d) (ngf c n d B f k) (6 * n)
def pK (J : fb_V) (o nt : Nat) (F : fb_V) : fb_V := fun r => if o + 10 ≤ r ∧ r < o + 10 + nt then F (r - (o + 10)) else J r
theorem pK_at (J : fb_V) (o nt : Nat) (F : fb_V) {t : Nat} (h : t < nt) : pK J o nt F (o + 10 + t) = F t := by
  unfold pK; rw [if_pos (by omega)]; congr 1; omega
theorem pK_out (J : fb_V) (o nt : Nat) (F : fb_V) {r : Nat} (h : r < o + 10 ∨ o + 10 + nt ≤ r) : pK J o nt F r = J r := by
  unfold pK; rw [if_neg (by omega)]
theorem pK_up (J : fb_V) (o nt : Nat) (F : fb_V) {t : Nat} (h : t < nt) (v : Nat → Int32) : va_up (pK J o nt F) (o + 10 + t) v = pK J o nt (va_up F t v) := by
  funext r
  by_cases hr : r = o + 10 + t
  · subst hr; rw [va_up_self, pK_at _ _ _ _ h, va_up_self]
  · rw [va_up_ne _ _ hr]
    unfold pK
    by_cases h2 : o + 10 ≤ r ∧ r < o + 10 + nt
    · rw [if_pos h2, if_pos h2, va_up_ne _ _ (by omega)]
    · rw [if_neg h2, if_neg h2]
theorem pK_id (J : fb_V) (o nt : Nat) {F : fb_V} (h : ∀ t, t < nt → F t = J (o + 10 + t)) : pK J o nt F = J := by
  funext r
  unfold pK
  by_cases h2 : o + 10 ≤ r ∧ r < o + 10 + nt
  · rw [if_pos h2, h _ (by omega)]; congr 1; omega
  · rw [if_neg h2]
theorem MF.pK {J : fb_V} {o ns nt : Nat} {cf rf df : Nat → Nat} (h : MF J o ns nt cf rf df) (F : fb_V) : MF (pK J o nt F) o ns nt cf rf df := by
  unfold MF at h ⊢
  rw [pK_out _ _ _ _ (show o < o + 10 ∨ _ by omega), pK_out _ _ _ _ (show o + 4 < o + 10 ∨ _ by omega), pK_out _ _ _ _ (show o + 2 < o + 10 ∨ _ by omega)]
  exact h
/-- the ticks below t have had k+1 nights, the others k -/
def pF (I : fb_V) (o : Nat) (cf rf df : Nat → Nat) (k t : Nat) : fb_V := fun z => ngf (cf z) (cf z * rf z) (df z) (I (o + 20 + z)) (I (o + 10 + z)) (if z < t then k + 1 else k)
theorem pF_s (I : fb_V) (o : Nat) (cf rf df : Nat → Nat) (k t : Nat) : va_up (pF I o cf rf df k t) t (nif (cf t) (cf t * rf t) (df t) (I (o + 20 + t)) (pF I o cf rf df k t t)) = pF I o cf rf df k (t + 1) := by
  funext z
  by_cases h : z = t
  · subst h
    rw [va_up_self]
    unfold pF
    rw [if_neg (by omega), if_pos (by omega)]
    rfl
  · rw [va_up_ne _ _ h]
    unfold pF
    by_cases h2 : z < t
    · rw [if_pos h2, if_pos (by omega)]
    · rw [if_neg h2, if_neg (by omega)]
theorem pF_k (I : fb_V) (o nt : Nat) (J : fb_V) (cf rf df : Nat → Nat) (k : Nat) : pK J o nt (pF I o cf rf df k nt) = pK J o nt (pF I o cf rf df (k + 1) 0) := by
  funext r
  unfold pK
  by_cases h2 : o + 10 ≤ r ∧ r < o + 10 + nt
  · rw [if_pos h2, if_pos h2]
    unfold pF
    rw [if_pos (by omega), if_neg (by omega)]
  · rw [if_neg h2, if_neg h2]
def psl (I : fb_V) (o : Nat) (cf rf df : Nat → Nat) (s0 : Int32) (k : Nat) : Nat → Int32
  | 0 => s0
  | t + 1 => psl I o cf rf df s0 k t + fpl (nI (df t)) (ngf (cf t) (cf t * rf t) (df t) (I (o + 20 + t)) (I (o + 10 + t)) k) (6 * (cf t * rf t))
def psn (I : fb_V) (o nt : Nat) (cf rf df : Nat → Nat) : Nat → Int32
  | 0 => 0
  | k + 1 => psl I o cf rf df (psn I o nt cf rf df k) k nt
