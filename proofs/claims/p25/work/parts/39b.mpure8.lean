/-- the warmth of the coldest square after k nights -/
def wmk (c n d : Nat) (B f : Nat → Int32) (k : Nat) : Int32 := wm (mx (ngf c n d B f k) (cld (mx (ngf c n d B f k)) n))
/-- a seam sewn for the trial -/
def sewn (B : Nat → Int32) (i : Nat) : Nat → Int32 := upd B i (vp_nar .boolean 1)
def adv (c n d z : Nat) (B f : Nat → Int32) : Nat → Int32 × Int32
  | 0 => (-1, wmk c n d B f z)
  | k + 1 => if opn c n B (k / 2) (k % 2) = true then (if (adv c n d z B f k).2 < wmk c n d (sewn B k) f z then (nI k, wmk c n d (sewn B k) f z) else adv c n d z B f k) else adv c n d z B f k
theorem sewn_back {c n : Nat} {B : Nat → Int32} {i : Nat} (h : opn c n B (i / 2) (i % 2) = true) : upd (sewn B i) i (vp_nar .boolean 0) = B := by
  have h0 := (opn_x h).2
  rw [show 2 * (i / 2) + i % 2 = i by omega] at h0
  funext j
  by_cases hj : j = i
  · subst hj
    simp only [upd, if_true]
    rw [h0]
    rfl
  · simp only [sewn, upd, if_neg hj]
