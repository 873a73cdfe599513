/-! the component's numbers, as its methods tell them -/
def csum (V : fb_V) (b : Nat) : Nat → Int32
  | 0 => 0
  | k + 1 => csum V b k + s6 (V (b + 2 * k))
def tsum (V : fb_V) : Nat → Int32
  | 0 => 0
  | k + 1 => tsum V k + fsum (tv V (300 + 72 * k)) 36
def cnc (V I : fb_V) (ns nt : Nat) (k : Nat) : Int32 := match k with
  | 0 => I 0 5
  | 1 => nI ns
  | 2 => nI nt
  | 3 => csum V 200 ns
  | 4 => csum V 100 5
  | 5 => tsum V nt
  | 6 => I 0 6
  | 7 => I 0 7
  | _ => I 0 4
def ctl (v : Nat → Int32) : Nat → Int32
  | 6 => s6 v
  | 7 => mf v 6
  | 8 => pur v
  | k => v k
/-- a night that changes nothing is followed by none that does -/
def NF (c n d : Nat) (B : Nat → Int32) (X : fb_V) (z : Nat) : Prop := ∀ i, i < z → pkS (nI d) (ngs c n d B X i) 36 = 0 → (shs c n B (pkX (nI d) (ngs c n d B X i) 36) (2 * n)).2 = 0 → ngl c n d B X (i + 1) = ngl c n d B X z ∧ ∀ q, q < 36 → ngs c n d B X (i + 1) q = ngs c n d B X z q
/-- the trial after it has become a tick: its seams, its heaps, its numbers -/
def trB (I : fb_V) (u : Nat) : Nat → Int32 := cpb 72 (I (u + 2)) (I 56)
def trX (V : fb_V) (e : Nat) : fb_V := bcX V 732 e 36
def trV (V : fb_V) (e : Nat) : fb_V := stv V 732 (trX V e)
def trI (I : fb_V) (u c r d : Nat) : fb_V := va_up (va_up I 54 (upd (upd (upd (upd (I 54) 0 (nI c)) 1 (nI r)) 2 (nI d)) 3 (nI (c * r)))) 56 (trB I u)
theorem trX_at (V : fb_V) (e : Nat) : ∀ q, q < 36 → trV V e (732 + 2 * q) = trX V e q := fun q hq => stv_at V 732 _ hq
theorem trI_B (I : fb_V) (u c r d : Nat) : trI I u c r d 56 = trB I u := va_up_self _ _ _
theorem trI_out (I : fb_V) (u c r d : Nat) {x : Nat} (h1 : x ≠ 54) (h2 : x ≠ 56) : trI I u c r d x = I x := by
  unfold trI
  rw [va_up_ne _ _ h2, va_up_ne _ _ h1]
theorem trI_F {I : fb_V} {u c r d : Nat} (hf : TF I u c r d) : TF (trI I u c r d) 54 c r d := by
  have e : trI I u c r d 54 = upd (upd (upd (upd (I 54) 0 (nI c)) 1 (nI r)) 2 (nI d)) 3 (nI (c * r)) := by
    unfold trI
    rw [va_up_ne _ _ (show (54 : Nat) ≠ 56 by decide), va_up_self]
  obtain ⟨-, -, -, -, h⟩ := hf
  unfold TF
  rw [e]
  exact ⟨rfl, rfl, rfl, rfl, h⟩
