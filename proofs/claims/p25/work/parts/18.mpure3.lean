def chTm (f : Nat → Int32) (q : Nat) (k : Nat) : Int32 := if k < 6 then mx f q k else if k = 6 then s6 (mx f q) else if s6 (mx f q) = 0 then (if k = 7 then -1 else 0) else if k = 7 then nI (mfm f q 6) else 100 * f (6 * q + mfm f q 6) / s6 (mx f q)
/-- feathers of the first k ticks -/
def ftk (I : fb_V) (o : Nat) (cf rf : Nat → Nat) : Nat → Int32
  | 0 => 0
  | k + 1 => ftk I o cf rf k + asf (I (o + 10 + k)) (6 * (cf k * rf k))
def cnm (I : fb_V) (o ns nt : Nat) (cf rf : Nat → Nat) (k : Nat) : Int32 := match k with
  | 0 => I o 10
  | 1 => nI ns
  | 2 => nI nt
  | 3 => asf (I (o + 1)) 72
  | 4 => asf (I (o + 3)) 30
  | 5 => ftk I o cf rf nt
  | 6 => I o 11
  | 7 => I o 12
  | _ => I o 4
def tkg (f : Nat → Int32) (at_ : Nat) (g : Nat → Int32) (q : Nat) (mm : Int32) : Int32 := mn mm (mn (s6 (mx f at_)) (300 - s6 (mx g q)))
