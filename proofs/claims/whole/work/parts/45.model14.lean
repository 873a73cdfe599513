/-- what a square tells under the number k -/
def sqv (c n : Nat) (B f : Nat → Int32) (q : Nat) : Nat → Int32
  | 6 => s6 (mx f q)
  | 7 => wm (mx f q)
  | 8 => ob c n B q 0
  | 9 => ob c n B q 1
  | k => mx f q k
theorem c_X4_counted_v (D : va_G) (y : Nat → ClassId) (l : Launch) (S : fb_Sh) (V I : fb_V) (o nt : Nat) (cf rf : Nat → Nat) (hA : MdAt S o nt cf rf) (ns : Nat) (df : Nat → Nat) (hF : MF I o ns nt cf rf df)  (k : Nat) (hk : k < 9) : CI D y l yX4_counted wsX4_counted rm_X4_counted [.ref (sa S o), .int (nI k)] (S, V, (sT V), I) (fun z u => z = cnm I o ns nt cf rf k ∧ u = (S, V, sT V, I)) 0 0 := by
  match k, hk with
  | 0, _ => exact c_X4_counted_0 D y l S V I o nt cf rf hA ns df hF 
  | 1, _ => exact c_X4_counted_1 D y l S V I o nt cf rf hA ns df hF 
  | 2, _ => exact c_X4_counted_2 D y l S V I o nt cf rf hA ns df hF 
  | 3, _ => exact c_X4_counted_3 D y l S V I o nt cf rf hA ns df hF 
  | 4, _ => exact c_X4_counted_4 D y l S V I o nt cf rf hA ns df hF 
  | 5, _ => exact c_X4_counted_5 D y l S V I o nt cf rf hA ns df hF 
  | 6, _ => exact c_X4_counted_6 D y l S V I o nt cf rf hA ns df hF 
  | 7, _ => exact c_X4_counted_7 D y l S V I o nt cf rf hA ns df hF 
  | 8, _ => exact c_X4_counted_8 D y l S V I o nt cf rf hA ns df hF 
  | k + 9, h => exact absurd h (by omega)
theorem c_X4_chamberTold_v (D : va_G) (y : Nat → ClassId) (l : Launch) (S : fb_Sh) (V I : fb_V) (o nt : Nat) (cf rf : Nat → Nat) (hA : MdAt S o nt cf rf) (ns : Nat) (df : Nat → Nat) (hF : MF I o ns nt cf rf df) (q : Nat) (hq : q < 5) (k : Nat) (hk : k < 9) : CI D y l yX4_chamberTold wsX4_chamberTold rm_X4_chamberTold [.ref (sa S o), .int (nI q), .int (nI k)] (S, V, (sT V), I) (fun z u => z = chTm (I (o + 3)) q k ∧ u = (S, V, sT V, I)) 0 0 := by
  match k, hk with
  | 0, _ => exact c_X4_chamberTold_0 D y l S V I o nt cf rf hA ns df hF q hq
  | 1, _ => exact c_X4_chamberTold_1 D y l S V I o nt cf rf hA ns df hF q hq
  | 2, _ => exact c_X4_chamberTold_2 D y l S V I o nt cf rf hA ns df hF q hq
  | 3, _ => exact c_X4_chamberTold_3 D y l S V I o nt cf rf hA ns df hF q hq
  | 4, _ => exact c_X4_chamberTold_4 D y l S V I o nt cf rf hA ns df hF q hq
  | 5, _ => exact c_X4_chamberTold_5 D y l S V I o nt cf rf hA ns df hF q hq
  | 6, _ => exact c_X4_chamberTold_6 D y l S V I o nt cf rf hA ns df hF q hq
  | 7, _ => exact c_X4_chamberTold_7 D y l S V I o nt cf rf hA ns df hF q hq
  | 8, _ => exact c_X4_chamberTold_8 D y l S V I o nt cf rf hA ns df hF q hq
  | k + 9, h => exact absurd h (by omega)
theorem c_X4_squareTold_v (D : va_G) (y : Nat → ClassId) (l : Launch) (S : fb_Sh) (V I : fb_V) (o nt : Nat) (cf rf : Nat → Nat) (hA : MdAt S o nt cf rf) (ns : Nat) (df : Nat → Nat) (hF : MF I o ns nt cf rf df) (t : Nat) (ht : t < nt) (q : Nat) (hq : q < cf t * rf t) (k : Nat) (hk : k < 10) : CI D y l yX4_squareTold wsX4_squareTold rm_X4_squareTold [.ref (sa S o), .int (nI t), .int (nI q), .int (nI k)] (S, V, (sT V), I) (fun z u => z = sqv (cf t) (cf t * rf t) (I (o + 20 + t)) (I (o + 10 + t)) q k ∧ u = (S, V, sT V, I)) 0 0 := by
  match k, hk with
  | 0, _ => exact c_X4_squareTold_0 D y l S V I o nt cf rf hA ns df hF t ht q hq
  | 1, _ => exact c_X4_squareTold_1 D y l S V I o nt cf rf hA ns df hF t ht q hq
  | 2, _ => exact c_X4_squareTold_2 D y l S V I o nt cf rf hA ns df hF t ht q hq
  | 3, _ => exact c_X4_squareTold_3 D y l S V I o nt cf rf hA ns df hF t ht q hq
  | 4, _ => exact c_X4_squareTold_4 D y l S V I o nt cf rf hA ns df hF t ht q hq
  | 5, _ => exact c_X4_squareTold_5 D y l S V I o nt cf rf hA ns df hF t ht q hq
  | 6, _ => exact c_X4_squareTold_6 D y l S V I o nt cf rf hA ns df hF t ht q hq
  | 7, _ => exact c_X4_squareTold_7 D y l S V I o nt cf rf hA ns df hF t ht q hq
  | 8, _ => exact c_X4_squareTold_8 D y l S V I o nt cf rf hA ns df hF t ht q hq
  | 9, _ => exact c_X4_squareTold_9 D y l S V I o nt cf rf hA ns df hF t ht q hq
  | k + 10, h => exact absurd h (by omega)
