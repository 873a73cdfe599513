/-- what a tick of the class tells; the number of its parts is given apart -/
def ctk (c r d : Nat) (X : fb_V) (B : Nat → Int32) (p : Int32) : Nat → Int32
  | 0 => nI c
  | 1 => nI r
  | 2 => nI d
  | 3 => fsum X 36
  | 4 => wsm X 36
  | 5 => wm (X (cld X (c * r)))
  | 6 => nI (cld X (c * r))
  | 7 => opc c (c * r) B (2 * (c * r))
  | _ => p
def cpt (c n : Nat) (B : Nat → Int32) (p : Int32) : Prop := ∃ P0, p = (prt c n B (cpn 36 (fun j => nI j) P0) (2 * n)).2
def csq (c n : Nat) (B : Nat → Int32) (X : fb_V) (q : Nat) : Nat → Int32
  | 6 => s6 (X q)
  | 7 => wm (X q)
  | 8 => ob c n B q 0
  | 9 => ob c n B q 1
  | k => X q k
theorem ctk_p (c r d : Nat) (X : fb_V) (B : Nat → Int32) (p q : Int32) {k : Nat} (h : k < 8) : ctk c r d X B p k = ctk c r d X B q k := by
  match k, h with
  | 0, _ => rfl
  | 1, _ => rfl
  | 2, _ => rfl
  | 3, _ => rfl
  | 4, _ => rfl
  | 5, _ => rfl
  | 6, _ => rfl
  | 7, _ => rfl
  | k + 8, h => exact absurd h (by omega)
theorem c_X2_tells_v (D : va_G) (y : Nat → ClassId) (l : Launch) (S : fb_Sh) (V I : fb_V) (t b c r d : Nat) (ht : TickAt S t b) (hf : TF I t c r d) (X : fb_V) (hX : ∀ q, q < 36 → V (b + 2 * q) = X q) (k : Nat) (hk : k < 9) : CI D y l yX2_tells wsX2_tells rm_X2_tells [.ref (sa S t), .int (nI k)] (S, V, (sT V), I) (fun z u => ∃ p g, (k = 8 → cpt c (c * r) (I (t + 2)) p) ∧ z = ctk c r d X (I (t + 2)) p k ∧ u = (S, V, sT V, va_up I (t + 3) g)) 0 0 := by
  match k, hk with
  | 0, _ => exact (c_X2_tells_0 D y l S V I t b c r d ht hf X hX).mono (fun v u h => ⟨0, I (t + 3), fun e => absurd e (by decide), h.1, by rw [up_id I (t + 3) _ rfl]; exact h.2⟩)
  | 1, _ => exact (c_X2_tells_1 D y l S V I t b c r d ht hf X hX).mono (fun v u h => ⟨0, I (t + 3), fun e => absurd e (by decide), h.1, by rw [up_id I (t + 3) _ rfl]; exact h.2⟩)
  | 2, _ => exact (c_X2_tells_2 D y l S V I t b c r d ht hf X hX).mono (fun v u h => ⟨0, I (t + 3), fun e => absurd e (by decide), h.1, by rw [up_id I (t + 3) _ rfl]; exact h.2⟩)
  | 3, _ => exact (c_X2_tells_3 D y l S V I t b c r d ht hf X hX).mono (fun v u h => ⟨0, I (t + 3), fun e => absurd e (by decide), h.1, by rw [up_id I (t + 3) _ rfl]; exact h.2⟩)
  | 4, _ => exact (c_X2_tells_4 D y l S V I t b c r d ht hf X hX).mono (fun v u h => ⟨0, I (t + 3), fun e => absurd e (by decide), h.1, by rw [up_id I (t + 3) _ rfl]; exact h.2⟩)
  | 5, _ => exact (c_X2_tells_5 D y l S V I t b c r d ht hf X hX).mono (fun v u h => ⟨0, I (t + 3), fun e => absurd e (by decide), h.1, by rw [up_id I (t + 3) _ rfl]; exact h.2⟩)
  | 6, _ => exact (c_X2_tells_6 D y l S V I t b c r d ht hf X hX).mono (fun v u h => ⟨0, I (t + 3), fun e => absurd e (by decide), h.1, by rw [up_id I (t + 3) _ rfl]; exact h.2⟩)
  | 7, _ => exact (c_X2_tells_7 D y l S V I t b c r d ht hf X hX).mono (fun v u h => ⟨0, I (t + 3), fun e => absurd e (by decide), h.1, by rw [up_id I (t + 3) _ rfl]; exact h.2⟩)
  | 8, _ => exact (c_X2_tells_8 D y l S V I t b c r d ht hf X hX).mono (fun v u h => ⟨v, _, fun _ => ⟨I (t + 3), h.1⟩, rfl, h.2⟩)
  | k + 9, h => exact absurd h (by omega)
theorem c_X2_squareTells_v (D : va_G) (y : Nat → ClassId) (l : Launch) (S : fb_Sh) (V I : fb_V) (t b c r d : Nat) (ht : TickAt S t b) (hf : TF I t c r d) (X : fb_V) (hX : ∀ q, q < 36 → V (b + 2 * q) = X q) (q : Nat) (hq : q < c * r) (k : Nat) (hk : k < 10) : CI D y l yX2_squareTells wsX2_squareTells rm_X2_squareTells [.ref (sa S t), .int (nI q), .int (nI k)] (S, V, (sT V), I) (fun z u => z = csq c (c * r) (I (t + 2)) X q k ∧ u = (S, V, sT V, I)) 0 0 := by
  match k, hk with
  | 0, _ => exact c_X2_squareTells_0 D y l S V I t b c r d ht hf X hX q hq
  | 1, _ => exact c_X2_squareTells_1 D y l S V I t b c r d ht hf X hX q hq
  | 2, _ => exact c_X2_squareTells_2 D y l S V I t b c r d ht hf X hX q hq
  | 3, _ => exact c_X2_squareTells_3 D y l S V I t b c r d ht hf X hX q hq
  | 4, _ => exact c_X2_squareTells_4 D y l S V I t b c r d ht hf X hX q hq
  | 5, _ => exact c_X2_squareTells_5 D y l S V I t b c r d ht hf X hX q hq
  | 6, _ => exact c_X2_squareTells_6 D y l S V I t b c r d ht hf X hX q hq
  | 7, _ => exact c_X2_squareTells_7 D y l S V I t b c r d ht hf X hX q hq
  | 8, _ => exact c_X2_squareTells_8 D y l S V I t b c r d ht hf X hX q hq
  | 9, _ => exact c_X2_squareTells_9 D y l S V I t b c r d ht hf X hX q hq
  | k + 10, h => exact absurd h (by omega)
theorem c_X3_countTells_v (D : va_G) (y : Nat → ClassId) (l : Launch) (S : fb_Sh) (V I : fb_V) (a1 ns nt es na : Nat) (hC : CpAt S a1 ns nt es na) (cf rf df : Nat → Nat) (hF : CF I ns nt cf rf df) (k : Nat) (hk : k < 9) : CI D y l yX3_countTells wsX3_countTells rm_X3_countTells [.ref (sa S 0), .int (nI k)] (S, V, (sT V), I) (fun z u => z = cnc V I ns nt k ∧ u = (S, V, sT V, I)) 0 0 := by
  match k, hk with
  | 0, _ => exact c_X3_countTells_0 D y l S V I a1 ns nt es na hC cf rf df hF
  | 1, _ => exact c_X3_countTells_1 D y l S V I a1 ns nt es na hC cf rf df hF
  | 2, _ => exact c_X3_countTells_2 D y l S V I a1 ns nt es na hC cf rf df hF
  | 3, _ => exact c_X3_countTells_3 D y l S V I a1 ns nt es na hC cf rf df hF
  | 4, _ => exact c_X3_countTells_4 D y l S V I a1 ns nt es na hC cf rf df hF
  | 5, _ => exact c_X3_countTells_5 D y l S V I a1 ns nt es na hC cf rf df hF
  | 6, _ => exact c_X3_countTells_6 D y l S V I a1 ns nt es na hC cf rf df hF
  | 7, _ => exact c_X3_countTells_7 D y l S V I a1 ns nt es na hC cf rf df hF
  | 8, _ => exact c_X3_countTells_8 D y l S V I a1 ns nt es na hC cf rf df hF
  | k + 9, h => exact absurd h (by omega)
