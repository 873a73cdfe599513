theorem CI.mono {D : va_G} {y : Nat → ClassId} {l : Launch} {mn : MethodName} {ws : List Cond} {rm : Room} {as : List Value} {w : fb_W} {post post' : Int32 → fb_W → Prop} {mc ms : Nat} (h : CI D y l mn ws rm as w post mc ms) (hp : ∀ v u, post v u → post' v u) : CI D y l mn ws rm as w post' mc ms := fun sz =>
  MetFree.mono (h sz) (fun _ _ q => q) (fun _ _ _ _ _ q => q) (fun a st o t _ q => by
    obtain ⟨⟨⟨r, u, e, p, b⟩, f⟩, L⟩ := q
    exact ⟨⟨⟨r, u, e, hp _ _ p, b⟩, f⟩, L⟩)
/-- what a tick tells under the number k; the number of its parts is given apart -/
def tkv (c r d : Nat) (B f : Nat → Int32) (p : Int32) : Nat → Int32
  | 0 => nI c
  | 1 => nI r
  | 2 => nI d
  | 3 => asf f (6 * (c * r))
  | 4 => wsm (mx f) (c * r)
  | 5 => wm (mx f (cld (mx f) (c * r)))
  | 6 => nI (cld (mx f) (c * r))
  | 7 => opc c (c * r) B (2 * (c * r))
  | _ => p
/-- a number of parts, by labels -/
def pts (c n : Nat) (B : Nat → Int32) (p : Int32) : Prop := ∃ L : Nat → Nat, (∀ j, L j ≤ j) ∧ conn c n B L ∧ (∀ i, i < 2 * n → opn c n B (i / 2) (i % 2) = true → L (i / 2) = L (oft c (i / 2) (i % 2))) ∧ p = nI (pcnt L n)
theorem c_X4_tickTold_v (D : va_G) (y : Nat → ClassId) (l : Launch) (S : fb_Sh) (V I : fb_V) (o nt : Nat) (cf rf : Nat → Nat) (hA : MdAt S o nt cf rf) (ns : Nat) (df : Nat → Nat) (hF : MF I o ns nt cf rf df) (t : Nat) (ht : t < nt) (k : Nat) (hk : k < 9) : CI D y l yX4_tickTold wsX4_tickTold rm_X4_tickTold [.ref (sa S o), .int (nI t), .int (nI k)] (S, V, (sT V), I) (fun z u => ∃ p g, (k = 8 → pts (cf t) (cf t * rf t) (I (o + 20 + t)) p) ∧ z = tkv (cf t) (rf t) (df t) (I (o + 20 + t)) (I (o + 10 + t)) p k ∧ u = (S, V, sT V, va_up I (o + 7) g)) 0 0 := by
  match k, hk with
  | 0, _ => exact (c_X4_tickTold_0 D y l S V I o nt cf rf hA ns df hF t ht).mono (fun v u h => ⟨0, I (o + 7), fun e => absurd e (by decide), h.1, by rw [up_id I (o + 7) _ rfl]; exact h.2⟩)
  | 1, _ => exact (c_X4_tickTold_1 D y l S V I o nt cf rf hA ns df hF t ht).mono (fun v u h => ⟨0, I (o + 7), fun e => absurd e (by decide), h.1, by rw [up_id I (o + 7) _ rfl]; exact h.2⟩)
  | 2, _ => exact (c_X4_tickTold_2 D y l S V I o nt cf rf hA ns df hF t ht).mono (fun v u h => ⟨0, I (o + 7), fun e => absurd e (by decide), h.1, by rw [up_id I (o + 7) _ rfl]; exact h.2⟩)
  | 3, _ => exact (c_X4_tickTold_3 D y l S V I o nt cf rf hA ns df hF t ht).mono (fun v u h => ⟨0, I (o + 7), fun e => absurd e (by decide), h.1, by rw [up_id I (o + 7) _ rfl]; exact h.2⟩)
  | 4, _ => exact (c_X4_tickTold_4 D y l S V I o nt cf rf hA ns df hF t ht).mono (fun v u h => ⟨0, I (o + 7), fun e => absurd e (by decide), h.1, by rw [up_id I (o + 7) _ rfl]; exact h.2⟩)
  | 5, _ => exact (c_X4_tickTold_5 D y l S V I o nt cf rf hA ns df hF t ht).mono (fun v u h => ⟨0, I (o + 7), fun e => absurd e (by decide), h.1, by rw [up_id I (o + 7) _ rfl]; exact h.2⟩)
  | 6, _ => exact (c_X4_tickTold_6 D y l S V I o nt cf rf hA ns df hF t ht).mono (fun v u h => ⟨0, I (o + 7), fun e => absurd e (by decide), h.1, by rw [up_id I (o + 7) _ rfl]; exact h.2⟩)
  | 7, _ => exact (c_X4_tickTold_7 D y l S V I o nt cf rf hA ns df hF t ht).mono (fun v u h => ⟨0, I (o + 7), fun e => absurd e (by decide), h.1, by rw [up_id I (o + 7) _ rfl]; exact h.2⟩)
  | 8, _ => exact (c_X4_tickTold_8 D y l S V I o nt cf rf hA ns df hF t ht).mono (fun v u h => by
      obtain ⟨L, l1, l2, l3, e, g, hu⟩ := h
      exact ⟨v, g, fun _ => ⟨L, l1, l2, l3, e⟩, rfl, hu⟩)
  | k + 9, h => exact absurd h (by omega)
