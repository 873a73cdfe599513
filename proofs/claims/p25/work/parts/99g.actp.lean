/-! what an act comes to -/
def ActP (a1 : Nat) (S : fb_Sh) (V I : fb_V) (ns nt : Nat) (rho cf rf df : Nat → Nat) (N : Nat) (z : Int32) (u : fb_W) : Prop := z = 1 ∧ ∃ S' V' J rho' F' k, u = (S', V', sT V', J) ∧ Iv a1 S' V' J ns nt rho' cf rf df (N + 3000) F' ∧ (sa S' 0 = sa S 0 ∧ sa S' 1000 = sa S 1000) ∧ k ≤ 300 ∧ tot V' J ns nt = tot V I ns nt + nI k ∧ J 0 5 = I 0 5 ∧ J 0 7 = I 0 7
theorem ActP.of {a1 : Nat} {S : fb_Sh} {V I V' J : fb_V} {ns nt N F k : Nat} {rho cf rf df : Nat → Nat} (h : Ac a1 S V I V' J ns nt rho cf rf df N F k) (hk : k ≤ 300) : ActP a1 S V I ns nt rho cf rf df N 1 (S, V', sT V', J) := ⟨rfl, S, V', J, rho, F, k, rfl, h.1, ⟨rfl, rfl⟩, hk, h.2⟩
theorem cf_same {I J : fb_V} {ns nt : Nat} {cf rf df : Nat → Nat} (h : CF I ns nt cf rf df) (ex : ∀ x, x < 54 → (∀ t, t < nt → x ≠ 30 + 4 * t + 2) → (∀ i, i < ns → x ≠ 10 + i) → J x = I x) (hns : ns ≤ 12) : CF J ns nt cf rf df := by
  obtain ⟨c1, c2, c3, c4, c5⟩ := h
  refine ⟨by rw [ex 1 (by omega) (fun t _ => by omega) (fun i _ => by omega)]; exact c1, by rw [ex 2 (by omega) (fun t _ => by omega) (fun i _ => by omega)]; exact c2, c3, c4, fun t ht => ?_⟩
  have h6 := c5 t ht
  unfold TF at h6 ⊢
  rw [ex (30 + 4 * t) (by omega) (fun t _ => by omega) (fun i _ => by omega)]
  exact h6
/-- sweeping, as the law does it -/
def swI (I : fb_V) (c r : Nat) (A B : Nat → Int32) (k : Nat) : fb_V := va_up (va_up I c (swa A B k)) r (swb A B k)
theorem swI_0 (I : fb_V) {c r : Nat} {A B : Nat → Int32} (h1 : I c = A) (h2 : I r = B) : swI I c r A B 0 = I := by
  unfold swI
  rw [swa_0, swb_0, up_id _ _ _ h1.symm, up_id _ _ _ h2.symm]
theorem swI_r (I : fb_V) (c r : Nat) (A B : Nat → Int32) (k : Nat) : swI I c r A B k r = swb A B k := va_up_self _ _ _
theorem swI_c (I : fb_V) {c r : Nat} (h : c ≠ r) (A B : Nat → Int32) (k : Nat) : swI I c r A B k c = swa A B k := by
  unfold swI
  rw [va_up_ne _ _ h, va_up_self]
theorem swI_s1 (I : fb_V) (c r : Nat) (A B : Nat → Int32) (k : Nat) : va_up (swI I c r A B k) r (upd (swb A B k) k (B k + swn A B k)) = va_up (va_up I c (swa A B k)) r (swb A B (k + 1)) := by
  unfold swI
  rw [up_up]
  congr 1
  rw [← swb_ch]
  unfold chv
  rw [swb_i]
theorem swI_s2 (I : fb_V) {c r : Nat} (h : c ≠ r) (A B : Nat → Int32) (k : Nat) : va_up (va_up (va_up I c (swa A B k)) r (swb A B (k + 1))) c (upd (swa A B k) k (A k - swn A B k)) = swI I c r A B (k + 1) := by
  unfold swI
  rw [up_sw _ _ _ h, up_up, up_sw _ _ _ (Ne.symm h)]
  congr 2
  rw [← swa_ch, Int32.sub_eq_add_neg]
  unfold chv
  rw [swa_i]
theorem dry25 {dm b : Nat} (hd : dm ≤ 9) (hb : b < 9) : (if 0 < nI dm - 1 - nI b then nI dm - 1 - nI b else 0) = nI (dm - (1 + b)) := by
  rw [Int32.sub_sub, show (1 : Int32) + nI b = nI (1 + b) from nI_add 1 b]
  exact dry_nI hd (by omega)
