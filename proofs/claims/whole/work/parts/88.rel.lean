/-! the class and the reference, side by side -/
def B01 (B : Nat → Int32) (m : Nat) : Prop := ∀ k, k < m → B k = 0 ∨ B k = 1
theorem nbB_01 {B : Nat → Int32} {m : Nat} (h : B01 B m) : ∀ k, k < m → nbB B k = B k := fun k hk => by
  unfold nbB
  rcases h k hk with e | e <;> rw [e] <;> decide
theorem sckT_eq (v : Nat → Int32) (a : Int32) (k : Nat) : sckT v a (nI k) = sckT v a (nI k) := rfl
/-- the most frequent size, as both tell it -/
theorem mf_nv {f : Nat → Nat} (hf : sm f < 2 ^ 30) {g : Nat → Int32} {q : Nat} (hg : mx g q = nv f) : ∀ k, 1 ≤ k → k ≤ 6 → (f (mfm g q k) = 0 → psum f k = 0 ∧ mf (nv f) k = -1) ∧ (¬ f (mfm g q k) = 0 → ¬ psum f k = 0 ∧ mf (nv f) k = nI (mfm g q k))
  | 1, _, _ => by
    rw [mfm_1]
    have e : mf (nv f) 1 = if nv f 0 ≤ 0 then -1 else nI 0 := by
      show (if nv f 0 ≤ of6 (nv f) (-1) then (-1 : Int32) else nI 0) = _
      rw [of6_m1]
    rw [e, nv_k f (by decide), show psum f 1 = 0 + f 0 from rfl]
    refine ⟨fun h => ?_, fun h => ?_⟩
    · rw [h, if_pos (show nI 0 ≤ 0 by decide)]
      exact ⟨rfl, rfl⟩
    · have := sm_le f (show 0 < 6 by decide)
      rw [if_neg (nI_nle (by omega) (by omega))]
      exact ⟨by omega, rfl⟩
  | k + 2, _, hk => by
    obtain ⟨h1, h2⟩ := mf_nv hf hg (k + 1) (by omega) (by omega)
    have hm := mfm_lt g q (k + 1)
    have g1 (j : Nat) (hj : j < 6) : g (6 * q + j) = nI (f j) := by rw [← mx_k g q hj, hg, nv_k f hj]
    have b1 := sm_le f (show k + 1 < 6 by omega)
    have b2 := sm_le f (show mfm g q (k + 1) < 6 by omega)
    have em : mfm g q (k + 2) = if f (k + 1) ≤ f (mfm g q (k + 1)) then mfm g q (k + 1) else k + 1 := by
      show (if g (6 * q + (k + 1)) ≤ g (6 * q + mfm g q (k + 1)) then mfm g q (k + 1) else k + 1) = _
      rw [g1 _ (by omega), g1 _ (by omega)]
      by_cases c : f (k + 1) ≤ f (mfm g q (k + 1))
      · rw [if_pos c, if_pos (nI_le c (by omega))]
      · rw [if_neg c, if_neg (fun z => c ((nI_leI (by omega) (by omega)).mp z))]
    have ep : psum f (k + 2) = psum f (k + 1) + f (k + 1) := rfl
    rw [em, ep]
    by_cases z : f (mfm g q (k + 1)) = 0
    · obtain ⟨h3, h4⟩ := h1 z
      have ef : mf (nv f) (k + 2) = if nv f (k + 1) ≤ 0 then -1 else nI (k + 1) := by
        show (if nv f (k + 1) ≤ of6 (nv f) (mf (nv f) (k + 1)) then mf (nv f) (k + 1) else nI (k + 1)) = _
        rw [h4, of6_m1]
      rw [ef, nv_k f (by omega), z, h3]
      by_cases c : f (k + 1) = 0
      · rw [c, if_pos (Nat.le_refl 0), z, if_pos (show nI 0 ≤ 0 by decide)]
        exact ⟨fun _ => ⟨rfl, rfl⟩, fun h => absurd rfl h⟩
      · rw [if_neg (by omega), if_neg (nI_nle (by omega) (by omega))]
        exact ⟨fun h => absurd h c, fun _ => ⟨by omega, rfl⟩⟩
    · obtain ⟨h3, h4⟩ := h2 z
      have ef : mf (nv f) (k + 2) = if nv f (k + 1) ≤ nv f (mfm g q (k + 1)) then nI (mfm g q (k + 1)) else nI (k + 1) := by
        show (if nv f (k + 1) ≤ of6 (nv f) (mf (nv f) (k + 1)) then mf (nv f) (k + 1) else nI (k + 1)) = _
        rw [h4, of6_n _ (by omega)]
      rw [ef, nv_k f (by omega), nv_k f (by omega)]
      by_cases c : f (k + 1) ≤ f (mfm g q (k + 1))
      · rw [if_pos c, if_pos (nI_le c (by omega))]
        exact ⟨fun h => absurd h z, fun _ => ⟨by omega, rfl⟩⟩
      · rw [if_neg c, if_neg (fun h => c ((nI_leI (by omega) (by omega)).mp h))]
        exact ⟨fun h => absurd h (by omega), fun _ => ⟨by omega, rfl⟩⟩
theorem ctl_ch {g : Nat → Int32} {q N : Nat} (hB : Bd (mx g q) N) (hN : N < 2 ^ 30) : ∀ k, k < 9 → ctl (mx g q) k = chTm g q k := by
  obtain ⟨f, hf, hs⟩ := hB
  have h6 : s6 (mx g q) = nI (sm f) := by rw [hf, s6_nv]
  obtain ⟨m1, m2⟩ := mf_nv (by omega) hf 6 (by decide) (Nat.le_refl _)
  rw [← hf] at m1 m2
  rw [psum_6] at m1 m2
  have hm := mfm_lt g q 6
  have cz : sm f = 0 → f (mfm g q 6) = 0 := fun h => by have := sm_le f (show mfm g q 6 < 6 by omega); omega
  intro k hk
  have lt6 : k < 6 → ctl (mx g q) k = chTm g q k := fun h => by
    unfold chTm
    rw [if_pos h]
    match k, h with
    | 0, _ => rfl
    | 1, _ => rfl
    | 2, _ => rfl
    | 3, _ => rfl
    | 4, _ => rfl
    | 5, _ => rfl
    | k + 6, h => exact absurd h (by omega)
  by_cases hk6 : k < 6
  · exact lt6 hk6
  · rcases (show k = 6 ∨ k = 7 ∨ k = 8 by omega) with rfl | rfl | rfl
    · unfold chTm
      rw [if_neg (by decide), if_pos rfl]
      rfl
    · unfold chTm
      rw [if_neg (by decide), if_neg (by decide), h6]
      show mf (mx g q) 6 = _
      by_cases z : f (mfm g q 6) = 0
      · obtain ⟨e1, e2⟩ := m1 z
        rw [e2, e1, if_pos (by decide), if_pos rfl]
      · obtain ⟨e1, e2⟩ := m2 z
        rw [e2, if_neg (nI_ne0 (by omega) (by omega)), if_pos rfl]
    · unfold chTm
      rw [if_neg (by decide), if_neg (by decide), h6]
      show pur (mx g q) = _
      unfold pur
      rw [h6]
      by_cases z : f (mfm g q 6) = 0
      · obtain ⟨e1, e2⟩ := m1 z
        rw [e1, if_pos (by decide), if_pos (by decide), if_neg (by decide)]
      · obtain ⟨e1, e2⟩ := m2 z
        rw [e2, if_neg (nI_nle (by omega) (by omega)), if_neg (nI_ne0 (by omega) (by omega)), if_neg (by decide), of6_n _ (by omega), mx_k g q (by omega)]
theorem csum_asf {V : fb_V} {b : Nat} {g : Nat → Int32} : ∀ n, (∀ i, i < n → V (b + 2 * i) = mx g i) → csum V b n = asf g (6 * n)
  | 0, _ => rfl
  | n + 1, h => by
    rw [show 6 * (n + 1) = 6 * n + 6 by omega, asf_6, ← csum_asf n (fun i hi => h i (by omega)), ← h n (by omega)]
    rfl
theorem asf_z {g : Nat → Int32} {n : Nat} : ∀ m, n ≤ m → (∀ i, n ≤ i → i < m → mx g i = fun _ => 0) → asf g (6 * m) = asf g (6 * n)
  | 0, hm, _ => by rw [show n = 0 by omega]
  | m + 1, hm, h => by
    by_cases e : n = m + 1
    · rw [e]
    · rw [show 6 * (m + 1) = 6 * m + 6 by omega, asf_6, h m (by omega) (by omega), s6_z0, Int32.add_zero]
      exact asf_z m (by omega) (fun i h1 h2 => h i h1 (by omega))
theorem asf_B {g : Nat → Int32} {N : Nat} : ∀ n, n ≤ 36 → N < 2 ^ 24 → (∀ i, i < n → Bd (mx g i) N) → ∃ t, t ≤ n * N ∧ asf g (6 * n) = nI t
  | 0, _, _, _ => ⟨0, Nat.zero_le _, rfl⟩
  | n + 1, hn, hN, h => by
    obtain ⟨t, h1, h2⟩ := asf_B n (by omega) hN (fun i hi => h i (by omega))
    obtain ⟨f, f1, f2⟩ := h n (by omega)
    refine ⟨t + sm f, ?_, ?_⟩
    · rw [Nat.succ_mul]
      omega
    · rw [show 6 * (n + 1) = 6 * n + 6 by omega, asf_6, h2, f1, s6_nv, nI_add]
theorem bsum_bsm {v u : Nat → Int32} {st dm : Nat} (hd : dm ≤ 9) (p : Int32) : ∀ k, k ≤ 6 → (∀ j, j < k → v j = u j) → bsum v (nI dm) (nI st) p k = bsm u (nI st) (nI dm) p k
  | 0, _, _ => rfl
  | k + 1, hk, h => by
    show bsum v (nI dm) (nI st) p k + brn (v k) (fl (nI dm) (nI k) (nI st)) p = bsm u (nI st) (nI dm) p k + brn (u k) (flm (nI st) (nI k) (nI dm)) p
    rw [bsum_bsm hd p k (by omega) (fun j hj => h j (by omega)), flm_fl (nI st) (by omega) hd, h k (by omega)]
theorem bim_z (v : Nat → Int32) (st dm p : Int32) (z : Nat) : ∀ n, z < n → bim v st dm p z n = brn (v z) (flm st (nI z) dm) p := fun n h => if_pos h
theorem cbw_bwm {v u : Nat → Int32} {dm z : Nat} (hd : dm ≤ 9) (hz : z < 6) (p : Int32) (h : ∀ j, j < 6 → v j = u j) : ∀ n, cbw v (nI dm) p z n = bwm u (nI dm) p z n
  | 0 => rfl
  | n + 1 => by
    show (if brn (v z) (fl (nI dm) (nI z) (nI (n + 1))) p * (cbw v (nI dm) p z n).2.2 ≤ (cbw v (nI dm) p z n).2.1 * bsum v (nI dm) (nI (n + 1)) p 6 then _ else _) = (if (bwm u (nI dm) p z n).2.1 * bsm u (nI (n + 1)) (nI dm) p 6 < bim u (nI (n + 1)) (nI dm) p z 6 * (bwm u (nI dm) p z n).2.2 then _ else _)
    rw [cbw_bwm hd hz p h n, bsum_bsm hd p 6 (Nat.le_refl _) h, bim_z u _ _ p z 6 hz, ← flm_fl (nI (n + 1)) hz hd, h z hz]
    by_cases c : brn (u z) (flm (nI (n + 1)) (nI z) (nI dm)) p * (bwm u (nI dm) p z n).2.2 ≤ (bwm u (nI dm) p z n).2.1 * bsm u (nI (n + 1)) (nI dm) p 6
    · rw [if_pos c, if_neg (Int32.not_lt.mpr c)]
    · rw [if_neg c, if_pos (Int32.not_le.mp c)]
