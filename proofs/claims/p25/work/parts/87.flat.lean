/-! flat rows of the reference and squares of the class -/
theorem hff_tz {x y : Nat → Int32} (hx : tz x) : tz (hff x y) := by
  unfold hff
  split
  · exact mvb_tz _ hx _ (by decide)
  · exact mva_tz hx _ (by decide)
theorem hss_tz {x y : Nat → Int32} (hy : tz y) : tz (hss x y) := by
  unfold hss
  split
  · exact mva_tz hy _ (by decide)
  · exact mvb_tz _ hy _ (by decide)
theorem fsh_mx {c r n : Nat} {B f : Nat → Int32} (hn : n = c * r) (hc : 1 ≤ c) : ∀ k, k ≤ 2 * n → ∀ q, mx (fsh c n B f k) q = (shs c n B (mx f) k).1 q
  | 0, _, q => rfl
  | k + 1, hk, q => by
    have ih := fsh_mx (B := B) (f := f) hn hc k (by omega)
    show mx (if opn c n B (k / 2) (k % 2) = true then _ else _) q = (if opn c n B (k / 2) (k % 2) = true then _ else _ : fb_V × Int32).1 q
    by_cases ho : opn c n B (k / 2) (k % 2) = true
    · rw [if_pos ho, if_pos ho]
      have h1 := oft_lt hn hc (show k / 2 < n by omega) (opn_x ho).1
      show mx (bk (bk (fsh c n B f k) (k / 2) _) (oft c (k / 2) (k % 2)) _) q = va_up (va_up (shs c n B (mx f) k).1 (k / 2) _) (oft c (k / 2) (k % 2)) _ q
      rw [ih (k / 2), ih (oft c (k / 2) (k % 2))]
      have t1 : tz ((shs c n B (mx f) k).1 (k / 2)) := by rw [← ih]; exact mx_tz _ _
      have t2 : tz ((shs c n B (mx f) k).1 (oft c (k / 2) (k % 2))) := by rw [← ih]; exact mx_tz _ _
      by_cases x1 : q = oft c (k / 2) (k % 2)
      · rw [x1, va_up_self, mx_bk_e (hss_tz t2)]
      · rw [va_up_ne _ _ x1, mx_bk_n x1]
        by_cases x2 : q = k / 2
        · rw [x2, va_up_self, mx_bk_e (hff_tz t1)]
        · rw [va_up_ne _ _ x2, mx_bk_n x2]
          exact ih q
    · rw [if_neg ho, if_neg ho]
      exact ih q
theorem ngf_FZ {c r n d : Nat} {B f : Nat → Int32} (hn : n = c * r) (hc : 1 ≤ c) (h : FZ f n) (k : Nat) : FZ (ngf c n d B f k) n := fun j hj => (ngf_out hn hc hj k).trans (h j hj)
theorem nif_mx {c r n d : Nat} {B f : Nat → Int32} (hn : n = c * r) (hc : 1 ≤ c) (h36 : n ≤ 36) (h : FZ f n) {q : Nat} (hq : q < 36) : mx (nif c n d B f) q = ngt c n d B (mx f) q := by
  unfold nif ngt
  rw [fsh_mx hn hc (2 * n) (Nat.le_refl _) q]
  exact (shs_cg hn hc h36 (fun _ _ => rfl) (fun p hp => by
    unfold pkX
    rw [if_pos hp]
    exact fpk_mx (nI d) h p) (2 * n) (Nat.le_refl _)).1 q hq
theorem ngt_cg {c r n d : Nat} {B C : Nat → Int32} {X Y : fb_V} (hn : n = c * r) (hc : 1 ≤ c) (h36 : n ≤ 36) (hB : ∀ k, k < 2 * n → B k = C k) (h : ∀ q, q < 36 → X q = Y q) : ∀ q, q < 36 → ngt c n d B X q = ngt c n d C Y q := (shs_cg hn hc h36 hB (pkX_cg h) (2 * n) (Nat.le_refl _)).1
theorem ngf_mx {c r n d : Nat} {B f : Nat → Int32} (hn : n = c * r) (hc : 1 ≤ c) (h36 : n ≤ 36) (h : FZ f n) : ∀ z, ∀ q, q < 36 → mx (ngf c n d B f z) q = ngs c n d B (mx f) z q
  | 0, _, _ => rfl
  | z + 1, q, hq => by
    show mx (nif c n d B (ngf c n d B f z)) q = ngt c n d B (ngs c n d B (mx f) z) q
    rw [nif_mx hn hc h36 (ngf_FZ hn hc h z) hq]
    exact ngt_cg hn hc h36 (fun _ _ => rfl) (ngf_mx hn hc h36 h z) q hq
theorem fpl_k (d : Int32) (f : Nat → Int32) (q : Nat) : ∀ k, k ≤ 6 → fpl d f (6 * q + k) = fpl d f (6 * q) + pkl d (mx f q) k
  | 0, _ => (Int32.add_zero _).symm
  | k + 1, hk => by
    show fpl d f (6 * q + k) + pq d f (6 * q + k) = fpl d f (6 * q) + (pkl d (mx f q) k + pkn d (mx f q) k)
    rw [fpl_k d f q k (by omega), pq_pkn d f q (by omega), Int32.add_assoc]
theorem fpl_pkS (d : Int32) (f : Nat → Int32) : ∀ q, fpl d f (6 * q) = pkS d (mx f) q
  | 0 => rfl
  | q + 1 => by
    rw [show 6 * (q + 1) = 6 * q + 6 by omega, fpl_k d f q 6 (Nat.le_refl _), fpl_pkS d f q]
    rfl
theorem pkS_z (d : Int32) {f : Nat → Int32} {n : Nat} (h : FZ f n) : ∀ m, n ≤ m → pkS d (mx f) m = pkS d (mx f) n
  | 0, hm => by rw [show n = 0 by omega]
  | m + 1, hm => by
    by_cases e : n = m + 1
    · rw [e]
    · show pkS d (mx f) m + pkl d (mx f m) 6 = _
      rw [FZ_mx h (show n ≤ m by omega), pkl_z0, Int32.add_zero]
      exact pkS_z d h m (by omega)
theorem nlf_ngl {c r n d : Nat} {B f : Nat → Int32} (hn : n = c * r) (hc : 1 ≤ c) (h36 : n ≤ 36) (h : FZ f n) : ∀ z, nlf c n d B f z = ngl c n d B (mx f) z
  | 0 => rfl
  | z + 1 => by
    show nlf c n d B f z + fpl (nI d) (ngf c n d B f z) (6 * n) = ngl c n d B (mx f) z + pkS (nI d) (ngs c n d B (mx f) z) 36
    rw [nlf_ngl hn hc h36 h z, fpl_pkS, ← pkS_z (nI d) (ngf_FZ hn hc h z) 36 h36, pkS_x (ngf_mx hn hc h36 h z)]
theorem asf_6 (f : Nat → Int32) (q : Nat) : asf f (6 * q + 6) = asf f (6 * q) + s6 (mx f q) := by
  show asf f (6 * q) + f (6 * q) + f (6 * q + 1) + f (6 * q + 2) + f (6 * q + 3) + f (6 * q + 4) + f (6 * q + 5) = _
  unfold s6
  rw [mx_k f q (by decide), mx_k f q (by decide), mx_k f q (by decide), mx_k f q (by decide), mx_k f q (by decide), mx_k f q (by decide), Nat.add_zero]
  simp only [Int32.add_assoc]
  rfl
theorem asf_fsum (f : Nat → Int32) : ∀ q, asf f (6 * q) = fsum (mx f) q
  | 0 => rfl
  | q + 1 => by
    rw [show 6 * (q + 1) = 6 * q + 6 by omega, asf_6, asf_fsum f q]
    rfl
theorem s6_z0 : s6 (fun _ => 0) = 0 := by decide
theorem wm_z0 : wm (fun _ => 0) = 0 := by decide
theorem fsum_z {f : Nat → Int32} {n : Nat} (h : FZ f n) : ∀ m, n ≤ m → fsum (mx f) m = fsum (mx f) n
  | 0, hm => by rw [show n = 0 by omega]
  | m + 1, hm => by
    by_cases e : n = m + 1
    · rw [e]
    · show fsum (mx f) m + s6 (mx f m) = _
      rw [FZ_mx h (show n ≤ m by omega), s6_z0, Int32.add_zero]
      exact fsum_z h m (by omega)
theorem wsm_z {f : Nat → Int32} {n : Nat} (h : FZ f n) : ∀ m, n ≤ m → wsm (mx f) m = wsm (mx f) n
  | 0, hm => by rw [show n = 0 by omega]
  | m + 1, hm => by
    by_cases e : n = m + 1
    · rw [e]
    · show wsm (mx f) m + wm (mx f m) = _
      rw [FZ_mx h (show n ≤ m by omega), wm_z0, Int32.add_zero]
      exact wsm_z h m (by omega)
theorem fsum_cg {X Y : fb_V} : ∀ n, (∀ q, q < n → X q = Y q) → fsum X n = fsum Y n
  | 0, _ => rfl
  | n + 1, h => by
    show fsum X n + s6 (X n) = fsum Y n + s6 (Y n)
    rw [fsum_cg n (fun q hq => h q (by omega)), h n (by omega)]
theorem wsm_cg {X Y : fb_V} : ∀ n, (∀ q, q < n → X q = Y q) → wsm X n = wsm Y n
  | 0, _ => rfl
  | n + 1, h => by
    show wsm X n + wm (X n) = wsm Y n + wm (Y n)
    rw [wsm_cg n (fun q hq => h q (by omega)), h n (by omega)]
theorem opc_cg {c n : Nat} {B C : Nat → Int32} : ∀ k, (∀ j, j < k → B j = C j) → opc c n B k = opc c n C k
  | 0, _ => rfl
  | k + 1, h => by
    show opc c n B k + ob c n B (k / 2) (k % 2) = opc c n C k + ob c n C (k / 2) (k % 2)
    rw [opc_cg k (fun j hj => h j (by omega))]
    unfold ob
    rw [opn_cg (C := C) (by rw [show 2 * (k / 2) + k % 2 = k by omega]; exact h k (by omega))]
