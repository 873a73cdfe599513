/-! nights look at the squares below 36, and at their first six sizes -/
theorem pkX_cg {d : Int32} {X Y : fb_V} (h : ∀ q, q < 36 → X q = Y q) : ∀ q, q < 36 → pkX d X 36 q = pkX d Y 36 q := fun q hq => by
  unfold pkX
  rw [if_pos hq, if_pos hq, h q hq]
theorem opn_cg {c n : Nat} {B C : Nat → Int32} {q d : Nat} (h : B (2 * q + d) = C (2 * q + d)) : opn c n B q d = opn c n C q d := by
  unfold opn
  rw [h]
theorem shs_cg {c r n : Nat} {B C : Nat → Int32} {X Y : fb_V} (hn : n = c * r) (hc : 1 ≤ c) (h36 : n ≤ 36) (hB : ∀ k, k < 2 * n → B k = C k) (h : ∀ q, q < 36 → X q = Y q) : ∀ k, k ≤ 2 * n → (∀ q, q < 36 → (shs c n B X k).1 q = (shs c n C Y k).1 q) ∧ (shs c n B X k).2 = (shs c n C Y k).2
  | 0, _ => ⟨h, rfl⟩
  | k + 1, hk => by
    obtain ⟨ih1, ih2⟩ := shs_cg hn hc h36 hB h k (by omega)
    have eo : opn c n B (k / 2) (k % 2) = opn c n C (k / 2) (k % 2) := opn_cg (by rw [show 2 * (k / 2) + k % 2 = k by omega]; exact hB k (by omega))
    show (∀ q, q < 36 → (if opn c n B (k / 2) (k % 2) = true then _ else _ : fb_V × Int32).1 q = (if opn c n C (k / 2) (k % 2) = true then _ else _ : fb_V × Int32).1 q) ∧ (if opn c n B (k / 2) (k % 2) = true then _ else _ : fb_V × Int32).2 = (if opn c n C (k / 2) (k % 2) = true then _ else _ : fb_V × Int32).2
    rw [eo]
    by_cases ho : opn c n C (k / 2) (k % 2) = true
    · rw [if_pos ho, if_pos ho]
      have h1 := oft_lt hn hc (show k / 2 < n by omega) (opn_x ho).1
      have e1 := ih1 (k / 2) (by omega)
      have e2 := ih1 (oft c (k / 2) (k % 2)) (by omega)
      refine ⟨fun q hq => ?_, ?_⟩
      · show va_up (va_up (shs c n B X k).1 _ _) _ _ q = va_up (va_up (shs c n C Y k).1 _ _) _ _ q
        rw [e1, e2]
        by_cases x1 : q = oft c (k / 2) (k % 2)
        · rw [x1, va_up_self, va_up_self]
        · rw [va_up_ne _ _ x1, va_up_ne _ _ x1]
          by_cases x2 : q = k / 2
          · rw [x2, va_up_self, va_up_self]
          · rw [va_up_ne _ _ x2, va_up_ne _ _ x2]
            exact ih1 q hq
      · show (shs c n B X k).2 + _ = (shs c n C Y k).2 + _
        rw [e1, e2, ih2]
    · rw [if_neg ho, if_neg ho]
      exact ⟨ih1, ih2⟩
theorem ngs_cg {c r n d : Nat} {B C : Nat → Int32} {X Y : fb_V} (hn : n = c * r) (hc : 1 ≤ c) (h36 : n ≤ 36) (hB : ∀ k, k < 2 * n → B k = C k) (h : ∀ q, q < 36 → X q = Y q) : ∀ z, ∀ q, q < 36 → ngs c n d B X z q = ngs c n d C Y z q
  | 0 => h
  | z + 1 => (shs_cg hn hc h36 hB (pkX_cg (ngs_cg hn hc h36 hB h z)) (2 * n) (Nat.le_refl _)).1
theorem ngl_cg {c r n d : Nat} {B C : Nat → Int32} {X Y : fb_V} (hn : n = c * r) (hc : 1 ≤ c) (h36 : n ≤ 36) (hB : ∀ k, k < 2 * n → B k = C k) (h : ∀ q, q < 36 → X q = Y q) : ∀ z, ngl c n d B X z = ngl c n d C Y z
  | 0 => rfl
  | z + 1 => by
    show ngl c n d B X z + _ = ngl c n d C Y z + _
    rw [ngl_cg hn hc h36 hB h z, pkS_x (ngs_cg hn hc h36 hB h z)]
theorem NF_cg {c r n d : Nat} {B C : Nat → Int32} {X Y : fb_V} (hn : n = c * r) (hc : 1 ≤ c) (h36 : n ≤ 36) (hB : ∀ k, k < 2 * n → B k = C k) (h : ∀ q, q < 36 → X q = Y q) {z : Nat} (hN : NF c n d B X z) : NF c n d C Y z := fun i hi h1 h2 => by
  have e := fun j => ngs_cg (d := d) hn hc h36 hB h j
  obtain ⟨g1, g2⟩ := hN i hi (by rw [pkS_x (e i)]; exact h1) (by rw [(shs_cg hn hc h36 hB (pkX_cg (e i)) (2 * n) (Nat.le_refl _)).2]; exact h2)
  exact ⟨by rw [← ngl_cg hn hc h36 hB h, ← ngl_cg hn hc h36 hB h]; exact g1, fun q hq => by rw [← e _ q hq, ← e _ q hq]; exact g2 q hq⟩
theorem cld_cg {X Y : fb_V} : ∀ k, (∀ q, q < k → X q = Y q) → cld X k = cld Y k
  | 0, _ => rfl
  | k + 1, h => by
    show (if wm (X (cld X k)) ≤ wm (X k) then cld X k else k) = (if wm (Y (cld Y k)) ≤ wm (Y k) then cld Y k else k)
    rw [cld_cg k (fun q hq => h q (by omega)), h k (by omega), h (cld Y k) (by have := cld_lt Y k; omega)]
theorem pkv_tz {d : Int32} {v : Nat → Int32} (h : tz v) : tz (pkv d v 6) := fun k hk => by
  unfold pkv
  rw [if_neg (by omega)]
  exact h k hk
theorem mva_tz {a : Nat → Int32} (h : tz a) (m : Int32) {n : Nat} (hn : n ≤ 6) : tz (mva a m n) := fun k hk => by
  unfold mva
  rw [if_neg (by omega)]
  exact h k hk
theorem mvb_tz (a : Nat → Int32) {b : Nat → Int32} (h : tz b) (m : Int32) {n : Nat} (hn : n ≤ 6) : tz (mvb a b m n) := fun k hk => by
  unfold mvb
  rw [if_neg (by omega)]
  exact h k hk
theorem cpn_tz {a b : Nat → Int32} (hb : tz b) : tz (cpn 6 a b) := fun k hk => by
  unfold cpn
  rw [if_neg (by omega)]
  exact hb k hk
theorem cpn_e {a b : Nat → Int32} (ha : tz a) (hb : tz b) : cpn 6 a b = a := by
  funext k
  unfold cpn
  by_cases h : k < 6
  · rw [if_pos h]
  · rw [if_neg h, hb k (by omega), ha k (by omega)]
def TZ (X : fb_V) : Prop := ∀ q, q < 36 → tz (X q)
theorem pkX_tz {d : Int32} {X : fb_V} (h : TZ X) : TZ (pkX d X 36) := fun q hq => by
  unfold pkX
  rw [if_pos hq]
  exact pkv_tz (h q hq)
theorem shs_tz {c r n : Nat} {B : Nat → Int32} {X : fb_V} (hn : n = c * r) (hc : 1 ≤ c) (h36 : n ≤ 36) (h : TZ X) : ∀ k, k ≤ 2 * n → TZ (shs c n B X k).1
  | 0, _ => h
  | k + 1, hk => by
    have ih := shs_tz (B := B) hn hc h36 h k (by omega)
    show TZ (if opn c n B (k / 2) (k % 2) = true then _ else _ : fb_V × Int32).1
    by_cases ho : opn c n B (k / 2) (k % 2) = true
    · rw [if_pos ho]
      have h1 := oft_lt hn hc (show k / 2 < n by omega) (opn_x ho).1
      have e1 := ih (k / 2) (by omega)
      have e2 := ih (oft c (k / 2) (k % 2)) (by omega)
      intro q hq
      show tz (va_up (va_up (shs c n B X k).1 _ _) _ _ q)
      by_cases x1 : q = oft c (k / 2) (k % 2)
      · rw [x1, va_up_self]
        unfold hss
        split
        · exact mva_tz e2 _ (by decide)
        · exact mvb_tz _ e2 _ (by decide)
      · rw [va_up_ne _ _ x1]
        by_cases x2 : q = k / 2
        · rw [x2, va_up_self]
          unfold hff
          split
          · exact mvb_tz _ e1 _ (by decide)
          · exact mva_tz e1 _ (by decide)
        · rw [va_up_ne _ _ x2]
          exact ih q hq
    · rw [if_neg ho]
      exact ih
theorem ngs_tz {c r n d : Nat} {B : Nat → Int32} {X : fb_V} (hn : n = c * r) (hc : 1 ≤ c) (h36 : n ≤ 36) (h : TZ X) : ∀ z, TZ (ngs c n d B X z)
  | 0 => h
  | z + 1 => shs_tz hn hc h36 (pkX_tz (ngs_tz hn hc h36 h z)) (2 * n) (Nat.le_refl _)
/-- the seams as booleans; what the trial's warmth tells -/
def nbB (B : Nat → Int32) : Nat → Int32 := fun k => nb (B k)
def cwk (c n d : Nat) (B : Nat → Int32) (X : fb_V) (z : Nat) : Int32 := wm (ngs c n d B X z (cld (ngs c n d B X z) n))
theorem cwk_cg {c r n d : Nat} {B C : Nat → Int32} {X Y : fb_V} (hn : n = c * r) (hc : 1 ≤ c) (h1 : 1 ≤ n) (h36 : n ≤ 36) (hB : ∀ k, k < 2 * n → B k = C k) (h : ∀ q, q < 36 → X q = Y q) (z : Nat) : cwk c n d B X z = cwk c n d C Y z := by
  have e := ngs_cg (d := d) hn hc h36 hB h z
  unfold cwk
  rw [cld_cg n (fun q hq => e q (by omega)), e _ (by have := cld_lt (ngs c n d C Y z) n; omega)]
theorem trB_cg (I : fb_V) (u : Nat) {n : Nat} (h : n ≤ 36) : ∀ k, k < 2 * n → trB I u k = nbB (I (u + 2)) k := fun k hk => if_pos (by omega)
theorem trX_cg {V : fb_V} {e : Nat} (he : e + 72 ≤ 732) (h1 : TZ (tv V e)) {Y : fb_V} (h2 : TZ Y) : ∀ q, q < 36 → trX (stv V 732 Y) e q = tv V e q := fun q hq => by
  unfold trX bcX
  rw [if_pos hq, stv_at V 732 Y hq, stv_out V 732 Y (show e + 2 * q < 732 ∨ _ from Or.inl (by omega))]
  exact cpn_e (h1 q hq) (h2 q hq)
def cadv (c n d z : Nat) (T B : Nat → Int32) (X : fb_V) : Nat → Int32 × Int32
  | 0 => (-1, cwk c n d B X z)
  | k + 1 => if opn c n T (k / 2) (k % 2) = true then (if (cadv c n d z T B X k).2 < cwk c n d (upd B k (nb 1)) X z then (nI k, cwk c n d (upd B k (nb 1)) X z) else cadv c n d z T B X k) else cadv c n d z T B X k
/-- the trial's places may be written, nothing else -/
def Tri (I J : fb_V) : Prop := ∀ x, x ≠ 54 → x ≠ 56 → J x = I x
theorem Tri.rf (I : fb_V) : Tri I I := fun _ _ _ => rfl
theorem Tri.trI {I J : fb_V} (h : Tri I J) (u c r d : Nat) : Tri I (trI J u c r d) := fun x h1 h2 => (trI_out J u c r d h1 h2).trans (h x h1 h2)
theorem Tri.up {I J : fb_V} (h : Tri I J) (v : Nat → Int32) : Tri I (va_up J 56 v) := fun x h1 h2 => (va_up_ne _ _ h2).trans (h x h1 h2)
theorem CF.tri {I J : fb_V} {ns nt : Nat} {cf rf df : Nat → Nat} (h : CF I ns nt cf rf df) (hp : Tri I J) : CF J ns nt cf rf df := by
  obtain ⟨h1, h2, h3, h4, h5⟩ := h
  refine ⟨by rw [hp 1 (by decide) (by decide)]; exact h1, by rw [hp 2 (by decide) (by decide)]; exact h2, h3, h4, fun t ht => ?_⟩
  have h6 := h5 t ht
  unfold TF at h6 ⊢
  rw [hp (30 + 4 * t) (by omega) (by omega)]
  exact h6
theorem upd_cg {B C : Nat → Int32} {m i : Nat} {v : Int32} (h : ∀ k, k < m → B k = C k) : ∀ k, k < m → upd B i v k = upd C i v k := fun k hk => by
  unfold upd
  by_cases e : k = i
  · rw [if_pos e, if_pos e]
  · rw [if_neg e, if_neg e]
    exact h k hk
theorem trX_c0 {V : fb_V} {e : Nat} (he : e + 72 ≤ 732) (h1 : TZ (tv V e)) (h2 : TZ (tv V 732)) : ∀ q, q < 36 → trX V e q = tv V e q := fun q hq => by
  have h := trX_cg he h1 h2 q hq
  rw [stv_id V 732 (X := tv V 732) (fun _ _ => rfl)] at h
  exact h
theorem cadv_n {c n d z : Nat} {T B : Nat → Int32} {X : fb_V} {q k : Nat} (hk : k < 2) (h : opn c n T q k = false) : cadv c n d z T B X (2 * q + (k + 1)) = cadv c n d z T B X (2 * q + k) := by
  obtain ⟨i, hi⟩ : ∃ i, i = 2 * q + k := ⟨_, rfl⟩
  rw [show 2 * q + (k + 1) = i + 1 by omega, ← hi]
  show (if opn c n T (i / 2) (i % 2) = true then _ else _) = _
  rw [show i / 2 = q by omega, show i % 2 = k by omega, if_neg (by rw [h]; decide)]
theorem cadv_k {c n d z : Nat} {T B : Nat → Int32} {X : fb_V} {q k : Nat} (hk : k < 2) (h : opn c n T q k = true) (hw : cwk c n d (upd B (2 * q + k) (nb 1)) X z ≤ (cadv c n d z T B X (2 * q + k)).2) : cadv c n d z T B X (2 * q + (k + 1)) = cadv c n d z T B X (2 * q + k) := by
  obtain ⟨i, hi⟩ : ∃ i, i = 2 * q + k := ⟨_, rfl⟩
  rw [← hi] at hw
  rw [show 2 * q + (k + 1) = i + 1 by omega, ← hi]
  show (if opn c n T (i / 2) (i % 2) = true then (if (cadv c n d z T B X i).2 < cwk c n d (upd B i (nb 1)) X z then _ else _) else _) = _
  rw [show i / 2 = q by omega, show i % 2 = k by omega, if_pos h, if_neg (Int32.not_lt.mpr hw)]
theorem cadv_b {c n d z : Nat} {T B : Nat → Int32} {X : fb_V} {q k : Nat} (hk : k < 2) (h : opn c n T q k = true) (hw : ¬ cwk c n d (upd B (2 * q + k) (nb 1)) X z ≤ (cadv c n d z T B X (2 * q + k)).2) : cadv c n d z T B X (2 * q + (k + 1)) = (nI (2 * q + k), cwk c n d (upd B (2 * q + k) (nb 1)) X z) := by
  obtain ⟨i, hi⟩ : ∃ i, i = 2 * q + k := ⟨_, rfl⟩
  rw [← hi] at hw
  rw [show 2 * q + (k + 1) = i + 1 by omega, ← hi]
  show (if opn c n T (i / 2) (i % 2) = true then (if (cadv c n d z T B X i).2 < cwk c n d (upd B i (nb 1)) X z then _ else _) else _) = _
  rw [show i / 2 = q by omega, show i % 2 = k by omega, if_pos h, if_pos (Int32.not_le.mp hw)]
