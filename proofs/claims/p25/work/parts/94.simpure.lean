/-! the law's Sim: its shape, its numbers -/
def SmAt (S : fb_Sh) (ns nt : Nat) (rho cf rf : Nat → Nat) : Prop :=
  (1000 ∈ sR S ∧ sk S 1000 = 4) ∧ (PA S 1000 0 (1020 + ns) ∧ PA S 1000 1 1001 ∧ PA S 1000 3 1009 ∧ PA S 1000 4 (1040 + nt)) ∧ RA S (1020 + ns) 10 ns ∧ RA S 1001 6 12 ∧ RA S 1009 10 5 ∧ RA S (1040 + nt) 13 nt ∧ (∀ i, i < ns → PA S (1020 + ns) i (rho i) ∧ RA S (rho i) 6 6) ∧ (∀ c, c < 5 → PA S 1009 c (1010 + c) ∧ RA S (1010 + c) 6 6) ∧ ∀ t, t < nt → PA S (1040 + nt) t (1100 + 100 * t) ∧ LtAt S (1100 + 100 * t) (cf t * rf t)
theorem LtAt.grow {P : Nat → Prop} {S S' : fb_Sh} (hE : Ext P S S') (hP : ∀ x, P x → x ∉ sR S) {o n : Nat} (h : LtAt S o n) : LtAt S' o n := by
  have g (x : Nat) (hx : x ∈ sR S) : ¬ P x := fun z => hP x z hx
  obtain ⟨h1, h2, h3, h4, h5, h6⟩ := h
  refine ⟨RS.ext hE (g _ h1.1) h1, h2.ext hE (g _ h1.1) (g _ h4.1), h3.ext hE (g _ h1.1) (g _ h5.1), h4.ext hE (g _ h4.1), h5.ext hE (g _ h5.1), fun q hq => ?_⟩
  obtain ⟨⟨a1, a2⟩, a3, a4⟩ := h6 q hq
  exact ⟨⟨a1.ext hE (g _ h4.1) (g _ a2.1), a2.ext hE (g _ a2.1)⟩, a3.ext hE (g _ h5.1) (g _ a4.1), a4.ext hE (g _ a4.1)⟩
theorem SmAt.grow {P : Nat → Prop} {S S' : fb_Sh} (hE : Ext P S S') (hP : ∀ x, P x → x ∉ sR S) {ns nt : Nat} {rho cf rf : Nat → Nat} (h : SmAt S ns nt rho cf rf) : SmAt S' ns nt rho cf rf := by
  have g (x : Nat) (hx : x ∈ sR S) : ¬ P x := fun z => hP x z hx
  obtain ⟨h1, ⟨p0, p1, p3, p4⟩, r0, r1, r3, r4, hs, hc, ht⟩ := h
  refine ⟨RS.ext hE (g _ h1.1) h1, ⟨p0.ext hE (g _ h1.1) (g _ r0.1), p1.ext hE (g _ h1.1) (g _ r1.1), p3.ext hE (g _ h1.1) (g _ r3.1), p4.ext hE (g _ h1.1) (g _ r4.1)⟩, r0.ext hE (g _ r0.1), r1.ext hE (g _ r1.1), r3.ext hE (g _ r3.1), r4.ext hE (g _ r4.1), fun i hi => ?_, fun c hc5 => ?_, fun t htl => ?_⟩
  · exact ⟨(hs i hi).1.ext hE (g _ r0.1) (g _ (hs i hi).2.1), (hs i hi).2.ext hE (g _ (hs i hi).2.1)⟩
  · exact ⟨(hc c hc5).1.ext hE (g _ r3.1) (g _ (hc c hc5).2.1), (hc c hc5).2.ext hE (g _ (hc c hc5).2.1)⟩
  · exact ⟨(ht t htl).1.ext hE (g _ r4.1) (g _ (ht t htl).2.1.1), (ht t htl).2.grow hE hP⟩
/-- roles from F on are free -/
def Fs (S : fb_Sh) (F : Nat) : Prop := 4000 ≤ F ∧ ∀ x, x ∈ sR S → x < F
/-- where the rows of the sacks stand -/
def Rho (rho : Nat → Nat) (ns : Nat) : Prop := (∀ i, i < ns → rho i = 1030 + i ∨ 4000 ≤ rho i) ∧ ∀ i j, i < ns → j < ns → rho i = rho j → i = j
theorem SmAt.rlt {S : fb_Sh} {ns nt F : Nat} {rho cf rf : Nat → Nat} (h : SmAt S ns nt rho cf rf) (hF : Fs S F) {i : Nat} (hi : i < ns) : rho i < F := hF.2 _ (h.2.2.2.2.2.2.1 i hi).2.1
/-- the chamber to which feathers fly, as a number -/
def cN (w k dm : Nat) : Nat := min 4 (12 * w / ((k + 1) * (dm + 4)))
theorem cN_lt (w k dm : Nat) : cN w k dm < 5 := by unfold cN; omega
theorem cN_w {k dm : Nat} (hk : k < 6) (hd : dm ≤ 9) : 1 ≤ (k + 1) * (dm + 4) ∧ (k + 1) * (dm + 4) ≤ 78 :=
  ⟨Nat.mul_le_mul (show 1 ≤ k + 1 by omega) (show 1 ≤ dm + 4 by omega), Nat.mul_le_mul (show k + 1 ≤ 6 by omega) (show dm + 4 ≤ 13 by omega)⟩
theorem cN_e (k dm : Nat) : (nI k + 1) * (nI dm + 4) = nI ((k + 1) * (dm + 4)) := by
  rw [nI_1, show nI dm + 4 = nI (dm + 4) from nI_add dm 4, pk_mul]
theorem cN_nz {k dm : Nat} (hk : k < 6) (hd : dm ≤ 9) : ¬ (nI k + 1) * (nI dm + 4) = 0 := by
  have := cN_w hk hd
  rw [cN_e]
  exact nI_ne0 (by omega) (by omega)
theorem mn_cN {w k dm : Nat} (hw : w ≤ 20) (hk : k < 6) (hd : dm ≤ 9) : mn 4 (12 * nI w / ((nI k + 1) * (nI dm + 4))) = nI (cN w k dm) := by
  have h := cN_w hk hd
  have h2 : 12 * w / ((k + 1) * (dm + 4)) ≤ 12 * w := Nat.div_le_self _ _
  rw [cN_e, show (12 : Int32) * nI w = nI (12 * w) from pk_mul 12 w, pk_div (by omega) (by omega) (by omega)]
  exact mn_nI (a := 4) (by omega) (by omega)
theorem fl_cN {w k dm : Nat} (hw : w ≤ 20) (hk : k < 6) (hd : dm ≤ 9) : fl (nI dm) (nI k) (nI w) = nI (cN w k dm) := by
  have h := cN_w hk hd
  have e : (nI k + 1) * (4 + nI dm) = (nI k + 1) * (nI dm + 4) := by rw [Int32.add_comm 4 (nI dm)]
  unfold fl
  rw [e, ← mn_cN hw hk hd, if_neg (by rw [cN_e]; exact nI_nle (by omega) (by omega)), mn_c, Int32.mul_comm (nI w) 12]
theorem brnA (a : Int32) {c : Nat} (hc : c < 5) : 0 + 6 * a / 10 = brn a (nI c) (plc c) := by
  rw [brn_at a c hc c (by omega), if_pos rfl, Int32.zero_add, Int32.mul_comm]
theorem brnB (a : Int32) {c r : Nat} (hc : c < 5) (hr : r = if c = 4 then 6 else c + 1) : 0 + a / 4 = brn a (nI c) (plc r) := by
  have h1 : r < 7 := by rw [hr]; split <;> omega
  have h2 : ¬ r = c := by rw [hr]; split <;> omega
  rw [brn_at a c hc r h1, if_neg h2, if_pos hr, Int32.zero_add]
theorem brnC (a : Int32) {c r : Nat} (hc : c < 5) (hr : r = if c = 0 then 5 else c - 1) : 0 + (a - 6 * a / 10 - a / 4) = brn a (nI c) (plc r) := by
  have h1 : r < 7 := by rw [hr]; split <;> omega
  have h2 : ¬ r = c := by rw [hr]; split <;> omega
  have h3 : ¬ r = (if c = 4 then 6 else c + 1) := by rw [hr]; split <;> split <;> omega
  rw [brn_at a c hc r h1, if_neg h2, if_neg h3, if_pos hr, Int32.zero_add, Int32.mul_comm 6 a]
theorem gq3 (x tt : Nat → Int32) (k : Nat) {c r2 r3 : Nat} (hc : c < 5) (ht : tt k = nI c) (h2 : r2 = if c = 4 then 6 else c + 1) (h3 : r3 = if c = 0 then 5 else c - 1) : ∀ r, r < 7 → va_up (va_up (va_up (gq x tt k) c (gq x tt (k + 1) c)) r2 (gq x tt (k + 1) r2)) r3 (gq x tt (k + 1) r3) r = gq x tt (k + 1) r := by
  intro r hr
  by_cases e3 : r = r3
  · rw [e3, va_up_self]
  · rw [va_up_ne _ _ e3]
    by_cases e2 : r = r2
    · rw [e2, va_up_self]
    · rw [va_up_ne _ _ e2]
      by_cases e1 : r = c
      · rw [e1, va_up_self]
      · rw [va_up_ne _ _ e1]
        refine (gq_n x tt k r ?_).symm
        rw [ht, brn_at _ c hc r hr, if_neg e1, if_neg (by rw [← h2]; exact e2), if_neg (by rw [← h3]; exact e3)]
/-- a row to which another's first k are added -/
def addn (A B : Nat → Int32) (k : Nat) : Nat → Int32 := fun j => if j < k then A j + B j else A j
theorem addn_0 (A B : Nat → Int32) : addn A B 0 = A := by
  funext j
  exact if_neg (Nat.not_lt_zero _)
theorem addn_i (A B : Nat → Int32) (k : Nat) : addn A B k k = A k := if_neg (Nat.lt_irrefl _)
theorem addn_u (A B : Nat → Int32) (k : Nat) : upd (addn A B k) k (A k + B k) = addn A B (k + 1) := by
  funext j
  unfold upd addn
  by_cases e : j = k
  · subst e
    rw [if_pos rfl, if_pos (Nat.lt_succ_self _)]
  · rw [if_neg e]
    by_cases c : j < k
    · rw [if_pos c, if_pos (by omega)]
    · rw [if_neg c, if_neg (by omega)]
/-- the chambers while the rows G are added: those below c are done, of c the sizes below k -/
def chn (C G : fb_V) (c k : Nat) : fb_V := fun z => addn (C z) (G z) (if z < c then 6 else if z = c then k else 0)
theorem chn_i (C G : fb_V) (c k : Nat) : chn C G c k c = addn (C c) (G c) k := by
  unfold chn
  rw [if_neg (Nat.lt_irrefl _), if_pos rfl]
theorem chn_0 (C G : fb_V) : chn C G 0 0 = C := by
  funext z
  unfold chn
  rw [if_neg (Nat.not_lt_zero _)]
  split <;> exact addn_0 _ _
theorem chn_u (C G : fb_V) (c k : Nat) : va_up (chn C G c k) c (addn (C c) (G c) (k + 1)) = chn C G c (k + 1) := by
  funext z
  by_cases e : z = c
  · subst e
    rw [va_up_self, chn_i]
  · rw [va_up_ne _ _ e]
    unfold chn
    rw [if_neg e, if_neg e]
theorem chn_n (C G : fb_V) (c : Nat) : chn C G c 6 = chn C G (c + 1) 0 := by
  funext z
  unfold chn
  by_cases h : z < c
  · rw [if_pos h, if_pos (by omega)]
  · rw [if_neg h]
    by_cases e : z = c
    · rw [if_pos e, if_pos (by omega)]
    · rw [if_neg e, if_neg (by omega)]
      split <;> rfl
/-- all of the rows G below c, and of the row c the sizes below k -/
def sgi (G : fb_V) (s0 : Int32) (c : Nat) : Nat → Int32
  | 0 => s0
  | k + 1 => sgi G s0 c k + G c k
def sgo (G : fb_V) : Nat → Int32
  | 0 => 0
  | c + 1 => sgi G (sgo G c) c 6
theorem sgo_bls (x tt : Nat → Int32) : sgo (gq x tt 6) 5 = bls x tt 6 := by
  have e (r j : Nat) (hr : r < 5) (hj : j < 6) : gq x tt 6 r j = brn (x j) (tt j) (nI r) := by
    unfold gq plc
    rw [if_pos hj, if_pos hr]
  simp only [sgo, sgi, bls, bli]
  rw [e 0 0, e 0 1, e 0 2, e 0 3, e 0 4, e 0 5, e 1 0, e 1 1, e 1 2, e 1 3, e 1 4, e 1 5, e 2 0, e 2 1, e 2 2, e 2 3, e 2 4, e 2 5, e 3 0, e 3 1, e 3 2, e 3 3, e 3 4, e 3 5, e 4 0, e 4 1, e 4 2, e 4 3, e 4 4, e 4 5] <;> first | omega | skip
  ac_rfl
/-- what the law's ticks hold after a night: Y t in the tick t -/
def sPs (I : fb_V) (nf : Nat → Nat) (Y : Nat → fb_V) : Nat → fb_V
  | 0 => I
  | t + 1 => rB (sPs I nf Y t) (1100 + 100 * t + 10) (nf t) (Y t)
def sPl (f : Nat → Int32) : Nat → Int32
  | 0 => 0
  | t + 1 => sPl f t + f t
theorem sPs_out (I : fb_V) (nf : Nat → Nat) (Y : Nat → fb_V) (m : Nat) {r : Nat} (h : ∀ t, t < m → r < 1100 + 100 * t + 10 ∨ 1100 + 100 * t + 10 + nf t ≤ r) : sPs I nf Y m r = I r := by
  induction m with
  | zero => rfl
  | succ m ih =>
    show rB (sPs I nf Y m) _ _ _ r = _
    rw [rB_out _ _ (h m (Nat.lt_succ_self m)), ih (fun t ht => h t (by omega))]
theorem sPs_at (I : fb_V) (nf : Nat → Nat) (Y : Nat → fb_V) (hn : ∀ t, nf t ≤ 36) {m t q : Nat} (ht : t < m) (hq : q < nf t) : sPs I nf Y m (1100 + 100 * t + 10 + q) = Y t q := by
  induction m with
  | zero => omega
  | succ m ih =>
    show rB (sPs I nf Y m) _ _ _ _ = _
    by_cases e : t = m
    · subst e
      exact rB_at _ _ _ hq
    · have := hn t
      have := hn m
      rw [rB_out _ _ (by omega), ih (by omega)]
theorem LtAt.ge {P : Nat → Prop} {S S' : fb_Sh} (hE : Ext P S S') {o n : Nat} (g : ∀ x, o ≤ x → ¬ P x) (h : LtAt S o n) : LtAt S' o n := by
  obtain ⟨h1, h2, h3, h4, h5, h6⟩ := h
  refine ⟨RS.ext hE (g _ (by omega)) h1, h2.ext hE (g _ (by omega)) (g _ (by omega)), h3.ext hE (g _ (by omega)) (g _ (by omega)), h4.ext hE (g _ (by omega)), h5.ext hE (g _ (by omega)), fun q hq => ?_⟩
  obtain ⟨⟨a1, a2⟩, a3, a4⟩ := h6 q hq
  exact ⟨⟨a1.ext hE (g _ (by omega)) (g _ (by omega)), a2.ext hE (g _ (by omega))⟩, a3.ext hE (g _ (by omega)) (g _ (by omega)), a4.ext hE (g _ (by omega))⟩
theorem SmAt.blow {S : fb_Sh} {ns nt : Nat} {rho cf rf : Nat → Nat} (h : SmAt S ns nt rho cf rf) (hn : ns ≤ 12) {r i : Nat} (hr : RA S r 6 6) : SmAt (fb_setp S (1020 + ns) i (some (sa S r))) ns nt (va_up rho i r) cf rf := by
  obtain ⟨h1, ⟨p0, p1, p3, p4⟩, r0, r1, r3, r4, hs, hc, ht⟩ := h
  have eE : Ext (fun x => x = 1020 + ns) S (fb_setp S (1020 + ns) i (some (sa S r))) := Ext.setp S i _ rfl
  refine ⟨h1, ⟨p0.setp _ (Or.inl (by omega)), p1.setp _ (Or.inl (by omega)), p3.setp _ (Or.inl (by omega)), p4.setp _ (Or.inl (by omega))⟩, r0, r1, r3, r4, fun j hj => ?_, fun c hc5 => ⟨(hc c hc5).1.setp _ (Or.inl (by omega)), (hc c hc5).2⟩, fun t htl => ⟨(ht t htl).1.setp _ (Or.inl (by omega)), (ht t htl).2.ge eE (fun x h1 z => by omega)⟩⟩
  by_cases e : j = i
  · subst e
    rw [va_up_self]
    exact ⟨PA.put S (1020 + ns) j r, hr⟩
  · rw [va_up_ne _ _ e]
    exact ⟨(hs j hj).1.setp _ (Or.inr e), (hs j hj).2⟩
