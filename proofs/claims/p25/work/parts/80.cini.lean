/-! the component's making: its shapes -/
theorem mkL_ok (S : fb_Sh) {r : Nat} (a q j : Nat) (h : r ≠ 0) : ∀ S1, S1 = fb_setp (fb_setp (fb_new S r q 5 0) r 1 (some a)) 0 j (some q) → (r ∈ sR S1 ∧ sk S1 r = 5) ∧ PA S1 0 j r ∧ sp S1 r 1 = some a ∧ Ext (fun x => x = 0 ∨ x = r) S S1 ∧ (0 ∈ sR S ∧ sk S 0 = 3 → 0 ∈ sR S1 ∧ sk S1 0 = 3) ∧ sa S1 0 = sa S 0 ∧ ∀ i t, i ≠ j → t ≠ r → PA S 0 i t → PA S1 0 i t := by
  intro S1 e
  have e1 : Ext (fun x => x = r) S (fb_new S r q 5 0) := Ext.new S q 5 0 rfl
  have e2 : Ext (fun x => x = r) S (fb_setp (fb_new S r q 5 0) r 1 (some a)) := e1.trans (Ext.setp (fb_new S r q 5 0) 1 (some a) rfl)
  have k0 : sa S1 0 = sa S 0 := by rw [e]; exact nw_ane S q 5 0 (fun z => h z.symm)
  have kr : sa S1 r = q := by rw [e]; exact nw_a S r q 5 0
  refine ⟨by rw [e]; exact ⟨nw_r S r q 5 0, nw_k S r q 5 0⟩, ?_, ?_, ?_, fun g => ?_, k0, fun i t hi ht g => ?_⟩
  · unfold PA
    rw [kr, e, st_p, va_up_self]
  · rw [e, st_pne _ _ _ h, st_p, va_up_self]
  · rw [e]
    exact (e2.mono (fun x hx => Or.inr hx)).trans (Ext.setp _ j (some q) (Or.inl rfl))
  · have := RS.ext e2 (fun z => h z.symm) g
    rw [e]
    exact this
  · rw [e]
    exact (g.ext e2 (fun z => h z.symm) ht).setp _ (Or.inr hi)
def Ini (S S2 : fb_Sh) (a i : Nat) : Prop := (0 ∈ sR S2 ∧ sk S2 0 = 3) ∧ sa S2 0 = sa S 0 ∧ PA S2 0 0 1 ∧ PA S2 0 1 2 ∧ PA S2 0 2 3 ∧ (1 ∈ sR S2 ∧ sk S2 1 = 5) ∧ (2 ∈ sR S2 ∧ sk S2 2 = 5) ∧ sp S2 1 1 = some a ∧ sp S2 2 1 = some a ∧ HsAt S2 3 100 i 5 ∧ Ext (fun x => x < 4 ∨ (100 ≤ x ∧ x < 110)) S S2
theorem Ini.step {S S2 : fb_Sh} {a i : Nat} (h : Ini S S2 a i) (hi : i < 5) (q q' : Nat) : Ini S (mkHs S2 3 100 i q q') a (i + 1) := by
  obtain ⟨a1, a2, a3, a4, a5, a6, a7, a8, a9, a10, a11⟩ := h
  obtain ⟨b1, b2⟩ := mkHs_ok q q' (show 3 < 100 ∨ _ from Or.inl (by decide)) hi a10
  have n (x : Nat) (hx : x < 3) : ¬ (x = 100 + 2 * i ∨ x = 100 + 2 * i + 1 ∨ x = 3) := by omega
  refine ⟨RS.ext b2 (n 0 (by decide)) a1, (AA.ext b2 (n 0 (by decide))).trans a2, a3.ext b2 (n 0 (by decide)) (n 1 (by decide)), a4.ext b2 (n 0 (by decide)) (n 2 (by decide)), ?_, RS.ext b2 (n 1 (by decide)) a6, RS.ext b2 (n 2 (by decide)) a7, b2.sp1 (n 1 (by decide)) a8, b2.sp1 (n 2 (by decide)) a9, b1, a11.trans (b2.mono (fun x hx => by omega))⟩
  have k3 : sa (mkHs S2 3 100 i q q') 3 = sa S2 3 := AA.ext (mkH_ok S2 (100 + 2 * i) q q').2.2 (by omega)
  unfold PA at a5 ⊢
  rw [(b2 0 (n 0 (by decide))).2.2.2.2, k3]
  exact a5
def PIn (x : Nat) : Prop := x < 4 ∨ (100 ≤ x ∧ x < 110) ∨ (54 ≤ x ∧ x < 58) ∨ (732 ≤ x ∧ x < 804)
theorem Ini.fin {S S2 S3 : fb_Sh} {a q : Nat} (h : Ini S S2 a 5) (hE : Ext (fun x => (54 ≤ x ∧ x < 54 + 4) ∨ (732 ≤ x ∧ x < 732 + 72)) S2 S3) (hT : TickAt S3 54 732) (hq : sa S3 54 = q) : CpAt (fb_setp S3 0 3 (some q)) a 0 0 4 10 ∧ Ext PIn S (fb_setp S3 0 3 (some q)) ∧ sa (fb_setp S3 0 3 (some q)) 0 = sa S 0 := by
  obtain ⟨a1, a2, a3, a4, a5, a6, a7, a8, a9, a10, a11⟩ := h
  have e9 : Ext (fun x => x = 0) S3 (fb_setp S3 0 3 (some q)) := Ext.setp S3 3 (some q) rfl
  have n (x : Nat) (hx : x < 54) : ¬ ((54 ≤ x ∧ x < 54 + 4) ∨ (732 ≤ x ∧ x < 732 + 72)) := by omega
  have nc (x : Nat) (h1 : 100 ≤ x) (hx : x < 111) : ¬ ((54 ≤ x ∧ x < 54 + 4) ∨ (732 ≤ x ∧ x < 732 + 72)) := by omega
  refine ⟨⟨RS.ext hE (n 0 (by decide)) a1, ⟨(a3.ext hE (n 0 (by decide)) (n 1 (by decide))).setp _ (Or.inr (by decide)), (a4.ext hE (n 0 (by decide)) (n 2 (by decide))).setp _ (Or.inr (by decide)), (a5.ext hE (n 0 (by decide)) (n 3 (by decide))).setp _ (Or.inr (by decide)), ?_⟩, RS.ext hE (n 1 (by decide)) a6, RS.ext hE (n 2 (by decide)) a7, ⟨a10.1.ext hE (n 3 (by decide)), fun c hc => ⟨((a10.2.1 c hc).1.ext hE (n 3 (by decide)) (nc _ (by omega) (by omega))).setp _ (Or.inl (by decide)), ((a10.2.1 c hc).2.ext hE (nc _ (by omega) (by omega)) (nc _ (by omega) (by omega))).ext e9 (by omega) (by omega)⟩⟩, hT.ext e9 (fun x h1 h2 => by omega) (fun x h1 h2 => by omega), Or.inl ⟨rfl, (hE.sp1 (n 1 (by decide)) a8 |> fun z => e9.sp1 (by decide) z)⟩, fun i hi => absurd hi (Nat.not_lt_zero _), Or.inl ⟨rfl, (hE.sp1 (n 2 (by decide)) a9 |> fun z => e9.sp1 (by decide) z)⟩, fun t ht => absurd ht (Nat.not_lt_zero _)⟩, ?_, ?_⟩
  · unfold PA
    rw [st_p, va_up_self]
    exact congrArg some hq.symm
  · unfold PIn
    exact ((a11.mono (fun x hx => by omega)).trans (hE.mono (fun x hx => by omega))).trans (e9.mono (fun x hx => by omega))
  · exact (AA.ext hE (n 0 (by decide))).trans a2
theorem RA.rs {S : fb_Sh} {r k n : Nat} (h : RA S r k n) : r ∈ sR S ∧ sk S r = k := ⟨h.1, h.2.1⟩
