theorem c_addSack25 (a0 : Nat × Nat) (D : va_G) (y : Nat → ClassId) (l : Launch) (S : fb_Sh) (V I : fb_V) (ns nt : Nat) (hC : CpAt S a0.1 ns nt 4 10) (cf rf df : Nat → Nat) (hF : CF I ns nt cf rf df) (d : Nat) (hd : d ≤ 9) (hlt : ns < 4) (hn1 : 10 + ns ∉ sR S) (hn2 : 200 + 2 * ns ∉ sR S) (hn3 : 200 + 2 * ns + 1 ∉ sR S) (hef : ns = 0 → 4 ∉ sR S) : CIE a0 D y l yX3_addSack wsX3_addSack rm_X3_addSack [.ref (sa S 0), .int (nI d)] (S, V, sT V, I) (fun z u => z = nI ns ∧ ∃ S2, u = (S2, (va_up V (200 + 2 * ns) (fun _ => 0)), sT (va_up V (200 + 2 * ns) (fun _ => 0)), (va_up (va_up I (10 + ns) (upd (fun _ => 0) 1 (nI d))) 1 (upd (upd (I 1) 0 (I 1 0 + 1)) 2 (nI (ns + 1))))) ∧ CpAt S2 a0.1 (ns + 1) nt 4 10 ∧ Ext (fun x => x = 10 + ns ∨ x = 200 + 2 * ns ∨ x = 200 + 2 * ns + 1 ∨ x = 1 ∨ x = 4) S S2) 5 32 := by
  by_cases h0 : ns = 0
  · exact c_X3_addSack_0 a0 D y l S V I ns nt 4 10 hC cf rf df hF d (Nat.zero_le _) hd (by omega) (Or.inl rfl) hn1 hn2 hn3 h0 (hef h0)
  · exact c_X3_addSack_n a0 D y l S V I ns nt 4 10 hC cf rf df hF d (Nat.zero_le _) hd (by omega) (Or.inl rfl) hn1 hn2 hn3 (by omega) (by omega)
theorem c_addTick25 (a0 : Nat × Nat) (D : va_G) (y : Nat → ClassId) (l : Launch) (S : fb_Sh) (V I : fb_V) (ns nt : Nat) (hC : CpAt S a0.1 ns nt 4 10) (cf rf df : Nat → Nat) (hF : CF I ns nt cf rf df) (c : Nat) (hca : 1 ≤ c) (hc : c ≤ 6) (rr : Nat) (hrra : 1 ≤ rr) (hrr : rr ≤ 6) (d : Nat) (hda : 1 ≤ d) (hd : d ≤ 9) (hlt : nt < 3) (hn1 : ∀ x, 30 + 4 * nt ≤ x → x < 30 + 4 * nt + 4 → x ∉ sR S) (hn2 : ∀ x, 300 + 72 * nt ≤ x → x < 300 + 72 * nt + 72 → x ∉ sR S) (hef : nt = 0 → 5 ∉ sR S) : CIE a0 D y l yX3_addTick wsX3_addTick rm_X3_addTick [.ref (sa S 0), .int (nI c), .int (nI rr), .int (nI d)] (S, V, sT V, I) (fun z u => z = nI nt ∧ ∃ S2, u = (S2, (zV V (300 + 72 * nt) 36), sT (zV V (300 + 72 * nt) 36), (va_up (itk I nt c rr d) 2 (upd (upd (I 2) 0 (I 2 0 + 1)) 2 (nI (nt + 1))))) ∧ CpAt S2 a0.1 ns (nt + 1) 4 10 ∧ Ext (fun x => (30 + 4 * nt ≤ x ∧ x < 30 + 4 * nt + 4) ∨ (300 + 72 * nt ≤ x ∧ x < 300 + 72 * nt + 72) ∨ x = 2 ∨ x = 5) S S2) 81 480 := by
  by_cases h0 : nt = 0
  · exact c_X3_addTick_0 a0 D y l S V I ns nt 4 10 hC cf rf df hF c hca hc rr hrra hrr d hda hd (by omega) (Or.inl rfl) hn1 hn2 h0 (hef h0)
  · exact c_X3_addTick_n a0 D y l S V I ns nt 4 10 hC cf rf df hF c hca hc rr hrra hrr d hda hd (by omega) (Or.inl rfl) hn1 hn2 (by omega)
theorem itk_TF (I : fb_V) {nt c rr d : Nat} (hca : 1 ≤ c) (hc : c ≤ 6) (hrra : 1 ≤ rr) (hrr : rr ≤ 6) (hda : 1 ≤ d) (hd : d ≤ 9) {J : fb_V} (e : J (30 + 4 * nt) = itk I nt c rr d (30 + 4 * nt)) : TF J (30 + 4 * nt) c rr d := by
  unfold TF
  rw [e]
  unfold itk
  rw [va_up_ne _ _ (by omega), va_up_ne _ _ (by omega), va_up_self]
  exact ⟨rfl, rfl, rfl, rfl, hca, hc, hrra, hrr, hda, hd⟩
theorem itk_B (I : fb_V) (nt c rr d : Nat) : itk I nt c rr d (30 + 4 * nt + 2) = fun _ => 0 := by
  unfold itk
  rw [va_up_ne _ _ (by omega), va_up_self]
theorem Bi.le {a1 : Nat} {S : fb_Sh} {V I : fb_V} {ns nt N N' : Nat} {cf rf df : Nat → Nat} (h : Bi a1 S V I ns nt cf rf df N) (hN : N ≤ N') : Bi a1 S V I ns nt cf rf df N' := ⟨h.1.le hN, h.2⟩
theorem Bi.nr {a1 : Nat} {S : fb_Sh} {V I : fb_V} {ns nt N : Nat} {cf rf df : Nat → Nat} (h : Bi a1 S V I ns nt cf rf df N) {x : Nat} (hx : ¬ Al ns nt x) : x ∉ sR S := fun z => hx (h.2.1 x z)
