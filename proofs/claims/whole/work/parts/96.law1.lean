/-! the law: what it reads, and how it compares -/
def Lw (p : Program) (l : Launch) (s : State) (m : MethodId) (args : Array Value) (c : Code) (D : va_G) (A : Nat → Prop) (y : Nat → ClassId) (a0 : Nat × Nat) (b L : Nat) (xs : Nat → Int32) : Prop :=
  p.tables.exec = Jvm.exec ∧ c.code = code ∧ c.maxLocals = 9 ∧ s.vm.findClass RL = some m.cls ∧ (∀ x ∈ wsL_law, x.before args s = true) ∧ fb_E a0 A s ∧ fb_Nc s ∧ l.stackTraces = false ∧ va_X b L xs s s.heap ∧ b < s.heap.size ∧ ¬ A b ∧ L ≤ 2560
def TailD (T : Nat) (off : Int) : Prop := decode code T = .ok (.aload_n 2, 1) ∧ decode code (T + 1) = .ok (.invokevirtual 90, 3) ∧ decode code (T + 4) = .ok (.iload 5, 2) ∧ decode code (T + 6) = .ok (.if_icmp .eq 5, 3) ∧ decode code (T + 11) = .ok (.iload 5, 2) ∧ decode code (T + 13) = .ok (.ifCond .ne 15, 3) ∧ decode code (T + 16) = .ok (.aload_n 3, 1) ∧ decode code (T + 17) = .ok (.iconst 0, 1) ∧ decode code (T + 18) = .ok (.laload, 1) ∧ decode code (T + 19) = .ok (.iload 6, 2) ∧ decode code (T + 21) = .ok (.i2l, 1) ∧ decode code (T + 22) = .ok (.lcmp, 1) ∧ decode code (T + 23) = .ok (.ifCond .eq 5, 3) ∧ decode code (T + 28) = .ok (.goto off, 3) ∧ (T : Int) + 28 + off = 1643
theorem upd_pt {f g : Nat → Int32} {i j : Nat} {v : Int32} (h : f j = g j) : upd f i v j = upd g i v j := by
  unfold upd
  rw [h]
theorem t0_z (I : fb_V) (o : Nat) : t0 I o o 0 = nI 0 := by
  unfold t0
  rw [va_up_self]
  exact if_pos rfl
theorem psL_cg {V I J : fb_V} {cf rf df : Nat → Nat} {z : Nat} : ∀ m, (∀ t, t < m → J (30 + 4 * t + 2) = I (30 + 4 * t + 2)) → psL V J cf rf df z m = psL V I cf rf df z m
  | 0, _ => rfl
  | m + 1, h => by
    show psL V J cf rf df z m + ngl (cf m) (cf m * rf m) (df m) (J (30 + 4 * m + 2)) (tv V (300 + 72 * m)) z = psL V I cf rf df z m + ngl (cf m) (cf m * rf m) (df m) (I (30 + 4 * m + 2)) (tv V (300 + 72 * m)) z
    rw [psL_cg m (fun t ht => h t (by omega)), h m (by omega)]
theorem cnc_out (V I : fb_V) (ns nt k : Nat) {J : fb_V} (g : Nat → Int32) (e : J = va_up I 2000 g) : cnc V I ns nt k = cnc V J ns nt k := by
  have h : J 0 = I 0 := by rw [e]; exact va_up_ne _ _ (by decide)
  unfold cnc
  rw [h]
section LAW
variable {p : Program} {l : Launch} {e : Env} {s : State} {m : MethodId} {args : Array Value} {below : List Frame} {meth : Method} {c : Code} {H : Heap} {locs : List Loc} {cells slots : Nat} {Q : State → Prop} {D : va_G} {A : Nat → Prop} {y : Nat → ClassId} {a0 : Nat × Nat} {b L : Nat} {xs : Nat → Int32} {S : fb_Sh} {V I : fb_V} {pc : Nat} {ls : Array Slot} {rest : List Value} {R : Room}
theorem law_arg (hx : p.tables.exec = Jvm.exec) (hb : c.code = code) (hX : va_X b L xs s s.heap) (hbl : b < s.heap.size) (hbA : ¬ A b) (hS : va_S A s.heap H locs) {j : Nat} (h0 : lv_has ls 9 [(0, .ref b), (4, .int (nI j))]) (k : Nat) {kz : Int} (hkz : Int32.ofInt kz = nI k) (hk : j + k < L) (hL : L ≤ 2560) {v : Int32} (hv : xs (j + k) = v) (d0 : decode code pc = .ok (.aload_n 0, 1)) (d1 : decode code (pc + 1) = .ok (.iload 4, 2)) (d3 : decode code (pc + 1 + 2) = .ok (.iconst kz, 1)) (d4 : decode code (pc + 1 + 2 + 1) = .ok (.iadd, 1)) (d5 : decode code (pc + 1 + 2 + 1 + 1) = .ok (.iaload, 1))
    (kk : W p l e R s m args below meth c H locs cells slots Q (F0 m (pc + 1 + 2 + 1 + 1 + 1) ls (.int v :: rest))) : W p l e R s m args below meth c H locs cells slots Q (F0 m pc ls rest) := by
  refine lv_aload_n hx hb d0 rfl (lv_at h0 0 rfl) ?_
  refine lv_iload hx hb d1 (lv_at h0 1 rfl) ?_
  refine lv_iconst (v := nI k) hx hb d3 hkz ?_
  refine lv_iadd hx hb d4 ?_
  refine va_sld hx hb hX hbl hbA hS (by rw [nI_add]; exact vp_in_nI (by omega) (by omega)) d5 ?_
  rw [nI_add, nI_clamp (by omega), hv]
  exact kk
theorem law_tail {T : Nat} {off : Int} (hT : TailD T off) (hx : p.tables.exec = Jvm.exec) (hb : c.code = code) (hml : c.maxLocals = 9) (hown : s.vm.findClass RL = some m.cls) (hts : ∀ x ∈ wsL_law, x.before args s = true) (hM : fb_M D y A s (S, V, (sT V), I) H locs) {o nt : Nat} {cf rf : Nat → Nat} (hA : MdAt S o nt cf rf) (hO : RA S 2000 13 1) {k : Nat} (hk : k ≤ 3) {v : Int32} (h0 : lv_has ls 9 [(2, .ref (sa S o)), (3, .ref (sa S 2000)), (5, .int (nI k)), (6, .int v)]) (hth : I o 0 = nI k) (hout : k = 0 → I 2000 0 = v) (hc : cells ≤ room_1.cells) (hs : slots ≤ room_1.slots)
    (kk : ∀ (H : Heap) (locs : List Loc), fb_M D y A s (S, V, (sT V), I) H locs → W p l e room_1 s m args below meth c H locs cells slots Q (F0 m 1643 ls rest)) (hr : rest = []) : W p l e room_1 s m args below meth c H locs cells slots Q (F0 m T ls rest) := by
  obtain ⟨d0, d1, d4, d6, d11, d13, d16, d17, d18, d19, d21, d22, d23, d28, hoff⟩ := hT
  subst hr
  refine lv_aload_n hx hb d0 rfl (lv_at h0 0 rfl) ?_
  refine fb_callVi (r := o) hx hb hml hown hts hM (hA.1.1) (ce4 (hA.1.2)) rfl (As := []) (rest := []) (c_X4_thrown D y l S V I o nt cf rf hA) (cwV 0 hts gL_law_X4_thrown rfl rfl rfl (by decide +kernel) ⟨Nat.le_of_ble_eq_true rfl, Nat.le_of_ble_eq_true rfl⟩) rfl h0.1 rfl (Nat.le_of_ble_eq_true rfl) d1 ⟨hc, hs⟩ (fun v1 u H locs hp hM => ?_)
  obtain ⟨hv_, hu_⟩ := hp
  have hv_ := Eq.symm hv_
  have hu_ := Eq.symm hu_
  subst hv_
  subst hu_
  rw [hth]
  refine lv_iload hx hb d4 (lv_at h0 2 rfl) ?_
  refine lv_icmp_eq (tgt := T + 11) hx hb d6 (by omega) (fun _ => ?_) (fun z => absurd rfl z)
  refine lv_iload hx hb d11 (lv_at h0 2 rfl) ?_
  refine lv_if_ne (tgt := T + 28) hx hb d13 (by omega) (fun hz => ?_) (fun hz => ?_)
  · refine lv_goto (tgt := 1643) hx hb d28 (by omega) ?_
    exact kk _ _ hM
  · have k0 : k = 0 := by
      rcases Nat.eq_zero_or_pos k with h | h
      · exact h
      · exact absurd hz (nI_ne0 h (by omega))
    refine lv_aload_n hx hb d16 rfl (lv_at h0 1 rfl) ?_
    refine lv_iconst (v := 0) hx hb d17 (by decide) ?_
    refine fb_lald hx hb hM hO (k := 0) (by decide) (vp_in_nI (n := 0) (N := 1) (by decide) (by decide)) d18 ?_
    rw [hout k0]
    refine lv_iload hx hb d19 (lv_at h0 3 rfl) ?_
    refine lv_i2l hx hb d21 rfl ?_
    refine W.lcmp hx hb d22 ?_
    refine lv_if_eq (tgt := T + 28) hx hb d23 (by omega) (fun _ => ?_) (fun z => absurd (by unfold lg_cmp; simp) z)
    refine lv_goto (tgt := 1643) hx hb d28 (by omega) ?_
    exact kk _ _ hM
theorem rg_ix (x : Int32) {n : Nat} (hn : n < 2 ^ 31) : (x < 0 ∨ nI n ≤ x) ∨ ∃ i, i < n ∧ x = nI i := by
  rcases pk_ix x hn with h | h | h
  · exact Or.inl (Or.inl h)
  · exact Or.inl (Or.inr h)
  · exact Or.inr h
theorem rg_lh (x : Int32) (lo hi : Nat) (hl : lo ≤ hi) (hh : hi < 2 ^ 30) : (x < nI lo ∨ nI hi < x) ∨ ∃ i, lo ≤ i ∧ i ≤ hi ∧ x = nI i := by
  rcases pk_ix x (n := hi + 1) (by omega) with h | h | ⟨i, h1, h2⟩
  · exact Or.inl (Or.inl (Int32.lt_of_lt_of_le h (nI_pos' (by omega))))
  · exact Or.inl (Or.inr (Int32.lt_of_lt_of_le (nI_lt (Nat.lt_succ_self hi) (by omega)) h))
  · by_cases hi2 : lo ≤ i
    · exact Or.inr ⟨i, hi2, by omega, h2⟩
    · exact Or.inl (Or.inl (by rw [h2]; exact nI_lt (by omega) (by omega)))
end LAW
