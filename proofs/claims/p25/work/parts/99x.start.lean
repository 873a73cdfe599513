/-! the law's beginning: what the tables give -/
theorem st_prim {s : State} {A : Array Value} {t : FieldType} (hn : ∀ C, t ≠ .object C) (h : (Cond.arrayClass t).before A s = true) : ∃ c, ArrOfT s c t ∧ va_RA s c t := by
  obtain ⟨c, k, comp, h1, h2, h3⟩ := Cond.arrayClass_spec h
  refine ⟨c, fun N z => ⟨(fun k h => by cases h), k, h2, comp, h3⟩, ?_⟩
  cases t with
  | object C => exact absurd rfl (hn C)
  | _ => exact h1
theorem st_obj {s : State} {A : Array Value} {C : String} (h : (Cond.arrayOver (.object C)).before A s = true) : ∃ c, ArrOfT s c (.object C) ∧ va_RA s c (.object C) := by
  obtain ⟨comp, c, k, h1, -, h2, h3, h4⟩ := Cond.arrayOver_spec h
  exact ⟨c, fun N z => ⟨(fun k h => by cases h), k, h2, comp, h3⟩, k, comp, h2, h3, h1, h4⟩
theorem st_arr {s : State} {A : Array Value} {t : FieldType} (h : (Cond.arrayOver (.array t)).before A s = true) : ∃ c, ArrOfT s c (.array t) ∧ va_RA s c (.array t) := by
  obtain ⟨comp, c, k, h1, -, h2, h3, h4⟩ := arrayOverA_spec h
  exact ⟨c, fun N z => ⟨(fun k h => by cases h), k, h2, comp, h3⟩, h4⟩
def st_y (c0 c1 c2 c3 c4 c5 c6 : ClassId) : Nat → ClassId
  | 0 => c0
  | 1 => c1
  | 2 => c2
  | 3 => c3
  | 4 => c4
  | 5 => c5
  | _ => c6
def st_D (d0 d1 d2 d3 d4 d5 d6 : ClassId × (Nat → Nat)) : Nat → ClassId × (Nat → Nat)
  | 0 => d0
  | 1 => d1
  | 2 => d2
  | 3 => d3
  | 4 => d4
  | 5 => d5
  | _ => d6
theorem st_K {s : State} {A : Array Value} (hts : ∀ x ∈ wsL_law, x.before A s = true) (hov : ∀ ty, ty ∈ fb_over → (Cond.arrayOver ty).before #[] s = true) (h0 : (Cond.arrayClass .int).before A s = true) (h1 : (Cond.arrayClass .boolean).before A s = true) (i0 : (Cond.instantiable RX0 2).before A s = true) (i1 : (Cond.instantiable RX1 2).before A s = true) (i2 : (Cond.instantiable RX2 7).before A s = true) (i3 : (Cond.instantiable RX3 8).before A s = true) (i4 : (Cond.instantiable RX4 8).before A s = true) (i6 : (Cond.instantiable RX5 5).before A s = true) (i5 : (Cond.instantiable RJx4a65c 3).before A s = true) : ∃ (D : va_G) (y : Nat → ClassId), va_K D vwCl (fb_ty y) s := by
  obtain ⟨c0, iS0, k0⟩ := u_known (C := RX0) (T := TX0) (N := 2) (n := 2) hts inlX0 i0
  obtain ⟨c1, iS1, k1⟩ := u_known (C := RX1) (T := TX1) (N := 2) (n := 2) hts inlX1 i1
  obtain ⟨c2, iS2, k2⟩ := u_known (C := RX2) (T := TX2) (N := 7) (n := 7) hts inlX2 i2
  obtain ⟨c3, iS3, k3⟩ := u_known (C := RX3) (T := TX3) (N := 8) (n := 8) hts inlX3 i3
  obtain ⟨c4, iS4, k4⟩ := u_known (C := RX4) (T := TX4) (N := 8) (n := 8) hts inlX4 i4
  obtain ⟨c6, iS6, k6⟩ := u_known (C := RX5) (T := TX5) (N := 5) (n := 5) hts inlX5 i6
  obtain ⟨c5, iS5, k5⟩ := u_known (C := RJx4a65c) (T := TJx4a65c) (N := 3) (n := 3) hts inlJx4a65c i5
  obtain ⟨a0, a0a, a0b⟩ := st_prim (t := .int) (fun C h => by cases h) h0
  obtain ⟨a1, a1a, a1b⟩ := st_prim (t := .boolean) (fun C h => by cases h) h1
  obtain ⟨a2, a2a, a2b⟩ := st_obj (C := "FeatherBeds$Heap") (hov _ (by simp [fb_over]))
  obtain ⟨a3, a3a, a3b⟩ := st_obj (C := "java/lang/Object") (hov _ (by simp [fb_over]))
  obtain ⟨a4, a4a, a4b⟩ := st_arr (t := .int) (hov _ (by simp [fb_over]))
  obtain ⟨a5, a5a, a5b⟩ := st_arr (t := .boolean) (hov _ (by simp [fb_over]))
  obtain ⟨a6, a6a, a6b⟩ := st_obj (C := "FeatherBedsLaw$Tick") (hov _ (by simp [fb_over]))
  refine ⟨(fun k => (st_D (c5, iS5) (c0, iS0) (c1, iS1) (c2, iS2) (c3, iS3) (c4, iS4) (c6, iS6) k).1, fun k => (st_D (c5, iS5) (c0, iS0) (c1, iS1) (c2, iS2) (c3, iS3) (c4, iS4) (c6, iS6) k).2), st_y a0 a1 a2 a3 a4 a5 a6, fun k q hq => ?_, fun k q hq => ?_⟩
  · match k, hq with
    | 0, hq => cases hq; exact k5
    | 1, hq => cases hq; exact k0
    | 2, hq => cases hq; exact k1
    | 3, hq => cases hq; exact k2
    | 4, hq => cases hq; exact k3
    | 5, hq => cases hq; exact k4
    | 6, hq => cases hq; exact k6
    | k + 7, hq => simp [vwCl] at hq
  · match k, hq with
    | 0, hq => cases hq; exact ⟨a0a, a0b⟩
    | 1, hq => cases hq; exact ⟨a1a, a1b⟩
    | 2, hq => cases hq; exact ⟨a2a, a2b⟩
    | 3, hq => cases hq; exact ⟨a3a, a3b⟩
    | 4, hq => cases hq; exact ⟨a4a, a4b⟩
    | 5, hq => cases hq; exact ⟨a5a, a5b⟩
    | 6, hq => cases hq; exact ⟨a6a, a6b⟩
    | k + 7, hq => simp [fb_ty] at hq
theorem st_M {s : State} {D : va_G} {y : Nat → ClassId} (hK : va_K D vwCl (fb_ty y) s) (hN : fb_N s) : fb_M D y (fun q : Nat => s.heap.size ≤ q) s ((([], fun _ => 0, fun _ => 0, fun _ => 0, fun _ _ => none) : fb_Sh), (fun _ _ => 0), sT (fun _ _ => 0), (fun _ _ => 0)) s.heap [] :=
  ⟨fun k q h => by simp [fb_wd, fb_map, sR] at h, ⟨fun i j p q h => by simp [fb_wd, fb_map, sR] at h, fun k q h => by simp [fb_wd, fb_map, sR] at h⟩, va_S.rf, hK, fun q h => h, hN⟩
theorem st_len {s : State} {A : Array Value} {t : Term} {a : Addr} (e1 : t.eval A s none [] s = some (.ref a)) (h : (Term.length t).eval A s none [] s = some (.int 0)) : ∃ cell, s.arrayAt? a = some cell ∧ cell.slots.size = 0 := by
  cases hA : s.arrayAt? a with
  | none => simp [Term.eval, e1, hA] at h
  | some cell =>
    simp [Term.eval, e1, hA] at h
    obtain ⟨h1, h2⟩ := h
    refine ⟨cell, rfl, ?_⟩
    have h3 : nI cell.slots.size = nI 0 := h2
    exact (nI_eq (by omega) (by decide)).mp h3
theorem st_Emp {s : State} {A : Array Value} (hA : ∀ a : Nat, a < s.heap.size → ¬ s.heap.size ≤ a) (hl : (Cond.laysStatic RJx4a65c "DEFAULTCAPACITY_EMPTY_ELEMENTDATA" "[Ljava/lang/Object;").before A s = true) (hi : (Cond.initialized RJx4a65c).before A s = true) (h1 : (Cond.exactly (.static RJx4a65c "DEFAULTCAPACITY_EMPTY_ELEMENTDATA" "[Ljava/lang/Object;") "[Ljava/lang/Object;").before A s = true) (h2 : (Cond.arrayOf (.static RJx4a65c "DEFAULTCAPACITY_EMPTY_ELEMENTDATA" "[Ljava/lang/Object;") (.object "java/lang/Object")).before A s = true) (h3 : (Cond.eq (.length (.static RJx4a65c "DEFAULTCAPACITY_EMPTY_ELEMENTDATA" "[Ljava/lang/Object;")) (.int 0)).before A s = true) : ∃ a0, fb_Emp a0 (fun q : Nat => s.heap.size ≤ q) s s.heap := by
  obtain ⟨a, c, cell, k, e1, e2, e3, e4, e5, e6, -⟩ := Cond.exactly_spec h1
  obtain ⟨g1, g2⟩ := Cond.arrayOf_spec h2 e1 e3
  have hlt : a < s.heap.size := (Array.getElem?_eq_some_iff.mp e3).1
  have hlen := Cond.eq_int h3 rfl
  refine ⟨a, va_Zof hl hi e1 hA, hA a hlt, cell, e3, g1, g2, ?_⟩
  obtain ⟨scr, hs1, hs2⟩ := st_len e1 hlen
  obtain ⟨q1, -, -, -⟩ := State.arrayAt?_spec hs1
  rw [e3] at q1
  cases q1
  exact hs2
def st_T (A : Array Value) (s : State) : Prop := (∀ c ∈ flatC (Jvm.Cond.and given_1 narrow_1), c.before A s = true) ∧ ∀ w, w ∈ lw_tbl → w.before A s = true
set_option maxRecDepth 100000 in
theorem st_exc {s : State} {A : Array Value} (h : st_T A s) : (∀ E, E ∈ fb_exc → va_Nw (.castable E E) s) ∧ va_Nw (.castable RX1 "java/lang/Object") s ∧ va_Nw (.castable RX2 "java/lang/Object") s ∧ va_Dc s ∧ ∀ n, n ∈ fb_dcs → va_Nw (.declares ⟨n, "<init>", "(Ljava/lang/String;)V"⟩) s := by
  refine ⟨fun E hE => ?_, va_Nw.of rfl (h.2 (.castable RX1 "java/lang/Object") (by decide +kernel)), va_Nw.of rfl (h.2 (.castable RX2 "java/lang/Object") (by decide +kernel)), va_Dc.of (h.2 _ (by decide +kernel)), fun n hn => ?_⟩
  · simp only [fb_exc, List.mem_cons, List.not_mem_nil, or_false] at hE
    rcases hE with rfl | rfl | rfl
    · exact va_Nw.of rfl (h.2 (.castable "java/lang/IllegalArgumentException" "java/lang/IllegalArgumentException") (by decide +kernel))
    · exact va_Nw.of rfl (h.2 (.castable "java/lang/IllegalStateException" "java/lang/IllegalStateException") (by decide +kernel))
    · exact va_Nw.of rfl (h.2 (.castable "java/lang/IndexOutOfBoundsException" "java/lang/IndexOutOfBoundsException") (by decide +kernel))
  · simp only [fb_dcs, List.mem_cons, List.not_mem_nil, or_false] at hn
    rcases hn with rfl | rfl | rfl
    · exact va_Nw.of rfl (h.2 (.declares ⟨"java/lang/RuntimeException", "<init>", "(Ljava/lang/String;)V"⟩) (by decide +kernel))
    · exact va_Nw.of rfl (h.2 (.declares ⟨"java/lang/Exception", "<init>", "(Ljava/lang/String;)V"⟩) (by decide +kernel))
    · exact va_Nw.of rfl (h.2 (.declares ⟨"java/lang/Throwable", "<init>", "(Ljava/lang/String;)V"⟩) (by decide +kernel))
set_option maxRecDepth 100000 in
theorem st_strs {s : State} {A : Array Value} (h : st_T A s) : ∀ q, q ∈ fb_strs → ∃ a, vk_R RX3 q.1 q.2 a s := by
  intro q hq
  simp only [fb_strs, List.mem_cons, List.not_mem_nil, or_false] at hq
  rcases hq with rfl | rfl | rfl | rfl | rfl | rfl | rfl | rfl | rfl | rfl | rfl
  · obtain ⟨a, c, cell, k, e1, -⟩ := Cond.exactly_spec (h.1 (.exactly (.string "FeatherBeds" 208) "java/lang/String") (by decide +kernel))
    exact ⟨a, vk_R.of (A := A) (h.2 (.stringRef "FeatherBeds" 208 "a number is out of its range") (by decide +kernel)) e1⟩
  · obtain ⟨a, c, cell, k, e1, -⟩ := Cond.exactly_spec (h.1 (.exactly (.string "FeatherBeds" 48) "java/lang/String") (by decide +kernel))
    exact ⟨a, vk_R.of (A := A) (h.2 (.stringRef "FeatherBeds" 48 "no more sacks") (by decide +kernel)) e1⟩
  · obtain ⟨a, c, cell, k, e1, -⟩ := Cond.exactly_spec (h.1 (.exactly (.string "FeatherBeds" 215) "java/lang/String") (by decide +kernel))
    exact ⟨a, vk_R.of (A := A) (h.2 (.stringRef "FeatherBeds" 215 "no such sack") (by decide +kernel)) e1⟩
  · obtain ⟨a, c, cell, k, e1, -⟩ := Cond.exactly_spec (h.1 (.exactly (.string "FeatherBeds" 212) "java/lang/String") (by decide +kernel))
    exact ⟨a, vk_R.of (A := A) (h.2 (.stringRef "FeatherBeds" 212 "there is none of this number") (by decide +kernel)) e1⟩
  · obtain ⟨a, c, cell, k, e1, -⟩ := Cond.exactly_spec (h.1 (.exactly (.string "FeatherBeds" 78) "java/lang/String") (by decide +kernel))
    exact ⟨a, vk_R.of (A := A) (h.2 (.stringRef "FeatherBeds" 78 "more than the sack may have") (by decide +kernel)) e1⟩
  · obtain ⟨a, c, cell, k, e1, -⟩ := Cond.exactly_spec (h.1 (.exactly (.string "FeatherBeds" 217) "java/lang/String") (by decide +kernel))
    exact ⟨a, vk_R.of (A := A) (h.2 (.stringRef "FeatherBeds" 217 "no such chamber") (by decide +kernel)) e1⟩
  · obtain ⟨a, c, cell, k, e1, -⟩ := Cond.exactly_spec (h.1 (.exactly (.string "FeatherBeds" 116) "java/lang/String") (by decide +kernel))
    exact ⟨a, vk_R.of (A := A) (h.2 (.stringRef "FeatherBeds" 116 "no more ticks") (by decide +kernel)) e1⟩
  · obtain ⟨a, c, cell, k, e1, -⟩ := Cond.exactly_spec (h.1 (.exactly (.string "FeatherBeds" 219) "java/lang/String") (by decide +kernel))
    exact ⟨a, vk_R.of (A := A) (h.2 (.stringRef "FeatherBeds" 219 "no such tick") (by decide +kernel)) e1⟩
  · obtain ⟨a, c, cell, k, e1, -⟩ := Cond.exactly_spec (h.1 (.exactly (.string "FeatherBeds" 130) "java/lang/String") (by decide +kernel))
    exact ⟨a, vk_R.of (A := A) (h.2 (.stringRef "FeatherBeds" 130 "no square in this direction") (by decide +kernel)) e1⟩
  · obtain ⟨a, c, cell, k, e1, -⟩ := Cond.exactly_spec (h.1 (.exactly (.string "FeatherBeds" 224) "java/lang/String") (by decide +kernel))
    exact ⟨a, vk_R.of (A := A) (h.2 (.stringRef "FeatherBeds" 224 "no such square") (by decide +kernel)) e1⟩
  · obtain ⟨a, c, cell, k, e1, -⟩ := Cond.exactly_spec (h.1 (.exactly (.string "FeatherBeds" 148) "java/lang/String") (by decide +kernel))
    exact ⟨a, vk_R.of (A := A) (h.2 (.stringRef "FeatherBeds" 148 "both squares are the same") (by decide +kernel)) e1⟩
set_option maxRecDepth 100000 in
theorem st_N {s : State} {A : Array Value} (h : st_T A s) : fb_N s := by
  refine ⟨fun x hx => ?_, fun ty hty => ?_⟩
  · simp only [fb_nest, List.mem_cons, List.not_mem_nil, or_false] at hx
    rcases hx with rfl | rfl | rfl | rfl | rfl | rfl | rfl
    · exact va_Nw.of rfl (h.2 (.fieldLinkNest RX1 26 "FeatherBeds$Heap" "all" "I" "FeatherBeds") (by decide +kernel))
    · exact va_Nw.of rfl (h.2 (.fieldLinkNest RX2 54 "FeatherBeds$Heap" "all" "I" "FeatherBeds") (by decide +kernel))
    · exact va_Nw.of rfl (h.2 (.fieldLinkNest RX3 226 "FeatherBeds$Heap" "all" "I" "FeatherBeds") (by decide +kernel))
    · exact va_Nw.of rfl (h.2 (.fieldLinkNest RX3 122 "FeatherBeds$Tick" "squares" "I" "FeatherBeds") (by decide +kernel))
    · exact va_Nw.of rfl (h.2 (.fieldLinkNest RX3 221 "FeatherBeds$Tick" "heaps" "[LFeatherBeds$Heap;" "FeatherBeds") (by decide +kernel))
    · exact va_Nw.of rfl (h.2 (.fieldLinkNest RX3 66 "FeatherBeds$Sack" "heap" "LFeatherBeds$Heap;" "FeatherBeds") (by decide +kernel))
    · exact va_Nw.of rfl (h.2 (.fieldLinkNest RX3 83 "FeatherBeds$Sack" "damp" "I" "FeatherBeds") (by decide +kernel))
  · simp only [fb_over, List.mem_cons, List.not_mem_nil, or_false] at hty
    rcases hty with rfl | rfl | rfl | rfl | rfl
    · exact h.2 (.arrayOver (.object "FeatherBeds$Heap")) (by decide +kernel)
    · exact h.2 (.arrayOver (.object "java/lang/Object")) (by decide +kernel)
    · exact h.2 (.arrayOver (.array .int)) (by decide +kernel)
    · exact h.2 (.arrayOver (.array .boolean)) (by decide +kernel)
    · exact h.2 (.arrayOver (.object "FeatherBedsLaw$Tick")) (by decide +kernel)
set_option maxRecDepth 100000 in
theorem st_E {s : State} {A : Array Value} (h : st_T A s) : ∃ a0, fb_E a0 (fun q : Nat => s.heap.size ≤ q) s := by
  have hA : ∀ a : Nat, a < s.heap.size → ¬ s.heap.size ≤ a := fun a ha => Nat.not_le.mpr ha
  obtain ⟨mi, hmi⟩ := va_Mi.of (h.1 (.isRef (.mirror "[Ljava/lang/Object;")) (by decide +kernel))
  obtain ⟨x1, x2, x3, x5, x6⟩ := st_exc h
  obtain ⟨a0, hEmp⟩ := st_Emp hA (h.2 (.laysStatic RJx4a65c "DEFAULTCAPACITY_EMPTY_ELEMENTDATA" "[Ljava/lang/Object;") (by decide +kernel)) (h.2 (.initialized RJx4a65c) (by decide +kernel)) (h.1 (.exactly (.static RJx4a65c "DEFAULTCAPACITY_EMPTY_ELEMENTDATA" "[Ljava/lang/Object;") "[Ljava/lang/Object;") (by decide +kernel)) (h.1 (.arrayOf (.static RJx4a65c "DEFAULTCAPACITY_EMPTY_ELEMENTDATA" "[Ljava/lang/Object;") (.object "java/lang/Object")) (by decide +kernel)) (h.1 (.eq (.length (.static RJx4a65c "DEFAULTCAPACITY_EMPTY_ELEMENTDATA" "[Ljava/lang/Object;")) (.int 0)) (by decide +kernel))
  exact ⟨(a0, mi), ⟨x1, st_strs h, x2, x3, hmi, x5, x6⟩, vx_Zqof (h.2 (.laysStatic "java/lang/Throwable" "UNASSIGNED_STACK" "[Ljava/lang/StackTraceElement;") (by decide +kernel)) (h.2 (.initialized "java/lang/Throwable") (by decide +kernel)) (h.1 (.isRef (.static "java/lang/Throwable" "UNASSIGNED_STACK" "[Ljava/lang/StackTraceElement;")) (by decide +kernel)) hA, vx_Zqof (h.2 (.laysStatic "java/lang/Throwable" "SUPPRESSED_SENTINEL" "Ljava/util/List;") (by decide +kernel)) (h.2 (.initialized "java/lang/Throwable") (by decide +kernel)) (h.1 (.isRef (.static "java/lang/Throwable" "SUPPRESSED_SENTINEL" "Ljava/util/List;")) (by decide +kernel)) hA, hEmp⟩
