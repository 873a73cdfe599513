section
-- ===== PART A: goes FIRST, ahead of the names: the tables' words, and 'selects' of the private methods out of them =====
/-- a private method of a class that the tables say can be made, by its rows of tables_1 -/
def lw_okq (q : MethodName × Nat) : Prop := (q.1.cls ≠ "java/lang/invoke/MethodHandle" ∧ q.1.cls ≠ "java/lang/invoke/VarHandle") ∧ Cond.instantiable q.1.cls q.2 ∈ tables_1 ∧ Cond.privateMethod q.1 ∈ tables_1 ∧ Cond.instanceMethod q.1 ∈ tables_1
theorem lw_p0 : lw_okq (⟨"FeatherBeds", "needSack", "(I)LFeatherBeds$Sack;"⟩, 8) := ⟨⟨by decide +kernel, by decide +kernel⟩, List.mem_of_getElem? (i := 23) (by decide +kernel), List.mem_of_getElem? (i := 137) (by decide +kernel), List.mem_of_getElem? (i := 138) (by decide +kernel)⟩
theorem lw_p1 : lw_okq (⟨"java/lang/Throwable", "fillInStackTrace", "(I)Ljava/lang/Throwable;"⟩, 6) := ⟨⟨by decide +kernel, by decide +kernel⟩, List.mem_of_getElem? (i := 183) (by decide +kernel), List.mem_of_getElem? (i := 181) (by decide +kernel), List.mem_of_getElem? (i := 182) (by decide +kernel)⟩
theorem lw_p2 : lw_okq (⟨"FeatherBeds", "needTick", "(I)LFeatherBeds$Tick;"⟩, 8) := ⟨⟨by decide +kernel, by decide +kernel⟩, List.mem_of_getElem? (i := 23) (by decide +kernel), List.mem_of_getElem? (i := 244) (by decide +kernel), List.mem_of_getElem? (i := 245) (by decide +kernel)⟩
theorem lw_p3 : lw_okq (⟨"FeatherBeds", "countTells", "(I)I"⟩, 8) := ⟨⟨by decide +kernel, by decide +kernel⟩, List.mem_of_getElem? (i := 23) (by decide +kernel), List.mem_of_getElem? (i := 365) (by decide +kernel), List.mem_of_getElem? (i := 366) (by decide +kernel)⟩
theorem lw_p4 : lw_okq (⟨"FeatherBeds", "inSacks", "()I"⟩, 8) := ⟨⟨by decide +kernel, by decide +kernel⟩, List.mem_of_getElem? (i := 23) (by decide +kernel), List.mem_of_getElem? (i := 369) (by decide +kernel), List.mem_of_getElem? (i := 370) (by decide +kernel)⟩
theorem lw_p5 : lw_okq (⟨"FeatherBeds", "inChambers", "()I"⟩, 8) := ⟨⟨by decide +kernel, by decide +kernel⟩, List.mem_of_getElem? (i := 23) (by decide +kernel), List.mem_of_getElem? (i := 373) (by decide +kernel), List.mem_of_getElem? (i := 374) (by decide +kernel)⟩
theorem lw_p6 : lw_okq (⟨"FeatherBeds", "inTicks", "()I"⟩, 8) := ⟨⟨by decide +kernel, by decide +kernel⟩, List.mem_of_getElem? (i := 23) (by decide +kernel), List.mem_of_getElem? (i := 377) (by decide +kernel), List.mem_of_getElem? (i := 378) (by decide +kernel)⟩
theorem lw_p7 : lw_okq (⟨"java/util/ArrayList", "add", "(Ljava/lang/Object;[Ljava/lang/Object;I)V"⟩, 3) := ⟨⟨by decide +kernel, by decide +kernel⟩, List.mem_of_getElem? (i := 31) (by decide +kernel), List.mem_of_getElem? (i := 516) (by decide +kernel), List.mem_of_getElem? (i := 517) (by decide +kernel)⟩
theorem lw_p8 : lw_okq (⟨"java/util/ArrayList", "grow", "()[Ljava/lang/Object;"⟩, 3) := ⟨⟨by decide +kernel, by decide +kernel⟩, List.mem_of_getElem? (i := 31) (by decide +kernel), List.mem_of_getElem? (i := 520) (by decide +kernel), List.mem_of_getElem? (i := 521) (by decide +kernel)⟩
theorem lw_p9 : lw_okq (⟨"java/util/ArrayList", "grow", "(I)[Ljava/lang/Object;"⟩, 3) := ⟨⟨by decide +kernel, by decide +kernel⟩, List.mem_of_getElem? (i := 31) (by decide +kernel), List.mem_of_getElem? (i := 524) (by decide +kernel), List.mem_of_getElem? (i := 525) (by decide +kernel)⟩
theorem lw_p10 : lw_okq (⟨"FeatherBeds", "needChamber", "(I)LFeatherBeds$Heap;"⟩, 8) := ⟨⟨by decide +kernel, by decide +kernel⟩, List.mem_of_getElem? (i := 23) (by decide +kernel), List.mem_of_getElem? (i := 644) (by decide +kernel), List.mem_of_getElem? (i := 645) (by decide +kernel)⟩
def lw_privs_1 : List (MethodName × Nat) := [(⟨"FeatherBeds", "needSack", "(I)LFeatherBeds$Sack;"⟩, 8), (⟨"java/lang/Throwable", "fillInStackTrace", "(I)Ljava/lang/Throwable;"⟩, 6), (⟨"FeatherBeds", "needTick", "(I)LFeatherBeds$Tick;"⟩, 8), (⟨"FeatherBeds", "countTells", "(I)I"⟩, 8), (⟨"FeatherBeds", "inSacks", "()I"⟩, 8), (⟨"FeatherBeds", "inChambers", "()I"⟩, 8), (⟨"FeatherBeds", "inTicks", "()I"⟩, 8), (⟨"java/util/ArrayList", "add", "(Ljava/lang/Object;[Ljava/lang/Object;I)V"⟩, 3), (⟨"java/util/ArrayList", "grow", "()[Ljava/lang/Object;"⟩, 3), (⟨"java/util/ArrayList", "grow", "(I)[Ljava/lang/Object;"⟩, 3), (⟨"FeatherBeds", "needChamber", "(I)LFeatherBeds$Heap;"⟩, 8)]
theorem lw_r1 : ∀ q ∈ lw_privs_1, lw_okq q := List.forall_mem_cons.mpr ⟨lw_p0, List.forall_mem_cons.mpr ⟨lw_p1, List.forall_mem_cons.mpr ⟨lw_p2, List.forall_mem_cons.mpr ⟨lw_p3, List.forall_mem_cons.mpr ⟨lw_p4, List.forall_mem_cons.mpr ⟨lw_p5, List.forall_mem_cons.mpr ⟨lw_p6, List.forall_mem_cons.mpr ⟨lw_p7, List.forall_mem_cons.mpr ⟨lw_p8, List.forall_mem_cons.mpr ⟨lw_p9, List.forall_mem_cons.mpr ⟨lw_p10, fun _ h => absurd h List.not_mem_nil⟩⟩⟩⟩⟩⟩⟩⟩⟩⟩⟩
def lw_privs : List (MethodName × Nat) := lw_privs_1
def lw_tbl : List Cond := k2_sels lw_privs ++ tables_1
theorem lw_privs_ok : ∀ q ∈ lw_privs, lw_okq q := lw_r1
/-! ===== BEGIN words of one list among another's, by their places ===== -/
theorem goodIn_r {big : List Cond} (ws : List Cond) (ps : List Nat) (hp : ws = ps.filterMap (fun i => big[i]?)) (h : ws.all goodWord = true) : GoodIn big ws := by
  intro w hw
  have h1 := List.all_eq_true.mp h w hw
  rw [hp] at hw
  obtain ⟨i, -, hi⟩ := List.mem_filterMap.mp hw
  have hm : w ∈ big := by first | exact List.mem_of_getElem? hi | exact List.getElem?_mem hi
  exact ⟨hm, good_of_word h1⟩
theorem goodIn_app {big a b : List Cond} (ha : GoodIn big a) (hb : GoodIn big b) : GoodIn big (a ++ b) := fun w h => (List.mem_append.mp h).elim (ha w) (hb w)
theorem goodIn_ca {big a b : List Cond} {c : Cond} (ha : GoodIn big (c :: a)) (hb : GoodIn big b) : GoodIn big (c :: (a ++ b)) := fun w h => (List.mem_cons.mp h).elim (fun e => ha w (List.mem_cons.mpr (Or.inl e))) (fun h => (List.mem_append.mp h).elim (fun h => ha w (List.mem_cons.mpr (Or.inr h))) (hb w))
theorem goodIn_sub {big ws : List Cond} (hm : ∀ w ∈ ws, w ∈ big) (h : ws.all goodWord = true) : GoodIn big ws := fun w hw => ⟨hm w hw, good_of_word (List.all_eq_true.mp h w hw)⟩
/-! ===== END ===== -/

/-- an array over arrays of t can be made -/
def va_AOA (t : FieldType) (U : State) : Prop := (Cond.arrayOver (.array t)).before #[] U = true
theorem va_AOA.use {t : FieldType} {A : Array Value} {U : State} (h : va_AOA t U) : (Cond.arrayOver (.array t)).before A U = true := h

/-! ===== BEGIN new T[n][m]: the outer array a place, the inner ones among the pooled ===== -/
/-- f, but v at every address of l -/
def vr_up {α : Type} (f : Nat → α) (l : List Nat) (v : α) : Nat → α := fun a => if a ∈ l then v else f a
theorem vr_up_in {α : Type} {f : Nat → α} {l : List Nat} {v : α} {a : Nat} (h : a ∈ l) : vr_up f l v a = v := if_pos h
theorem vr_up_ne {α : Type} {f : Nat → α} {l : List Nat} {v : α} {a : Nat} (h : a ∉ l) : vr_up f l v a = f a := if_neg h
theorem vr_rows {L l : List Nat} {f : Nat → va_E} {e : va_E} (h : ∀ a, a ∈ l → a ∉ L) : va_pl L f ++ l.map (fun a => (a, e)) = va_pl (L ++ l) (vr_up f l e) := by
  unfold va_pl
  rw [List.map_append]
  congr 1
  · apply List.map_congr_left
    intro a ha
    rw [vr_up_ne (fun q => h a q ha)]
  · apply List.map_congr_left
    intro a ha
    rw [vr_up_in ha]
theorem vr_lay {X rows : va_W} {x : Nat × va_E} {pl : va_W} {D : va_G} {cl : List vw_C} {H : Heap} (hP : va_P D cl (((X ++ pl) ++ [x]) ++ rows) H) : va_P D cl ((X ++ [x]) ++ (pl ++ rows)) H := by
  rw [List.append_assoc (X ++ pl)] at hP
  have h := va_P.swap hP
  rw [← List.append_assoc X] at h
  have h2 := va_P.swap h
  rw [List.append_assoc (X ++ [x])] at h2
  exact h2
theorem vr_layD {X rows : va_W} {x : Nat × va_E} {pl : va_W} {A : Nat → Prop} (hD : va_D A (((X ++ pl) ++ [x]) ++ rows)) : va_D A ((X ++ [x]) ++ (pl ++ rows)) := by
  rw [List.append_assoc (X ++ pl)] at hD
  have h := va_D.swap hD
  rw [← List.append_assoc X] at h
  have h2 := va_D.swap h
  rw [List.append_assoc (X ++ [x])] at h2
  exact h2
theorem vr_outer (c : ClassId) (N h0 : Nat) : ∀ i : Nat, Jvm.Free.Multi.outerC c N h0 i = arrV c N (fun j => va_rf (if j < i then some (h0 + 1 + j) else none))
  | 0 => by
    show ({ cls := c, slots := Array.replicate N .null, vm := .none } : Cell) = _
    rw [arrV_new]
    refine congrArg (arrV c N) (funext fun j => ?_)
    simp [va_rf]
  | i + 1 => by
    show (Jvm.Free.Multi.outerC c N h0 i).setSlot i (.ref (h0 + 1 + i)) = _
    rw [vr_outer c N h0 i, arrV_store]
    refine congrArg (arrV c N) (funext fun j => ?_)
    by_cases e : j = i
    · subst e
      simp [updV, va_rf]
    · by_cases h : j < i
      · simp [updV, e, h, Nat.lt_succ_of_lt h]
      · simp [updV, e, h, show ¬ j < i + 1 by omega]
section VGM
variable {p : Program} {l : Launch} {e : Env} {R : Room} {s : State} {m : MethodId} {args : Array Value} {below : List Frame} {meth : Method} {c : Code} {H : Heap} {locs : List Loc} {cells slots : Nat} {Q : State → Prop}
variable {cc : ByteArray} {pc : Nat} {ls : Array Slot} {rest : List Value} {D : va_G} {cl : List vw_C} {A : Nat → Prop} {a : Nat} {tys : List (ClassId × FieldType)} {ws : va_W} {H0 : Heap}
theorem va_mna {X : va_W} {L : List Nat} {f : Nat → va_E} {cc : ByteArray} (hexec : p.tables.exec = Jvm.exec) (hb : c.code = cc) {own : String} {index : Nat} {ty : FieldType} {cy : ClassId} (hown : s.vm.findClass own = some m.cls) (hclink : (Cond.classLink own index ("[" ++ (FieldType.array ty).toString)).before args s = true) (hover : va_AOA ty s) (harr : (Cond.arrayClass ty).before args s = true) (hcy : s.vm.findClass (FieldType.array ty).toString = some cy)
    (hK : va_K D cl tys s) (hP : va_P D cl (X ++ va_pl L f) H) (hD : va_D A (X ++ va_pl L f)) (hS : va_S A H0 H locs) (hA : ∀ q, H0.size ≤ q → A q) {n k : Int32} {N' K' : Nat} {z : vp_A} (hn : ¬ n < 0) (hk : ¬ k < 0) (hN : n.toNatClampNeg = N') (hM : k.toNatClampNeg = K')
    (hb1 : N' * 4 ≤ 536870912) (hb2 : K' * componentBytes ty ≤ 536870912) (hb3 : K' ≤ 536870912) (hdf : fits ty (defaultValue ty) = true) (hdd : (defaultValue ty).isDefault = true) (hcells : cells + (1 + N') ≤ R.cells) (hslots : slots + (N' + N' * K') ≤ R.slots) (hz : ∀ c : ClassId, Jvm.Free.Multi.innerC c K' (defaultValue ty) = vp_cell c z) (hdg : decode cc pc = .ok (.multianewarray index 2, 4))
    (kk : ∀ (q : Nat) (r : Nat → Nat) (cA : ClassId) (H1 : Heap), (∀ i j : Nat, i < N' → j < N' → r i = r j → i = j) → (∀ i : Nat, i < N' → r i ∉ L) → va_K D cl (tys ++ [(cA, .array ty)]) s →
      va_P D cl ((X ++ [(q, .inl (cA, N', .inr (.inr (.inr (.inr (fun i => if i < N' then some (r i) else none))))))]) ++ va_pl (L ++ (List.range N').map r) (vr_up f ((List.range N').map r) (.inl (cy, z)))) H1 → va_D A ((X ++ [(q, .inl (cA, N', .inr (.inr (.inr (.inr (fun i => if i < N' then some (r i) else none))))))]) ++ va_pl (L ++ (List.range N').map r) (vr_up f ((List.range N').map r) (.inl (cy, z)))) → va_S A H0 H1 locs →
      W p l e R s m args below meth c H1 locs (cells + 1 + N') (slots + N' + N' * K') Q (F0 m (pc + 4) ls (.ref q :: rest))) : W p l e R s m args below meth c H locs cells slots Q (F0 m pc ls (.int k :: .int n :: rest)) := by
  subst hN
  subst hM
  intro T hT Xs
  obtain ⟨vm₁, cA, comp, -, fA, fC, hO, -, X', step⟩ := Xs.multianewarray2F hexec hown hclink (va_AOA.use hover) harr (g := F0 m pc ls (.int k :: .int n :: rest)) rfl (by rw [hb]; exact hdg) rfl hn hk hb1 hb2 hb3 hdf hdd hcells hslots
  have ec : some cy = some comp := hcy.symm.trans fC
  cases ec
  generalize hF : Jvm.Free.Multi.fill (T.setVm vm₁) cA cy n.toNatClampNeg k.toNatClampNeg (defaultValue ty) n.toNatClampNeg = F at X' step
  have hTh : (T.setVm vm₁).heap = H := hT
  obtain ⟨f1, f2, -, -⟩ := Jvm.Free.Multi.fill_facts (T.setVm vm₁) cA cy n.toNatClampNeg k.toNatClampNeg (defaultValue ty) n.toNatClampNeg
  rw [hF, hTh] at f1 f2
  have hold : ∀ x : Nat, x < H.size → F.heap[x]? = H[x]? := fun x hx => by
    have := Jvm.Free.Multi.fill_old (T.setVm vm₁) cA cy n.toNatClampNeg k.toNatClampNeg (defaultValue ty) (a := x) (by rw [hTh]; exact hx) n.toNatClampNeg
    rw [hF, hTh] at this
    exact this
  have hrow : ∀ j : Nat, j < n.toNatClampNeg → F.heap[H.size + 1 + j]? = some (vp_cell cy z) := fun j hj => by
    have := Jvm.Free.Multi.fill_inner (T.setVm vm₁) cA cy n.toNatClampNeg k.toNatClampNeg (defaultValue ty) n.toNatClampNeg j hj
    rw [hF, hTh, hz] at this
    exact this
  have hout : Jvm.Free.Multi.outerC cA n.toNatClampNeg H.size n.toNatClampNeg = vp_cell cA (n.toNatClampNeg, .inr (.inr (.inr (.inr (fun i => if i < n.toNatClampNeg then some (H.size + 1 + i) else none))))) := by
    rw [vp_cell_q]
    exact vr_outer cA n.toNatClampNeg H.size n.toNatClampNeg
  rw [hout] at f2
  have hlt : ∀ a, a ∈ L → a < H.size := fun a ha => by
    obtain ⟨k9, hk9⟩ := va_pl_get (X := X) (f := f) ha
    exact (hP k9 _ hk9).lt
  have hnl : ∀ i : Nat, i < n.toNatClampNeg → H.size + 1 + i ∉ L := fun i _ h => by
    have := hlt _ h
    omega
  have hnm : ∀ a, a ∈ (List.range n.toNatClampNeg).map (fun i => H.size + 1 + i) → a ∉ L := fun a ha h => by
    obtain ⟨i, -, rfl⟩ := List.mem_map.mp ha
    have := hlt _ h
    omega
  have hP0 : va_P D cl (X ++ va_pl L f) F.heap := hP.kept (fun k9 x hx => hold x.1 ((hP k9 x hx).lt))
  have hP1 : va_P D cl ((X ++ va_pl L f) ++ [(H.size, .inl (cA, n.toNatClampNeg, .inr (.inr (.inr (.inr (fun i => if i < n.toNatClampNeg then some (H.size + 1 + i) else none))))))]) F.heap := hP0.app (fun k9 x hx => by
    have h0 : k9 < 1 := (List.getElem?_eq_some_iff.mp hx).1
    rw [show k9 = 0 by omega] at hx
    cases hx
    exact f2)
  have hP2 : va_P D cl (((X ++ va_pl L f) ++ [(H.size, .inl (cA, n.toNatClampNeg, .inr (.inr (.inr (.inr (fun i => if i < n.toNatClampNeg then some (H.size + 1 + i) else none))))))]) ++ ((List.range n.toNatClampNeg).map (fun i => H.size + 1 + i)).map (fun a => (a, .inl (cy, z)))) F.heap := hP1.app (fun k9 x hx => by
    obtain ⟨a, ha, rfl⟩ := List.mem_map.mp (List.mem_of_getElem? hx)
    obtain ⟨i, hi, rfl⟩ := List.mem_map.mp ha
    exact hrow i (List.mem_range.mp hi))
  have hD2 : va_D A (((X ++ va_pl L f) ++ [(H.size, .inl (cA, n.toNatClampNeg, .inr (.inr (.inr (.inr (fun i => if i < n.toNatClampNeg then some (H.size + 1 + i) else none))))))]) ++ ((List.range n.toNatClampNeg).map (fun i => H.size + 1 + i)).map (fun a => (a, .inl (cy, z)))) := by
    have hD1 := hD.push (e := .inl (cA, n.toNatClampNeg, .inr (.inr (.inr (.inr (fun i => if i < n.toNatClampNeg then some (H.size + 1 + i) else none)))))) hP rfl (hA _ hS.1)
    generalize hW1 : (X ++ va_pl L f) ++ [(H.size, .inl (cA, n.toNatClampNeg, .inr (.inr (.inr (.inr (fun i => if i < n.toNatClampNeg then some (H.size + 1 + i) else none))))))] = W1 at hD1 hP1 ⊢
    have hle : ∀ (k9 : Nat) (x : Nat × va_E), W1[k9]? = some x → x.1 ≤ H.size := fun k9 x hx => by
      rw [← hW1] at hx
      by_cases hl : k9 < (X ++ va_pl L f).length
      · rw [List.getElem?_append_left hl] at hx
        exact Nat.le_of_lt ((hP k9 x hx).lt)
      · rw [List.getElem?_append_right (by omega)] at hx
        have h0 : k9 - (X ++ va_pl L f).length < 1 := (List.getElem?_eq_some_iff.mp hx).1
        rw [show k9 - (X ++ va_pl L f).length = 0 by omega] at hx
        cases hx
        exact Nat.le_refl _
    have hr : ∀ (k9 : Nat) (x : Nat × va_E), (((List.range n.toNatClampNeg).map (fun i => H.size + 1 + i)).map (fun a => ((a, .inl (cy, z)) : Nat × va_E)))[k9]? = some x → x.1 = H.size + 1 + k9 := fun k9 x hx => by
      rw [List.getElem?_map, List.getElem?_map] at hx
      by_cases h9 : k9 < n.toNatClampNeg
      · rw [List.getElem?_range h9] at hx
        cases hx
        rfl
      · have hn0 : (List.range n.toNatClampNeg)[k9]? = none := List.getElem?_eq_none (by rw [List.length_range]; omega)
        rw [hn0] at hx
        cases hx
    refine ⟨fun i j x y hi hj hxy => ?_, fun k9 x hx => ?_⟩
    · by_cases h1 : i < W1.length <;> by_cases h2 : j < W1.length
      · rw [List.getElem?_append_left h1] at hi
        rw [List.getElem?_append_left h2] at hj
        exact hD1.1 i j x y hi hj hxy
      · rw [List.getElem?_append_left h1] at hi
        rw [List.getElem?_append_right (by omega)] at hj
        have := hle _ _ hi
        have := hr _ _ hj
        omega
      · rw [List.getElem?_append_right (by omega)] at hi
        rw [List.getElem?_append_left h2] at hj
        have := hle _ _ hj
        have := hr _ _ hi
        omega
      · rw [List.getElem?_append_right (by omega)] at hi hj
        have := hr _ _ hi
        have := hr _ _ hj
        omega
    · by_cases h1 : k9 < W1.length
      · rw [List.getElem?_append_left h1] at hx
        exact hD1.2 k9 x hx
      · rw [List.getElem?_append_right (by omega)] at hx
        have := hr _ _ hx
        exact hA _ (by have := hS.1; omega)
  have hAr : ArrOfT s cA (.array ty) := fun N9 z9 => by
    obtain ⟨-, k9, hk9, cm9, hkk9⟩ := (hO 0 0 0).1
    exact ⟨(fun q hq => by cases hq), k9, hk9, cm9, hkk9⟩
  have hK2 : va_K D cl (tys ++ [(cA, .array ty)]) s := ⟨hK.1, fun k9 x hx => by
    by_cases hl : k9 < tys.length
    · rw [List.getElem?_append_left hl] at hx
      exact hK.2 k9 x hx
    · rw [List.getElem?_append_right (by omega)] at hx
      have h0 : k9 - tys.length < 1 := (List.getElem?_eq_some_iff.mp hx).1
      rw [show k9 - tys.length = 0 by omega] at hx
      cases hx
      exact ⟨hAr, fA⟩⟩
  obtain ⟨t, a1, b1⟩ := kk H.size (fun i => H.size + 1 + i) cA F.heap (fun i j _ _ h => by have h9 : H.size + 1 + i = H.size + 1 + j := h; omega) hnl hK2 (by rw [← vr_rows hnm]; exact vr_lay hP2) (by rw [← vr_rows hnm]; exact vr_layD hD2) ⟨by rw [f1]; have := hS.1; omega, fun x h1 h2 => (hold x (Nat.lt_of_lt_of_le h1 hS.1)).trans (hS.2.1 x h1 h2), hS.2.2⟩ F rfl X'
  refine ⟨t, step t ?_, b1⟩
  have e : T.heap.size = H.size := by rw [hT]
  rw [e]
  exact a1
end VGM
/-! ===== END ===== -/

/-! ===== BEGIN exceptions that leave a method, and their catching by the caller (launches without stack traces) ===== -/
section VXA
/-! The laws vx_back, vx_callV, vx_callS, vx_callSW, vx_throw0, vx_throwS follow proofs of the library, with one case more: JvmDerived/Free/Laws.lean (Back.of_free), Shelf42/LK1.lean (callV, callS), Shelf/KitTraced.lean (throwNew0V, throwNewS). -/
/-- where a method has thrown q: the class by its name, the cell, what was written, the world -/
def vx_T (XC : String → State → State → Prop) (st : State) (q : Addr) (t : State) (mc ms : Nat) (free : Addr → Prop) : Prop :=
  ∃ (E : String) (ce : Cell) (L : List Loc), XC E st t ∧ t.heap[q]? = some ce ∧ ce.vm = .none ∧ st.vm.findClass E = some ce.cls ∧ st.WarmedH t.vm ∧ st.sameButNew ({ t with vm := st.vm } : State) L mc ms ∧ ∀ z ∈ L, free z.base
def vx_Q (Qc : Array Value → State → Outcome → State → Prop) (XC : String → State → State → Prop) (mc ms : Nat) (free : Addr → Prop) : Array Value → State → Outcome → State → Prop := fun a st o t =>
  (Qc a st o t ∧ ∃ L, FrameEnd st o t L mc ms ∧ ∀ q ∈ L, free q.base) ∨ ∃ q, o = .threw q ∧ vx_T XC st q t mc ms free
/-- a callee that returns or throws -/
def vx_Met (l : Launch) (y : MethodName) (ws : List Cond) (rm : Room) (Pc : Array Value → State → Prop) (Qc : Array Value → State → Outcome → State → Prop) (XC : String → State → State → Prop) (mc ms : Nat) (free : Addr → Prop) : Prop :=
  MetFree l y (headSpec ws rm) Pc (fun _ _ _ _ _ => True) (vx_Q Qc XC mc ms free)
def vx_Post (XC : String → State → State → Prop) (mc ms : Nat) (free : Addr → Prop) : Pt → Array Value → Addr → Pt → Prop := fun A a q B =>
  ∃ (g : JFrame) (mk : MethodId) (t : State) (L : List Loc) (E : String) (ce : Cell), B.U.heap = t.heap ∧ B.U.vm = t.vm ∧ XC E (A.U.calling g mk a) t ∧ t.heap[q]? = some ce ∧ ce.vm = .none ∧ A.U.vm.findClass E = some ce.cls ∧ B.locs = A.locs ++ L ∧ (∀ z ∈ L, free z.base) ∧ B.cells = A.cells + mc ∧ B.slots = A.slots + ms
def vx_Back (l : Launch) (R : Room) (p : Program) (e : Env) (below : List Frame) (s : State) (sargs : Array Value) (y : MethodName) (len W9 : Nat)
    (Pre : Pt → Array Value → Prop) (Post : Pt → Array Value → Option Value → Pt → Prop) (PostX : Pt → Array Value → Addr → Pt → Prop) : Prop :=
  ∀ (m : MethodId) (meth : Method) (c : Code) (A : Pt) (g : JFrame) (ig : Instr) (mk : MethodId) (a : Array Value),
    Stand p l e R s m sargs below meth c A.U A.locs A.cells A.slots → g.method = m → g.locals.size = c.maxLocals → decode c.code g.pc = .ok (ig, len) →
    2 * g.monitorRoom + (g.stack.map fun v => v.category).sum ≤ W9 → A.U.methodNamed? y = some mk → Pre A a →
    (∃ (v : Option Value) (B : Pt), Stand p l e R s m sargs below meth c B.U B.locs B.cells B.slots ∧ Post A a v B ∧
      Steps p.tables e below (doInvoke e (A.U.setTop g) [] mk a).1 (B.U.setTop { g with pc := g.pc + len, stack := v.toList ++ g.stack })) ∨
    (∃ (q : Addr) (B : Pt), Stand p l e R s m sargs below meth c B.U B.locs B.cells B.slots ∧ PostX A a q B ∧
      Steps p.tables e below (doInvoke e (A.U.setTop g) [] mk a).1 ((B.U.setTop g).pushFrame (.throwing q)))
section Payer
variable {l : Launch} {R : Room} {p : Program} {e : Env} {below : List Frame} {s : State} {sargs : Array Value} {y : MethodName} {len W9 : Nat}
theorem vx_back {ws : List Cond} {rm : Room} {Pc : Array Value → State → Prop} {Qc : Array Value → State → Outcome → State → Prop} {XC : String → State → State → Prop} {mc ms : Nat} {free : Addr → Prop} {bytes : ByteArray} {maxL : Nat} {ret : Option FieldType}
    (hM : vx_Met l y ws rm Pc Qc XC mc ms free) (hblind : FrameBlind Pc) (hrc : rm.cells = mc) (hrs : rm.slots = ms)
    (hframes : rm.frames + 1 ≤ R.frames) (hlocals : W9 + (maxL + 11) + rm.locals ≤ R.locals)
    (hws : ∀ w ∈ ws, ∀ a' U, s.WarmedH U.vm → w.before a' U = true) (hcode : Cond.code y bytes maxL ret ∈ ws) (hinit : ∀ a' U, s.WarmedH U.vm → (Cond.initialized y.cls).before a' U = true) :
    vx_Back l R p e below s sargs y len W9 (PreOf R mc ms Pc) (PostOf Qc mc ms free) (vx_Post XC mc ms free) := by
  intro m meth c A g ig mk a X hg hsize hdg hW hn hp
  have h1 : (headSpec ws rm).pre.before a A.U = true := atoms_intro fun w hw => hws w hw _ _ X.warmed
  have h2 : (Cond.code y bytes maxL ret).before a A.U = true := hws _ hcode _ _ X.warmed
  have h3 : (Cond.initialized y.cls).before a A.U = true := hinit _ _ X.warmed
  have h4 : A.cells + (headSpec ws rm).room.cells ≤ R.cells := by rw [show (headSpec ws rm).room.cells = mc from hrc]; exact hp.1
  have h5 : A.slots + (headSpec ws rm).room.slots ≤ R.slots := by rw [show (headSpec ws rm).room.slots = ms from hrs]; exact hp.2.1
  have hPc : Pc a (A.U.calling g mk a) := hblind _ _ _ _ hp.2.2
  obtain ⟨U, Ls, c0, s0⟩ := A
  dsimp only [Pt.U, Pt.locs, Pt.cells, Pt.slots] at h1 h2 h3 h4 h5 X hn hPc ⊢
  obtain ⟨methY, cY, hmY, hcY, -, hlY, -, -, -, -⟩ := Cond.code_spec hn h2
  obtain ⟨kY, hkY, -⟩ := className_of_methodNamed hn
  have hinitY : kY.init = .initialized := Cond.initialized_spec (findClass_of_methodNamed hn) hkY h3
  have h : At U g.method c below := by rw [hg]; exact X.here
  have hlocals9 : W9 + (maxL + 11) + (headSpec ws rm).room.locals ≤ R.locals := hlocals
  have happ : (headSpec ws rm).appliesLoose y e.platform (U.calling g mk a) = true :=
    Spec.appliesLoose_calling (g := g) h hdg hn hkY hinitY
      (X.room_calling (g := g) (R' := (headSpec ws rm).room) hsize hmY hcY hframes (by rw [hlY]; omega) h4 h5) h1
  obtain ⟨mid, hmid⟩ := h.above
  have hfr : (U.setTop g).frames = (.java g :: mid) ++ below := by rw [State.frames_setTop' g h.top, hmid]; rfl
  obtain ⟨o, s₂, hsteps, -, hend, hq⟩ := Steps.callFree hM p X.admits X.cas X.clock (acts := []) hfr happ hPc trivial
  have hq' : vx_Q Qc XC mc ms free a (U.calling g mk a) o s₂ := hq
  rw [State.frames_setTop' g h.top] at hend
  obtain ⟨g₀, hg0⟩ := Option.isSome_iff_exists.mp h.top
  obtain ⟨r, hr⟩ := State.topJava?_eq_some.mp hg0
  have hr' : (({ U with heap := s₂.heap, slotsUsed := s₂.slotsUsed } : State).setVm s₂.vm).frames = .java g₀ :: r := hr
  rcases hq' with ⟨hqc, L, hfe, hL⟩ | ⟨q, rfl, E, ce, L, hx, hce, hcv, hcl, hW₂, hsm, hL⟩
  · obtain ⟨⟨v, rfl⟩, hW₂, e2, q2, q3, q4, q5, q6⟩ := id hfe
    have e3 : s₂ = ({ (U.calling g mk a).setFrames s₂.frames with heap := s₂.heap, slotsUsed := s₂.slotsUsed } : State).setVm s₂.vm := by
      have : s₂ = ({ s₂ with vm := (U.calling g mk a).vm } : State).setVm s₂.vm := rfl
      rw [e2] at this
      exact this
    obtain ⟨c₂, i₂, len₂, hc₂, hd₂, hf₂⟩ := hend
    have hW' : U.WarmedH s₂.vm := hW₂
    have hcc : c₂ = c := by
      have h1 : s₂.code? g.method = U.code? g.method := by
        rw [State.code?_eq, State.code?_eq, hW'.alike.method?]
      exact Option.some.inj (hc₂.symm.trans (h1.trans h.code))
    subst hcc
    have hlen : len₂ = len := by rw [hdg] at hd₂; cases hd₂; rfl
    subst hlen
    have hs₂ : s₂ = (({ U with heap := s₂.heap, slotsUsed := s₂.slotsUsed } : State).setVm s₂.vm).setTop { g with pc := g.pc + len₂, stack := v.toList ++ g.stack } := by
      refine e3.trans ?_
      rw [hf₂, State.calling_eq h.top, State.setFrames_setFrames, State.setTop_of_frames _ hr', hr]
      rfl
    have hsame : U.sameButNew ({ U with heap := s₂.heap, slotsUsed := s₂.slotsUsed } : State) L mc ms := by
      refine ⟨?_, q2, q3, q4, q5, q6⟩
      obtain ⟨t, ht, -⟩ := State.frames_cons hr
      show ({ U with heap := s₂.heap, slotsUsed := s₂.slotsUsed } : State) = { U.setFrames U.frames with heap := s₂.heap, slotsUsed := s₂.slotsUsed }
      rw [State.setFrames_self ht]
    subst hg
    refine Or.inl ⟨v, ⟨(({ U with heap := s₂.heap, slotsUsed := s₂.slotsUsed } : State).setVm s₂.vm), Ls ++ L, c0 + mc, s0 + ms⟩,
      ⟨X.admits, X.cas, X.clock, X.frames, X.room, X.hears, X.method, X.code, (X.here.setHeapUsed s₂.heap s₂.slotsUsed).setVm hW'.alike, X.tail, State.WarmedH.trans X.warmed hW', X.limits, X.bytes, X.same.trans (hsame.setVm s.vm)⟩,
      ⟨g, mk, s₂, L, rfl, rfl, hqc, rfl, hL, rfl, rfl⟩, ?_⟩
    show Steps p.tables e below _ ((({ U with heap := s₂.heap, slotsUsed := s₂.slotsUsed } : State).setVm s₂.vm).setTop { g with pc := g.pc + len₂, stack := v.toList ++ g.stack })
    rw [← hs₂]
    exact hsteps
  · obtain ⟨e2, q2, q3, q4, q5, q6⟩ := id hsm
    have e3 : s₂ = ({ (U.calling g mk a).setFrames s₂.frames with heap := s₂.heap, slotsUsed := s₂.slotsUsed } : State).setVm s₂.vm := by
      have : s₂ = ({ s₂ with vm := (U.calling g mk a).vm } : State).setVm s₂.vm := rfl
      rw [e2] at this
      exact this
    have hf₂ : s₂.frames = .throwing q :: .java g :: U.frames.tail := hend
    have hW' : U.WarmedH s₂.vm := hW₂
    have hs₂ : s₂ = ((({ U with heap := s₂.heap, slotsUsed := s₂.slotsUsed } : State).setVm s₂.vm).setTop g).pushFrame (.throwing q) := by
      refine e3.trans ?_
      rw [hf₂, State.calling_eq h.top, State.setFrames_setFrames, State.pushFrame, State.frames_setTop _ hr', State.setTop_of_frames _ hr', State.setFrames_setFrames, hr]
      rfl
    have hsame : U.sameButNew ({ U with heap := s₂.heap, slotsUsed := s₂.slotsUsed } : State) L mc ms := by
      refine ⟨?_, q2, q3, q4, q5, q6⟩
      obtain ⟨t, ht, -⟩ := State.frames_cons hr
      show ({ U with heap := s₂.heap, slotsUsed := s₂.slotsUsed } : State) = { U.setFrames U.frames with heap := s₂.heap, slotsUsed := s₂.slotsUsed }
      rw [State.setFrames_self ht]
    subst hg
    refine Or.inr ⟨q, ⟨(({ U with heap := s₂.heap, slotsUsed := s₂.slotsUsed } : State).setVm s₂.vm), Ls ++ L, c0 + mc, s0 + ms⟩,
      ⟨X.admits, X.cas, X.clock, X.frames, X.room, X.hears, X.method, X.code, (X.here.setHeapUsed s₂.heap s₂.slotsUsed).setVm hW'.alike, X.tail, State.WarmedH.trans X.warmed hW', X.limits, X.bytes, X.same.trans (hsame.setVm s.vm)⟩,
      ⟨g, mk, s₂, L, E, ce, rfl, rfl, hx, hce, hcv, hcl, rfl, hL, rfl, rfl⟩, ?_⟩
    show Steps p.tables e below _ (((({ U with heap := s₂.heap, slotsUsed := s₂.slotsUsed } : State).setVm s₂.vm).setTop g).pushFrame (.throwing q))
    rw [← hs₂]
    exact hsteps
end Payer
section Calls
variable {p : Program} {l : Launch} {e : Env} {R : Room} {s : State} {m : MethodId} {args : Array Value} {below : List Frame} {meth : Method} {c : Code} {T : State} {locs : List Loc} {cells slots : Nat}
theorem vx_callV (X : Stand p l e R s m args below meth c T locs cells slots) (hexec : p.tables.exec = Jvm.exec) {own C : String} {index : Nat} {y : MethodName} {bytes : ByteArray} {maxL : Nat} {ret : Option FieldType}
    (hown : s.vm.findClass own = some m.cls) (hlink : (Cond.methodLink own index y).before args s = true) (hinst : (Cond.instanceMethod y).before args s = true) (hsel : (Cond.selects C y y).before args s = true)
    (hcode : (Cond.code y bytes maxL ret).before args s = true) (hy : y.cls ≠ "java/lang/invoke/MethodHandle" ∧ y.cls ≠ "java/lang/invoke/VarHandle")
    {W9 : Nat} {Pre : Pt → Array Value → Prop} {Post : Pt → Array Value → Option Value → Pt → Prop} {PostX : Pt → Array Value → Addr → Pt → Prop} (hK : vx_Back l R p e below s args y 3 W9 Pre Post PostX)
    {b : Addr} {cellB : Cell} (hcell : T.heap[b]? = some cellB) (hobj : cellB.vm.isStatics = false) (hcls : s.vm.findClass C = some cellB.cls)
    {g : JFrame} (hg : g.method = m) (hsize : g.locals.size = c.maxLocals) {argsL rest : List Value} (hlen : ∀ sig, parseMethodDescriptor y.desc = some sig → argsL.length = sig.parameters.length)
    (hstack : g.stack = argsL.reverse ++ .ref b :: rest) (hW : 2 * g.monitorRoom + (rest.map fun v => v.category).sum ≤ W9) (hdg : decode c.code g.pc = .ok (.invokevirtual index, 3))
    (hpre : ∀ vm₁, s.WarmedH vm₁ → Pre ⟨T.setVm vm₁, locs, cells, slots⟩ (Value.ref b :: argsL).toArray) :
    (∃ (v : Option Value) (vm₁ : Vm) (B : Pt), s.WarmedH vm₁ ∧ Stand p l e R s m args below meth c B.U B.locs B.cells B.slots ∧ Post ⟨T.setVm vm₁, locs, cells, slots⟩ (Value.ref b :: argsL).toArray v B ∧
      ∀ target, Steps p.tables e below (B.U.setTop { g with pc := g.pc + 3, stack := v.toList ++ rest }) target → Steps p.tables e below (T.setTop g) target) ∨
    (∃ (q : Addr) (vm₁ : Vm) (B : Pt), s.WarmedH vm₁ ∧ Stand p l e R s m args below meth c B.U B.locs B.cells B.slots ∧ PostX ⟨T.setVm vm₁, locs, cells, slots⟩ (Value.ref b :: argsL).toArray q B ∧
      Steps p.tables e below (T.setTop g) ((B.U.setTop { g with stack := rest }).pushFrame (.throwing q))) := by
  obtain ⟨mk, methM, hnamed, hmethM, hstM, habM⟩ := Cond.instanceMethod_spec hinst
  obtain ⟨methM', cM, hmethM', -, -, -, -, -, -, hsigM⟩ := Cond.code_spec hnamed hcode
  cases hmethM.symm.trans hmethM'
  obtain ⟨c2, r2, m2, q1, q2, q3, q4, kP, hkP, hkPi⟩ := Cond.selects_spec hsel
  cases hcls.symm.trans q1
  cases (State.methodFound?_of_named hnamed hy).symm.trans q2
  cases hnamed.symm.trans q3
  have hselP : selectMethod e.platform s.vm cellB.cls mk = .method mk := by rw [Launch.admits_selectMethod X.admits]; exact q4
  obtain ⟨vm₁, X₁, hstep₁⟩ := X.invokevirtual hexec hown hlink hnamed hmethM hstM hkP hkPi hy (a := b) (cell := cellB) hcell
    (fun z h => by rw [h] at hobj; cases hobj) hselP hmethM habM hkP hkPi (g := g) hg (argsL := argsL) (rest := rest) (hlen _ hsigM) hstack hdg
  rcases hK m meth c ⟨T.setVm vm₁, locs, cells, slots⟩ { g with stack := rest } (.invokevirtual index) mk (Value.ref b :: argsL).toArray X₁ hg hsize hdg hW (X₁.named hnamed) (hpre vm₁ X₁.warmed) with ⟨v, B, X', hpost, hsteps⟩ | ⟨q, B, X', hpost, hsteps⟩
  · exact Or.inl ⟨v, vm₁, B, X₁.warmed, X', hpost, fun target h => hstep₁ _ fun acts => by rw [doInvoke_state]; exact hsteps.trans h⟩
  · exact Or.inr ⟨q, vm₁, B, X₁.warmed, X', hpost, hstep₁ _ fun acts => by rw [doInvoke_state]; exact hsteps⟩
theorem vx_callS (X : Stand p l e R s m args below meth c T locs cells slots) (hexec : p.tables.exec = Jvm.exec) {own : String} {index : Nat} {y : MethodName} {bytes : ByteArray} {maxL : Nat} {ret : Option FieldType}
    (hown : s.vm.findClass own = some m.cls) (hlink : (Cond.methodLink own index y).before args s = true) (hstat : (Cond.static y).before args s = true) (hinit : (Cond.initialized y.cls).before args s = true)
    (hcode : (Cond.code y bytes maxL ret).before args s = true) (hy : y.cls ≠ "java/lang/invoke/MethodHandle" ∧ y.cls ≠ "java/lang/invoke/VarHandle")
    {W9 : Nat} {Pre : Pt → Array Value → Prop} {Post : Pt → Array Value → Option Value → Pt → Prop} {PostX : Pt → Array Value → Addr → Pt → Prop} (hK : vx_Back l R p e below s args y 3 W9 Pre Post PostX)
    {g : JFrame} (hg : g.method = m) (hsize : g.locals.size = c.maxLocals) {argsL rest : List Value} (hlen : ∀ sig, parseMethodDescriptor y.desc = some sig → argsL.length = sig.parameters.length)
    (hstack : g.stack = argsL.reverse ++ rest) (hW : 2 * g.monitorRoom + (rest.map fun v => v.category).sum ≤ W9) (hdg : decode c.code g.pc = .ok (.invokestatic index, 3))
    (hpre : ∀ vm₁, s.WarmedH vm₁ → Pre ⟨T.setVm vm₁, locs, cells, slots⟩ argsL.toArray) :
    (∃ (v : Option Value) (vm₁ : Vm) (B : Pt), s.WarmedH vm₁ ∧ Stand p l e R s m args below meth c B.U B.locs B.cells B.slots ∧ Post ⟨T.setVm vm₁, locs, cells, slots⟩ argsL.toArray v B ∧
      ∀ target, Steps p.tables e below (B.U.setTop { g with pc := g.pc + 3, stack := v.toList ++ rest }) target → Steps p.tables e below (T.setTop g) target) ∨
    (∃ (q : Addr) (vm₁ : Vm) (B : Pt), s.WarmedH vm₁ ∧ Stand p l e R s m args below meth c B.U B.locs B.cells B.slots ∧ PostX ⟨T.setVm vm₁, locs, cells, slots⟩ argsL.toArray q B ∧
      Steps p.tables e below (T.setTop g) ((B.U.setTop { g with stack := rest }).pushFrame (.throwing q))) := by
  obtain ⟨mk, hnamed⟩ := Cond.code_named hcode
  obtain ⟨methM, cM, hmethM, -, -, -, -, -, -, hsigM⟩ := Cond.code_spec hnamed hcode
  have hstatic : methM.isStatic = true := Cond.static_spec hnamed hmethM hstat
  obtain ⟨kP, hkP, -⟩ := className_of_methodNamed hnamed
  have hinitP : kP.init = .initialized := Cond.initialized_spec (findClass_of_methodNamed hnamed) hkP hinit
  obtain ⟨vm₁, X₁, hstep₁⟩ := X.invokestatic hexec hown hlink hnamed hmethM hstatic hkP hinitP hy (g := g) hg (argsL := argsL) (rest := rest) (hlen _ hsigM) hstack hdg
  rcases hK m meth c ⟨T.setVm vm₁, locs, cells, slots⟩ { g with stack := rest } (.invokestatic index) mk argsL.toArray X₁ hg hsize hdg hW (X₁.named hnamed) (hpre vm₁ X₁.warmed) with ⟨v, B, X', hpost, hsteps⟩ | ⟨q, B, X', hpost, hsteps⟩
  · exact Or.inl ⟨v, vm₁, B, X₁.warmed, X', hpost, fun target h => hstep₁ _ fun acts => by rw [doInvoke_state]; exact hsteps.trans h⟩
  · exact Or.inr ⟨q, vm₁, B, X₁.warmed, X', hpost, hstep₁ _ fun acts => by rw [doInvoke_state]; exact hsteps⟩
end Calls
theorem vx_cls {s : State} {T : State} {vm₁ : Vm} {E : String} {k : ClassId} (hW : s.WarmedH vm₁) (h : (T.setVm vm₁).vm.findClass E = some k) : s.vm.findClass E = some k := by
  have h1 : vm₁.findClass E = some k := h
  rw [hW.alike.findClass] at h1
  exact h1
/-- the method's frame g, with q thrown over it -/
def vx_W (p : Program) (l : Launch) (e : Env) (R : Room) (s : State) (m : MethodId) (args : Array Value) (below : List Frame) (meth : Method) (c : Code) (H : Heap) (locs : List Loc) (cells slots : Nat) (Q : State → Prop) (g : JFrame) (q : Addr) : Prop :=
  ∀ T : State, T.heap = H → Stand p l e R s m args below meth c T locs cells slots → ∃ t, Steps p.tables e below ((T.setTop g).pushFrame (.throwing q)) t ∧ Q t
def vx_Run (p : Program) (l : Launch) (e : Env) (R : Room) (s : State) (m : MethodId) (args : Array Value) (below : List Frame) (meth : Method) (c : Code) (H : Heap) (locs : List Loc) (cells slots mc ms : Nat) (g : JFrame) (rest : List Value) (Qa : State → Outcome → State → Prop) (XC : String → State → State → Prop) (free : Addr → Prop) : Prop :=
  ∀ T : State, T.heap = H → Stand p l e R s m args below meth c T locs cells slots →
    (∃ (v : Option Value) (st₀ t T' : State) (L : List Loc), st₀.heap = H ∧ Stand p l e R s m args below meth c T' (locs ++ L) (cells + mc) (slots + ms) ∧ (∀ q ∈ L, free q.base) ∧ T'.heap = t.heap ∧ T'.vm = t.vm ∧ Qa st₀ (.returned v) t ∧
      Goes p e below T g T' { g with pc := g.pc + 3, stack := v.toList ++ rest }) ∨
    (∃ (q : Addr) (st₀ t T' : State) (L : List Loc) (E : String) (ce : Cell), st₀.heap = H ∧ Stand p l e R s m args below meth c T' (locs ++ L) (cells + mc) (slots + ms) ∧ (∀ z ∈ L, free z.base) ∧ T'.heap = t.heap ∧ T'.vm = t.vm ∧ XC E st₀ t ∧ t.heap[q]? = some ce ∧ ce.vm = .none ∧ s.vm.findClass E = some ce.cls ∧
      Steps p.tables e below (T.setTop g) ((T'.setTop { g with stack := rest }).pushFrame (.throwing q)))
def vx_X {S : Type} (px : S → Prop) (B : String → S → State → Prop) (A : Nat → Prop) : String → State → State → Prop := fun E st t => ∃ u : S, px u ∧ B E u t ∧ va_F A st t
section Runs
variable {p : Program} {l : Launch} {e : Env} {R : Room} {s : State} {m : MethodId} {args : Array Value} {below : List Frame} {meth : Method} {c : Code} {H : Heap} {locs : List Loc} {cells slots : Nat}
variable {y : MethodName} {bytes cc : ByteArray} {maxL nL mc ms n index : Nat} {ret : Option FieldType} {ws : List Cond} {rm : Room} {Pc : Array Value → State → Prop} {Qc : Array Value → State → Outcome → State → Prop} {XC : String → State → State → Prop} {free : Addr → Prop} {Ts : List Cond} {own C : String} {b : Addr} {As rest : List Value} {g : JFrame}
theorem vx_callBack (cb : CallB R s args own index y bytes maxL ret ws rm mc ms n) (hM : vx_Met l y ws rm Pc Qc XC mc ms free) (hbl : FrameBlind Pc) : vx_Back l R p e below s args y 3 8 (PreOf R mc ms Pc) (PostOf Qc mc ms free) (vx_Post XC mc ms free) := by
  obtain ⟨hrc, hrs, hfr, hlo, hws, hcw, -, hini, -⟩ := cb
  exact vx_back (bytes := bytes) (maxL := maxL) (ret := ret) hM hbl hrc hrs hfr hlo hws hcw (fun a' U hW => word_at hW (Or.inl (by first | rfl | simp [Cond.onTables, Cond.keeps, Cond.steady])) hini)
theorem vx_runV (S : CallFix p m c cc nL s args Ts own) (hM : vx_Met l y ws rm Pc Qc XC mc ms free) (cw : CallW R s args own C index y bytes maxL ret ws rm mc ms n) (hp : PreV s H C b Pc As)
    (hg : g.method = m) (hn : As.length = n) (hsize : g.locals.size = nL) (hstack : g.stack = As.reverse ++ .ref b :: rest) (hW : 2 * g.monitorRoom + (rest.map fun v => v.category).sum ≤ 8) (hdg : decode cc g.pc = .ok (.invokevirtual index, 3)) (hf : cells + mc ≤ R.cells ∧ slots + ms ≤ R.slots) :
    vx_Run p l e R s m args below meth c H locs cells slots mc ms g rest (Qc (Value.ref b :: As).toArray) XC free := by
  have hK : vx_Back l R p e below s args y 3 8 (PreOf R mc ms Pc) (PostOf Qc mc ms free) (vx_Post XC mc ms free) := vx_callBack cw.1 hM hp.1
  obtain ⟨⟨-, -, -, -, -, -, hcode, -, hy, hlen, hl⟩, hin, hse⟩ := cw
  obtain ⟨hx, hb, hml, ho, -⟩ := S
  obtain ⟨-, ⟨cellB, hcB, hoB, hclB⟩, hPc⟩ := hp
  intro T hT X
  rcases vx_callV X hx (C := C) (bytes := bytes) (maxL := maxL) (ret := ret) ho hl hin hse hcode hy hK (by rw [hT]; exact hcB) hoB hclB hg (hsize.trans hml.symm) (argsL := As) (rest := rest) (fun sig h => hn.trans (hlen sig h)) hstack hW (by rw [hb]; exact hdg)
    (fun vm₁ hW₁ => ⟨hf.1, hf.2, hPc (T.setVm vm₁) hT hW₁⟩) with ⟨v, vm₁, ⟨U', l2, c2, s2⟩, hW₁, X', ⟨g', mk, t, L, e1, e2, hq, h1, hL, h2, h3⟩, st⟩ | ⟨q, vm₁, ⟨U', l2, c2, s2⟩, hW₁, X', ⟨g', mk, t, L, E, ce, e1, e2, hq, hce, hcv, hcl, h1, hL, h2, h3⟩, st⟩
  · dsimp only [Pt.U, Pt.locs, Pt.cells, Pt.slots] at X' e1 e2 h1 h2 h3 st
    subst h1; subst h2; subst h3
    exact Or.inl ⟨v, (T.setVm vm₁).calling g' mk (Value.ref b :: As).toArray, t, U', L, hT, X', hL, e1, e2, hq, st⟩
  · dsimp only [Pt.U, Pt.locs, Pt.cells, Pt.slots] at X' e1 e2 h1 h2 h3 st hcl
    subst h1; subst h2; subst h3
    exact Or.inr ⟨q, (T.setVm vm₁).calling g' mk (Value.ref b :: As).toArray, t, U', L, E, ce, hT, X', hL, e1, e2, hq, hce, hcv, vx_cls hW₁ hcl, st⟩
theorem vx_runS (S : CallFix p m c cc nL s args Ts own) (hM : vx_Met l y ws rm Pc Qc XC mc ms free) (cw : CallB R s args own index y bytes maxL ret ws rm mc ms n ∧ (Cond.static y).before args s = true) (hp : PreS s H Pc As)
    (hg : g.method = m) (hn : As.length = n) (hsize : g.locals.size = nL) (hstack : g.stack = As.reverse ++ rest) (hW : 2 * g.monitorRoom + (rest.map fun v => v.category).sum ≤ 8) (hdg : decode cc g.pc = .ok (.invokestatic index, 3)) (hf : cells + mc ≤ R.cells ∧ slots + ms ≤ R.slots) :
    vx_Run p l e R s m args below meth c H locs cells slots mc ms g rest (Qc As.toArray) XC free := by
  have hK : vx_Back l R p e below s args y 3 8 (PreOf R mc ms Pc) (PostOf Qc mc ms free) (vx_Post XC mc ms free) := vx_callBack cw.1 hM hp.1
  obtain ⟨⟨-, -, -, -, -, -, hcode, hini, hy, hlen, hl⟩, hstt⟩ := cw
  obtain ⟨hx, hb, hml, ho, -⟩ := S
  intro T hT X
  rcases vx_callS X hx (bytes := bytes) (maxL := maxL) (ret := ret) ho hl hstt hini hcode hy hK hg (hsize.trans hml.symm) (argsL := As) (rest := rest) (fun sig h => hn.trans (hlen sig h)) hstack hW (by rw [hb]; exact hdg)
    (fun vm₁ hW₁ => ⟨hf.1, hf.2, hp.2 (T.setVm vm₁) hT hW₁⟩) with ⟨v, vm₁, ⟨U', l2, c2, s2⟩, hW₁, X', ⟨g', mk, t, L, e1, e2, hq, h1, hL, h2, h3⟩, st⟩ | ⟨q, vm₁, ⟨U', l2, c2, s2⟩, hW₁, X', ⟨g', mk, t, L, E, ce, e1, e2, hq, hce, hcv, hcl, h1, hL, h2, h3⟩, st⟩
  · dsimp only [Pt.U, Pt.locs, Pt.cells, Pt.slots] at X' e1 e2 h1 h2 h3 st
    subst h1; subst h2; subst h3
    exact Or.inl ⟨v, (T.setVm vm₁).calling g' mk As.toArray, t, U', L, hT, X', hL, e1, e2, hq, st⟩
  · dsimp only [Pt.U, Pt.locs, Pt.cells, Pt.slots] at X' e1 e2 h1 h2 h3 st hcl
    subst h1; subst h2; subst h3
    exact Or.inr ⟨q, (T.setVm vm₁).calling g' mk As.toArray, t, U', L, E, ce, hT, X', hL, e1, e2, hq, hce, hcv, vx_cls hW₁ hcl, st⟩
end Runs
section Rows
variable {p : Program} {l : Launch} {e : Env} {R : Room} {s : State} {m : MethodId} {args : Array Value} {below : List Frame} {meth : Method} {c : Code} {H : Heap} {locs : List Loc} {cells slots : Nat} {Q : State → Prop}
variable {mc ms : Nat} {free : Addr → Prop} {A0 A1 : Nat → Prop} {H0 : Heap} {a : Array Value} {pc : Nat} {ls : Array Slot} {st0 rest : List Value}
theorem vx_keep {st₀ t T' : State} {L : List Loc} (h0 : st₀.heap = H) (e1 : T'.heap = t.heap) (hS : va_S A0 H0 H locs) (hA : ∀ q, q < H.size → A1 q → A0 q) (hf : ∀ q, free q → A0 q) (hL : ∀ q ∈ L, free q.base) (hF : va_F A1 st₀ t) :
    H.size ≤ T'.heap.size ∧ (∀ q : Nat, q < H.size → ¬ A1 q → T'.heap[q]? = H[q]?) ∧ va_S A0 H0 T'.heap (locs ++ L) := by
  obtain ⟨hz, hk⟩ := hF
  rw [h0] at hz hk
  exact ⟨by rw [e1]; exact hz, fun q h1 h2 => by rw [e1]; exact hk q h1 h2,
    ⟨Nat.le_trans hS.1 (by rw [e1]; exact hz), fun q h1 h2 => by rw [e1, hk q (Nat.lt_of_lt_of_le h1 hS.1) (fun z => h2 (hA q (Nat.lt_of_lt_of_le h1 hS.1) z))]; exact hS.2.1 q h1 h2, fun q hq => by
      rcases List.mem_append.mp hq with h | h
      · exact hS.2.2 q h
      · exact hf _ (hL q h)⟩⟩
theorem vx_calli {S SX : Type} {post : Int32 → S → Prop} {px : SX → Prop} {B : S → State → Prop} {BX : String → SX → State → Prop} {AX : Nat → Prop} (hr : vx_Run p l e R s m args below meth c H locs cells slots mc ms (F0 m pc ls st0) rest (va_Qi post B A1 a) (vx_X px BX AX) free) (hS : va_S A0 H0 H locs) (hA : ∀ q, q < H.size → A1 q → A0 q) (hf : ∀ q, free q → A0 q) (hAX : ∀ q, q < H.size → AX q → A0 q)
    (kx : ∀ (E : String) (ce : Cell) (q9 : Addr) (u : SX) (t : State) (H1 : Heap) (locs1 : List Loc), t.heap = H1 → s.vm.Alike t.vm → px u → BX E u t → H.size ≤ H1.size → (∀ q : Nat, q < H.size → ¬ AX q → H1[q]? = H[q]?) → va_S A0 H0 H1 locs1 → H1[q9]? = some ce → ce.vm = .none → s.vm.findClass E = some ce.cls → vx_W p l e R s m args below meth c H1 locs1 (cells + mc) (slots + ms) Q (F0 m pc ls rest) q9)
    (kk : ∀ (r : Int32) (u : S) (t : State) (H1 : Heap) (locs1 : List Loc), t.heap = H1 → s.vm.Alike t.vm → post r u → B u t → H.size ≤ H1.size → (∀ q : Nat, q < H.size → ¬ A1 q → H1[q]? = H[q]?) → va_S A0 H0 H1 locs1 → W p l e R s m args below meth c H1 locs1 (cells + mc) (slots + ms) Q (F0 m (pc + 3) ls (.int r :: rest))) : W p l e R s m args below meth c H locs cells slots Q (F0 m pc ls st0) := by
  intro T hT X
  rcases hr T hT X with ⟨v, st₀, t, T', L, h0, X', hL, e1, e2, ⟨⟨r, u, hv, hp, hb⟩, hF⟩, st⟩ | ⟨q, st₀, t, T', L, E, ce, h0, X', hL, e1, e2, ⟨u, hp, hb, hF⟩, hce, hcv, hcl, st⟩
  · cases hv
    obtain ⟨k1, k2, k3⟩ := vx_keep h0 e1 hS hA hf hL hF
    obtain ⟨t2, a1, b1⟩ := kk r u t T'.heap (locs ++ L) e1.symm (by rw [← e2]; exact X'.warmed.alike) hp hb k1 k2 k3 T' rfl X'
    exact ⟨t2, st t2 a1, b1⟩
  · obtain ⟨k1, k2, k3⟩ := vx_keep h0 e1 hS hAX hf hL hF
    obtain ⟨t2, a1, b1⟩ := kx E ce q u t T'.heap (locs ++ L) e1.symm (by rw [← e2]; exact X'.warmed.alike) hp hb k1 k2 k3 (by rw [e1]; exact hce) hcv hcl T' rfl X'
    exact ⟨t2, st.trans a1, b1⟩
theorem vx_calll {S SX : Type} {post : Int64 → S → Prop} {px : SX → Prop} {B : S → State → Prop} {BX : String → SX → State → Prop} {AX : Nat → Prop} (hr : vx_Run p l e R s m args below meth c H locs cells slots mc ms (F0 m pc ls st0) rest (va_Ql post B A1 a) (vx_X px BX AX) free) (hS : va_S A0 H0 H locs) (hA : ∀ q, q < H.size → A1 q → A0 q) (hf : ∀ q, free q → A0 q) (hAX : ∀ q, q < H.size → AX q → A0 q)
    (kx : ∀ (E : String) (ce : Cell) (q9 : Addr) (u : SX) (t : State) (H1 : Heap) (locs1 : List Loc), t.heap = H1 → s.vm.Alike t.vm → px u → BX E u t → H.size ≤ H1.size → (∀ q : Nat, q < H.size → ¬ AX q → H1[q]? = H[q]?) → va_S A0 H0 H1 locs1 → H1[q9]? = some ce → ce.vm = .none → s.vm.findClass E = some ce.cls → vx_W p l e R s m args below meth c H1 locs1 (cells + mc) (slots + ms) Q (F0 m pc ls rest) q9)
    (kk : ∀ (r : Int64) (u : S) (t : State) (H1 : Heap) (locs1 : List Loc), t.heap = H1 → s.vm.Alike t.vm → post r u → B u t → H.size ≤ H1.size → (∀ q : Nat, q < H.size → ¬ A1 q → H1[q]? = H[q]?) → va_S A0 H0 H1 locs1 → W p l e R s m args below meth c H1 locs1 (cells + mc) (slots + ms) Q (F0 m (pc + 3) ls (.long r :: rest))) : W p l e R s m args below meth c H locs cells slots Q (F0 m pc ls st0) := by
  intro T hT X
  rcases hr T hT X with ⟨v, st₀, t, T', L, h0, X', hL, e1, e2, ⟨⟨r, u, hv, hp, hb⟩, hF⟩, st⟩ | ⟨q, st₀, t, T', L, E, ce, h0, X', hL, e1, e2, ⟨u, hp, hb, hF⟩, hce, hcv, hcl, st⟩
  · cases hv
    obtain ⟨k1, k2, k3⟩ := vx_keep h0 e1 hS hA hf hL hF
    obtain ⟨t2, a1, b1⟩ := kk r u t T'.heap (locs ++ L) e1.symm (by rw [← e2]; exact X'.warmed.alike) hp hb k1 k2 k3 T' rfl X'
    exact ⟨t2, st t2 a1, b1⟩
  · obtain ⟨k1, k2, k3⟩ := vx_keep h0 e1 hS hAX hf hL hF
    obtain ⟨t2, a1, b1⟩ := kx E ce q u t T'.heap (locs ++ L) e1.symm (by rw [← e2]; exact X'.warmed.alike) hp hb k1 k2 k3 (by rw [e1]; exact hce) hcv hcl T' rfl X'
    exact ⟨t2, st.trans a1, b1⟩
theorem vx_callf {S SX : Type} {post : UInt32 → S → Prop} {px : SX → Prop} {B : S → State → Prop} {BX : String → SX → State → Prop} {AX : Nat → Prop} (hr : vx_Run p l e R s m args below meth c H locs cells slots mc ms (F0 m pc ls st0) rest (va_Qf post B A1 a) (vx_X px BX AX) free) (hS : va_S A0 H0 H locs) (hA : ∀ q, q < H.size → A1 q → A0 q) (hf : ∀ q, free q → A0 q) (hAX : ∀ q, q < H.size → AX q → A0 q)
    (kx : ∀ (E : String) (ce : Cell) (q9 : Addr) (u : SX) (t : State) (H1 : Heap) (locs1 : List Loc), t.heap = H1 → s.vm.Alike t.vm → px u → BX E u t → H.size ≤ H1.size → (∀ q : Nat, q < H.size → ¬ AX q → H1[q]? = H[q]?) → va_S A0 H0 H1 locs1 → H1[q9]? = some ce → ce.vm = .none → s.vm.findClass E = some ce.cls → vx_W p l e R s m args below meth c H1 locs1 (cells + mc) (slots + ms) Q (F0 m pc ls rest) q9)
    (kk : ∀ (r : UInt32) (u : S) (t : State) (H1 : Heap) (locs1 : List Loc), t.heap = H1 → s.vm.Alike t.vm → post r u → B u t → H.size ≤ H1.size → (∀ q : Nat, q < H.size → ¬ A1 q → H1[q]? = H[q]?) → va_S A0 H0 H1 locs1 → W p l e R s m args below meth c H1 locs1 (cells + mc) (slots + ms) Q (F0 m (pc + 3) ls (.float r :: rest))) : W p l e R s m args below meth c H locs cells slots Q (F0 m pc ls st0) := by
  intro T hT X
  rcases hr T hT X with ⟨v, st₀, t, T', L, h0, X', hL, e1, e2, ⟨⟨r, u, hv, hp, hb⟩, hF⟩, st⟩ | ⟨q, st₀, t, T', L, E, ce, h0, X', hL, e1, e2, ⟨u, hp, hb, hF⟩, hce, hcv, hcl, st⟩
  · cases hv
    obtain ⟨k1, k2, k3⟩ := vx_keep h0 e1 hS hA hf hL hF
    obtain ⟨t2, a1, b1⟩ := kk r u t T'.heap (locs ++ L) e1.symm (by rw [← e2]; exact X'.warmed.alike) hp hb k1 k2 k3 T' rfl X'
    exact ⟨t2, st t2 a1, b1⟩
  · obtain ⟨k1, k2, k3⟩ := vx_keep h0 e1 hS hAX hf hL hF
    obtain ⟨t2, a1, b1⟩ := kx E ce q u t T'.heap (locs ++ L) e1.symm (by rw [← e2]; exact X'.warmed.alike) hp hb k1 k2 k3 (by rw [e1]; exact hce) hcv hcl T' rfl X'
    exact ⟨t2, st.trans a1, b1⟩
theorem vx_calld {S SX : Type} {post : UInt64 → S → Prop} {px : SX → Prop} {B : S → State → Prop} {BX : String → SX → State → Prop} {AX : Nat → Prop} (hr : vx_Run p l e R s m args below meth c H locs cells slots mc ms (F0 m pc ls st0) rest (va_Qd post B A1 a) (vx_X px BX AX) free) (hS : va_S A0 H0 H locs) (hA : ∀ q, q < H.size → A1 q → A0 q) (hf : ∀ q, free q → A0 q) (hAX : ∀ q, q < H.size → AX q → A0 q)
    (kx : ∀ (E : String) (ce : Cell) (q9 : Addr) (u : SX) (t : State) (H1 : Heap) (locs1 : List Loc), t.heap = H1 → s.vm.Alike t.vm → px u → BX E u t → H.size ≤ H1.size → (∀ q : Nat, q < H.size → ¬ AX q → H1[q]? = H[q]?) → va_S A0 H0 H1 locs1 → H1[q9]? = some ce → ce.vm = .none → s.vm.findClass E = some ce.cls → vx_W p l e R s m args below meth c H1 locs1 (cells + mc) (slots + ms) Q (F0 m pc ls rest) q9)
    (kk : ∀ (r : UInt64) (u : S) (t : State) (H1 : Heap) (locs1 : List Loc), t.heap = H1 → s.vm.Alike t.vm → post r u → B u t → H.size ≤ H1.size → (∀ q : Nat, q < H.size → ¬ A1 q → H1[q]? = H[q]?) → va_S A0 H0 H1 locs1 → W p l e R s m args below meth c H1 locs1 (cells + mc) (slots + ms) Q (F0 m (pc + 3) ls (.double r :: rest))) : W p l e R s m args below meth c H locs cells slots Q (F0 m pc ls st0) := by
  intro T hT X
  rcases hr T hT X with ⟨v, st₀, t, T', L, h0, X', hL, e1, e2, ⟨⟨r, u, hv, hp, hb⟩, hF⟩, st⟩ | ⟨q, st₀, t, T', L, E, ce, h0, X', hL, e1, e2, ⟨u, hp, hb, hF⟩, hce, hcv, hcl, st⟩
  · cases hv
    obtain ⟨k1, k2, k3⟩ := vx_keep h0 e1 hS hA hf hL hF
    obtain ⟨t2, a1, b1⟩ := kk r u t T'.heap (locs ++ L) e1.symm (by rw [← e2]; exact X'.warmed.alike) hp hb k1 k2 k3 T' rfl X'
    exact ⟨t2, st t2 a1, b1⟩
  · obtain ⟨k1, k2, k3⟩ := vx_keep h0 e1 hS hAX hf hL hF
    obtain ⟨t2, a1, b1⟩ := kx E ce q u t T'.heap (locs ++ L) e1.symm (by rw [← e2]; exact X'.warmed.alike) hp hb k1 k2 k3 (by rw [e1]; exact hce) hcv hcl T' rfl X'
    exact ⟨t2, st.trans a1, b1⟩
theorem vx_callv {S SX : Type} {post : S → Prop} {px : SX → Prop} {B : S → State → Prop} {BX : String → SX → State → Prop} {AX : Nat → Prop} (hr : vx_Run p l e R s m args below meth c H locs cells slots mc ms (F0 m pc ls st0) rest (va_Qv post B A1 a) (vx_X px BX AX) free) (hS : va_S A0 H0 H locs) (hA : ∀ q, q < H.size → A1 q → A0 q) (hf : ∀ q, free q → A0 q) (hAX : ∀ q, q < H.size → AX q → A0 q)
    (kx : ∀ (E : String) (ce : Cell) (q9 : Addr) (u : SX) (t : State) (H1 : Heap) (locs1 : List Loc), t.heap = H1 → s.vm.Alike t.vm → px u → BX E u t → H.size ≤ H1.size → (∀ q : Nat, q < H.size → ¬ AX q → H1[q]? = H[q]?) → va_S A0 H0 H1 locs1 → H1[q9]? = some ce → ce.vm = .none → s.vm.findClass E = some ce.cls → vx_W p l e R s m args below meth c H1 locs1 (cells + mc) (slots + ms) Q (F0 m pc ls rest) q9)
    (kk : ∀ (u : S) (t : State) (H1 : Heap) (locs1 : List Loc), t.heap = H1 → s.vm.Alike t.vm → post u → B u t → H.size ≤ H1.size → (∀ q : Nat, q < H.size → ¬ A1 q → H1[q]? = H[q]?) → va_S A0 H0 H1 locs1 → W p l e R s m args below meth c H1 locs1 (cells + mc) (slots + ms) Q (F0 m (pc + 3) ls (rest))) : W p l e R s m args below meth c H locs cells slots Q (F0 m pc ls st0) := by
  intro T hT X
  rcases hr T hT X with ⟨v, st₀, t, T', L, h0, X', hL, e1, e2, ⟨⟨u, hv, hp, hb⟩, hF⟩, st⟩ | ⟨q, st₀, t, T', L, E, ce, h0, X', hL, e1, e2, ⟨u, hp, hb, hF⟩, hce, hcv, hcl, st⟩
  · cases hv
    obtain ⟨k1, k2, k3⟩ := vx_keep h0 e1 hS hA hf hL hF
    obtain ⟨t2, a1, b1⟩ := kk u t T'.heap (locs ++ L) e1.symm (by rw [← e2]; exact X'.warmed.alike) hp hb k1 k2 k3 T' rfl X'
    exact ⟨t2, st t2 a1, b1⟩
  · obtain ⟨k1, k2, k3⟩ := vx_keep h0 e1 hS hAX hf hL hF
    obtain ⟨t2, a1, b1⟩ := kx E ce q u t T'.heap (locs ++ L) e1.symm (by rw [← e2]; exact X'.warmed.alike) hp hb k1 k2 k3 (by rw [e1]; exact hce) hcv hcl T' rfl X'
    exact ⟨t2, st.trans a1, b1⟩
/-- caught by the row x of this method's table; the rows ahead don't take it -/
theorem vx_catch {own name : String} {E : String} {ce : Cell} {q : Addr} (hown : s.vm.findClass own = some m.cls) (pre : List ExceptionTableEntry) (x : ExceptionTableEntry) (suf : List ExceptionTableEntry) (hsplit : c.exceptionTable.toList = pre ++ x :: suf)
    (hpass : ∀ z ∈ pre, covers z pc = false ∨ (z.catchType ≠ 0 ∧ ∃ nm : String, (Cond.classLink own z.catchType nm).before args s = true ∧ va_Nc E nm s)) (hx : covers x pc = true) (h0 : x.catchType ≠ 0)
    (hlink : (Cond.classLink own x.catchType name).before args s = true) (hcast : (Cond.castable E name).before args s = true) (hcell : H[q]? = some ce) (hv : ce.vm = .none) (hcl : s.vm.findClass E = some ce.cls)
    (kk : W p l e R s m args below meth c H locs cells slots Q (F0 m x.handlerPc ls [.ref q])) : vx_W p l e R s m args below meth c H locs cells slots Q (F0 m pc ls rest) q := by
  intro T hT X
  have hpl : e.platform.magicAccessors = ({} : Platform).magicAccessors := by rw [X.admits.platform]
  obtain ⟨c3, c4, hc3, hc4, hasg⟩ := Cond.castable_spec hcast
  cases Option.some.inj (hc3.symm.trans hcl)
  obtain ⟨c5, hc5, hcl5⟩ := Cond.classLink_spec hown hlink e.platform hpl
  cases Option.some.inj (hc4.symm.trans hc5)
  obtain ⟨vm', X', st⟩ := X.thenCaughtThrough q (g := F0 m pc ls rest) rfl (Steps.refl _) (by rw [hT]; exact hcell) (by rw [hv]; rfl) (by obtain ⟨k9, h9, -⟩ := Vm.findClass_spec hcl; exact ⟨k9, h9⟩) pre x suf hsplit
    (fun z hz => by
      rcases hpass z hz with h | ⟨hz0, nm, hl1, hn1⟩
      · exact Or.inl h
      · obtain ⟨c6, hc6, hcl6⟩ := Cond.classLink_spec hown hl1 e.platform hpl
        obtain ⟨a8, b8, h1, h2, h3⟩ := hn1
        cases Option.some.inj (h1.symm.trans hcl)
        cases Option.some.inj (h2.symm.trans hc6)
        exact Or.inr ⟨hz0, _, hcl6, h3⟩) hx (Or.inr ⟨h0, c4, hcl5, hasg⟩)
  obtain ⟨t, a1, b1⟩ := kk (T.setVm vm') hT X'
  exact ⟨t, st.trans a1, b1⟩
end Rows
section Ends
variable {p : Program} {l : Launch} {e : Env} {R : Room} {s : State} {m : MethodId} {args : Array Value} {below : List Frame} {meth : Method} {c : Code} {H : Heap} {locs : List Loc} {cells slots : Nat} {Q : State → Prop}
variable {mc ms : Nat} {free : Addr → Prop} {A0 A1 : Nat → Prop} {H0 : Heap} {a : Array Value} {ls : Array Slot} {st0 rest : List Value}
variable {Qc : Array Value → State → Outcome → State → Prop} {XC : String → State → State → Prop}
/-- what a body that may throw owes at its end -/
def vx_MQ (below : List Frame) (Qc : Array Value → State → Outcome → State → Prop) (XC : String → State → State → Prop) (a : Array Value) (s : State) (mc ms : Nat) (free : Addr → Prop) : State → Prop := fun t =>
  ∃ o, t.status = .running ∧ Ended t below o ∧ vx_Q Qc XC mc ms free a s o t
theorem vx_ret {g : JFrame} {mc ms : Nat} (k : W p l e R s m args below meth c H locs cells slots (MQ below Qc args s mc ms free) g) : W p l e R s m args below meth c H locs cells slots (vx_MQ below Qc XC args s mc ms free) g := by
  intro T hT X
  obtain ⟨t, a1, o, b1, b2, b3, b4⟩ := k T hT X
  exact ⟨t, a1, o, b1, b2, Or.inl ⟨b3, b4⟩⟩
/-- not caught here: it goes on to the caller -/
theorem vx_widen {g : JFrame} {q : Addr} {k n : Nat} (h1 : cells ≤ k) (h2 : slots ≤ n) (kk : vx_W p l e R s m args below meth c H locs k n Q g q) : vx_W p l e R s m args below meth c H locs cells slots Q g q := fun T hT X => kk T hT (stand_widen X h1 h2)
theorem vx_out {pc : Nat} {E : String} {ce : Cell} {q : Addr} {mc ms : Nat} (hout : ∀ x ∈ c.exceptionTable.toList, covers x pc = false) (hlocks : meth.locks = false) (hcell : H[q]? = some ce) (hv : ce.vm = .none) (hcl : s.vm.findClass E = some ce.cls)
    (hx : ∀ t : State, t.heap = H → s.vm.Alike t.vm → XC E s t) (hf : ∀ z ∈ locs, free z.base) (hc : cells ≤ mc) (hs : slots ≤ ms) :
    vx_W p l e R s m args below meth c H locs cells slots (vx_MQ below Qc XC args s mc ms free) (F0 m pc ls rest) q := by
  intro T hT X
  obtain ⟨st1, hrun, hend, hW, hsm⟩ := X.leaveThrown q (g := F0 m pc ls rest) rfl rfl rfl hout hlocks
  have hcell9 : (T.setFrames (.throwing q :: below)).heap[q]? = some ce := by
    show T.heap[q]? = some ce
    rw [hT]; exact hcell
  exact ⟨_, st1, .threw q, hrun, hend, Or.inr ⟨q, rfl, E, ce, locs, hx _ hT hW.alike, hcell9, hv, hcl, hW, hsm.mono hc hs, hf⟩⟩
theorem vx_frame {U : State} {k n : Nat} (h : s.sameButNew ({ U with vm := s.vm } : State) locs k n) : s.heap.size ≤ U.heap.size ∧ ∀ q : Nat, q < s.heap.size → (∀ z ∈ locs, z.base ≠ q) → U.heap[q]? = s.heap[q]? := by
  obtain ⟨-, h2, -, -, -, h6⟩ := h
  refine ⟨h2, fun q hq hz => ?_⟩
  obtain ⟨c9, e1, e2, e3, e4⟩ := h6 q _ (Array.getElem?_eq_getElem hq)
  have hs : c9.slots = (s.heap[q]).slots := Array.ext_getElem? fun i => e4 i fun hm => hz _ hm rfl
  have h9 : c9 = s.heap[q] := by
    rw [hs] at e2
    exact e2
  have e5 : U.heap[q]? = some c9 := e1
  rw [e5, h9, Array.getElem?_eq_getElem hq]
/-- the words of a throw but the four that speak of the heap -/
def vx_no (w : Cond) : Bool := decide (w ≠ .isRef (.static Bundle.tN "UNASSIGNED_STACK" Bundle.steD)) && decide (w ≠ .isRef (.static Bundle.tN "SUPPRESSED_SENTINEL" Bundle.listD)) && decide (w ≠ .laysStatic Bundle.tN "UNASSIGNED_STACK" Bundle.steD) && decide (w ≠ .laysStatic Bundle.tN "SUPPRESSED_SENTINEL" Bundle.listD)
def vx_at0 (own : String) (ic : Nat) (X : String) (names : List String) : List Cond := (Bundle.ownAtoms0 own ic X names).filter vx_no
def vx_atS (own : String) (ic : Nat) (X : String) (names : List String) : List Cond := (Bundle.ownAtoms own ic X names).filter vx_no
/-- a word that the tables alone decide, or a good one -/
def vx_ot (w : Cond) : Bool := w.onTables || goodWord w
theorem vx_ot_at {args a' : Array Value} {s U : State} {w : Cond} (hW : s.WarmedH U.vm) (hvm : s.vm = U.vm) (hg : vx_ot w = true) (h : w.before args s = true) : w.before a' U = true := by
  simp only [vx_ot, Bool.or_eq_true] at hg
  rcases hg with hg | hg
  · exact va_tabs hg hvm h
  · exact word_at hW (good_of_word hg) h
/-- a list's words: the good ones out of the method's own list, the others by premises of their own -/
theorem vx_hat {args : Array Value} {s : State} {L B : List Cond} (h1 : ∀ w ∈ L.filter goodWord, w.before args s = true) (h2 : ∀ w ∈ L.filter (fun w => !goodWord w), w ∈ B) (h3 : ∀ w ∈ B, w.before args s = true) : ∀ w ∈ L, w.before args s = true := by
  intro w hw
  by_cases g : goodWord w = true
  · exact h1 w (List.mem_filter.mpr ⟨hw, g⟩)
  · refine h3 w (h2 w (List.mem_filter.mpr ⟨hw, ?_⟩))
    show (!goodWord w) = true
    cases hgw : goodWord w
    · rfl
    · exact absurd hgw g
theorem vx_c {args : Array Value} {s : State} {w : Cond} {B : List Cond} (h : w.before args s = true) (t : ∀ w ∈ B, w.before args s = true) : ∀ w' ∈ w :: B, w'.before args s = true := fun w' h' => (List.mem_cons.mp h').elim (fun e => by rw [e]; exact h) (t w')
theorem vx_n {args : Array Value} {s : State} : ∀ w ∈ ([] : List Cond), w.before args s = true := fun _ h => nomatch h
theorem vx_own {args : Array Value} {s : State} {L : List Cond} (h1 : ∀ w ∈ L.filter vx_no, w.before args s = true)
    (hU : (Cond.isRef (.static Bundle.tN "UNASSIGNED_STACK" Bundle.steD)).before args s = true) (hN : (Cond.isRef (.static Bundle.tN "SUPPRESSED_SENTINEL" Bundle.listD)).before args s = true)
    (lU : (Cond.laysStatic Bundle.tN "UNASSIGNED_STACK" Bundle.steD).before args s = true) (lN : (Cond.laysStatic Bundle.tN "SUPPRESSED_SENTINEL" Bundle.listD).before args s = true) : ∀ w ∈ L, w.before args s = true := by
  intro w hw
  by_cases e1 : w = .isRef (.static Bundle.tN "UNASSIGNED_STACK" Bundle.steD)
  · rw [e1]; exact hU
  · by_cases e2 : w = .isRef (.static Bundle.tN "SUPPRESSED_SENTINEL" Bundle.listD)
    · rw [e2]; exact hN
    · by_cases e3 : w = .laysStatic Bundle.tN "UNASSIGNED_STACK" Bundle.steD
      · rw [e3]; exact lU
      · by_cases e4 : w = .laysStatic Bundle.tN "SUPPRESSED_SENTINEL" Bundle.listD
        · rw [e4]; exact lN
        · exact h1 w (List.mem_filter.mpr ⟨hw, by unfold vx_no; rw [decide_eq_true e1, decide_eq_true e2, decide_eq_true e3, decide_eq_true e4]; rfl⟩)
/-- where a static field lies, its class's statics cell in H -/
def vx_L (C n d : String) (A : Nat → Prop) (U : State) (H : Heap) : Prop := ∃ (c : ClassId) (k : Class) (i : Nat) (f : Field) (a : Nat) (cell : Cell), U.vm.findClass C = some c ∧ U.fieldFound? C n d = some (c, k, i, f) ∧ f.isStatic = true ∧ k.statics = some a ∧ H[a]? = some cell ∧ cell.vm.isStatics = true ∧ cell.cls = c ∧ f.slot < cell.slots.size ∧ k.staticTypes[f.slot]? = some f.type ∧ ¬ A a
theorem vx_L.moved {C n d : String} {A : Nat → Prop} {u U : State} {H : Heap} (hvm : u.vm.Alike U.vm) (h : vx_L C n d A u H) : vx_L C n d A U H := by
  obtain ⟨c, k, i, f, a, cell, h1, h2, h3, h4, h5, h6, h7, h8, h9, h10⟩ := h
  obtain ⟨k', hi', he⟩ := State.fieldFound?_setVm hvm h2
  exact ⟨c, k', i, f, a, cell, by rw [hvm.findClass]; exact h1, hi', h3, by rw [he]; exact h4, h5, h6, h7, h8, by rw [he]; exact h9, h10⟩
theorem vx_L.kept {C n d : String} {A : Nat → Prop} {U : State} {H H1 : Heap} (h : vx_L C n d A U H) (hq : ∀ a : Nat, a < H.size → ¬ A a → H1[a]? = H[a]?) : vx_L C n d A U H1 := by
  obtain ⟨c, k, i, f, a, cell, h1, h2, h3, h4, h5, h6, h7, h8, h9, h10⟩ := h
  exact ⟨c, k, i, f, a, cell, h1, h2, h3, h4, by rw [hq a (Array.getElem?_eq_some_iff.mp h5).1 h10]; exact h5, h6, h7, h8, h9, h10⟩
theorem vx_L.narrow {C n d : String} {A B : Nat → Prop} {U : State} {H : Heap} (h : vx_L C n d A U H) (hAB : ∀ q, B q → A q) : vx_L C n d B U H := by
  obtain ⟨c, k, i, f, a, cell, h1, h2, h3, h4, h5, h6, h7, h8, h9, h10⟩ := h
  exact ⟨c, k, i, f, a, cell, h1, h2, h3, h4, h5, h6, h7, h8, h9, fun z => h10 (hAB _ z)⟩
theorem vx_L.word {C n d : String} {A : Nat → Prop} {s : State} {args : Array Value} (h : vx_L C n d A s s.heap) : (Cond.laysStatic C n d).before args s = true := by
  obtain ⟨c, k, i, f, a, cell, h1, h2, h3, h4, h5, h6, h7, h8, h9, -⟩ := h
  show (Cond.laysStatic C n d).holds args s none s [] = true
  exact Cond.laysStatic_of h1 h2 h3 h4 h5 h6 h7 h8 h9
/-- .. and what it holds: null or some reference -/
def vx_Zq (C n d : String) (A : Nat → Prop) (U : State) (H : Heap) : Prop := va_Zq C n d A U H ∧ vx_L C n d A U H
theorem vx_Zq.moved {C n d : String} {A : Nat → Prop} {u U : State} {H : Heap} (hvm : u.vm.Alike U.vm) (h : vx_Zq C n d A u H) : vx_Zq C n d A U H := ⟨va_Zq.moved hvm h.1, vx_L.moved hvm h.2⟩
theorem vx_Zq.kept {C n d : String} {A : Nat → Prop} {U : State} {H H1 : Heap} (h : vx_Zq C n d A U H) (hq : ∀ a : Nat, a < H.size → ¬ A a → H1[a]? = H[a]?) : vx_Zq C n d A U H1 := ⟨va_Zq.kept h.1 hq, vx_L.kept h.2 hq⟩
theorem vx_Zq.narrow {C n d : String} {A B : Nat → Prop} {U : State} {H : Heap} (h : vx_Zq C n d A U H) (hAB : ∀ q, B q → A q) : vx_Zq C n d B U H := ⟨va_Zq.narrow h.1 hAB, vx_L.narrow h.2 hAB⟩
theorem vx_Zqof {args : Array Value} {s : State} {C n d : String} {A : Nat → Prop} (hl : (Cond.laysStatic C n d).before args s = true) (hini : (Cond.initialized C).before args s = true) (h : (Cond.isRef (.static C n d)).before args s = true) (hA : ∀ a : Nat, a < s.heap.size → ¬ A a) : vx_Zq C n d A s s.heap := by
  refine ⟨va_Zqof hl hini h hA, ?_⟩
  obtain ⟨c, k, i, f, a, cell, h1, h2, h3, h4, h5, h6, h7, h8, h9⟩ := Cond.laysStatic_spec hl
  exact ⟨c, k, i, f, a, cell, h1, h2, h3, h4, h5, h6, h7, h8, h9, hA a (Array.getElem?_eq_some_iff.mp h5).1⟩
theorem vx_isRef {C n d : String} {v : Value} {A : Nat → Prop} {s : State} {args : Array Value} (h : va_Z C n d v A s s.heap) (hv : v.isRef = true) : (Cond.isRef (.static C n d)).before args s = true := by
  obtain ⟨cf, kf, fi, f, a, cell, h1, h2, h3, h4, h5, h6, h7, -⟩ := h
  have he : (Term.static C n d).eval args s none [] s = some v := by
    simp [Term.eval, State.fieldNamed?, h1, h2, h4, h5, h6, h7]
  simp only [Cond.before, Cond.holds, Cond.value, he]
  cases v <;> simp_all [Value.isRef]
theorem vx_isRefq {C n d : String} {A : Nat → Prop} {s : State} {args : Array Value} (h : va_Zq C n d A s s.heap) : (Cond.isRef (.static C n d)).before args s = true := by
  rcases h with h | ⟨t, h⟩
  · exact vx_isRef h rfl
  · exact vx_isRef h rfl
/-- the same frame, seen from here: as if the method were called anew in this heap -/
theorem vx_rebase {T : State} (X : Stand p l e R s m args below meth c T locs cells slots) {R' : Room} (hf : R'.frames ≤ R.frames) (hl : R'.locals ≤ R.locals) (hc : cells + R'.cells ≤ R.cells) (hs : slots + R'.slots ≤ R.slots) :
    Stand p l e R' ((T.setVm s.vm).setFrames (.invoking m args :: below)) m args below meth c T [] 0 0 := by
  have htop : (T.setVm s.vm).topJava?.isSome := X.here.top
  have hF : ((T.setVm s.vm).setFrames (.invoking m args :: below)).frames = .invoking m args :: below := State.frames_setFrames _ (State.cur_lt_of_top htop)
  obtain ⟨g₀, hg0⟩ := Option.isSome_iff_exists.mp htop
  obtain ⟨r, hr⟩ := State.topJava?_eq_some.mp hg0
  have hl9 : e.platform.stackLimits (T.setVm s.vm).me = e.platform.stackLimits s.me := X.limits
  have hb9 : (T.setVm s.vm).me.stackBytes = s.me.stackBytes := X.bytes
  refine ⟨X.admits, X.cas, X.clock, hF, ?_, X.hears, X.method, X.code, X.here, X.tail, X.warmed, ?_, ?_, ?_⟩
  · have h := X.room
    have hU : ((T.setVm s.vm).setFrames (.invoking m args :: below)).localsInUse = s.localsInUse := by
      rw [State.localsInUse_invoking hF (meth := meth) (c := c) X.method X.code, State.localsInUse_invoking X.frames X.method X.code]
    simp only [State.hasRoom, Bool.and_eq_true, decide_eq_true_eq] at h ⊢
    obtain ⟨⟨⟨⟨h1, h2, h3, h4, h5, h6⟩, h7⟩, h8⟩, h9⟩ := h
    rw [X.frames, List.length_cons] at h2 h3
    have q1 := X.heapSize
    have q2 := X.used
    simp only [hF, hU, List.length_cons, State.stackLimits_setFrames, State.stackBytes_setFrames, hl9, hb9]
    refine ⟨⟨⟨⟨by omega, by omega, by omega, by omega, by omega, h6⟩, ?_⟩, ?_⟩, X.book⟩
    · show T.heap.size + R'.cells ≤ e.platform.maxCells
      omega
    · show T.slotsUsed + R'.slots ≤ e.platform.maxSlots
      omega
  · rw [State.stackLimits_setFrames]; rfl
  · rw [State.stackBytes_setFrames]; rfl
  · refine ⟨?_, Nat.le_refl _, Nat.le_refl _, ?_, ?_, fun a c9 h9 => ⟨c9, h9, rfl, rfl, fun _ _ => rfl⟩⟩
    · obtain ⟨t, ht, -⟩ := State.frames_cons hr
      show T.setVm s.vm = { ((T.setVm s.vm).setFrames (.invoking m args :: below)).setFrames (T.setVm s.vm).frames with heap := T.heap, slotsUsed := T.slotsUsed }
      rw [State.setFrames_setFrames, State.setFrames_self ht]
      rfl
    · show T.slotsUsed = T.slotsUsed + ((T.heap.toList.drop T.heap.size).map (·.slots.size)).sum
      rw [List.drop_eq_nil_of_le (Nat.le_of_eq Array.length_toList)]
      rfl
    · show ((T.heap.toList.drop T.heap.size).map (·.slots.size)).sum ≤ 0
      rw [List.drop_eq_nil_of_le (Nat.le_of_eq Array.length_toList)]
      exact Nat.le_refl _
/-- 'throw new E()': new; dup; invokespecial; athrow -/
theorem vx_throw0 {cc : ByteArray} {pc : Nat} (hexec : p.tables.exec = Jvm.exec) (hb : c.code = cc) (hl : l.stackTraces = false) {own cls : String} {names : List String} {ik ic mc ms : Nat} {A : Nat → Prop}
    (hown : s.vm.findClass own = some m.cls) (hcls : Bundle.fit cls = true) (hnames : ∀ n ∈ names, Bundle.fit n = true)
    (hk : (Cond.classLink own ik cls).before args s = true) (hini : (Cond.initialized cls).before args s = true) (hat : ∀ w ∈ vx_at0 own ic cls names, w.before args s = true)
    (hgood : ∀ w ∈ Cond.classLink own ik cls :: Cond.initialized cls :: vx_at0 own ic cls names, vx_ot w = true)
    (hU : vx_Zq Bundle.tN "UNASSIGNED_STACK" Bundle.steD A s s.heap) (hN : vx_Zq Bundle.tN "SUPPRESSED_SENTINEL" Bundle.listD A s s.heap) (hS : va_S A s.heap H locs) (hsize : ls.size = c.maxLocals)
    (d0 : decode cc pc = .ok (.new ik, 3)) (d3 : decode cc (pc + 3) = .ok (.dup, 1)) (d4 : decode cc (pc + 4) = .ok (.invokespecial ic, 3)) (d7 : decode cc (pc + 7) = .ok (.athrow, 1))
    (hout : ∀ x ∈ c.exceptionTable.toList, covers x (pc + 7) = false)
    (hRframes : names.length + 3 < R.frames) (hRlocals : (rest.map fun v => v.category).sum + (13 * (names.length + 1) + 42) ≤ R.locals) (hRcells : cells + 1 ≤ R.cells) (hRslots : slots + 6 ≤ R.slots) (hlocks : meth.locks = false)
    (hx : ∀ t : State, s.vm.Alike t.vm → H.size ≤ t.heap.size → (∀ q : Nat, q < H.size → t.heap[q]? = H[q]?) → XC cls s t)
    (hf : ∀ z ∈ locs, free z.base) (hc : cells + 1 ≤ mc) (hs : slots + 6 ≤ ms) :
    W p l e R s m args below meth c H locs cells slots (vx_MQ below Qc XC args s mc ms free) (F0 m pc ls rest) := by
  intro T hT X
  have htr : e.platform.stackTraces = false := (show e.platform.stackTraces = l.stackTraces by rw [X.admits.platform]).trans hl
  have Y := vx_rebase X (R' := { frames := R.frames, locals := R.locals, cells := 1, slots := 6 }) (Nat.le_refl _) (Nat.le_refl _) hRcells hRslots
  obtain ⟨s', hA⟩ : ∃ z, z = (T.setVm s.vm).setFrames (.invoking m args :: below) := ⟨_, rfl⟩
  rw [← hA] at Y
  have hvm : s'.vm = s.vm := by rw [hA]; rfl
  have hhp : s'.heap = H := by rw [hA]; exact hT
  have hW0 : s.WarmedH s'.vm := by rw [hvm]; exact State.WarmedH.refl s
  have hat' : ∀ w ∈ vx_at0 own ic cls names, w.before args s' = true := fun w hw => vx_ot_at hW0 hvm.symm (hgood w (List.mem_cons_of_mem _ (List.mem_cons_of_mem _ hw))) (hat w hw)
  have hk' : (Cond.classLink own ik cls).before args s' = true := vx_ot_at hW0 hvm.symm (hgood _ List.mem_cons_self) hk
  have hini' : (Cond.initialized cls).before args s' = true := vx_ot_at hW0 hvm.symm (hgood _ (List.mem_cons_of_mem _ List.mem_cons_self)) hini
  have hU' : vx_Zq Bundle.tN "UNASSIGNED_STACK" Bundle.steD A s' s'.heap := by rw [hhp]; exact vx_Zq.moved hW0.alike (hU.kept hS.2.1)
  have hN' : vx_Zq Bundle.tN "SUPPRESSED_SENTINEL" Bundle.listD A s' s'.heap := by rw [hhp]; exact vx_Zq.moved hW0.alike (hN.kept hS.2.1)
  have h : ∀ w ∈ Bundle.ownAtoms0 own ic cls names, w.before args s' = true := vx_own hat' (vx_isRefq hU'.1) (vx_isRefq hN'.1) hU'.2.word hN'.2.word
  have hown' : s'.vm.findClass own = some m.cls := by rw [hvm]; exact hown
  have hins : (Cond.instantiable cls 6).before args s' = true := h _ (by simp [Bundle.ownAtoms0])
  obtain ⟨vm₁, cX, kX, hfX, hkX, -, -, X₁, st1⟩ := Y.newCold hexec (own := own) (C := cls) (index := ik) (n := 6) hown' hk' hins hini'
    (g := F0 m pc ls rest) rfl (by rw [hb]; exact d0) (Nat.le_refl _) (Nat.le_refl _)
  generalize hT1 : (T.setVm vm₁).pushCell { cls := cX, slots := kX.instanceTypes.map defaultValue, vm := .none } = T1 at X₁ st1
  have hcat : (Value.ref T.heap.size).category = 1 := rfl
  have hcellA : T1.heap[T.heap.size]? = some (freshCell cX kX) := by rw [← hT1]; exact State.heap_pushCell_size _ _
  have d3' : decode c.code (pc + 3) = .ok (.dup, 1) := by rw [hb]; exact d3
  obtain ⟨U, hsteps, hrun, hend, hW, hsame, ce, hce, hO⟩ := X₁.ctorThrow0 hexec htr (own := own) (cls := cls) (names := names) (ic := ic) hown' hcls hnames h (fun x hx => nomatch hx) hfX hkX hcellA (by rw [hhp, hT]; exact Nat.le_refl _)
    (g := { method := m, pc := pc + 4, locals := ls, stack := .ref T.heap.size :: .ref T.heap.size :: rest, locked := none }) rfl hsize rfl rfl (rest := rest) rfl
    (by rw [hb]; exact d4) (by rw [hb]; exact d7) hout hRframes (by simp only [List.map_cons, List.sum_cons, hcat]; omega) hlocks
  obtain ⟨f1, f2⟩ := vx_frame hsame
  rw [hhp] at f1 f2
  have hWs : s.WarmedH U.vm := State.WarmedH.trans hW0 hW
  have hcl : s.vm.findClass cls = some ce.cls := by
    have h9 := hO.cls
    rw [hvm] at h9
    exact h9
  have hall : s.sameButNew ({ U with vm := s.vm } : State) locs mc ms := by
    subst hA
    obtain ⟨e1, e2⟩ := hsame
    rw [State.setFrames_setFrames] at e1
    have h2 : (T.setVm s.vm).sameButNew ({ U with vm := s.vm } : State) [] (0 + 1) (0 + 6) := ⟨e1, e2⟩
    have h3 := X.same.trans h2
    rw [List.append_nil] at h3
    exact h3.mono hc hs
  refine ⟨U, ?_, .threw T.heap.size, hrun, hend, Or.inr ⟨T.heap.size, rfl, cls, ce, locs, hx U hWs.alike f1 (fun q hq => f2 q hq (fun z hz => nomatch hz)), hce, hO.vm, hcl, hWs, hall, hf⟩⟩
  refine st1 _ ?_
  show Steps p.tables e below (T1.setTop { method := m, pc := pc + 3, locals := ls, stack := .ref T.heap.size :: rest, locked := none }) _
  jvm_step X₁.here [X₁.here.top, hexec, d3', Value.category]
  exact hsteps
/-- 'throw new E("text")': new; dup; ldc; invokespecial; athrow -/
theorem vx_throwS {cc : ByteArray} {pc : Nat} (hexec : p.tables.exec = Jvm.exec) (hb : c.code = cc) (hl : l.stackTraces = false) {own cls text : String} {names : List String} {ik is ic mc ms sa : Nat} {A : Nat → Prop}
    (hown : s.vm.findClass own = some m.cls) (hcls : Bundle.fit cls = true) (hnames : ∀ n ∈ names, Bundle.fit n = true)
    (hk : (Cond.classLink own ik cls).before args s = true) (hini : (Cond.initialized cls).before args s = true) (hstr : vk_R own is text sa s) (hat : ∀ w ∈ vx_atS own ic cls names, w.before args s = true)
    (hgood : ∀ w ∈ Cond.classLink own ik cls :: Cond.initialized cls :: vx_atS own ic cls names, vx_ot w = true)
    (hU : vx_Zq Bundle.tN "UNASSIGNED_STACK" Bundle.steD A s s.heap) (hN : vx_Zq Bundle.tN "SUPPRESSED_SENTINEL" Bundle.listD A s s.heap) (hS : va_S A s.heap H locs) (hsize : ls.size = c.maxLocals)
    (d0 : decode cc pc = .ok (.new ik, 3)) (d3 : decode cc (pc + 3) = .ok (.dup, 1)) (d4 : decode cc (pc + 4) = .ok (.ldc is, 2)) (d6 : decode cc (pc + 6) = .ok (.invokespecial ic, 3)) (d9 : decode cc (pc + 9) = .ok (.athrow, 1))
    (hout : ∀ x ∈ c.exceptionTable.toList, covers x (pc + 9) = false)
    (hRframes : names.length + 3 < R.frames) (hRlocals : (rest.map fun v => v.category).sum + (13 * (names.length + 1) + 43) ≤ R.locals) (hRcells : cells + 1 ≤ R.cells) (hRslots : slots + 6 ≤ R.slots) (hlocks : meth.locks = false)
    (hx : ∀ t : State, s.vm.Alike t.vm → H.size ≤ t.heap.size → (∀ q : Nat, q < H.size → t.heap[q]? = H[q]?) → XC cls s t)
    (hf : ∀ z ∈ locs, free z.base) (hc : cells + 1 ≤ mc) (hs : slots + 6 ≤ ms) :
    W p l e R s m args below meth c H locs cells slots (vx_MQ below Qc XC args s mc ms free) (F0 m pc ls rest) := by
  intro T hT X
  have htr : e.platform.stackTraces = false := (show e.platform.stackTraces = l.stackTraces by rw [X.admits.platform]).trans hl
  have Y := vx_rebase X (R' := { frames := R.frames, locals := R.locals, cells := 1, slots := 6 }) (Nat.le_refl _) (Nat.le_refl _) hRcells hRslots
  obtain ⟨s', hA⟩ : ∃ z, z = (T.setVm s.vm).setFrames (.invoking m args :: below) := ⟨_, rfl⟩
  rw [← hA] at Y
  have hvm : s'.vm = s.vm := by rw [hA]; rfl
  have hhp : s'.heap = H := by rw [hA]; exact hT
  have hW0 : s.WarmedH s'.vm := by rw [hvm]; exact State.WarmedH.refl s
  have hat' : ∀ w ∈ vx_atS own ic cls names, w.before args s' = true := fun w hw => vx_ot_at hW0 hvm.symm (hgood w (List.mem_cons_of_mem _ (List.mem_cons_of_mem _ hw))) (hat w hw)
  have hk' : (Cond.classLink own ik cls).before args s' = true := vx_ot_at hW0 hvm.symm (hgood _ List.mem_cons_self) hk
  have hini' : (Cond.initialized cls).before args s' = true := vx_ot_at hW0 hvm.symm (hgood _ (List.mem_cons_of_mem _ List.mem_cons_self)) hini
  have hU' : vx_Zq Bundle.tN "UNASSIGNED_STACK" Bundle.steD A s' s'.heap := by rw [hhp]; exact vx_Zq.moved hW0.alike (hU.kept hS.2.1)
  have hN' : vx_Zq Bundle.tN "SUPPRESSED_SENTINEL" Bundle.listD A s' s'.heap := by rw [hhp]; exact vx_Zq.moved hW0.alike (hN.kept hS.2.1)
  have h : ∀ w ∈ Bundle.ownAtoms own ic cls names, w.before args s' = true := vx_own hat' (vx_isRefq hU'.1) (vx_isRefq hN'.1) hU'.2.word hN'.2.word
  have hown' : s'.vm.findClass own = some m.cls := by rw [hvm]; exact hown
  have hins : (Cond.instantiable cls 6).before args s' = true := h _ (by simp [Bundle.ownAtoms])
  obtain ⟨vm₁, cX, kX, hfX, hkX, -, -, X₁, st1⟩ := Y.newCold hexec (own := own) (C := cls) (index := ik) (n := 6) hown' hk' hins hini'
    (g := F0 m pc ls rest) rfl (by rw [hb]; exact d0) (Nat.le_refl _) (Nat.le_refl _)
  generalize hT1 : (T.setVm vm₁).pushCell { cls := cX, slots := kX.instanceTypes.map defaultValue, vm := .none } = T1 at X₁ st1
  have hcat : (Value.ref T.heap.size).category = 1 := rfl
  have hcellA : T1.heap[T.heap.size]? = some (freshCell cX kX) := by rw [← hT1]; exact State.heap_pushCell_size _ _
  have d3' : decode c.code (pc + 3) = .ok (.dup, 1) := by rw [hb]; exact d3
  have d4' : decode c.code (pc + 4) = .ok (.ldc is, 2) := by rw [hb]; exact d4
  have hstr' : vk_R own is text sa s' := vk_R.warm hW0 hstr
  obtain ⟨U, hsteps, hrun, hend, hW, hsame, ce, hce, hO⟩ := X₁.ctorThrowS hexec htr (own := own) (cls := cls) (names := names) (ic := ic) hown' hcls hnames h (fun x hx => nomatch hx) hfX hkX hcellA (by rw [hhp, hT]; exact Nat.le_refl _) (msg := .ref sa) rfl
    (g := { method := m, pc := pc + 6, locals := ls, stack := .ref sa :: .ref T.heap.size :: .ref T.heap.size :: rest, locked := none }) rfl hsize rfl rfl (rest := rest) rfl
    (by rw [hb]; exact d6) (by rw [hb]; exact d9) hout hRframes (by simp only [List.map_cons, List.sum_cons, hcat]; omega) hlocks
  obtain ⟨f1, f2⟩ := vx_frame hsame
  rw [hhp] at f1 f2
  have hWs : s.WarmedH U.vm := State.WarmedH.trans hW0 hW
  have hcl : s.vm.findClass cls = some ce.cls := by
    have h9 := hO.cls
    rw [hvm] at h9
    exact h9
  have hall : s.sameButNew ({ U with vm := s.vm } : State) locs mc ms := by
    subst hA
    obtain ⟨e1, e2⟩ := hsame
    rw [State.setFrames_setFrames] at e1
    have h2 : (T.setVm s.vm).sameButNew ({ U with vm := s.vm } : State) [] (0 + 1) (0 + 6) := ⟨e1, e2⟩
    have h3 := X.same.trans h2
    rw [List.append_nil] at h3
    exact h3.mono hc hs
  refine ⟨U, ?_, .threw T.heap.size, hrun, hend, Or.inr ⟨T.heap.size, rfl, cls, ce, locs, hx U hWs.alike f1 (fun q hq => f2 q hq (fun z hz => nomatch hz)), hce, hO.vm, hcl, hWs, hall, hf⟩⟩
  refine st1 _ ?_
  show Steps p.tables e below (T1.setTop { method := m, pc := pc + 3, locals := ls, stack := .ref T.heap.size :: rest, locked := none }) _
  jvm_step X₁.here [X₁.here.top, hexec, d3', Value.category]
  exact X₁.ldcString hexec (own := own) (text := text) (index := is) (a := sa) hown' hstr'.1 hstr'.2
    (g := { method := m, pc := pc + 4, locals := ls, stack := .ref T.heap.size :: .ref T.heap.size :: rest, locked := none }) rfl d4' _ hsteps
/-- 'throw new E("text")', the text by a wide index -/
theorem vx_throwSW {cc : ByteArray} {pc : Nat} (hexec : p.tables.exec = Jvm.exec) (hb : c.code = cc) (hl : l.stackTraces = false) {own cls text : String} {names : List String} {ik is ic mc ms sa : Nat} {A : Nat → Prop}
    (hown : s.vm.findClass own = some m.cls) (hcls : Bundle.fit cls = true) (hnames : ∀ n ∈ names, Bundle.fit n = true)
    (hk : (Cond.classLink own ik cls).before args s = true) (hini : (Cond.initialized cls).before args s = true) (hstr : vk_R own is text sa s) (hat : ∀ w ∈ vx_atS own ic cls names, w.before args s = true)
    (hgood : ∀ w ∈ Cond.classLink own ik cls :: Cond.initialized cls :: vx_atS own ic cls names, vx_ot w = true)
    (hU : vx_Zq Bundle.tN "UNASSIGNED_STACK" Bundle.steD A s s.heap) (hN : vx_Zq Bundle.tN "SUPPRESSED_SENTINEL" Bundle.listD A s s.heap) (hS : va_S A s.heap H locs) (hsize : ls.size = c.maxLocals)
    (d0 : decode cc pc = .ok (.new ik, 3)) (d3 : decode cc (pc + 3) = .ok (.dup, 1)) (d4 : decode cc (pc + 4) = .ok (.ldc_w is, 3)) (d7 : decode cc (pc + 7) = .ok (.invokespecial ic, 3)) (d10 : decode cc (pc + 10) = .ok (.athrow, 1))
    (hout : ∀ x ∈ c.exceptionTable.toList, covers x (pc + 10) = false)
    (hRframes : names.length + 3 < R.frames) (hRlocals : (rest.map fun v => v.category).sum + (13 * (names.length + 1) + 43) ≤ R.locals) (hRcells : cells + 1 ≤ R.cells) (hRslots : slots + 6 ≤ R.slots) (hlocks : meth.locks = false)
    (hx : ∀ t : State, s.vm.Alike t.vm → H.size ≤ t.heap.size → (∀ q : Nat, q < H.size → t.heap[q]? = H[q]?) → XC cls s t)
    (hf : ∀ z ∈ locs, free z.base) (hc : cells + 1 ≤ mc) (hs : slots + 6 ≤ ms) :
    W p l e R s m args below meth c H locs cells slots (vx_MQ below Qc XC args s mc ms free) (F0 m pc ls rest) := by
  intro T hT X
  have htr : e.platform.stackTraces = false := (show e.platform.stackTraces = l.stackTraces by rw [X.admits.platform]).trans hl
  have Y := vx_rebase X (R' := { frames := R.frames, locals := R.locals, cells := 1, slots := 6 }) (Nat.le_refl _) (Nat.le_refl _) hRcells hRslots
  obtain ⟨s', hA⟩ : ∃ z, z = (T.setVm s.vm).setFrames (.invoking m args :: below) := ⟨_, rfl⟩
  rw [← hA] at Y
  have hvm : s'.vm = s.vm := by rw [hA]; rfl
  have hhp : s'.heap = H := by rw [hA]; exact hT
  have hW0 : s.WarmedH s'.vm := by rw [hvm]; exact State.WarmedH.refl s
  have hat' : ∀ w ∈ vx_atS own ic cls names, w.before args s' = true := fun w hw => vx_ot_at hW0 hvm.symm (hgood w (List.mem_cons_of_mem _ (List.mem_cons_of_mem _ hw))) (hat w hw)
  have hk' : (Cond.classLink own ik cls).before args s' = true := vx_ot_at hW0 hvm.symm (hgood _ List.mem_cons_self) hk
  have hini' : (Cond.initialized cls).before args s' = true := vx_ot_at hW0 hvm.symm (hgood _ (List.mem_cons_of_mem _ List.mem_cons_self)) hini
  have hU' : vx_Zq Bundle.tN "UNASSIGNED_STACK" Bundle.steD A s' s'.heap := by rw [hhp]; exact vx_Zq.moved hW0.alike (hU.kept hS.2.1)
  have hN' : vx_Zq Bundle.tN "SUPPRESSED_SENTINEL" Bundle.listD A s' s'.heap := by rw [hhp]; exact vx_Zq.moved hW0.alike (hN.kept hS.2.1)
  have h : ∀ w ∈ Bundle.ownAtoms own ic cls names, w.before args s' = true := vx_own hat' (vx_isRefq hU'.1) (vx_isRefq hN'.1) hU'.2.word hN'.2.word
  have hown' : s'.vm.findClass own = some m.cls := by rw [hvm]; exact hown
  have hins : (Cond.instantiable cls 6).before args s' = true := h _ (by simp [Bundle.ownAtoms])
  obtain ⟨vm₁, cX, kX, hfX, hkX, -, -, X₁, st1⟩ := Y.newCold hexec (own := own) (C := cls) (index := ik) (n := 6) hown' hk' hins hini'
    (g := F0 m pc ls rest) rfl (by rw [hb]; exact d0) (Nat.le_refl _) (Nat.le_refl _)
  generalize hT1 : (T.setVm vm₁).pushCell { cls := cX, slots := kX.instanceTypes.map defaultValue, vm := .none } = T1 at X₁ st1
  have hcat : (Value.ref T.heap.size).category = 1 := rfl
  have hcellA : T1.heap[T.heap.size]? = some (freshCell cX kX) := by rw [← hT1]; exact State.heap_pushCell_size _ _
  have d3' : decode c.code (pc + 3) = .ok (.dup, 1) := by rw [hb]; exact d3
  have d4' : decode c.code (pc + 4) = .ok (.ldc_w is, 3) := by rw [hb]; exact d4
  have hstr' : vk_R own is text sa s' := vk_R.warm hW0 hstr
  obtain ⟨U, hsteps, hrun, hend, hW, hsame, ce, hce, hO⟩ := X₁.ctorThrowS hexec htr (own := own) (cls := cls) (names := names) (ic := ic) hown' hcls hnames h (fun x hx => nomatch hx) hfX hkX hcellA (by rw [hhp, hT]; exact Nat.le_refl _) (msg := .ref sa) rfl
    (g := { method := m, pc := pc + 7, locals := ls, stack := .ref sa :: .ref T.heap.size :: .ref T.heap.size :: rest, locked := none }) rfl hsize rfl rfl (rest := rest) rfl
    (by rw [hb]; exact d7) (by rw [hb]; exact d10) hout hRframes (by simp only [List.map_cons, List.sum_cons, hcat]; omega) hlocks
  obtain ⟨f1, f2⟩ := vx_frame hsame
  rw [hhp] at f1 f2
  have hWs : s.WarmedH U.vm := State.WarmedH.trans hW0 hW
  have hcl : s.vm.findClass cls = some ce.cls := by
    have h9 := hO.cls
    rw [hvm] at h9
    exact h9
  have hall : s.sameButNew ({ U with vm := s.vm } : State) locs mc ms := by
    subst hA
    obtain ⟨e1, e2⟩ := hsame
    rw [State.setFrames_setFrames] at e1
    have h2 : (T.setVm s.vm).sameButNew ({ U with vm := s.vm } : State) [] (0 + 1) (0 + 6) := ⟨e1, e2⟩
    have h3 := X.same.trans h2
    rw [List.append_nil] at h3
    exact h3.mono hc hs
  refine ⟨U, ?_, .threw T.heap.size, hrun, hend, Or.inr ⟨T.heap.size, rfl, cls, ce, locs, hx U hWs.alike f1 (fun q hq => f2 q hq (fun z hz => nomatch hz)), hce, hO.vm, hcl, hWs, hall, hf⟩⟩
  refine st1 _ ?_
  show Steps p.tables e below (T1.setTop { method := m, pc := pc + 3, locals := ls, stack := .ref T.heap.size :: rest, locked := none }) _
  jvm_step X₁.here [X₁.here.top, hexec, d3', Value.category]
  exact X₁.ldcStringW hexec (own := own) (text := text) (index := is) (a := sa) hown' hstr'.1 hstr'.2
    (g := { method := m, pc := pc + 4, locals := ls, stack := .ref T.heap.size :: .ref T.heap.size :: rest, locked := none }) rfl d4' _ hsteps
end Ends
section Bodies
variable {l : Launch}
theorem vx_ofW {y : MethodName} {ws ws' : List Cond} {rm : Room} {Pc : Array Value → State → Prop} {Qc : Array Value → State → Outcome → State → Prop} {XC : String → State → State → Prop} {mc ms : Nat} {free : Addr → Prop} {cc : ByteArray} {maxL : Nat} {ret : Option FieldType}
    (hy : plainName y.cls = true) (hw : ws = Cond.code y cc maxL ret :: ws')
    (body : ∀ p e s m args below meth c s₁, BodyLoose p l y (headSpec ws rm) cc maxL ret e s m args below meth c s₁ → c.maxLocals = maxL → (∀ x ∈ c.exceptionTable.toList, False) → Pc args s →
      W p l e (headSpec ws rm).room s m args below meth c s.heap [] 0 0 (vx_MQ below Qc XC args s mc ms free) (entryFrame m args maxL)) : vx_Met l y ws rm Pc Qc XC mc ms free := by
  refine MetFree.of_bodyS (code := cc) (maxLocals := maxL) (ret := ret) hy ?_ ?_
  · intro args s m h hn
    obtain ⟨meth, c, h1, h2, h3, h4, h5, h6, -, -⟩ := Cond.code_spec hn (atoms_spec (ws := ws) h _ (by rw [hw]; exact List.mem_cons_self))
    exact ⟨meth, c, h1, h2, h3, h4, h5, h6⟩
  · intro p e s m args below meth c s₁ B hml hP _
    have hh0 : s₁.heap = s.heap := by rw [B.state]; rfl
    have ht : ∀ x ∈ c.exceptionTable.toList, False := by
      obtain ⟨meth9, c9, h1, h2, -, -, -, -, h7, -⟩ := Cond.code_spec B.named (atoms_spec (ws := ws) B.pre _ (by rw [hw]; exact List.mem_cons_self))
      cases Option.some.inj (h1.symm.trans B.method)
      cases Option.some.inj (h2.symm.trans (Stand.of_body B).code)
      intro x hx
      rw [Array.isEmpty_iff.mp h7] at hx
      cases hx
    obtain ⟨t, a1, o, b1, b2, b3⟩ := body p e s m args below meth c s₁ B hml ht hP s₁ hh0 (Stand.of_body B)
    exact ⟨t, o, a1, b1, b2, b3⟩
/-- the table of a body with handlers -/
theorem vx_table {p : Program} {x y : MethodName} {S : Spec} {cc bytes : ByteArray} {maxL maxL' : Nat} {ret ret' : Option FieldType} {e : Env} {s s₁ : State} {m : MethodId} {args : Array Value} {below : List Frame} {meth : Method} {c : Code} {hh : List (Nat × Nat × Nat × Nat)}
    (B : BodyLoose p l y S cc maxL ret e s m args below meth c s₁) (h : (Cond.codeWith y bytes maxL' ret' hh).before args s = true) : c.exceptionTable.toList = tableOf hh := by
  obtain ⟨m9, meth9, c9, hn9, h1, h2, -, -, h6, -⟩ := Cond.codeWith_spec h
  cases Option.some.inj (hn9.symm.trans B.named)
  cases Option.some.inj (h1.symm.trans B.method)
  cases Option.some.inj (h2.symm.trans (Stand.of_body B).code)
  rw [← h6, table_eq]
end Bodies
end VXA
/-! ===== END ===== -/
/-! ===== BEGIN a static call of a method with an exception table ===== -/
section VXS
variable {p : Program} {l : Launch} {e : Env} {R : Room} {s : State} {m : MethodId} {args : Array Value} {below : List Frame} {meth : Method} {c : Code} {T : State} {H : Heap} {locs : List Loc} {cells slots : Nat}
abbrev vx_CSW (R : Room) (s : State) (args : Array Value) (own : String) (index : Nat) (y : MethodName) (bytes : ByteArray) (maxL : Nat) (ret : Option FieldType) (hh : List (Nat × Nat × Nat × Nat)) (ws : List Cond) (rm : Room) (mc ms n : Nat) : Prop :=
  (rm.cells = mc ∧ rm.slots = ms ∧ rm.frames + 1 ≤ R.frames ∧ 8 + (maxL + 11) + rm.locals ≤ R.locals ∧ (∀ w ∈ ws, ∀ (a' : Array Value) (U : State), s.WarmedH U.vm → w.before a' U = true) ∧ Cond.codeWith y bytes maxL ret hh ∈ ws) ∧
  (Cond.codeWith y bytes maxL ret hh).before args s = true ∧ (Cond.initialized y.cls).before args s = true ∧ (y.cls ≠ "java/lang/invoke/MethodHandle" ∧ y.cls ≠ "java/lang/invoke/VarHandle") ∧
  (∀ sig, parseMethodDescriptor y.desc = some sig → n = sig.parameters.length) ∧ (Cond.methodLink own index y).before args s = true ∧ (Cond.static y).before args s = true
theorem vx_cwSW {own : String} {index maxL mc ms : Nat} {y : MethodName} {bytes : ByteArray} {ret : Option FieldType} {hh : List (Nat × Nat × Nat × Nat)} {Ts ws ws' : List Cond} {rm : Room} (n : Nat) (ht : ∀ w ∈ Ts, w.before args s = true) (hT : GoodIn Ts (va_wsS own index y ws)) (hw : ws = Cond.codeWith y bytes maxL ret hh :: ws') (hrc : rm.cells = mc) (hrs : rm.slots = ms)
    (hd : y.cls ≠ "java/lang/invoke/MethodHandle" ∧ y.cls ≠ "java/lang/invoke/VarHandle" ∧ (parseMethodDescriptor y.desc).map (fun d => d.parameters.length) = some n) (hR : rm.frames + 1 ≤ R.frames ∧ 8 + (maxL + 11) + rm.locals ≤ R.locals) :
    vx_CSW R s args own index y bytes maxL ret hh ws rm mc ms n := by
  have ok : ∀ w ∈ va_wsS own index y ws, w.before args s = true := fun w h => ht w (hT w h).1
  have hG : GoodIn Ts ws := fun w h => hT w (by unfold va_wsS; exact List.mem_append_right _ h)
  have hc : Cond.codeWith y bytes maxL ret hh ∈ ws := by rw [hw]; exact List.mem_cons_self
  refine ⟨⟨hrc, hrs, hR.1, hR.2, pay_in ht hG, hc⟩, ht _ (hG _ hc).1, ok _ (by simp [va_wsS]), ⟨hd.1, hd.2.1⟩, fun sig h => ?_, ok _ (by simp [va_wsS]), ok _ (by simp [va_wsS])⟩
  have h2 := hd.2.2
  rw [h] at h2
  exact (Option.some.inj h2).symm
theorem vx_callSW (X : Stand p l e R s m args below meth c T locs cells slots) (hexec : p.tables.exec = Jvm.exec) {own : String} {index : Nat} {y : MethodName} {bytes : ByteArray} {maxL : Nat} {ret : Option FieldType} {hh : List (Nat × Nat × Nat × Nat)}
    (hown : s.vm.findClass own = some m.cls) (hlink : (Cond.methodLink own index y).before args s = true) (hstat : (Cond.static y).before args s = true) (hinit : (Cond.initialized y.cls).before args s = true)
    (hcode : (Cond.codeWith y bytes maxL ret hh).before args s = true) (hy : y.cls ≠ "java/lang/invoke/MethodHandle" ∧ y.cls ≠ "java/lang/invoke/VarHandle")
    {W9 : Nat} {Pre : Pt → Array Value → Prop} {Post : Pt → Array Value → Option Value → Pt → Prop} (hK : Back l R p e below s args y 3 W9 Pre Post)
    {g : JFrame} (hg : g.method = m) (hsize : g.locals.size = c.maxLocals) {argsL rest : List Value} (hlen : ∀ sig, parseMethodDescriptor y.desc = some sig → argsL.length = sig.parameters.length)
    (hstack : g.stack = argsL.reverse ++ rest) (hW : 2 * g.monitorRoom + (rest.map fun v => v.category).sum ≤ W9) (hdg : decode c.code g.pc = .ok (.invokestatic index, 3))
    (hpre : ∀ vm₁, s.WarmedH vm₁ → Pre ⟨T.setVm vm₁, locs, cells, slots⟩ argsL.toArray) :
    ∃ (v : Option Value) (vm₁ : Vm) (B : Pt), s.WarmedH vm₁ ∧ Stand p l e R s m args below meth c B.U B.locs B.cells B.slots ∧ Post ⟨T.setVm vm₁, locs, cells, slots⟩ argsL.toArray v B ∧
      ∀ target, Steps p.tables e below (B.U.setTop { g with pc := g.pc + 3, stack := v.toList ++ rest }) target → Steps p.tables e below (T.setTop g) target := by
  obtain ⟨mk, methM, cM, hnamed, hmethM, -, -, -, -, -, -, hsigM⟩ := Cond.codeWith_spec hcode
  have hstatic : methM.isStatic = true := Cond.static_spec hnamed hmethM hstat
  obtain ⟨kP, hkP, -⟩ := className_of_methodNamed hnamed
  have hinitP : kP.init = .initialized := Cond.initialized_spec (findClass_of_methodNamed hnamed) hkP hinit
  obtain ⟨vm₁, X₁, hstep₁⟩ := X.invokestatic hexec hown hlink hnamed hmethM hstatic hkP hinitP hy (g := g) hg (argsL := argsL) (rest := rest) (hlen _ hsigM) hstack hdg
  obtain ⟨v, B, X', hpost, hsteps⟩ := hK m meth c ⟨T.setVm vm₁, locs, cells, slots⟩ { g with stack := rest } (.invokestatic index) mk argsL.toArray X₁ hg hsize hdg hW (X₁.named hnamed) (hpre vm₁ X₁.warmed)
  exact ⟨v, vm₁, B, X₁.warmed, X', hpost, fun target h => hstep₁ _ fun acts => by rw [doInvoke_state]; exact hsteps.trans h⟩
theorem vx_runSW {y : MethodName} {bytes cc : ByteArray} {maxL nL mc ms n index : Nat} {ret : Option FieldType} {hh : List (Nat × Nat × Nat × Nat)} {ws : List Cond} {rm : Room} {Pc : Array Value → State → Prop} {Qc : Array Value → State → Outcome → State → Prop} {free : Addr → Prop} {Ts : List Cond} {own : String} {As rest : List Value} {g : JFrame}
    (S : CallFix p m c cc nL s args Ts own) (hM : Met l y ws rm Pc Qc mc ms free) (cw : vx_CSW R s args own index y bytes maxL ret hh ws rm mc ms n) (hp : PreS s H Pc As)
    (hg : g.method = m) (hn : As.length = n) (hsize : g.locals.size = nL) (hstack : g.stack = As.reverse ++ rest) (hW : 2 * g.monitorRoom + (rest.map fun v => v.category).sum ≤ 8) (hdg : decode cc g.pc = .ok (.invokestatic index, 3)) (hf : cells + mc ≤ R.cells ∧ slots + ms ≤ R.slots) :
    va_Run p l e R s m args below meth c H locs cells slots mc ms g rest (Qc As.toArray) (free) := by
  obtain ⟨⟨hrc, hrs, hfr, hlo, hws, hcw⟩, hcode, hini, hy, hlen, hl, hstt⟩ := cw
  have hK : Back l R p e below s args y 3 8 (PreOf R mc ms Pc) (PostOf Qc mc ms free) := va_backW (hh := hh) (bytes := bytes) (maxL := maxL) (ret := ret) hM hp.1 hrc hrs hfr hlo hws hcw (fun a' U hW => word_at hW (Or.inl (by first | rfl | simp [Cond.onTables, Cond.keeps, Cond.steady])) hini)
  obtain ⟨hx, hb, hml, ho, -⟩ := S
  intro T hT X
  obtain ⟨v, vm₁, ⟨U', l2, c2, s2⟩, hW₁, X', ⟨g', mk, t, L, e1, e2, hq, h1, hL, h2, h3⟩, st⟩ := vx_callSW X hx (hh := hh) (bytes := bytes) (maxL := maxL) (ret := ret) ho hl hstt hini hcode hy hK hg (hsize.trans hml.symm) (argsL := As) (rest := rest) (fun sig h => hn.trans (hlen sig h)) hstack hW (by rw [hb]; exact hdg)
    (fun vm₁ hW₁ => ⟨hf.1, hf.2, hp.2 (T.setVm vm₁) hT hW₁⟩)
  dsimp only [Pt.U, Pt.locs, Pt.cells, Pt.slots] at X' e1 e2 h1 h2 h3 st
  subst h1; subst h2; subst h3
  exact ⟨v, (T.setVm vm₁).calling g' mk As.toArray, t, U', L, hT, X', hL, e1, e2, hq, st⟩
/-- not caught here, past rows that name other classes: it goes on to the caller -/
theorem vx_outP {p : Program} {l : Launch} {e : Env} {R : Room} {s : State} {m : MethodId} {args : Array Value} {below : List Frame} {meth : Method} {c : Code} {H : Heap} {locs : List Loc} {cells slots : Nat} {free : Addr → Prop} {ls : Array Slot} {rest : List Value} {Qc : Array Value → State → Outcome → State → Prop} {XC : String → State → State → Prop}
    {pc : Nat} {own E : String} {ce : Cell} {q : Addr} {mc ms : Nat} (hown : s.vm.findClass own = some m.cls) (hlocks : meth.locks = false)
    (hpass : ∀ z ∈ c.exceptionTable.toList, covers z pc = false ∨ (z.catchType ≠ 0 ∧ ∃ nm : String, (Cond.classLink own z.catchType nm).before args s = true ∧ va_Nc E nm s)) (hcell : H[q]? = some ce) (hv : ce.vm = .none) (hcl : s.vm.findClass E = some ce.cls)
    (hx : ∀ t : State, t.heap = H → s.vm.Alike t.vm → XC E s t) (hf : ∀ z ∈ locs, free z.base) (hc : cells ≤ mc) (hs : slots ≤ ms) :
    vx_W p l e R s m args below meth c H locs cells slots (vx_MQ below Qc XC args s mc ms free) (F0 m pc ls rest) q := by
  intro T hT X
  have hpl : e.platform.magicAccessors = ({} : Platform).magicAccessors := by rw [X.admits.platform]
  obtain ⟨vm', hW', X', st⟩ := X.outThrough hlocks q (g := F0 m pc ls rest) rfl rfl rfl (cell := ce) (by rw [hT]; exact hcell) (by rw [hv]; rfl)
    (by obtain ⟨k9, h9, -⟩ := Vm.findClass_spec hcl; exact ⟨k9, h9⟩) (fun z hz => by
      rcases hpass z hz with h | ⟨hz0, nm, hl1, hn1⟩
      · exact Or.inl h
      · obtain ⟨c6, hc6, hcl6⟩ := Cond.classLink_spec hown hl1 e.platform hpl
        obtain ⟨a8, b8, h1, h2, h3⟩ := hn1
        cases Option.some.inj (h1.symm.trans hcl)
        cases Option.some.inj (h2.symm.trans hc6)
        exact Or.inr ⟨hz0, _, hcl6, h3⟩)
  obtain ⟨g₀, hfr⟩ := X'.frames_eq
  have hcell9 : ((T.setVm vm').setFrames (.throwing q :: below)).heap[q]? = some ce := by
    show T.heap[q]? = some ce
    rw [hT]; exact hcell
  have hend : Ended ((T.setVm vm').setFrames (.throwing q :: below)) below (.threw q) := State.frames_setFrames _ (State.cur_lt_of_frames hfr)
  refine ⟨(T.setVm vm').setFrames (.throwing q :: below), ?_, .threw q, X'.here.running, hend, Or.inr ⟨q, rfl, E, ce, locs, hx _ hT (X'.ends _).1.alike, hcell9, hv, hcl, (X'.ends _).1, (X'.ends _).2.mono hc hs, hf⟩⟩
  rw [X.pushThrowing_eq]
  exact st
/-- a thing of a world lies in the heap -/
theorem vx_lt {D : va_G} {cl : List vw_C} {ws : va_W} {H1 : Heap} (h : va_P D cl ws H1) {k : Nat} {q : Nat × va_E} (hk : ws[k]? = some q) : q.1 < H1.size := (h k q hk).lt
end VXS
/-! ===== END ===== -/
/-! ===== BEGIN methods with a table of their own: called by a name, returning or throwing ===== -/
section VXH
/-! vx_backW, vx_callVX, vx_callSX, vx_callVW, vx_runVW, vx_runVX, vx_runSX, vx_ofWH follow the same proofs as their sisters above (Free/Laws.lean, Shelf42/LK1.lean); vx_outP calls Shelf42/NT130.lean (outThrough). -/
section
variable {l : Launch} {R : Room} {p : Program} {e : Env} {below : List Frame} {s : State} {sargs : Array Value} {y : MethodName} {len W9 : Nat}
theorem vx_backW {ws : List Cond} {rm : Room} {Pc : Array Value → State → Prop} {Qc : Array Value → State → Outcome → State → Prop} {XC : String → State → State → Prop} {mc ms : Nat} {free : Addr → Prop} {bytes : ByteArray} {maxL : Nat} {ret : Option FieldType} {hh : List (Nat × Nat × Nat × Nat)}
    (hM : vx_Met l y ws rm Pc Qc XC mc ms free) (hblind : FrameBlind Pc) (hrc : rm.cells = mc) (hrs : rm.slots = ms)
    (hframes : rm.frames + 1 ≤ R.frames) (hlocals : W9 + (maxL + 11) + rm.locals ≤ R.locals)
    (hws : ∀ w ∈ ws, ∀ a' U, s.WarmedH U.vm → w.before a' U = true) (hcode : Cond.codeWith y bytes maxL ret hh ∈ ws) (hinit : ∀ a' U, s.WarmedH U.vm → (Cond.initialized y.cls).before a' U = true) :
    vx_Back l R p e below s sargs y len W9 (PreOf R mc ms Pc) (PostOf Qc mc ms free) (vx_Post XC mc ms free) := by
  intro m meth c A g ig mk a X hg hsize hdg hW hn hp
  have h1 : (headSpec ws rm).pre.before a A.U = true := atoms_intro fun w hw => hws w hw _ _ X.warmed
  have h2 : (Cond.codeWith y bytes maxL ret hh).before a A.U = true := hws _ hcode _ _ X.warmed
  have h3 : (Cond.initialized y.cls).before a A.U = true := hinit _ _ X.warmed
  have h4 : A.cells + (headSpec ws rm).room.cells ≤ R.cells := by rw [show (headSpec ws rm).room.cells = mc from hrc]; exact hp.1
  have h5 : A.slots + (headSpec ws rm).room.slots ≤ R.slots := by rw [show (headSpec ws rm).room.slots = ms from hrs]; exact hp.2.1
  have hPc : Pc a (A.U.calling g mk a) := hblind _ _ _ _ hp.2.2
  obtain ⟨U, Ls, c0, s0⟩ := A
  dsimp only [Pt.U, Pt.locs, Pt.cells, Pt.slots] at h1 h2 h3 h4 h5 X hn hPc ⊢
  obtain ⟨m9, methY, cY, hn9, hmY, hcY, -, hlY, -⟩ := Cond.codeWith_spec h2
  cases Option.some.inj (hn9.symm.trans hn)
  obtain ⟨kY, hkY, -⟩ := className_of_methodNamed hn
  have hinitY : kY.init = .initialized := Cond.initialized_spec (findClass_of_methodNamed hn) hkY h3
  have h : At U g.method c below := by rw [hg]; exact X.here
  have hlocals9 : W9 + (maxL + 11) + (headSpec ws rm).room.locals ≤ R.locals := hlocals
  have happ : (headSpec ws rm).appliesLoose y e.platform (U.calling g mk a) = true :=
    Spec.appliesLoose_calling (g := g) h hdg hn hkY hinitY
      (X.room_calling (g := g) (R' := (headSpec ws rm).room) hsize hmY hcY hframes (by rw [hlY]; omega) h4 h5) h1
  obtain ⟨mid, hmid⟩ := h.above
  have hfr : (U.setTop g).frames = (.java g :: mid) ++ below := by rw [State.frames_setTop' g h.top, hmid]; rfl
  obtain ⟨o, s₂, hsteps, -, hend, hq⟩ := Steps.callFree hM p X.admits X.cas X.clock (acts := []) hfr happ hPc trivial
  have hq' : vx_Q Qc XC mc ms free a (U.calling g mk a) o s₂ := hq
  rw [State.frames_setTop' g h.top] at hend
  obtain ⟨g₀, hg0⟩ := Option.isSome_iff_exists.mp h.top
  obtain ⟨r, hr⟩ := State.topJava?_eq_some.mp hg0
  have hr' : (({ U with heap := s₂.heap, slotsUsed := s₂.slotsUsed } : State).setVm s₂.vm).frames = .java g₀ :: r := hr
  rcases hq' with ⟨hqc, L, hfe, hL⟩ | ⟨q, rfl, E, ce, L, hx, hce, hcv, hcl, hW₂, hsm, hL⟩
  · obtain ⟨⟨v, rfl⟩, hW₂, e2, q2, q3, q4, q5, q6⟩ := id hfe
    have e3 : s₂ = ({ (U.calling g mk a).setFrames s₂.frames with heap := s₂.heap, slotsUsed := s₂.slotsUsed } : State).setVm s₂.vm := by
      have : s₂ = ({ s₂ with vm := (U.calling g mk a).vm } : State).setVm s₂.vm := rfl
      rw [e2] at this
      exact this
    obtain ⟨c₂, i₂, len₂, hc₂, hd₂, hf₂⟩ := hend
    have hW' : U.WarmedH s₂.vm := hW₂
    have hcc : c₂ = c := by
      have h1 : s₂.code? g.method = U.code? g.method := by
        rw [State.code?_eq, State.code?_eq, hW'.alike.method?]
      exact Option.some.inj (hc₂.symm.trans (h1.trans h.code))
    subst hcc
    have hlen : len₂ = len := by rw [hdg] at hd₂; cases hd₂; rfl
    subst hlen
    have hs₂ : s₂ = (({ U with heap := s₂.heap, slotsUsed := s₂.slotsUsed } : State).setVm s₂.vm).setTop { g with pc := g.pc + len₂, stack := v.toList ++ g.stack } := by
      refine e3.trans ?_
      rw [hf₂, State.calling_eq h.top, State.setFrames_setFrames, State.setTop_of_frames _ hr', hr]
      rfl
    have hsame : U.sameButNew ({ U with heap := s₂.heap, slotsUsed := s₂.slotsUsed } : State) L mc ms := by
      refine ⟨?_, q2, q3, q4, q5, q6⟩
      obtain ⟨t, ht, -⟩ := State.frames_cons hr
      show ({ U with heap := s₂.heap, slotsUsed := s₂.slotsUsed } : State) = { U.setFrames U.frames with heap := s₂.heap, slotsUsed := s₂.slotsUsed }
      rw [State.setFrames_self ht]
    subst hg
    refine Or.inl ⟨v, ⟨(({ U with heap := s₂.heap, slotsUsed := s₂.slotsUsed } : State).setVm s₂.vm), Ls ++ L, c0 + mc, s0 + ms⟩,
      ⟨X.admits, X.cas, X.clock, X.frames, X.room, X.hears, X.method, X.code, (X.here.setHeapUsed s₂.heap s₂.slotsUsed).setVm hW'.alike, X.tail, State.WarmedH.trans X.warmed hW', X.limits, X.bytes, X.same.trans (hsame.setVm s.vm)⟩,
      ⟨g, mk, s₂, L, rfl, rfl, hqc, rfl, hL, rfl, rfl⟩, ?_⟩
    show Steps p.tables e below _ ((({ U with heap := s₂.heap, slotsUsed := s₂.slotsUsed } : State).setVm s₂.vm).setTop { g with pc := g.pc + len₂, stack := v.toList ++ g.stack })
    rw [← hs₂]
    exact hsteps
  · obtain ⟨e2, q2, q3, q4, q5, q6⟩ := id hsm
    have e3 : s₂ = ({ (U.calling g mk a).setFrames s₂.frames with heap := s₂.heap, slotsUsed := s₂.slotsUsed } : State).setVm s₂.vm := by
      have : s₂ = ({ s₂ with vm := (U.calling g mk a).vm } : State).setVm s₂.vm := rfl
      rw [e2] at this
      exact this
    have hf₂ : s₂.frames = .throwing q :: .java g :: U.frames.tail := hend
    have hW' : U.WarmedH s₂.vm := hW₂
    have hs₂ : s₂ = ((({ U with heap := s₂.heap, slotsUsed := s₂.slotsUsed } : State).setVm s₂.vm).setTop g).pushFrame (.throwing q) := by
      refine e3.trans ?_
      rw [hf₂, State.calling_eq h.top, State.setFrames_setFrames, State.pushFrame, State.frames_setTop _ hr', State.setTop_of_frames _ hr', State.setFrames_setFrames, hr]
      rfl
    have hsame : U.sameButNew ({ U with heap := s₂.heap, slotsUsed := s₂.slotsUsed } : State) L mc ms := by
      refine ⟨?_, q2, q3, q4, q5, q6⟩
      obtain ⟨t, ht, -⟩ := State.frames_cons hr
      show ({ U with heap := s₂.heap, slotsUsed := s₂.slotsUsed } : State) = { U.setFrames U.frames with heap := s₂.heap, slotsUsed := s₂.slotsUsed }
      rw [State.setFrames_self ht]
    subst hg
    refine Or.inr ⟨q, ⟨(({ U with heap := s₂.heap, slotsUsed := s₂.slotsUsed } : State).setVm s₂.vm), Ls ++ L, c0 + mc, s0 + ms⟩,
      ⟨X.admits, X.cas, X.clock, X.frames, X.room, X.hears, X.method, X.code, (X.here.setHeapUsed s₂.heap s₂.slotsUsed).setVm hW'.alike, X.tail, State.WarmedH.trans X.warmed hW', X.limits, X.bytes, X.same.trans (hsame.setVm s.vm)⟩,
      ⟨g, mk, s₂, L, E, ce, rfl, rfl, hx, hce, hcv, hcl, rfl, hL, rfl, rfl⟩, ?_⟩
    show Steps p.tables e below _ (((({ U with heap := s₂.heap, slotsUsed := s₂.slotsUsed } : State).setVm s₂.vm).setTop g).pushFrame (.throwing q))
    rw [← hs₂]
    exact hsteps
end
variable {p : Program} {l : Launch} {e : Env} {R : Room} {s : State} {m : MethodId} {args : Array Value} {below : List Frame} {meth : Method} {c : Code} {T : State} {H : Heap} {locs : List Loc} {cells slots : Nat}
theorem vx_callVX (X : Stand p l e R s m args below meth c T locs cells slots) (hexec : p.tables.exec = Jvm.exec) {own C : String} {index : Nat} {y : MethodName} {bytes : ByteArray} {maxL : Nat} {ret : Option FieldType} {hh : List (Nat × Nat × Nat × Nat)}
    (hown : s.vm.findClass own = some m.cls) (hlink : (Cond.methodLink own index y).before args s = true) (hinst : (Cond.instanceMethod y).before args s = true) (hsel : (Cond.selects C y y).before args s = true)
    (hcode : (Cond.codeWith y bytes maxL ret hh).before args s = true) (hy : y.cls ≠ "java/lang/invoke/MethodHandle" ∧ y.cls ≠ "java/lang/invoke/VarHandle")
    {W9 : Nat} {Pre : Pt → Array Value → Prop} {Post : Pt → Array Value → Option Value → Pt → Prop} {PostX : Pt → Array Value → Addr → Pt → Prop} (hK : vx_Back l R p e below s args y 3 W9 Pre Post PostX)
    {b : Addr} {cellB : Cell} (hcell : T.heap[b]? = some cellB) (hobj : cellB.vm.isStatics = false) (hcls : s.vm.findClass C = some cellB.cls)
    {g : JFrame} (hg : g.method = m) (hsize : g.locals.size = c.maxLocals) {argsL rest : List Value} (hlen : ∀ sig, parseMethodDescriptor y.desc = some sig → argsL.length = sig.parameters.length)
    (hstack : g.stack = argsL.reverse ++ .ref b :: rest) (hW : 2 * g.monitorRoom + (rest.map fun v => v.category).sum ≤ W9) (hdg : decode c.code g.pc = .ok (.invokevirtual index, 3))
    (hpre : ∀ vm₁, s.WarmedH vm₁ → Pre ⟨T.setVm vm₁, locs, cells, slots⟩ (Value.ref b :: argsL).toArray) :
    (∃ (v : Option Value) (vm₁ : Vm) (B : Pt), s.WarmedH vm₁ ∧ Stand p l e R s m args below meth c B.U B.locs B.cells B.slots ∧ Post ⟨T.setVm vm₁, locs, cells, slots⟩ (Value.ref b :: argsL).toArray v B ∧
      ∀ target, Steps p.tables e below (B.U.setTop { g with pc := g.pc + 3, stack := v.toList ++ rest }) target → Steps p.tables e below (T.setTop g) target) ∨
    (∃ (q : Addr) (vm₁ : Vm) (B : Pt), s.WarmedH vm₁ ∧ Stand p l e R s m args below meth c B.U B.locs B.cells B.slots ∧ PostX ⟨T.setVm vm₁, locs, cells, slots⟩ (Value.ref b :: argsL).toArray q B ∧
      Steps p.tables e below (T.setTop g) ((B.U.setTop { g with stack := rest }).pushFrame (.throwing q))) := by
  obtain ⟨mk, methM, hnamed, hmethM, hstM, habM⟩ := Cond.instanceMethod_spec hinst
  obtain ⟨m8, methM', cM, hn8, hmethM', -, -, -, -, -, -, hsigM⟩ := Cond.codeWith_spec hcode
  cases Option.some.inj (hn8.symm.trans hnamed)
  cases hmethM.symm.trans hmethM'
  obtain ⟨c2, r2, m2, q1, q2, q3, q4, kP, hkP, hkPi⟩ := Cond.selects_spec hsel
  cases hcls.symm.trans q1
  cases (State.methodFound?_of_named hnamed hy).symm.trans q2
  cases hnamed.symm.trans q3
  have hselP : selectMethod e.platform s.vm cellB.cls mk = .method mk := by rw [Launch.admits_selectMethod X.admits]; exact q4
  obtain ⟨vm₁, X₁, hstep₁⟩ := X.invokevirtual hexec hown hlink hnamed hmethM hstM hkP hkPi hy (a := b) (cell := cellB) hcell
    (fun z h => by rw [h] at hobj; cases hobj) hselP hmethM habM hkP hkPi (g := g) hg (argsL := argsL) (rest := rest) (hlen _ hsigM) hstack hdg
  rcases hK m meth c ⟨T.setVm vm₁, locs, cells, slots⟩ { g with stack := rest } (.invokevirtual index) mk (Value.ref b :: argsL).toArray X₁ hg hsize hdg hW (X₁.named hnamed) (hpre vm₁ X₁.warmed) with ⟨v, B, X', hpost, hsteps⟩ | ⟨q, B, X', hpost, hsteps⟩
  · exact Or.inl ⟨v, vm₁, B, X₁.warmed, X', hpost, fun target h => hstep₁ _ fun acts => by rw [doInvoke_state]; exact hsteps.trans h⟩
  · exact Or.inr ⟨q, vm₁, B, X₁.warmed, X', hpost, hstep₁ _ fun acts => by rw [doInvoke_state]; exact hsteps⟩
theorem vx_callSX (X : Stand p l e R s m args below meth c T locs cells slots) (hexec : p.tables.exec = Jvm.exec) {own : String} {index : Nat} {y : MethodName} {bytes : ByteArray} {maxL : Nat} {ret : Option FieldType} {hh : List (Nat × Nat × Nat × Nat)}
    (hown : s.vm.findClass own = some m.cls) (hlink : (Cond.methodLink own index y).before args s = true) (hstat : (Cond.static y).before args s = true) (hinit : (Cond.initialized y.cls).before args s = true)
    (hcode : (Cond.codeWith y bytes maxL ret hh).before args s = true) (hy : y.cls ≠ "java/lang/invoke/MethodHandle" ∧ y.cls ≠ "java/lang/invoke/VarHandle")
    {W9 : Nat} {Pre : Pt → Array Value → Prop} {Post : Pt → Array Value → Option Value → Pt → Prop} {PostX : Pt → Array Value → Addr → Pt → Prop} (hK : vx_Back l R p e below s args y 3 W9 Pre Post PostX)
    {g : JFrame} (hg : g.method = m) (hsize : g.locals.size = c.maxLocals) {argsL rest : List Value} (hlen : ∀ sig, parseMethodDescriptor y.desc = some sig → argsL.length = sig.parameters.length)
    (hstack : g.stack = argsL.reverse ++ rest) (hW : 2 * g.monitorRoom + (rest.map fun v => v.category).sum ≤ W9) (hdg : decode c.code g.pc = .ok (.invokestatic index, 3))
    (hpre : ∀ vm₁, s.WarmedH vm₁ → Pre ⟨T.setVm vm₁, locs, cells, slots⟩ argsL.toArray) :
    (∃ (v : Option Value) (vm₁ : Vm) (B : Pt), s.WarmedH vm₁ ∧ Stand p l e R s m args below meth c B.U B.locs B.cells B.slots ∧ Post ⟨T.setVm vm₁, locs, cells, slots⟩ argsL.toArray v B ∧
      ∀ target, Steps p.tables e below (B.U.setTop { g with pc := g.pc + 3, stack := v.toList ++ rest }) target → Steps p.tables e below (T.setTop g) target) ∨
    (∃ (q : Addr) (vm₁ : Vm) (B : Pt), s.WarmedH vm₁ ∧ Stand p l e R s m args below meth c B.U B.locs B.cells B.slots ∧ PostX ⟨T.setVm vm₁, locs, cells, slots⟩ argsL.toArray q B ∧
      Steps p.tables e below (T.setTop g) ((B.U.setTop { g with stack := rest }).pushFrame (.throwing q))) := by
  obtain ⟨mk, methM, cM, hnamed, hmethM, -, -, -, -, -, -, hsigM⟩ := Cond.codeWith_spec hcode
  have hstatic : methM.isStatic = true := Cond.static_spec hnamed hmethM hstat
  obtain ⟨kP, hkP, -⟩ := className_of_methodNamed hnamed
  have hinitP : kP.init = .initialized := Cond.initialized_spec (findClass_of_methodNamed hnamed) hkP hinit
  obtain ⟨vm₁, X₁, hstep₁⟩ := X.invokestatic hexec hown hlink hnamed hmethM hstatic hkP hinitP hy (g := g) hg (argsL := argsL) (rest := rest) (hlen _ hsigM) hstack hdg
  rcases hK m meth c ⟨T.setVm vm₁, locs, cells, slots⟩ { g with stack := rest } (.invokestatic index) mk argsL.toArray X₁ hg hsize hdg hW (X₁.named hnamed) (hpre vm₁ X₁.warmed) with ⟨v, B, X', hpost, hsteps⟩ | ⟨q, B, X', hpost, hsteps⟩
  · exact Or.inl ⟨v, vm₁, B, X₁.warmed, X', hpost, fun target h => hstep₁ _ fun acts => by rw [doInvoke_state]; exact hsteps.trans h⟩
  · exact Or.inr ⟨q, vm₁, B, X₁.warmed, X', hpost, hstep₁ _ fun acts => by rw [doInvoke_state]; exact hsteps⟩
theorem vx_callVW (X : Stand p l e R s m args below meth c T locs cells slots) (hexec : p.tables.exec = Jvm.exec) {own C : String} {index : Nat} {y : MethodName} {bytes : ByteArray} {maxL : Nat} {ret : Option FieldType} {hh : List (Nat × Nat × Nat × Nat)}
    (hown : s.vm.findClass own = some m.cls) (hlink : (Cond.methodLink own index y).before args s = true) (hinst : (Cond.instanceMethod y).before args s = true) (hsel : (Cond.selects C y y).before args s = true)
    (hcode : (Cond.codeWith y bytes maxL ret hh).before args s = true) (hy : y.cls ≠ "java/lang/invoke/MethodHandle" ∧ y.cls ≠ "java/lang/invoke/VarHandle")
    {W9 : Nat} {Pre : Pt → Array Value → Prop} {Post : Pt → Array Value → Option Value → Pt → Prop} (hK : Back l R p e below s args y 3 W9 Pre Post)
    {b : Addr} {cellB : Cell} (hcell : T.heap[b]? = some cellB) (hobj : cellB.vm.isStatics = false) (hcls : s.vm.findClass C = some cellB.cls)
    {g : JFrame} (hg : g.method = m) (hsize : g.locals.size = c.maxLocals) {argsL rest : List Value} (hlen : ∀ sig, parseMethodDescriptor y.desc = some sig → argsL.length = sig.parameters.length)
    (hstack : g.stack = argsL.reverse ++ .ref b :: rest) (hW : 2 * g.monitorRoom + (rest.map fun v => v.category).sum ≤ W9) (hdg : decode c.code g.pc = .ok (.invokevirtual index, 3))
    (hpre : ∀ vm₁, s.WarmedH vm₁ → Pre ⟨T.setVm vm₁, locs, cells, slots⟩ (Value.ref b :: argsL).toArray) :
    ∃ (v : Option Value) (vm₁ : Vm) (B : Pt), s.WarmedH vm₁ ∧ Stand p l e R s m args below meth c B.U B.locs B.cells B.slots ∧ Post ⟨T.setVm vm₁, locs, cells, slots⟩ (Value.ref b :: argsL).toArray v B ∧
      ∀ target, Steps p.tables e below (B.U.setTop { g with pc := g.pc + 3, stack := v.toList ++ rest }) target → Steps p.tables e below (T.setTop g) target := by
  obtain ⟨mk, methM, hnamed, hmethM, hstM, habM⟩ := Cond.instanceMethod_spec hinst
  obtain ⟨m8, methM', cM, hn8, hmethM', -, -, -, -, -, -, hsigM⟩ := Cond.codeWith_spec hcode
  cases Option.some.inj (hn8.symm.trans hnamed)
  cases hmethM.symm.trans hmethM'
  obtain ⟨c2, r2, m2, q1, q2, q3, q4, kP, hkP, hkPi⟩ := Cond.selects_spec hsel
  cases hcls.symm.trans q1
  cases (State.methodFound?_of_named hnamed hy).symm.trans q2
  cases hnamed.symm.trans q3
  have hselP : selectMethod e.platform s.vm cellB.cls mk = .method mk := by rw [Launch.admits_selectMethod X.admits]; exact q4
  obtain ⟨vm₁, X₁, hstep₁⟩ := X.invokevirtual hexec hown hlink hnamed hmethM hstM hkP hkPi hy (a := b) (cell := cellB) hcell
    (fun z h => by rw [h] at hobj; cases hobj) hselP hmethM habM hkP hkPi (g := g) hg (argsL := argsL) (rest := rest) (hlen _ hsigM) hstack hdg
  obtain ⟨v, B, X', hpost, hsteps⟩ := hK m meth c ⟨T.setVm vm₁, locs, cells, slots⟩ { g with stack := rest } (.invokevirtual index) mk (Value.ref b :: argsL).toArray X₁ hg hsize hdg hW (X₁.named hnamed) (hpre vm₁ X₁.warmed)
  exact ⟨v, vm₁, B, X₁.warmed, X', hpost, fun target h => hstep₁ _ fun acts => by rw [doInvoke_state]; exact hsteps.trans h⟩
abbrev vx_CVW (R : Room) (s : State) (args : Array Value) (own C : String) (index : Nat) (y : MethodName) (bytes : ByteArray) (maxL : Nat) (ret : Option FieldType) (hh : List (Nat × Nat × Nat × Nat)) (ws : List Cond) (rm : Room) (mc ms n : Nat) : Prop :=
  (rm.cells = mc ∧ rm.slots = ms ∧ rm.frames + 1 ≤ R.frames ∧ 8 + (maxL + 11) + rm.locals ≤ R.locals ∧ (∀ w ∈ ws, ∀ (a' : Array Value) (U : State), s.WarmedH U.vm → w.before a' U = true) ∧ Cond.codeWith y bytes maxL ret hh ∈ ws) ∧
  (Cond.codeWith y bytes maxL ret hh).before args s = true ∧ (Cond.initialized y.cls).before args s = true ∧ (y.cls ≠ "java/lang/invoke/MethodHandle" ∧ y.cls ≠ "java/lang/invoke/VarHandle") ∧
  (∀ sig, parseMethodDescriptor y.desc = some sig → n = sig.parameters.length) ∧ (Cond.methodLink own index y).before args s = true ∧ (Cond.instanceMethod y).before args s = true ∧ (Cond.selects C y y).before args s = true
theorem vx_cwVW {own C : String} {index maxL mc ms : Nat} {y : MethodName} {bytes : ByteArray} {ret : Option FieldType} {hh : List (Nat × Nat × Nat × Nat)} {Ts ws ws' : List Cond} {rm : Room} (n : Nat) (ht : ∀ w ∈ Ts, w.before args s = true) (hT : GoodIn Ts (wsV own index C y ws)) (hw : ws = Cond.codeWith y bytes maxL ret hh :: ws') (hrc : rm.cells = mc) (hrs : rm.slots = ms)
    (hd : y.cls = C ∧ y.cls ≠ "java/lang/invoke/MethodHandle" ∧ y.cls ≠ "java/lang/invoke/VarHandle" ∧ (parseMethodDescriptor y.desc).map (fun d => d.parameters.length) = some n) (hR : rm.frames + 1 ≤ R.frames ∧ 8 + (maxL + 11) + rm.locals ≤ R.locals) :
    vx_CVW R s args own C index y bytes maxL ret hh ws rm mc ms n := by
  obtain ⟨hC, hd⟩ := hd
  subst hC
  have ok : ∀ w ∈ wsV own index y.cls y ws, w.before args s = true := fun w h => ht w (hT w h).1
  have hG : GoodIn Ts ws := fun w h => hT w (by unfold wsV; exact List.mem_append_right _ h)
  have hc : Cond.codeWith y bytes maxL ret hh ∈ ws := by rw [hw]; exact List.mem_cons_self
  refine ⟨⟨hrc, hrs, hR.1, hR.2, pay_in ht hG, hc⟩, ht _ (hG _ hc).1, ok _ (by simp [wsV]), ⟨hd.1, hd.2.1⟩, fun sig h => ?_, ok _ (by simp [wsV]), ok _ (by simp [wsV]), ok _ (by simp [wsV])⟩
  have h2 := hd.2.2
  rw [h] at h2
  exact (Option.some.inj h2).symm
theorem vx_runVW {y : MethodName} {bytes cc : ByteArray} {maxL nL mc ms n index : Nat} {ret : Option FieldType} {hh : List (Nat × Nat × Nat × Nat)} {ws : List Cond} {rm : Room} {Pc : Array Value → State → Prop} {Qc : Array Value → State → Outcome → State → Prop} {free : Addr → Prop} {Ts : List Cond} {own C : String} {b : Addr} {As rest : List Value} {g : JFrame}
    (S : CallFix p m c cc nL s args Ts own) (hM : Met l y ws rm Pc Qc mc ms free) (cw : vx_CVW R s args own C index y bytes maxL ret hh ws rm mc ms n) (hp : PreV s H C b Pc As)
    (hg : g.method = m) (hn : As.length = n) (hsize : g.locals.size = nL) (hstack : g.stack = As.reverse ++ .ref b :: rest) (hW : 2 * g.monitorRoom + (rest.map fun v => v.category).sum ≤ 8) (hdg : decode cc g.pc = .ok (.invokevirtual index, 3)) (hf : cells + mc ≤ R.cells ∧ slots + ms ≤ R.slots) :
    va_Run p l e R s m args below meth c H locs cells slots mc ms g rest (Qc (Value.ref b :: As).toArray) free := by
  obtain ⟨⟨hrc, hrs, hfr, hlo, hws, hcw⟩, hcode, hini, hy, hlen, hl, hin, hse⟩ := cw
  have hK : Back l R p e below s args y 3 8 (PreOf R mc ms Pc) (PostOf Qc mc ms free) := va_backW (hh := hh) (bytes := bytes) (maxL := maxL) (ret := ret) hM hp.1 hrc hrs hfr hlo hws hcw (fun a' U hW => word_at hW (Or.inl (by first | rfl | simp [Cond.onTables, Cond.keeps, Cond.steady])) hini)
  obtain ⟨hx, hb, hml, ho, -⟩ := S
  obtain ⟨-, ⟨cellB, hcB, hoB, hclB⟩, hPc⟩ := hp
  intro T hT X
  obtain ⟨v, vm₁, ⟨U', l2, c2, s2⟩, hW₁, X', ⟨g', mk, t, L, e1, e2, hq, h1, hL, h2, h3⟩, st⟩ := vx_callVW X hx (C := C) (hh := hh) (bytes := bytes) (maxL := maxL) (ret := ret) ho hl hin hse hcode hy hK (by rw [hT]; exact hcB) hoB hclB hg (hsize.trans hml.symm) (argsL := As) (rest := rest) (fun sig h => hn.trans (hlen sig h)) hstack hW (by rw [hb]; exact hdg)
    (fun vm₁ hW₁ => ⟨hf.1, hf.2, hPc (T.setVm vm₁) hT hW₁⟩)
  dsimp only [Pt.U, Pt.locs, Pt.cells, Pt.slots] at X' e1 e2 h1 h2 h3 st
  subst h1; subst h2; subst h3
  exact ⟨v, (T.setVm vm₁).calling g' mk (Value.ref b :: As).toArray, t, U', L, hT, X', hL, e1, e2, hq, st⟩
section
variable {y : MethodName} {bytes cc : ByteArray} {maxL nL mc ms n index : Nat} {ret : Option FieldType} {ws : List Cond} {rm : Room} {Pc : Array Value → State → Prop} {Qc : Array Value → State → Outcome → State → Prop} {XC : String → State → State → Prop} {free : Addr → Prop} {Ts : List Cond} {own C : String} {b : Addr} {As rest : List Value} {g : JFrame}
theorem vx_runVX {hh : List (Nat × Nat × Nat × Nat)} (S : CallFix p m c cc nL s args Ts own) (hM : vx_Met l y ws rm Pc Qc XC mc ms free) (cw : vx_CVW R s args own C index y bytes maxL ret hh ws rm mc ms n) (hp : PreV s H C b Pc As)
    (hg : g.method = m) (hn : As.length = n) (hsize : g.locals.size = nL) (hstack : g.stack = As.reverse ++ .ref b :: rest) (hW : 2 * g.monitorRoom + (rest.map fun v => v.category).sum ≤ 8) (hdg : decode cc g.pc = .ok (.invokevirtual index, 3)) (hf : cells + mc ≤ R.cells ∧ slots + ms ≤ R.slots) :
    vx_Run p l e R s m args below meth c H locs cells slots mc ms g rest (Qc (Value.ref b :: As).toArray) XC free := by
  obtain ⟨⟨hrc, hrs, hfr, hlo, hws, hcw⟩, hcode, hini, hy, hlen, hl, hin, hse⟩ := cw
  have hK : vx_Back l R p e below s args y 3 8 (PreOf R mc ms Pc) (PostOf Qc mc ms free) (vx_Post XC mc ms free) := vx_backW (hh := hh) (bytes := bytes) (maxL := maxL) (ret := ret) hM hp.1 hrc hrs hfr hlo hws hcw (fun a' U hW => word_at hW (Or.inl (by first | rfl | simp [Cond.onTables, Cond.keeps, Cond.steady])) hini)
  obtain ⟨hx, hb, hml, ho, -⟩ := S
  obtain ⟨-, ⟨cellB, hcB, hoB, hclB⟩, hPc⟩ := hp
  intro T hT X
  rcases vx_callVX X hx (C := C) (hh := hh) (bytes := bytes) (maxL := maxL) (ret := ret) ho hl hin hse hcode hy hK (by rw [hT]; exact hcB) hoB hclB hg (hsize.trans hml.symm) (argsL := As) (rest := rest) (fun sig h => hn.trans (hlen sig h)) hstack hW (by rw [hb]; exact hdg)
    (fun vm₁ hW₁ => ⟨hf.1, hf.2, hPc (T.setVm vm₁) hT hW₁⟩) with ⟨v, vm₁, ⟨U', l2, c2, s2⟩, hW₁, X', ⟨g', mk, t, L, e1, e2, hq, h1, hL, h2, h3⟩, st⟩ | ⟨q, vm₁, ⟨U', l2, c2, s2⟩, hW₁, X', ⟨g', mk, t, L, E, ce, e1, e2, hq, hce, hcv, hcl, h1, hL, h2, h3⟩, st⟩
  · dsimp only [Pt.U, Pt.locs, Pt.cells, Pt.slots] at X' e1 e2 h1 h2 h3 st
    subst h1; subst h2; subst h3
    exact Or.inl ⟨v, (T.setVm vm₁).calling g' mk (Value.ref b :: As).toArray, t, U', L, hT, X', hL, e1, e2, hq, st⟩
  · dsimp only [Pt.U, Pt.locs, Pt.cells, Pt.slots] at X' e1 e2 h1 h2 h3 st hcl
    subst h1; subst h2; subst h3
    exact Or.inr ⟨q, (T.setVm vm₁).calling g' mk (Value.ref b :: As).toArray, t, U', L, E, ce, hT, X', hL, e1, e2, hq, hce, hcv, vx_cls hW₁ hcl, st⟩
theorem vx_runSX {hh : List (Nat × Nat × Nat × Nat)} (S : CallFix p m c cc nL s args Ts own) (hM : vx_Met l y ws rm Pc Qc XC mc ms free) (cw : vx_CSW R s args own index y bytes maxL ret hh ws rm mc ms n) (hp : PreS s H Pc As)
    (hg : g.method = m) (hn : As.length = n) (hsize : g.locals.size = nL) (hstack : g.stack = As.reverse ++ rest) (hW : 2 * g.monitorRoom + (rest.map fun v => v.category).sum ≤ 8) (hdg : decode cc g.pc = .ok (.invokestatic index, 3)) (hf : cells + mc ≤ R.cells ∧ slots + ms ≤ R.slots) :
    vx_Run p l e R s m args below meth c H locs cells slots mc ms g rest (Qc As.toArray) XC free := by
  obtain ⟨⟨hrc, hrs, hfr, hlo, hws, hcw⟩, hcode, hini, hy, hlen, hl, hstt⟩ := cw
  have hK : vx_Back l R p e below s args y 3 8 (PreOf R mc ms Pc) (PostOf Qc mc ms free) (vx_Post XC mc ms free) := vx_backW (hh := hh) (bytes := bytes) (maxL := maxL) (ret := ret) hM hp.1 hrc hrs hfr hlo hws hcw (fun a' U hW => word_at hW (Or.inl (by first | rfl | simp [Cond.onTables, Cond.keeps, Cond.steady])) hini)
  obtain ⟨hx, hb, hml, ho, -⟩ := S
  intro T hT X
  rcases vx_callSX X hx (hh := hh) (bytes := bytes) (maxL := maxL) (ret := ret) ho hl hstt hini hcode hy hK hg (hsize.trans hml.symm) (argsL := As) (rest := rest) (fun sig h => hn.trans (hlen sig h)) hstack hW (by rw [hb]; exact hdg)
    (fun vm₁ hW₁ => ⟨hf.1, hf.2, hp.2 (T.setVm vm₁) hT hW₁⟩) with ⟨v, vm₁, ⟨U', l2, c2, s2⟩, hW₁, X', ⟨g', mk, t, L, e1, e2, hq, h1, hL, h2, h3⟩, st⟩ | ⟨q, vm₁, ⟨U', l2, c2, s2⟩, hW₁, X', ⟨g', mk, t, L, E, ce, e1, e2, hq, hce, hcv, hcl, h1, hL, h2, h3⟩, st⟩
  · dsimp only [Pt.U, Pt.locs, Pt.cells, Pt.slots] at X' e1 e2 h1 h2 h3 st
    subst h1; subst h2; subst h3
    exact Or.inl ⟨v, (T.setVm vm₁).calling g' mk As.toArray, t, U', L, hT, X', hL, e1, e2, hq, st⟩
  · dsimp only [Pt.U, Pt.locs, Pt.cells, Pt.slots] at X' e1 e2 h1 h2 h3 st hcl
    subst h1; subst h2; subst h3
    exact Or.inr ⟨q, (T.setVm vm₁).calling g' mk As.toArray, t, U', L, E, ce, hT, X', hL, e1, e2, hq, hce, hcv, vx_cls hW₁ hcl, st⟩
end
end VXH
theorem vx_ofWH {l : Launch} {y : MethodName} {ws ws' : List Cond} {rm : Room} {Pc : Array Value → State → Prop} {Qc : Array Value → State → Outcome → State → Prop} {XC : String → State → State → Prop} {mc ms : Nat} {free : Addr → Prop} {cc : ByteArray} {maxL : Nat} {ret : Option FieldType} {hh : List (Nat × Nat × Nat × Nat)}
    (hy : plainName y.cls = true) (hw : ws = Cond.codeWith y cc maxL ret hh :: ws')
    (body : ∀ p e s m args below meth c s₁, BodyLoose p l y (headSpec ws rm) cc maxL ret e s m args below meth c s₁ → c.maxLocals = maxL → Pc args s →
      W p l e (headSpec ws rm).room s m args below meth c s.heap [] 0 0 (vx_MQ below Qc XC args s mc ms free) (entryFrame m args maxL)) : vx_Met l y ws rm Pc Qc XC mc ms free := by
  refine MetFree.of_bodyS (code := cc) (maxLocals := maxL) (ret := ret) hy ?_ ?_
  · intro args s m h hn
    obtain ⟨m9, meth, c, hn9, h1, h2, h3, h4, -, h5, h6, -⟩ := Cond.codeWith_spec (atoms_spec (ws := ws) h _ (by rw [hw]; exact List.mem_cons_self))
    cases hn.symm.trans hn9
    exact ⟨meth, c, h1, h2, h3, h4, h5, h6⟩
  · intro p e s m args below meth c s₁ B hml hP _
    have hh0 : s₁.heap = s.heap := by rw [B.state]; rfl
    obtain ⟨t, a1, o, b1, b2, b3⟩ := body p e s m args below meth c s₁ B hml hP s₁ hh0 (Stand.of_body B)
    exact ⟨t, o, a1, b1, b2, b3⟩
/-! ===== END ===== -/

/-- a name of the whole library: these rows are read over the whole of it (a round over the short one, met by an unknown local name, compiles all parts twice) -/
theorem zz_whole : True := (fun _ => trivial) (@Jvm.Stand.anewarrayArrK)
end
section
/-! ===== BEGIN printed: names, fields, word lists, decode rows ===== -/
def RX0 : String := "FeatherBeds$Heap"
def TX0 : u_T := fun k => match k with
  | 0 => ("FeatherBeds$Heap", "ofSize", "[I", true)
  | _ => ("FeatherBeds$Heap", "all", "I", false)
def tyX0 : Nat → FieldType := fun k => match k with
  | 0 => .array .int
  | _ => .int
abbrev wsX00 : List Cond := u_ws RX0 TX0 2
theorem nmX0 : ∀ a, a < 2 → ∀ b, b < 2 → a ≠ b → (TX0 a).2.1 ≠ (TX0 b).2.1 := by decide +kernel
theorem tyX0_ok : ∀ k, k < 2 → parseFieldDescriptor (TX0 k).2.2.1 = some (tyX0 k) := by decide +kernel
abbrev cX0_init : ByteArray := prog_2_method_1_code
def yX0_init : MethodName := ⟨RX0, "<init>", "()V"⟩
abbrev cX0_of : ByteArray := prog_2_method_2_code
def yX0_of : MethodName := ⟨RX0, "of", "(I)I"⟩
abbrev cX0_change : ByteArray := prog_2_method_3_code
def yX0_change : MethodName := ⟨RX0, "change", "(II)V"⟩
abbrev cX0_become : ByteArray := prog_2_method_4_code
def yX0_become : MethodName := ⟨RX0, "become", "(LFeatherBeds$Heap;)V"⟩
abbrev cX0_moveTo : ByteArray := prog_2_method_5_code
def yX0_moveTo : MethodName := ⟨RX0, "moveTo", "(LFeatherBeds$Heap;II)I"⟩
abbrev cX0_warmth : ByteArray := prog_2_method_6_code
def yX0_warmth : MethodName := ⟨RX0, "warmth", "()I"⟩
abbrev cX0_prick : ByteArray := prog_2_method_9_code
def yX0_prick : MethodName := ⟨RX0, "prick", "(I)I"⟩
def RX1 : String := "FeatherBeds$Sack"
def TX1 : u_T := fun k => match k with
  | 0 => ("FeatherBeds$Sack", "heap", "LFeatherBeds$Heap;", true)
  | _ => ("FeatherBeds$Sack", "damp", "I", false)
def tyX1 : Nat → FieldType := fun k => match k with
  | 0 => .object "FeatherBeds$Heap"
  | _ => .int
abbrev wsX10 : List Cond := u_ws RX1 TX1 2
theorem nmX1 : ∀ a, a < 2 → ∀ b, b < 2 → a ≠ b → (TX1 a).2.1 ≠ (TX1 b).2.1 := by decide +kernel
theorem tyX1_ok : ∀ k, k < 2 → parseFieldDescriptor (TX1 k).2.2.1 = some (tyX1 k) := by decide +kernel
abbrev cX1_init : ByteArray := prog_3_method_1_code
def yX1_init : MethodName := ⟨RX1, "<init>", "(I)V"⟩
abbrev cX1_tells : ByteArray := prog_3_method_2_code
def yX1_tells : MethodName := ⟨RX1, "tells", "(I)I"⟩
abbrev cX1_flight : ByteArray := prog_3_method_3_code
def yX1_flight : MethodName := ⟨RX1, "flight", "(II)I"⟩
abbrev cX1_brings : ByteArray := prog_3_method_4_code
def yX1_brings : MethodName := ⟨RX1, "brings", "(III)I"⟩
def RX2 : String := "FeatherBeds$Tick"
def TX2 : u_T := fun k => match k with
  | 0 => ("FeatherBeds$Tick", "columns", "I", false)
  | 1 => ("FeatherBeds$Tick", "rows", "I", false)
  | 2 => ("FeatherBeds$Tick", "density", "I", false)
  | 3 => ("FeatherBeds$Tick", "squares", "I", false)
  | 4 => ("FeatherBeds$Tick", "heaps", "[LFeatherBeds$Heap;", true)
  | 5 => ("FeatherBeds$Tick", "sewn", "[Z", true)
  | _ => ("FeatherBeds$Tick", "partOf", "[I", true)
def tyX2 : Nat → FieldType := fun k => match k with
  | 0 => .int
  | 1 => .int
  | 2 => .int
  | 3 => .int
  | 4 => .array (.object "FeatherBeds$Heap")
  | 5 => .array .boolean
  | _ => .array .int
abbrev wsX20 : List Cond := u_ws RX2 TX2 7
theorem nmX2 : ∀ a, a < 7 → ∀ b, b < 7 → a ≠ b → (TX2 a).2.1 ≠ (TX2 b).2.1 := by decide +kernel
theorem tyX2_ok : ∀ k, k < 7 → parseFieldDescriptor (TX2 k).2.2.1 = some (tyX2 k) := by decide +kernel
abbrev cX2_init : ByteArray := prog_4_method_1_code
def yX2_init : MethodName := ⟨RX2, "<init>", "(III)V"⟩
abbrev cX2_become : ByteArray := prog_4_method_2_code
def yX2_become : MethodName := ⟨RX2, "become", "(LFeatherBeds$Tick;)V"⟩
abbrev cX2_otherOfPair : ByteArray := prog_4_method_3_code
def yX2_otherOfPair : MethodName := ⟨RX2, "otherOfPair", "(II)I"⟩
abbrev cX2_isOpen : ByteArray := prog_4_method_4_code
def yX2_isOpen : MethodName := ⟨RX2, "isOpen", "(II)Z"⟩
abbrev cX2_setSeam : ByteArray := prog_4_method_5_code
def yX2_setSeam : MethodName := ⟨RX2, "setSeam", "(IIZ)V"⟩
abbrev cX2_openPairs : ByteArray := prog_4_method_6_code
def yX2_openPairs : MethodName := ⟨RX2, "openPairs", "()I"⟩
abbrev cX2_parts : ByteArray := prog_4_method_7_code
def yX2_parts : MethodName := ⟨RX2, "parts", "()I"⟩
abbrev cX2_joinParts : ByteArray := prog_4_method_8_code
def yX2_joinParts : MethodName := ⟨RX2, "joinParts", "(II)Z"⟩
abbrev cX2_feathers : ByteArray := prog_4_method_9_code
def yX2_feathers : MethodName := ⟨RX2, "feathers", "()I"⟩
abbrev cX2_warmthInAll : ByteArray := prog_4_method_10_code
def yX2_warmthInAll : MethodName := ⟨RX2, "warmthInAll", "()I"⟩
abbrev cX2_warmthAt : ByteArray := prog_4_method_11_code
def yX2_warmthAt : MethodName := ⟨RX2, "warmthAt", "(I)I"⟩
abbrev cX2_coldestSquare : ByteArray := prog_4_method_12_code
def yX2_coldestSquare : MethodName := ⟨RX2, "coldestSquare", "()I"⟩
abbrev cX2_coldestWarmth : ByteArray := prog_4_method_13_code
def yX2_coldestWarmth : MethodName := ⟨RX2, "coldestWarmth", "()I"⟩
abbrev cX2_tells : ByteArray := prog_4_method_14_code
def yX2_tells : MethodName := ⟨RX2, "tells", "(I)I"⟩
abbrev cX2_squareTells : ByteArray := prog_4_method_15_code
def yX2_squareTells : MethodName := ⟨RX2, "squareTells", "(II)I"⟩
abbrev cX2_sleep : ByteArray := prog_4_method_16_code
def yX2_sleep : MethodName := ⟨RX2, "sleep", "(I)I"⟩
abbrev cX2_prickInAll : ByteArray := prog_4_method_17_code
def yX2_prickInAll : MethodName := ⟨RX2, "prickInAll", "()I"⟩
abbrev cX2_shiftInAll : ByteArray := prog_4_method_18_code
def yX2_shiftInAll : MethodName := ⟨RX2, "shiftInAll", "()I"⟩
abbrev cX2_shiftBetween : ByteArray := prog_4_method_19_code
def yX2_shiftBetween : MethodName := ⟨RX2, "shiftBetween", "(II)I"⟩
def RX3 : String := "FeatherBeds"
def TX3 : u_T := fun k => match k with
  | 0 => ("FeatherBeds", "sacks", "Ljava/util/ArrayList;", true)
  | 1 => ("FeatherBeds", "ticks", "Ljava/util/ArrayList;", true)
  | 2 => ("FeatherBeds", "chambers", "[LFeatherBeds$Heap;", true)
  | 3 => ("FeatherBeds", "trial", "LFeatherBeds$Tick;", true)
  | 4 => ("FeatherBeds", "wind", "I", false)
  | 5 => ("FeatherBeds", "nightsGone", "I", false)
  | 6 => ("FeatherBeds", "lostInYard", "I", false)
  | _ => ("FeatherBeds", "lostByPricking", "I", false)
def tyX3 : Nat → FieldType := fun k => match k with
  | 0 => .object "java/util/ArrayList"
  | 1 => .object "java/util/ArrayList"
  | 2 => .array (.object "FeatherBeds$Heap")
  | 3 => .object "FeatherBeds$Tick"
  | 4 => .int
  | 5 => .int
  | 6 => .int
  | _ => .int
abbrev wsX30 : List Cond := u_ws RX3 TX3 8
theorem nmX3 : ∀ a, a < 8 → ∀ b, b < 8 → a ≠ b → (TX3 a).2.1 ≠ (TX3 b).2.1 := by decide +kernel
theorem tyX3_ok : ∀ k, k < 8 → parseFieldDescriptor (TX3 k).2.2.1 = some (tyX3 k) := by decide +kernel
abbrev cX3_init : ByteArray := prog_1_method_1_code
def yX3_init : MethodName := ⟨RX3, "<init>", "()V"⟩
abbrev cX3_addSack : ByteArray := prog_1_method_2_code
def yX3_addSack : MethodName := ⟨RX3, "addSack", "(I)I"⟩
abbrev cX3_put : ByteArray := prog_1_method_3_code
def yX3_put : MethodName := ⟨RX3, "put", "(III)I"⟩
abbrev cX3_dry : ByteArray := prog_1_method_4_code
def yX3_dry : MethodName := ⟨RX3, "dry", "(II)I"⟩
abbrev cX3_sack : ByteArray := prog_1_method_5_code
def yX3_sack : MethodName := ⟨RX3, "sack", "(II)I"⟩
abbrev cX3_setWind : ByteArray := prog_1_method_6_code
def yX3_setWind : MethodName := ⟨RX3, "setWind", "(I)I"⟩
abbrev cX3_blow : ByteArray := prog_1_method_7_code
def yX3_blow : MethodName := ⟨RX3, "blow", "(I)I"⟩
abbrev cX3_sweep : ByteArray := prog_1_method_8_code
def yX3_sweep : MethodName := ⟨RX3, "sweep", "(II)I"⟩
abbrev cX3_addTick : ByteArray := prog_1_method_11_code
def yX3_addTick : MethodName := ⟨RX3, "addTick", "(III)I"⟩
abbrev cX3_sew : ByteArray := prog_1_method_12_code
def yX3_sew : MethodName := ⟨RX3, "sew", "(IIIZ)I"⟩
abbrev cX3_fill : ByteArray := prog_1_method_13_code
def yX3_fill : MethodName := ⟨RX3, "fill", "(IIII)I"⟩
abbrev cX3_shift : ByteArray := prog_1_method_14_code
def yX3_shift : MethodName := ⟨RX3, "shift", "(IIII)I"⟩
abbrev cX3_square : ByteArray := prog_1_method_15_code
def yX3_square : MethodName := ⟨RX3, "square", "(III)I"⟩
abbrev cX3_tick : ByteArray := prog_1_method_16_code
def yX3_tick : MethodName := ⟨RX3, "tick", "(II)I"⟩
abbrev cX3_pass : ByteArray := prog_1_method_17_code
def yX3_pass : MethodName := ⟨RX3, "pass", "(I)I"⟩
abbrev cX3_count : ByteArray := prog_1_method_18_code
def yX3_count : MethodName := ⟨RX3, "count", "(I)I"⟩
abbrev cX3_foresee : ByteArray := prog_1_method_19_code
def yX3_foresee : MethodName := ⟨RX3, "foresee", "(III)I"⟩
abbrev cX3_lasts : ByteArray := prog_1_method_20_code
def yX3_lasts : MethodName := ⟨RX3, "lasts", "(II)I"⟩
abbrev cX3_needRange : ByteArray := prog_1_method_24_code
def yX3_needRange : MethodName := ⟨RX3, "needRange", "(III)V"⟩
abbrev cX3_needIndex : ByteArray := prog_1_method_25_code
def yX3_needIndex : MethodName := ⟨RX3, "needIndex", "(II)V"⟩
abbrev cX3_needSack : ByteArray := prog_1_method_26_code
def yX3_needSack : MethodName := ⟨RX3, "needSack", "(I)LFeatherBeds$Sack;"⟩
abbrev cX3_needChamber : ByteArray := prog_1_method_27_code
def yX3_needChamber : MethodName := ⟨RX3, "needChamber", "(I)LFeatherBeds$Heap;"⟩
abbrev cX3_needTick : ByteArray := prog_1_method_28_code
def yX3_needTick : MethodName := ⟨RX3, "needTick", "(I)LFeatherBeds$Tick;"⟩
abbrev cX3_needSquare : ByteArray := prog_1_method_29_code
def yX3_needSquare : MethodName := ⟨RX3, "needSquare", "(LFeatherBeds$Tick;I)LFeatherBeds$Heap;"⟩
abbrev cX3_moveByHand : ByteArray := prog_1_method_30_code
def yX3_moveByHand : MethodName := ⟨RX3, "moveByHand", "(LFeatherBeds$Heap;LFeatherBeds$Heap;I)I"⟩
abbrev cX3_countTells : ByteArray := prog_1_method_32_code
def yX3_countTells : MethodName := ⟨RX3, "countTells", "(I)I"⟩
abbrev cX3_inSacks : ByteArray := prog_1_method_33_code
def yX3_inSacks : MethodName := ⟨RX3, "inSacks", "()I"⟩
abbrev cX3_inChambers : ByteArray := prog_1_method_34_code
def yX3_inChambers : MethodName := ⟨RX3, "inChambers", "()I"⟩
abbrev cX3_inTicks : ByteArray := prog_1_method_35_code
def yX3_inTicks : MethodName := ⟨RX3, "inTicks", "()I"⟩
def RX4 : String := "FeatherBedsLaw$Sim"
def TX4 : u_T := fun k => match k with
  | 0 => ("FeatherBedsLaw$Sim", "sacks", "[[I", false)
  | 1 => ("FeatherBedsLaw$Sim", "damp", "[I", false)
  | 2 => ("FeatherBedsLaw$Sim", "wind", "I", false)
  | 3 => ("FeatherBedsLaw$Sim", "chambers", "[[I", false)
  | 4 => ("FeatherBedsLaw$Sim", "ticks", "[LFeatherBedsLaw$Tick;", false)
  | 5 => ("FeatherBedsLaw$Sim", "nights", "I", false)
  | 6 => ("FeatherBedsLaw$Sim", "yard", "I", false)
  | _ => ("FeatherBedsLaw$Sim", "pricked", "I", false)
def tyX4 : Nat → FieldType := fun k => match k with
  | 0 => .array (.array .int)
  | 1 => .array .int
  | 2 => .int
  | 3 => .array (.array .int)
  | 4 => .array (.object "FeatherBedsLaw$Tick")
  | 5 => .int
  | 6 => .int
  | _ => .int
abbrev wsX40 : List Cond := u_ws RX4 TX4 8
theorem nmX4 : ∀ a, a < 8 → ∀ b, b < 8 → a ≠ b → (TX4 a).2.1 ≠ (TX4 b).2.1 := by decide +kernel
theorem tyX4_ok : ∀ k, k < 8 → parseFieldDescriptor (TX4 k).2.2.1 = some (tyX4 k) := by decide +kernel
abbrev cX4_init : ByteArray := prog_6_method_1_code
def yX4_init : MethodName := ⟨RX4, "<init>", "()V"⟩
abbrev cX4_sack : ByteArray := prog_6_method_2_code
def yX4_sack : MethodName := ⟨RX4, "sack", "(I)V"⟩
abbrev cX4_tick : ByteArray := prog_6_method_3_code
def yX4_tick : MethodName := ⟨RX4, "tick", "(III)V"⟩
abbrev cX4_blown : ByteArray := prog_6_method_4_code
def yX4_blown : MethodName := ⟨RX4, "blown", "(II)[[I"⟩
abbrev cX4_blow : ByteArray := prog_6_method_5_code
def yX4_blow : MethodName := ⟨RX4, "blow", "(I)I"⟩
abbrev cX4_take : ByteArray := prog_6_method_6_code
def yX4_take : MethodName := ⟨RX4, "take", "([I[II)I"⟩
abbrev cX4_pass : ByteArray := prog_6_method_7_code
def yX4_pass : MethodName := ⟨RX4, "pass", "()I"⟩
def RX5 : String := "FeatherBedsLaw$Tick"
def TX5 : u_T := fun k => match k with
  | 0 => ("FeatherBedsLaw$Tick", "columns", "I", false)
  | 1 => ("FeatherBedsLaw$Tick", "rows", "I", false)
  | 2 => ("FeatherBedsLaw$Tick", "density", "I", false)
  | 3 => ("FeatherBedsLaw$Tick", "squares", "[[I", false)
  | _ => ("FeatherBedsLaw$Tick", "sewn", "[[Z", false)
def tyX5 : Nat → FieldType := fun k => match k with
  | 0 => .int
  | 1 => .int
  | 2 => .int
  | 3 => .array (.array .int)
  | _ => .array (.array .boolean)
abbrev wsX50 : List Cond := u_ws RX5 TX5 5
theorem nmX5 : ∀ a, a < 5 → ∀ b, b < 5 → a ≠ b → (TX5 a).2.1 ≠ (TX5 b).2.1 := by decide +kernel
theorem tyX5_ok : ∀ k, k < 5 → parseFieldDescriptor (TX5 k).2.2.1 = some (tyX5 k) := by decide +kernel
abbrev cX5_init : ByteArray := prog_7_method_1_code
def yX5_init : MethodName := ⟨RX5, "<init>", "(III)V"⟩
abbrev cX5_has : ByteArray := prog_7_method_3_code
def yX5_has : MethodName := ⟨RX5, "has", "(II)Z"⟩
abbrev cX5_to : ByteArray := prog_7_method_4_code
def yX5_to : MethodName := ⟨RX5, "to", "(II)I"⟩
abbrev cX5_isOpen : ByteArray := prog_7_method_5_code
def yX5_isOpen : MethodName := ⟨RX5, "isOpen", "(II)Z"⟩
abbrev cX5_open : ByteArray := prog_7_method_6_code
def yX5_open : MethodName := ⟨RX5, "open", "()I"⟩
abbrev cX5_all : ByteArray := prog_7_method_7_code
def yX5_all : MethodName := ⟨RX5, "all", "([I)I"⟩
abbrev cX5_night : ByteArray := prog_7_method_12_code
def yX5_night : MethodName := ⟨RX5, "night", "()I"⟩
def RX6 : String := "FeatherBedsModel"
def TX6 : u_T := fun k => match k with
  | _ => ("", "", "", false)
def tyX6 : Nat → FieldType := fun k => match k with
  | _ => .int
abbrev wsX60 : List Cond := u_ws RX6 TX6 0
theorem nmX6 : ∀ a, a < 0 → ∀ b, b < 0 → a ≠ b → (TX6 a).2.1 ≠ (TX6 b).2.1 := by decide +kernel
theorem tyX6_ok : ∀ k, k < 0 → parseFieldDescriptor (TX6 k).2.2.1 = some (tyX6 k) := by decide +kernel
def RJx145de : String := "java/io/Serializable"
def TJx145de : u_T := fun k => match k with
  | _ => ("", "", "", false)
def tyJx145de : Nat → FieldType := fun k => match k with
  | _ => .int
abbrev wsJx145de0 : List Cond := u_ws RJx145de TJx145de 0
theorem nmJx145de : ∀ a, a < 0 → ∀ b, b < 0 → a ≠ b → (TJx145de a).2.1 ≠ (TJx145de b).2.1 := by decide +kernel
theorem tyJx145de_ok : ∀ k, k < 0 → parseFieldDescriptor (TJx145de k).2.2.1 = some (tyJx145de k) := by decide +kernel
def RJx8e188 : String := "java/lang/Cloneable"
def TJx8e188 : u_T := fun k => match k with
  | _ => ("", "", "", false)
def tyJx8e188 : Nat → FieldType := fun k => match k with
  | _ => .int
abbrev wsJx8e1880 : List Cond := u_ws RJx8e188 TJx8e188 0
theorem nmJx8e188 : ∀ a, a < 0 → ∀ b, b < 0 → a ≠ b → (TJx8e188 a).2.1 ≠ (TJx8e188 b).2.1 := by decide +kernel
theorem tyJx8e188_ok : ∀ k, k < 0 → parseFieldDescriptor (TJx8e188 k).2.2.1 = some (tyJx8e188 k) := by decide +kernel
def RJxab1ab : String := "java/lang/Iterable"
def TJxab1ab : u_T := fun k => match k with
  | _ => ("", "", "", false)
def tyJxab1ab : Nat → FieldType := fun k => match k with
  | _ => .int
abbrev wsJxab1ab0 : List Cond := u_ws RJxab1ab TJxab1ab 0
theorem nmJxab1ab : ∀ a, a < 0 → ∀ b, b < 0 → a ≠ b → (TJxab1ab a).2.1 ≠ (TJxab1ab b).2.1 := by decide +kernel
theorem tyJxab1ab_ok : ∀ k, k < 0 → parseFieldDescriptor (TJxab1ab k).2.2.1 = some (tyJxab1ab k) := by decide +kernel
def RJ9 : String := "java/lang/Math"
def TJ9 : u_T := fun k => match k with
  | _ => ("", "", "", false)
def tyJ9 : Nat → FieldType := fun k => match k with
  | _ => .int
abbrev wsJ90 : List Cond := u_ws RJ9 TJ9 0
theorem nmJ9 : ∀ a, a < 0 → ∀ b, b < 0 → a ≠ b → (TJ9 a).2.1 ≠ (TJ9 b).2.1 := by decide +kernel
theorem tyJ9_ok : ∀ k, k < 0 → parseFieldDescriptor (TJ9 k).2.2.1 = some (tyJ9 k) := by decide +kernel
abbrev cJ9_max_7cf53 : ByteArray := prog_16_method_65_code
def yJ9_max_7cf53 : MethodName := ⟨RJ9, "max", "(II)I"⟩
abbrev cJ9_min_7cf53 : ByteArray := prog_16_method_69_code
def yJ9_min_7cf53 : MethodName := ⟨RJ9, "min", "(II)I"⟩
def RJ0 : String := "java/lang/String"
def TJ0 : u_T := fun k => match k with
  | _ => ("", "", "", false)
def tyJ0 : Nat → FieldType := fun k => match k with
  | _ => .int
abbrev wsJ00 : List Cond := u_ws RJ0 TJ0 0
theorem nmJ0 : ∀ a, a < 0 → ∀ b, b < 0 → a ≠ b → (TJ0 a).2.1 ≠ (TJ0 b).2.1 := by decide +kernel
theorem tyJ0_ok : ∀ k, k < 0 → parseFieldDescriptor (TJ0 k).2.2.1 = some (tyJ0 k) := by decide +kernel
def RJ10 : String := "java/lang/System"
def TJ10 : u_T := fun k => match k with
  | _ => ("", "", "", false)
def tyJ10 : Nat → FieldType := fun k => match k with
  | _ => .int
abbrev wsJ100 : List Cond := u_ws RJ10 TJ10 0
theorem nmJ10 : ∀ a, a < 0 → ∀ b, b < 0 → a ≠ b → (TJ10 a).2.1 ≠ (TJ10 b).2.1 := by decide +kernel
theorem tyJ10_ok : ∀ k, k < 0 → parseFieldDescriptor (TJ10 k).2.2.1 = some (tyJ10 k) := by decide +kernel
def RJxa1e45 : String := "java/util/AbstractCollection"
def TJxa1e45 : u_T := fun k => match k with
  | _ => ("", "", "", false)
def tyJxa1e45 : Nat → FieldType := fun k => match k with
  | _ => .int
abbrev wsJxa1e450 : List Cond := u_ws RJxa1e45 TJxa1e45 0
theorem nmJxa1e45 : ∀ a, a < 0 → ∀ b, b < 0 → a ≠ b → (TJxa1e45 a).2.1 ≠ (TJxa1e45 b).2.1 := by decide +kernel
theorem tyJxa1e45_ok : ∀ k, k < 0 → parseFieldDescriptor (TJxa1e45 k).2.2.1 = some (tyJxa1e45 k) := by decide +kernel
abbrev cJxa1e45_init_da8c8 : ByteArray := prog_21_method_1_code
def yJxa1e45_init_da8c8 : MethodName := ⟨RJxa1e45, "<init>", "()V"⟩
def RJxc12de : String := "java/util/AbstractList"
def TJxc12de : u_T := fun k => match k with
  | _ => ("", "", "", false)
def tyJxc12de : Nat → FieldType := fun k => match k with
  | _ => .int
abbrev wsJxc12de0 : List Cond := u_ws RJxc12de TJxc12de 0
theorem nmJxc12de : ∀ a, a < 0 → ∀ b, b < 0 → a ≠ b → (TJxc12de a).2.1 ≠ (TJxc12de b).2.1 := by decide +kernel
theorem tyJxc12de_ok : ∀ k, k < 0 → parseFieldDescriptor (TJxc12de k).2.2.1 = some (tyJxc12de k) := by decide +kernel
abbrev cJxc12de_init_da8c8 : ByteArray := prog_22_method_1_code
def yJxc12de_init_da8c8 : MethodName := ⟨RJxc12de, "<init>", "()V"⟩
def RJx4a65c : String := "java/util/ArrayList"
def TJx4a65c : u_T := fun k => match k with
  | 0 => ("java/util/AbstractList", "modCount", "I", false)
  | 1 => ("java/util/ArrayList", "elementData", "[Ljava/lang/Object;", false)
  | _ => ("java/util/ArrayList", "size", "I", false)
def tyJx4a65c : Nat → FieldType := fun k => match k with
  | 0 => .int
  | 1 => .array (.object "java/lang/Object")
  | _ => .int
abbrev wsJx4a65c0 : List Cond := u_ws RJx4a65c TJx4a65c 3
theorem nmJx4a65c : ∀ a, a < 3 → ∀ b, b < 3 → a ≠ b → (TJx4a65c a).2.1 ≠ (TJx4a65c b).2.1 := by decide +kernel
theorem tyJx4a65c_ok : ∀ k, k < 3 → parseFieldDescriptor (TJx4a65c k).2.2.1 = some (tyJx4a65c k) := by decide +kernel
abbrev cJx4a65c_init_da8c8 : ByteArray := prog_23_method_2_code
def yJx4a65c_init_da8c8 : MethodName := ⟨RJx4a65c, "<init>", "()V"⟩
abbrev cJx4a65c_grow_92f84 : ByteArray := prog_23_method_6_code
def yJx4a65c_grow_92f84 : MethodName := ⟨RJx4a65c, "grow", "(I)[Ljava/lang/Object;"⟩
abbrev cJx4a65c_grow_d5877 : ByteArray := prog_23_method_7_code
def yJx4a65c_grow_d5877 : MethodName := ⟨RJx4a65c, "grow", "()[Ljava/lang/Object;"⟩
abbrev cJx4a65c_size_8abf5 : ByteArray := prog_23_method_8_code
def yJx4a65c_size_8abf5 : MethodName := ⟨RJx4a65c, "size", "()I"⟩
abbrev cJx4a65c_elementData_915e3 : ByteArray := prog_23_method_18_code
def yJx4a65c_elementData_915e3 : MethodName := ⟨RJx4a65c, "elementData", "(I)Ljava/lang/Object;"⟩
abbrev cJx4a65c_get_915e3 : ByteArray := prog_23_method_20_code
def yJx4a65c_get_915e3 : MethodName := ⟨RJx4a65c, "get", "(I)Ljava/lang/Object;"⟩
abbrev cJx4a65c_add_72be8 : ByteArray := prog_23_method_24_code
def yJx4a65c_add_72be8 : MethodName := ⟨RJx4a65c, "add", "(Ljava/lang/Object;[Ljava/lang/Object;I)V"⟩
abbrev cJx4a65c_add_9ea2d : ByteArray := prog_23_method_25_code
def yJx4a65c_add_9ea2d : MethodName := ⟨RJx4a65c, "add", "(Ljava/lang/Object;)Z"⟩
def RJ7 : String := "java/util/Arrays"
def TJ7 : u_T := fun k => match k with
  | _ => ("", "", "", false)
def tyJ7 : Nat → FieldType := fun k => match k with
  | _ => .int
abbrev wsJ70 : List Cond := u_ws RJ7 TJ7 0
theorem nmJ7 : ∀ a, a < 0 → ∀ b, b < 0 → a ≠ b → (TJ7 a).2.1 ≠ (TJ7 b).2.1 := by decide +kernel
theorem tyJ7_ok : ∀ k, k < 0 → parseFieldDescriptor (TJ7 k).2.2.1 = some (tyJ7 k) := by decide +kernel
abbrev cJ7_copyOf_1904c : ByteArray := prog_24_method_119_code
def yJ7_copyOf_1904c : MethodName := ⟨RJ7, "copyOf", "([Ljava/lang/Object;I)[Ljava/lang/Object;"⟩
abbrev cJ7_copyOf_6403c : ByteArray := prog_24_method_120_code
def yJ7_copyOf_6403c : MethodName := ⟨RJ7, "copyOf", "([Ljava/lang/Object;ILjava/lang/Class;)[Ljava/lang/Object;"⟩
def RJx5ef63 : String := "java/util/Collection"
def TJx5ef63 : u_T := fun k => match k with
  | _ => ("", "", "", false)
def tyJx5ef63 : Nat → FieldType := fun k => match k with
  | _ => .int
abbrev wsJx5ef630 : List Cond := u_ws RJx5ef63 TJx5ef63 0
theorem nmJx5ef63 : ∀ a, a < 0 → ∀ b, b < 0 → a ≠ b → (TJx5ef63 a).2.1 ≠ (TJx5ef63 b).2.1 := by decide +kernel
theorem tyJx5ef63_ok : ∀ k, k < 0 → parseFieldDescriptor (TJx5ef63 k).2.2.1 = some (tyJx5ef63 k) := by decide +kernel
def RJxbd725 : String := "java/util/List"
def TJxbd725 : u_T := fun k => match k with
  | _ => ("", "", "", false)
def tyJxbd725 : Nat → FieldType := fun k => match k with
  | _ => .int
abbrev wsJxbd7250 : List Cond := u_ws RJxbd725 TJxbd725 0
theorem nmJxbd725 : ∀ a, a < 0 → ∀ b, b < 0 → a ≠ b → (TJxbd725 a).2.1 ≠ (TJxbd725 b).2.1 := by decide +kernel
theorem tyJxbd725_ok : ∀ k, k < 0 → parseFieldDescriptor (TJxbd725 k).2.2.1 = some (tyJxbd725 k) := by decide +kernel
def RJ15 : String := "java/util/Objects"
def TJ15 : u_T := fun k => match k with
  | _ => ("", "", "", false)
def tyJ15 : Nat → FieldType := fun k => match k with
  | _ => .int
abbrev wsJ150 : List Cond := u_ws RJ15 TJ15 0
theorem nmJ15 : ∀ a, a < 0 → ∀ b, b < 0 → a ≠ b → (TJ15 a).2.1 ≠ (TJ15 b).2.1 := by decide +kernel
theorem tyJ15_ok : ∀ k, k < 0 → parseFieldDescriptor (TJ15 k).2.2.1 = some (tyJ15 k) := by decide +kernel
abbrev cJ15_checkIndex_7cf53 : ByteArray := prog_27_method_17_code
def yJ15_checkIndex_7cf53 : MethodName := ⟨RJ15, "checkIndex", "(II)I"⟩
def RJxf0a74 : String := "java/util/RandomAccess"
def TJxf0a74 : u_T := fun k => match k with
  | _ => ("", "", "", false)
def tyJxf0a74 : Nat → FieldType := fun k => match k with
  | _ => .int
abbrev wsJxf0a740 : List Cond := u_ws RJxf0a74 TJxf0a74 0
theorem nmJxf0a74 : ∀ a, a < 0 → ∀ b, b < 0 → a ≠ b → (TJxf0a74 a).2.1 ≠ (TJxf0a74 b).2.1 := by decide +kernel
theorem tyJxf0a74_ok : ∀ k, k < 0 → parseFieldDescriptor (TJxf0a74 k).2.2.1 = some (tyJxf0a74 k) := by decide +kernel
def RJxa66e6 : String := "java/util/SequencedCollection"
def TJxa66e6 : u_T := fun k => match k with
  | _ => ("", "", "", false)
def tyJxa66e6 : Nat → FieldType := fun k => match k with
  | _ => .int
abbrev wsJxa66e60 : List Cond := u_ws RJxa66e6 TJxa66e6 0
theorem nmJxa66e6 : ∀ a, a < 0 → ∀ b, b < 0 → a ≠ b → (TJxa66e6 a).2.1 ≠ (TJxa66e6 b).2.1 := by decide +kernel
theorem tyJxa66e6_ok : ∀ k, k < 0 → parseFieldDescriptor (TJxa66e6 k).2.2.1 = some (tyJxa66e6 k) := by decide +kernel
def RJ8 : String := "jdk/internal/util/ArraysSupport"
def TJ8 : u_T := fun k => match k with
  | _ => ("", "", "", false)
def tyJ8 : Nat → FieldType := fun k => match k with
  | _ => .int
abbrev wsJ80 : List Cond := u_ws RJ8 TJ8 0
theorem nmJ8 : ∀ a, a < 0 → ∀ b, b < 0 → a ≠ b → (TJ8 a).2.1 ≠ (TJ8 b).2.1 := by decide +kernel
theorem tyJ8_ok : ∀ k, k < 0 → parseFieldDescriptor (TJ8 k).2.2.1 = some (tyJ8 k) := by decide +kernel
abbrev cJ8_newLength_cabcc : ByteArray := prog_30_method_27_code
def yJ8_newLength_cabcc : MethodName := ⟨RJ8, "newLength", "(III)I"⟩
abbrev cJ8_hugeLength_7cf53 : ByteArray := prog_30_method_28_code
def yJ8_hugeLength_7cf53 : MethodName := ⟨RJ8, "hugeLength", "(II)I"⟩
def RJ3 : String := "jdk/internal/util/Preconditions"
def TJ3 : u_T := fun k => match k with
  | _ => ("", "", "", false)
def tyJ3 : Nat → FieldType := fun k => match k with
  | _ => .int
abbrev wsJ30 : List Cond := u_ws RJ3 TJ3 0
theorem nmJ3 : ∀ a, a < 0 → ∀ b, b < 0 → a ≠ b → (TJ3 a).2.1 ≠ (TJ3 b).2.1 := by decide +kernel
theorem tyJ3_ok : ∀ k, k < 0 → parseFieldDescriptor (TJ3 k).2.2.1 = some (tyJ3 k) := by decide +kernel
abbrev cJ3_checkIndex_8e157 : ByteArray := prog_31_method_11_code
def yJ3_checkIndex_8e157 : MethodName := ⟨RJ3, "checkIndex", "(IILjava/util/function/BiFunction;)I"⟩
def RL : String := "FeatherBedsLaw"
abbrev cL_below : ByteArray := method_2_code
def yL_below : MethodName := ⟨RL, "below", "(II)I"⟩
abbrev cL_cell : ByteArray := method_3_code
def yL_cell : MethodName := ⟨RL, "cell", "([II)I"⟩
abbrev cL_build : ByteArray := method_4_code
def yL_build : MethodName := ⟨RL, "build", "(LFeatherBeds;[I)LFeatherBedsLaw$Sim;"⟩
abbrev cL_act : ByteArray := method_5_code
def yL_act : MethodName := ⟨RL, "act", "(LFeatherBeds;LFeatherBedsLaw$Sim;I)Z"⟩
abbrev cL_law : ByteArray := code
def yL_law : MethodName := ⟨RL, "law", "([I)Z"⟩
abbrev cL_coldest : ByteArray := method_7_code
def yL_coldest : MethodName := ⟨RL, "coldest", "([[I)I"⟩
def wsX0_init : List Cond := .code yX0_init cX0_init 1 none :: ([.methodLink RX0 3 objectInit, .instanceMethod objectInit, .code objectInit ⟨#[0xb1]⟩ 1 none, .arrayClass .int, .fieldLink RX0 9 "FeatherBeds$Heap" "ofSize" "[I"] ++ wsX00)
def wsX0_of : List Cond := .code yX0_of cX0_of 2 (some .int) :: ([.fieldLink RX0 9 "FeatherBeds$Heap" "ofSize" "[I"] ++ wsX00)
def wsX0_change : List Cond := .code yX0_change cX0_change 3 none :: ([.fieldLink RX0 9 "FeatherBeds$Heap" "ofSize" "[I", .fieldLink RX0 15 "FeatherBeds$Heap" "all" "I"] ++ wsX00)
def wsX0_become : List Cond := .code yX0_become cX0_become 3 none :: ([.methodLink RX0 19 yX0_of, .instanceMethod yX0_of, .selects RX0 yX0_of yX0_of, .initialized RX0, .code yX0_of cX0_of 2 (some .int), .fieldLink RX0 9 "FeatherBeds$Heap" "ofSize" "[I", .methodLink RX0 23 yX0_change, .instanceMethod yX0_change, .selects RX0 yX0_change yX0_change, .code yX0_change cX0_change 3 none, .fieldLink RX0 15 "FeatherBeds$Heap" "all" "I"] ++ wsX00)
def wsX0_moveTo : List Cond := .code yX0_moveTo cX0_moveTo 7 (some .int) :: ([.methodLink RX0 27 Lib.Math.min.name, .static Lib.Math.min.name, .initialized "java/lang/Math", .code Lib.Math.min.name Lib.Math.min.code 2 (some .int), .methodLink RX0 19 yX0_of, .instanceMethod yX0_of, .selects RX0 yX0_of yX0_of, .initialized RX0, .code yX0_of cX0_of 2 (some .int), .fieldLink RX0 9 "FeatherBeds$Heap" "ofSize" "[I", .methodLink RX0 23 yX0_change, .instanceMethod yX0_change, .selects RX0 yX0_change yX0_change, .code yX0_change cX0_change 3 none, .fieldLink RX0 15 "FeatherBeds$Heap" "all" "I"] ++ wsX00)
def wsX0_warmth : List Cond := .code yX0_warmth cX0_warmth 3 (some .int) :: ([.fieldLink RX0 9 "FeatherBeds$Heap" "ofSize" "[I", .methodLink RX0 27 Lib.Math.min.name, .static Lib.Math.min.name, .initialized "java/lang/Math", .code Lib.Math.min.name Lib.Math.min.code 2 (some .int)] ++ wsX00)
def wsX0_prick : List Cond := .code yX0_prick cX0_prick 6 (some .int) :: ([.methodLink RX0 19 yX0_of, .instanceMethod yX0_of, .selects RX0 yX0_of yX0_of, .initialized RX0, .code yX0_of cX0_of 2 (some .int), .fieldLink RX0 9 "FeatherBeds$Heap" "ofSize" "[I", .methodLink RX0 23 yX0_change, .instanceMethod yX0_change, .selects RX0 yX0_change yX0_change, .code yX0_change cX0_change 3 none, .fieldLink RX0 15 "FeatherBeds$Heap" "all" "I"] ++ wsX00)
def wsX1_init : List Cond := .code yX1_init cX1_init 2 none :: ([.methodLink RX1 3 objectInit, .instanceMethod objectInit, .code objectInit ⟨#[0xb1]⟩ 1 none, .classLink RX1 9 RX0, .instantiable RX0 2, .initialized RX0, .fieldLink RX1 12 "FeatherBeds$Sack" "heap" "LFeatherBeds$Heap;", .fieldLink RX1 18 "FeatherBeds$Sack" "damp" "I", .methodLink RX1 11 yX0_init, .instanceMethod yX0_init, .code yX0_init cX0_init 1 none, .methodLink RX0 3 objectInit, .arrayClass .int, .fieldLink RX0 9 "FeatherBeds$Heap" "ofSize" "[I"] ++ wsX00 ++ wsX10)
def wsX1_tells : List Cond := .code yX1_tells cX1_tells 2 (some .int) :: ([.fieldLink RX1 12 "FeatherBeds$Sack" "heap" "LFeatherBeds$Heap;", .fieldLink RX1 18 "FeatherBeds$Sack" "damp" "I", .methodLink RX1 22 yX0_of, .instanceMethod yX0_of, .selects RX0 yX0_of yX0_of, .initialized RX0, .code yX0_of cX0_of 2 (some .int), .fieldLink RX0 9 "FeatherBeds$Heap" "ofSize" "[I"] ++ wsX10 ++ wsX00)
def wsX1_flight : List Cond := .code yX1_flight cX1_flight 5 (some .int) :: ([.fieldLink RX1 18 "FeatherBeds$Sack" "damp" "I", .methodLink RX1 29 Lib.Math.min.name, .static Lib.Math.min.name, .initialized "java/lang/Math", .code Lib.Math.min.name Lib.Math.min.code 2 (some .int)] ++ wsX10)
def wsX1_brings : List Cond := .code yX1_brings cX1_brings 8 (some .int) :: ([.fieldLink RX1 12 "FeatherBeds$Sack" "heap" "LFeatherBeds$Heap;", .methodLink RX1 22 yX0_of, .instanceMethod yX0_of, .selects RX0 yX0_of yX0_of, .initialized RX0, .code yX0_of cX0_of 2 (some .int), .fieldLink RX0 9 "FeatherBeds$Heap" "ofSize" "[I", .methodLink RX1 35 yX1_flight, .instanceMethod yX1_flight, .selects RX1 yX1_flight yX1_flight, .initialized RX1, .code yX1_flight cX1_flight 5 (some .int), .fieldLink RX1 18 "FeatherBeds$Sack" "damp" "I", .methodLink RX1 29 Lib.Math.min.name, .static Lib.Math.min.name, .initialized "java/lang/Math", .code Lib.Math.min.name Lib.Math.min.code 2 (some .int)] ++ wsX10 ++ wsX00)
def wsX2_init : List Cond := .code yX2_init cX2_init 5 none :: ([.methodLink RX2 3 objectInit, .instanceMethod objectInit, .code objectInit ⟨#[0xb1]⟩ 1 none, .fieldLink RX2 9 "FeatherBeds$Tick" "columns" "I", .fieldLink RX2 15 "FeatherBeds$Tick" "rows" "I", .fieldLink RX2 18 "FeatherBeds$Tick" "density" "I", .fieldLink RX2 21 "FeatherBeds$Tick" "squares" "I", .classLink RX2 24 RX0, .fieldLink RX2 26 "FeatherBeds$Tick" "heaps" "[LFeatherBeds$Heap;", .instantiable RX0 2, .initialized RX0, .arrayClass .boolean, .fieldLink RX2 31 "FeatherBeds$Tick" "sewn" "[Z", .arrayClass .int, .fieldLink RX2 35 "FeatherBeds$Tick" "partOf" "[I", .methodLink RX2 30 yX0_init, .instanceMethod yX0_init, .code yX0_init cX0_init 1 none, .methodLink RX0 3 objectInit, .fieldLink RX0 9 "FeatherBeds$Heap" "ofSize" "[I"] ++ wsX20 ++ wsX00)
def wsX2_become : List Cond := .code yX2_become cX2_become 3 none :: ([.fieldLink RX2 9 "FeatherBeds$Tick" "columns" "I", .fieldLink RX2 15 "FeatherBeds$Tick" "rows" "I", .fieldLink RX2 18 "FeatherBeds$Tick" "density" "I", .fieldLink RX2 21 "FeatherBeds$Tick" "squares" "I", .fieldLink RX2 26 "FeatherBeds$Tick" "heaps" "[LFeatherBeds$Heap;", .fieldLink RX2 31 "FeatherBeds$Tick" "sewn" "[Z", .methodLink RX2 39 yX0_become, .instanceMethod yX0_become, .selects RX0 yX0_become yX0_become, .initialized RX0, .code yX0_become cX0_become 3 none, .methodLink RX0 19 yX0_of, .instanceMethod yX0_of, .selects RX0 yX0_of yX0_of, .code yX0_of cX0_of 2 (some .int), .fieldLink RX0 9 "FeatherBeds$Heap" "ofSize" "[I", .methodLink RX0 23 yX0_change, .instanceMethod yX0_change, .selects RX0 yX0_change yX0_change, .code yX0_change cX0_change 3 none, .fieldLink RX0 15 "FeatherBeds$Heap" "all" "I"] ++ wsX20 ++ wsX00)
def wsX2_otherOfPair : List Cond := .code yX2_otherOfPair cX2_otherOfPair 3 (some .int) :: ([.fieldLink RX2 21 "FeatherBeds$Tick" "squares" "I", .fieldLink RX2 9 "FeatherBeds$Tick" "columns" "I"] ++ wsX20)
def wsX2_isOpen : List Cond := .code yX2_isOpen cX2_isOpen 4 (some .boolean) :: ([.fieldLink RX2 31 "FeatherBeds$Tick" "sewn" "[Z", .methodLink RX2 43 yX2_otherOfPair, .instanceMethod yX2_otherOfPair, .selects RX2 yX2_otherOfPair yX2_otherOfPair, .initialized RX2, .code yX2_otherOfPair cX2_otherOfPair 3 (some .int), .fieldLink RX2 21 "FeatherBeds$Tick" "squares" "I", .fieldLink RX2 9 "FeatherBeds$Tick" "columns" "I"] ++ wsX20)
def wsX2_setSeam : List Cond := .code yX2_setSeam cX2_setSeam 5 none :: ([.fieldLink RX2 31 "FeatherBeds$Tick" "sewn" "[Z"] ++ wsX20)
def wsX2_openPairs : List Cond := .code yX2_openPairs cX2_openPairs 4 (some .int) :: ([.fieldLink RX2 21 "FeatherBeds$Tick" "squares" "I", .methodLink RX2 47 yX2_isOpen, .instanceMethod yX2_isOpen, .selects RX2 yX2_isOpen yX2_isOpen, .initialized RX2, .code yX2_isOpen cX2_isOpen 4 (some .boolean), .fieldLink RX2 31 "FeatherBeds$Tick" "sewn" "[Z", .methodLink RX2 43 yX2_otherOfPair, .instanceMethod yX2_otherOfPair, .selects RX2 yX2_otherOfPair yX2_otherOfPair, .code yX2_otherOfPair cX2_otherOfPair 3 (some .int), .fieldLink RX2 9 "FeatherBeds$Tick" "columns" "I"] ++ wsX20)
def wsX2_joinParts : List Cond := .code yX2_joinParts cX2_joinParts 6 (some .boolean) :: ([.fieldLink RX2 35 "FeatherBeds$Tick" "partOf" "[I"] ++ wsX20)
def wsX2_parts : List Cond := .code yX2_parts cX2_parts 4 (some .int) :: ([.fieldLink RX2 35 "FeatherBeds$Tick" "partOf" "[I", .fieldLink RX2 21 "FeatherBeds$Tick" "squares" "I", .methodLink RX2 47 yX2_isOpen, .instanceMethod yX2_isOpen, .selects RX2 yX2_isOpen yX2_isOpen, .initialized RX2, .code yX2_isOpen cX2_isOpen 4 (some .boolean), .fieldLink RX2 31 "FeatherBeds$Tick" "sewn" "[Z", .methodLink RX2 43 yX2_otherOfPair, .instanceMethod yX2_otherOfPair, .selects RX2 yX2_otherOfPair yX2_otherOfPair, .code yX2_otherOfPair cX2_otherOfPair 3 (some .int), .fieldLink RX2 9 "FeatherBeds$Tick" "columns" "I", .methodLink RX2 51 yX2_joinParts, .instanceMethod yX2_joinParts, .selects RX2 yX2_joinParts yX2_joinParts, .code yX2_joinParts cX2_joinParts 6 (some .boolean)] ++ wsX20)
def wsX2_feathers : List Cond := .code yX2_feathers cX2_feathers 3 (some .int) :: ([.fieldLink RX2 26 "FeatherBeds$Tick" "heaps" "[LFeatherBeds$Heap;"] ++ wsX20 ++ wsX00)
def wsX2_warmthInAll : List Cond := .code yX2_warmthInAll cX2_warmthInAll 3 (some .int) :: ([.fieldLink RX2 26 "FeatherBeds$Tick" "heaps" "[LFeatherBeds$Heap;", .methodLink RX2 57 yX0_warmth, .instanceMethod yX0_warmth, .selects RX0 yX0_warmth yX0_warmth, .initialized RX0, .code yX0_warmth cX0_warmth 3 (some .int), .fieldLink RX0 9 "FeatherBeds$Heap" "ofSize" "[I", .methodLink RX0 27 Lib.Math.min.name, .static Lib.Math.min.name, .initialized "java/lang/Math", .code Lib.Math.min.name Lib.Math.min.code 2 (some .int)] ++ wsX20 ++ wsX00)
def wsX2_warmthAt : List Cond := .code yX2_warmthAt cX2_warmthAt 2 (some .int) :: ([.fieldLink RX2 26 "FeatherBeds$Tick" "heaps" "[LFeatherBeds$Heap;", .methodLink RX2 57 yX0_warmth, .instanceMethod yX0_warmth, .selects RX0 yX0_warmth yX0_warmth, .initialized RX0, .code yX0_warmth cX0_warmth 3 (some .int), .fieldLink RX0 9 "FeatherBeds$Heap" "ofSize" "[I", .methodLink RX0 27 Lib.Math.min.name, .static Lib.Math.min.name, .initialized "java/lang/Math", .code Lib.Math.min.name Lib.Math.min.code 2 (some .int)] ++ wsX20 ++ wsX00)
def wsX2_coldestSquare : List Cond := .code yX2_coldestSquare cX2_coldestSquare 3 (some .int) :: ([.fieldLink RX2 21 "FeatherBeds$Tick" "squares" "I", .methodLink RX2 61 yX2_warmthAt, .instanceMethod yX2_warmthAt, .selects RX2 yX2_warmthAt yX2_warmthAt, .initialized RX2, .code yX2_warmthAt cX2_warmthAt 2 (some .int), .fieldLink RX2 26 "FeatherBeds$Tick" "heaps" "[LFeatherBeds$Heap;", .methodLink RX2 57 yX0_warmth, .instanceMethod yX0_warmth, .selects RX0 yX0_warmth yX0_warmth, .initialized RX0, .code yX0_warmth cX0_warmth 3 (some .int), .fieldLink RX0 9 "FeatherBeds$Heap" "ofSize" "[I", .methodLink RX0 27 Lib.Math.min.name, .static Lib.Math.min.name, .initialized "java/lang/Math", .code Lib.Math.min.name Lib.Math.min.code 2 (some .int)] ++ wsX20 ++ wsX00)
def wsX2_coldestWarmth : List Cond := .code yX2_coldestWarmth cX2_coldestWarmth 1 (some .int) :: ([.methodLink RX2 65 yX2_coldestSquare, .instanceMethod yX2_coldestSquare, .selects RX2 yX2_coldestSquare yX2_coldestSquare, .initialized RX2, .code yX2_coldestSquare cX2_coldestSquare 3 (some .int), .fieldLink RX2 21 "FeatherBeds$Tick" "squares" "I", .methodLink RX2 61 yX2_warmthAt, .instanceMethod yX2_warmthAt, .selects RX2 yX2_warmthAt yX2_warmthAt, .code yX2_warmthAt cX2_warmthAt 2 (some .int), .fieldLink RX2 26 "FeatherBeds$Tick" "heaps" "[LFeatherBeds$Heap;", .methodLink RX2 57 yX0_warmth, .instanceMethod yX0_warmth, .selects RX0 yX0_warmth yX0_warmth, .initialized RX0, .code yX0_warmth cX0_warmth 3 (some .int), .fieldLink RX0 9 "FeatherBeds$Heap" "ofSize" "[I", .methodLink RX0 27 Lib.Math.min.name, .static Lib.Math.min.name, .initialized "java/lang/Math", .code Lib.Math.min.name Lib.Math.min.code 2 (some .int)] ++ wsX20 ++ wsX00)
def wsX2_tells_r1 : List Cond := [Cond.fieldLink RX2 9 "FeatherBeds$Tick" "columns" "I", Cond.fieldLink RX2 15 "FeatherBeds$Tick" "rows" "I", Cond.fieldLink RX2 18 "FeatherBeds$Tick" "density" "I", Cond.methodLink RX2 68 yX2_feathers, Cond.instanceMethod yX2_feathers, Cond.selects RX2 yX2_feathers yX2_feathers, Cond.initialized RX2, Cond.code yX2_feathers cX2_feathers 3 (some .int), Cond.fieldLink RX2 26 "FeatherBeds$Tick" "heaps" "[LFeatherBeds$Heap;", Cond.methodLink RX2 71 yX2_warmthInAll, Cond.instanceMethod yX2_warmthInAll, Cond.selects RX2 yX2_warmthInAll yX2_warmthInAll, Cond.code yX2_warmthInAll cX2_warmthInAll 3 (some .int), Cond.methodLink RX2 57 yX0_warmth, Cond.instanceMethod yX0_warmth, Cond.selects RX0 yX0_warmth yX0_warmth, Cond.initialized RX0, Cond.code yX0_warmth cX0_warmth 3 (some .int), Cond.fieldLink RX0 9 "FeatherBeds$Heap" "ofSize" "[I", Cond.methodLink RX0 27 Lib.Math.min.name, Cond.static Lib.Math.min.name, Cond.initialized "java/lang/Math", Cond.code Lib.Math.min.name Lib.Math.min.code 2 (some .int), Cond.methodLink RX2 74 yX2_coldestWarmth]
def wsX2_tells_r2 : List Cond := [Cond.instanceMethod yX2_coldestWarmth, Cond.selects RX2 yX2_coldestWarmth yX2_coldestWarmth, Cond.code yX2_coldestWarmth cX2_coldestWarmth 1 (some .int), Cond.methodLink RX2 65 yX2_coldestSquare, Cond.instanceMethod yX2_coldestSquare, Cond.selects RX2 yX2_coldestSquare yX2_coldestSquare, Cond.code yX2_coldestSquare cX2_coldestSquare 3 (some .int), Cond.fieldLink RX2 21 "FeatherBeds$Tick" "squares" "I", Cond.methodLink RX2 61 yX2_warmthAt, Cond.instanceMethod yX2_warmthAt, Cond.selects RX2 yX2_warmthAt yX2_warmthAt, Cond.code yX2_warmthAt cX2_warmthAt 2 (some .int), Cond.methodLink RX2 77 yX2_openPairs, Cond.instanceMethod yX2_openPairs, Cond.selects RX2 yX2_openPairs yX2_openPairs, Cond.code yX2_openPairs cX2_openPairs 4 (some .int), Cond.methodLink RX2 47 yX2_isOpen, Cond.instanceMethod yX2_isOpen, Cond.selects RX2 yX2_isOpen yX2_isOpen, Cond.code yX2_isOpen cX2_isOpen 4 (some .boolean), Cond.fieldLink RX2 31 "FeatherBeds$Tick" "sewn" "[Z", Cond.methodLink RX2 43 yX2_otherOfPair, Cond.instanceMethod yX2_otherOfPair, Cond.selects RX2 yX2_otherOfPair yX2_otherOfPair]
def wsX2_tells_r3 : List Cond := [Cond.code yX2_otherOfPair cX2_otherOfPair 3 (some .int), Cond.methodLink RX2 80 yX2_parts, Cond.instanceMethod yX2_parts, Cond.selects RX2 yX2_parts yX2_parts, Cond.code yX2_parts cX2_parts 4 (some .int), Cond.fieldLink RX2 35 "FeatherBeds$Tick" "partOf" "[I", Cond.methodLink RX2 51 yX2_joinParts, Cond.instanceMethod yX2_joinParts, Cond.selects RX2 yX2_joinParts yX2_joinParts, Cond.code yX2_joinParts cX2_joinParts 6 (some .boolean)]
def wsX2_tells : List Cond := .code yX2_tells cX2_tells 2 (some .int) :: ((wsX2_tells_r1 ++ (wsX2_tells_r2 ++ wsX2_tells_r3)) ++ wsX20 ++ wsX00)
def wsX2_squareTells_r1 : List Cond := [Cond.fieldLink RX2 26 "FeatherBeds$Tick" "heaps" "[LFeatherBeds$Heap;", Cond.methodLink RX2 83 yX0_of, Cond.instanceMethod yX0_of, Cond.selects RX0 yX0_of yX0_of, Cond.initialized RX0, Cond.code yX0_of cX0_of 2 (some .int), Cond.fieldLink RX0 9 "FeatherBeds$Heap" "ofSize" "[I", Cond.methodLink RX2 57 yX0_warmth, Cond.instanceMethod yX0_warmth, Cond.selects RX0 yX0_warmth yX0_warmth, Cond.code yX0_warmth cX0_warmth 3 (some .int), Cond.methodLink RX0 27 Lib.Math.min.name, Cond.static Lib.Math.min.name, Cond.initialized "java/lang/Math", Cond.code Lib.Math.min.name Lib.Math.min.code 2 (some .int), Cond.methodLink RX2 47 yX2_isOpen, Cond.instanceMethod yX2_isOpen, Cond.selects RX2 yX2_isOpen yX2_isOpen, Cond.initialized RX2, Cond.code yX2_isOpen cX2_isOpen 4 (some .boolean), Cond.fieldLink RX2 31 "FeatherBeds$Tick" "sewn" "[Z", Cond.methodLink RX2 43 yX2_otherOfPair, Cond.instanceMethod yX2_otherOfPair, Cond.selects RX2 yX2_otherOfPair yX2_otherOfPair]
def wsX2_squareTells_r2 : List Cond := [Cond.code yX2_otherOfPair cX2_otherOfPair 3 (some .int), Cond.fieldLink RX2 21 "FeatherBeds$Tick" "squares" "I", Cond.fieldLink RX2 9 "FeatherBeds$Tick" "columns" "I"]
def wsX2_squareTells : List Cond := .code yX2_squareTells cX2_squareTells 3 (some .int) :: ((wsX2_squareTells_r1 ++ wsX2_squareTells_r2) ++ wsX20 ++ wsX00)
def wsX2_prickInAll : List Cond := .code yX2_prickInAll cX2_prickInAll 3 (some .int) :: ([.fieldLink RX2 26 "FeatherBeds$Tick" "heaps" "[LFeatherBeds$Heap;", .fieldLink RX2 18 "FeatherBeds$Tick" "density" "I", .methodLink RX2 92 yX0_prick, .instanceMethod yX0_prick, .selects RX0 yX0_prick yX0_prick, .initialized RX0, .code yX0_prick cX0_prick 6 (some .int), .methodLink RX0 19 yX0_of, .instanceMethod yX0_of, .selects RX0 yX0_of yX0_of, .code yX0_of cX0_of 2 (some .int), .fieldLink RX0 9 "FeatherBeds$Heap" "ofSize" "[I", .methodLink RX0 23 yX0_change, .instanceMethod yX0_change, .selects RX0 yX0_change yX0_change, .code yX0_change cX0_change 3 none, .fieldLink RX0 15 "FeatherBeds$Heap" "all" "I"] ++ wsX20 ++ wsX00)
def wsX2_shiftBetween : List Cond := .code yX2_shiftBetween cX2_shiftBetween 4 (some .int) :: ([.fieldLink RX2 26 "FeatherBeds$Tick" "heaps" "[LFeatherBeds$Heap;", .methodLink RX2 98 yX0_moveTo, .instanceMethod yX0_moveTo, .selects RX0 yX0_moveTo yX0_moveTo, .initialized RX0, .code yX0_moveTo cX0_moveTo 7 (some .int), .methodLink RX0 27 Lib.Math.min.name, .static Lib.Math.min.name, .initialized "java/lang/Math", .code Lib.Math.min.name Lib.Math.min.code 2 (some .int), .methodLink RX0 19 yX0_of, .instanceMethod yX0_of, .selects RX0 yX0_of yX0_of, .code yX0_of cX0_of 2 (some .int), .fieldLink RX0 9 "FeatherBeds$Heap" "ofSize" "[I", .methodLink RX0 23 yX0_change, .instanceMethod yX0_change, .selects RX0 yX0_change yX0_change, .code yX0_change cX0_change 3 none, .fieldLink RX0 15 "FeatherBeds$Heap" "all" "I"] ++ wsX20 ++ wsX00)
def wsX2_shiftInAll_r1 : List Cond := [Cond.fieldLink RX2 21 "FeatherBeds$Tick" "squares" "I", Cond.methodLink RX2 47 yX2_isOpen, Cond.instanceMethod yX2_isOpen, Cond.selects RX2 yX2_isOpen yX2_isOpen, Cond.initialized RX2, Cond.code yX2_isOpen cX2_isOpen 4 (some .boolean), Cond.fieldLink RX2 31 "FeatherBeds$Tick" "sewn" "[Z", Cond.methodLink RX2 43 yX2_otherOfPair, Cond.instanceMethod yX2_otherOfPair, Cond.selects RX2 yX2_otherOfPair yX2_otherOfPair, Cond.code yX2_otherOfPair cX2_otherOfPair 3 (some .int), Cond.fieldLink RX2 9 "FeatherBeds$Tick" "columns" "I", Cond.methodLink RX2 95 yX2_shiftBetween, Cond.instanceMethod yX2_shiftBetween, Cond.selects RX2 yX2_shiftBetween yX2_shiftBetween, Cond.code yX2_shiftBetween cX2_shiftBetween 4 (some .int), Cond.fieldLink RX2 26 "FeatherBeds$Tick" "heaps" "[LFeatherBeds$Heap;", Cond.methodLink RX2 98 yX0_moveTo, Cond.instanceMethod yX0_moveTo, Cond.selects RX0 yX0_moveTo yX0_moveTo, Cond.initialized RX0, Cond.code yX0_moveTo cX0_moveTo 7 (some .int), Cond.methodLink RX0 27 Lib.Math.min.name, Cond.static Lib.Math.min.name]
def wsX2_shiftInAll_r2 : List Cond := [Cond.initialized "java/lang/Math", Cond.code Lib.Math.min.name Lib.Math.min.code 2 (some .int), Cond.methodLink RX0 19 yX0_of, Cond.instanceMethod yX0_of, Cond.selects RX0 yX0_of yX0_of, Cond.code yX0_of cX0_of 2 (some .int), Cond.fieldLink RX0 9 "FeatherBeds$Heap" "ofSize" "[I", Cond.methodLink RX0 23 yX0_change, Cond.instanceMethod yX0_change, Cond.selects RX0 yX0_change yX0_change, Cond.code yX0_change cX0_change 3 none, Cond.fieldLink RX0 15 "FeatherBeds$Heap" "all" "I"]
def wsX2_shiftInAll : List Cond := .code yX2_shiftInAll cX2_shiftInAll 4 (some .int) :: ((wsX2_shiftInAll_r1 ++ wsX2_shiftInAll_r2) ++ wsX20 ++ wsX00)
def wsX2_sleep_r1 : List Cond := [Cond.methodLink RX2 86 yX2_prickInAll, Cond.instanceMethod yX2_prickInAll, Cond.selects RX2 yX2_prickInAll yX2_prickInAll, Cond.initialized RX2, Cond.code yX2_prickInAll cX2_prickInAll 3 (some .int), Cond.fieldLink RX2 26 "FeatherBeds$Tick" "heaps" "[LFeatherBeds$Heap;", Cond.fieldLink RX2 18 "FeatherBeds$Tick" "density" "I", Cond.methodLink RX2 92 yX0_prick, Cond.instanceMethod yX0_prick, Cond.selects RX0 yX0_prick yX0_prick, Cond.initialized RX0, Cond.code yX0_prick cX0_prick 6 (some .int), Cond.methodLink RX0 19 yX0_of, Cond.instanceMethod yX0_of, Cond.selects RX0 yX0_of yX0_of, Cond.code yX0_of cX0_of 2 (some .int), Cond.fieldLink RX0 9 "FeatherBeds$Heap" "ofSize" "[I", Cond.methodLink RX0 23 yX0_change, Cond.instanceMethod yX0_change, Cond.selects RX0 yX0_change yX0_change, Cond.code yX0_change cX0_change 3 none, Cond.fieldLink RX0 15 "FeatherBeds$Heap" "all" "I", Cond.methodLink RX2 89 yX2_shiftInAll, Cond.instanceMethod yX2_shiftInAll]
def wsX2_sleep_r2 : List Cond := [Cond.selects RX2 yX2_shiftInAll yX2_shiftInAll, Cond.code yX2_shiftInAll cX2_shiftInAll 4 (some .int), Cond.fieldLink RX2 21 "FeatherBeds$Tick" "squares" "I", Cond.methodLink RX2 47 yX2_isOpen, Cond.instanceMethod yX2_isOpen, Cond.selects RX2 yX2_isOpen yX2_isOpen, Cond.code yX2_isOpen cX2_isOpen 4 (some .boolean), Cond.fieldLink RX2 31 "FeatherBeds$Tick" "sewn" "[Z", Cond.methodLink RX2 43 yX2_otherOfPair, Cond.instanceMethod yX2_otherOfPair, Cond.selects RX2 yX2_otherOfPair yX2_otherOfPair, Cond.code yX2_otherOfPair cX2_otherOfPair 3 (some .int), Cond.fieldLink RX2 9 "FeatherBeds$Tick" "columns" "I", Cond.methodLink RX2 95 yX2_shiftBetween, Cond.instanceMethod yX2_shiftBetween, Cond.selects RX2 yX2_shiftBetween yX2_shiftBetween, Cond.code yX2_shiftBetween cX2_shiftBetween 4 (some .int), Cond.methodLink RX2 98 yX0_moveTo, Cond.instanceMethod yX0_moveTo, Cond.selects RX0 yX0_moveTo yX0_moveTo, Cond.code yX0_moveTo cX0_moveTo 7 (some .int), Cond.methodLink RX0 27 Lib.Math.min.name, Cond.static Lib.Math.min.name, Cond.initialized "java/lang/Math"]
def wsX2_sleep_r3 : List Cond := [Cond.code Lib.Math.min.name Lib.Math.min.code 2 (some .int)]
def wsX2_sleep : List Cond := .code yX2_sleep cX2_sleep 6 (some .int) :: ((wsX2_sleep_r1 ++ (wsX2_sleep_r2 ++ wsX2_sleep_r3)) ++ wsX20 ++ wsX00)
def wsJxa1e45_init_da8c8 : List Cond := .code yJxa1e45_init_da8c8 cJxa1e45_init_da8c8 1 none :: ([.methodLink RJxa1e45 1 objectInit, .instanceMethod objectInit, .code objectInit ⟨#[0xb1]⟩ 1 none])
def wsJxc12de_init_da8c8 : List Cond := .code yJxc12de_init_da8c8 cJxc12de_init_da8c8 1 none :: ([.fieldLink RJxc12de 7 "java/util/AbstractList" "modCount" "I", .methodLink RJxc12de 1 yJxa1e45_init_da8c8, .instanceMethod yJxa1e45_init_da8c8, .initialized RJxa1e45, .code yJxa1e45_init_da8c8 cJxa1e45_init_da8c8 1 none, .methodLink RJxa1e45 1 objectInit, .instanceMethod objectInit, .code objectInit ⟨#[0xb1]⟩ 1 none] ++ wsJx4a65c0)
def wsJx4a65c_init_da8c8 : List Cond := .code yJx4a65c_init_da8c8 cJx4a65c_init_da8c8 1 none :: ([.fieldLink RJx4a65c 39 "java/util/ArrayList" "DEFAULTCAPACITY_EMPTY_ELEMENTDATA" "[Ljava/lang/Object;", .fieldLink RJx4a65c 9 "java/util/ArrayList" "elementData" "[Ljava/lang/Object;", .methodLink RJx4a65c 1 yJxc12de_init_da8c8, .instanceMethod yJxc12de_init_da8c8, .initialized RJxc12de, .code yJxc12de_init_da8c8 cJxc12de_init_da8c8 1 none, .fieldLink RJxc12de 7 "java/util/AbstractList" "modCount" "I", .methodLink RJxc12de 1 yJxa1e45_init_da8c8, .instanceMethod yJxa1e45_init_da8c8, .initialized RJxa1e45, .code yJxa1e45_init_da8c8 cJxa1e45_init_da8c8 1 none, .methodLink RJxa1e45 1 objectInit, .instanceMethod objectInit, .code objectInit ⟨#[0xb1]⟩ 1 none] ++ wsJx4a65c0)
def wsX3_init_r1 : List Cond := [Cond.methodLink RX3 3 objectInit, Cond.instanceMethod objectInit, Cond.code objectInit ⟨#[0xb1]⟩ 1 none, Cond.classLink RX3 9 RJx4a65c, Cond.instantiable RJx4a65c 3, Cond.initialized RJx4a65c, Cond.fieldLink RX3 12 "FeatherBeds" "sacks" "Ljava/util/ArrayList;", Cond.fieldLink RX3 16 "FeatherBeds" "ticks" "Ljava/util/ArrayList;", Cond.classLink RX3 19 RX0, Cond.fieldLink RX3 21 "FeatherBeds" "chambers" "[LFeatherBeds$Heap;", Cond.instantiable RX0 2, Cond.initialized RX0, Cond.classLink RX3 26 RX2, Cond.instantiable RX2 7, Cond.initialized RX2, Cond.fieldLink RX3 31 "FeatherBeds" "trial" "LFeatherBeds$Tick;", Cond.fieldLink RX3 35 "FeatherBeds" "wind" "I", Cond.methodLink RX3 11 yJx4a65c_init_da8c8, Cond.instanceMethod yJx4a65c_init_da8c8, Cond.code yJx4a65c_init_da8c8 cJx4a65c_init_da8c8 1 none, Cond.fieldLink RJx4a65c 39 "java/util/ArrayList" "DEFAULTCAPACITY_EMPTY_ELEMENTDATA" "[Ljava/lang/Object;", Cond.fieldLink RJx4a65c 9 "java/util/ArrayList" "elementData" "[Ljava/lang/Object;", Cond.methodLink RJx4a65c 1 yJxc12de_init_da8c8, Cond.instanceMethod yJxc12de_init_da8c8]
def wsX3_init_r2 : List Cond := [Cond.initialized RJxc12de, Cond.code yJxc12de_init_da8c8 cJxc12de_init_da8c8 1 none, Cond.fieldLink RJxc12de 7 "java/util/AbstractList" "modCount" "I", Cond.methodLink RJxc12de 1 yJxa1e45_init_da8c8, Cond.instanceMethod yJxa1e45_init_da8c8, Cond.initialized RJxa1e45, Cond.code yJxa1e45_init_da8c8 cJxa1e45_init_da8c8 1 none, Cond.methodLink RJxa1e45 1 objectInit, Cond.methodLink RX3 25 yX0_init, Cond.instanceMethod yX0_init, Cond.code yX0_init cX0_init 1 none, Cond.methodLink RX0 3 objectInit, Cond.arrayClass .int, Cond.fieldLink RX0 9 "FeatherBeds$Heap" "ofSize" "[I", Cond.methodLink RX3 28 yX2_init, Cond.instanceMethod yX2_init, Cond.code yX2_init cX2_init 5 none, Cond.methodLink RX2 3 objectInit, Cond.fieldLink RX2 9 "FeatherBeds$Tick" "columns" "I", Cond.fieldLink RX2 15 "FeatherBeds$Tick" "rows" "I", Cond.fieldLink RX2 18 "FeatherBeds$Tick" "density" "I", Cond.fieldLink RX2 21 "FeatherBeds$Tick" "squares" "I", Cond.classLink RX2 24 RX0, Cond.fieldLink RX2 26 "FeatherBeds$Tick" "heaps" "[LFeatherBeds$Heap;"]
def wsX3_init_r3 : List Cond := [Cond.arrayClass .boolean, Cond.fieldLink RX2 31 "FeatherBeds$Tick" "sewn" "[Z", Cond.fieldLink RX2 35 "FeatherBeds$Tick" "partOf" "[I", Cond.methodLink RX2 30 yX0_init]
def wsX3_init : List Cond := .code yX3_init cX3_init 2 none :: ((wsX3_init_r1 ++ (wsX3_init_r2 ++ wsX3_init_r3)) ++ wsJx4a65c0 ++ wsX30 ++ wsX00 ++ wsX20)
def wsX3_needRange : List Cond := .code yX3_needRange cX3_needRange 3 none :: ([.classLink RX3 128 "java/lang/IllegalArgumentException", .initialized "java/lang/IllegalArgumentException"] ++ (vx_atS RX3 132 "java/lang/IllegalArgumentException" ["java/lang/RuntimeException", "java/lang/Exception"]).filter goodWord)
def wsJx4a65c_size_8abf5 : List Cond := .code yJx4a65c_size_8abf5 cJx4a65c_size_8abf5 1 (some .int) :: ([.fieldLink RJx4a65c 48 "java/util/ArrayList" "size" "I"] ++ wsJx4a65c0)
def wsJ8_hugeLength_7cf53 : List Cond := .code yJ8_hugeLength_7cf53 cJ8_hugeLength_7cf53 3 (some .int) :: ([.constant RJ8 200 (2147483639)])
def wsJ8_newLength_cabcc : List Cond := .code yJ8_newLength_cabcc cJ8_newLength_cabcc 4 (some .int) :: ([.methodLink RJ8 194 Lib.Math.max.name, .static Lib.Math.max.name, .initialized "java/lang/Math", .code Lib.Math.max.name Lib.Math.max.code 2 (some .int), .constant RJ8 200 (2147483639), .methodLink RJ8 201 yJ8_hugeLength_7cf53, .static yJ8_hugeLength_7cf53, .initialized RJ8, .code yJ8_hugeLength_7cf53 cJ8_hugeLength_7cf53 3 (some .int)])
def wsJ7_copyOf_6403c : List Cond := .code yJ7_copyOf_6403c cJ7_copyOf_6403c 4 (some (.array (.object "java/lang/Object"))) :: ([.classLink RJ7 110 "[Ljava/lang/Object;", .classLink RJ7 2 "java/lang/Object", .methodLink RJ7 304 Lib.Math.min.name, .static Lib.Math.min.name, .initialized "java/lang/Math", .code Lib.Math.min.name Lib.Math.min.code 2 (some .int), .methodLink RJ7 150 arraycopyName, .native arraycopyName, .static arraycopyName, .initialized "java/lang/System"])
def wsJ7_copyOf_1904c : List Cond := .code yJ7_copyOf_1904c cJ7_copyOf_1904c 2 (some (.array (.object "java/lang/Object"))) :: ([.methodLink RJ7 86 ⟨"java/lang/Object", "getClass", "()Ljava/lang/Class;"⟩, .selects "[Ljava/lang/Object;" ⟨"java/lang/Object", "getClass", "()Ljava/lang/Class;"⟩ ⟨"java/lang/Object", "getClass", "()Ljava/lang/Class;"⟩, .instanceMethod ⟨"java/lang/Object", "getClass", "()Ljava/lang/Class;"⟩, .native ⟨"java/lang/Object", "getClass", "()Ljava/lang/Class;"⟩, .methodLink RJ7 300 yJ7_copyOf_6403c, .static yJ7_copyOf_6403c, .initialized RJ7, .code yJ7_copyOf_6403c cJ7_copyOf_6403c 4 (some (.array (.object "java/lang/Object"))), .classLink RJ7 110 "[Ljava/lang/Object;", .classLink RJ7 2 "java/lang/Object", .methodLink RJ7 304 Lib.Math.min.name, .static Lib.Math.min.name, .initialized "java/lang/Math", .code Lib.Math.min.name Lib.Math.min.code 2 (some .int), .methodLink RJ7 150 arraycopyName, .native arraycopyName, .static arraycopyName, .initialized "java/lang/System"])
def wsJx4a65c_grow_92f84_r1 : List Cond := [Cond.fieldLink RJx4a65c 9 "java/util/ArrayList" "elementData" "[Ljava/lang/Object;", Cond.fieldLink RJx4a65c 39 "java/util/ArrayList" "DEFAULTCAPACITY_EMPTY_ELEMENTDATA" "[Ljava/lang/Object;", Cond.methodLink RJx4a65c 79 Lib.Math.max.name, Cond.static Lib.Math.max.name, Cond.initialized "java/lang/Math", Cond.code Lib.Math.max.name Lib.Math.max.code 2 (some .int), Cond.classLink RJx4a65c 7 "java/lang/Object", Cond.methodLink RJx4a65c 73 yJ8_newLength_cabcc, Cond.static yJ8_newLength_cabcc, Cond.initialized RJ8, Cond.code yJ8_newLength_cabcc cJ8_newLength_cabcc 4 (some .int), Cond.methodLink RJ8 194 Lib.Math.max.name, Cond.constant RJ8 200 (2147483639), Cond.methodLink RJ8 201 yJ8_hugeLength_7cf53, Cond.static yJ8_hugeLength_7cf53, Cond.code yJ8_hugeLength_7cf53 cJ8_hugeLength_7cf53 3 (some .int), Cond.methodLink RJx4a65c 66 yJ7_copyOf_1904c, Cond.static yJ7_copyOf_1904c, Cond.initialized RJ7, Cond.code yJ7_copyOf_1904c cJ7_copyOf_1904c 2 (some (.array (.object "java/lang/Object"))), Cond.methodLink RJ7 86 ⟨"java/lang/Object", "getClass", "()Ljava/lang/Class;"⟩, Cond.selects "[Ljava/lang/Object;" ⟨"java/lang/Object", "getClass", "()Ljava/lang/Class;"⟩ ⟨"java/lang/Object", "getClass", "()Ljava/lang/Class;"⟩, Cond.instanceMethod ⟨"java/lang/Object", "getClass", "()Ljava/lang/Class;"⟩, Cond.native ⟨"java/lang/Object", "getClass", "()Ljava/lang/Class;"⟩]
def wsJx4a65c_grow_92f84_r2 : List Cond := [Cond.methodLink RJ7 300 yJ7_copyOf_6403c, Cond.static yJ7_copyOf_6403c, Cond.code yJ7_copyOf_6403c cJ7_copyOf_6403c 4 (some (.array (.object "java/lang/Object"))), Cond.classLink RJ7 110 "[Ljava/lang/Object;", Cond.classLink RJ7 2 "java/lang/Object", Cond.methodLink RJ7 304 Lib.Math.min.name, Cond.static Lib.Math.min.name, Cond.code Lib.Math.min.name Lib.Math.min.code 2 (some .int), Cond.methodLink RJ7 150 arraycopyName, Cond.native arraycopyName, Cond.static arraycopyName, Cond.initialized "java/lang/System"]
def wsJx4a65c_grow_92f84 : List Cond := .code yJx4a65c_grow_92f84 cJx4a65c_grow_92f84 4 (some (.array (.object "java/lang/Object"))) :: ((wsJx4a65c_grow_92f84_r1 ++ wsJx4a65c_grow_92f84_r2) ++ wsJx4a65c0)
def wsJx4a65c_grow_d5877_r1 : List Cond := [Cond.fieldLink RJx4a65c 48 "java/util/ArrayList" "size" "I", Cond.methodLink RJx4a65c 69 yJx4a65c_grow_92f84, Cond.instanceMethod yJx4a65c_grow_92f84, Cond.selects RJx4a65c yJx4a65c_grow_92f84 yJx4a65c_grow_92f84, Cond.initialized RJx4a65c, Cond.code yJx4a65c_grow_92f84 cJx4a65c_grow_92f84 4 (some (.array (.object "java/lang/Object"))), Cond.fieldLink RJx4a65c 9 "java/util/ArrayList" "elementData" "[Ljava/lang/Object;", Cond.fieldLink RJx4a65c 39 "java/util/ArrayList" "DEFAULTCAPACITY_EMPTY_ELEMENTDATA" "[Ljava/lang/Object;", Cond.methodLink RJx4a65c 79 Lib.Math.max.name, Cond.static Lib.Math.max.name, Cond.initialized "java/lang/Math", Cond.code Lib.Math.max.name Lib.Math.max.code 2 (some .int), Cond.classLink RJx4a65c 7 "java/lang/Object", Cond.methodLink RJx4a65c 73 yJ8_newLength_cabcc, Cond.static yJ8_newLength_cabcc, Cond.initialized RJ8, Cond.code yJ8_newLength_cabcc cJ8_newLength_cabcc 4 (some .int), Cond.methodLink RJ8 194 Lib.Math.max.name, Cond.constant RJ8 200 (2147483639), Cond.methodLink RJ8 201 yJ8_hugeLength_7cf53, Cond.static yJ8_hugeLength_7cf53, Cond.code yJ8_hugeLength_7cf53 cJ8_hugeLength_7cf53 3 (some .int), Cond.methodLink RJx4a65c 66 yJ7_copyOf_1904c, Cond.static yJ7_copyOf_1904c]
def wsJx4a65c_grow_d5877_r2 : List Cond := [Cond.initialized RJ7, Cond.code yJ7_copyOf_1904c cJ7_copyOf_1904c 2 (some (.array (.object "java/lang/Object"))), Cond.methodLink RJ7 86 ⟨"java/lang/Object", "getClass", "()Ljava/lang/Class;"⟩, Cond.selects "[Ljava/lang/Object;" ⟨"java/lang/Object", "getClass", "()Ljava/lang/Class;"⟩ ⟨"java/lang/Object", "getClass", "()Ljava/lang/Class;"⟩, Cond.instanceMethod ⟨"java/lang/Object", "getClass", "()Ljava/lang/Class;"⟩, Cond.native ⟨"java/lang/Object", "getClass", "()Ljava/lang/Class;"⟩, Cond.methodLink RJ7 300 yJ7_copyOf_6403c, Cond.static yJ7_copyOf_6403c, Cond.code yJ7_copyOf_6403c cJ7_copyOf_6403c 4 (some (.array (.object "java/lang/Object"))), Cond.classLink RJ7 110 "[Ljava/lang/Object;", Cond.classLink RJ7 2 "java/lang/Object", Cond.methodLink RJ7 304 Lib.Math.min.name, Cond.static Lib.Math.min.name, Cond.code Lib.Math.min.name Lib.Math.min.code 2 (some .int), Cond.methodLink RJ7 150 arraycopyName, Cond.native arraycopyName, Cond.static arraycopyName, Cond.initialized "java/lang/System"]
def wsJx4a65c_grow_d5877 : List Cond := .code yJx4a65c_grow_d5877 cJx4a65c_grow_d5877 1 (some (.array (.object "java/lang/Object"))) :: ((wsJx4a65c_grow_d5877_r1 ++ wsJx4a65c_grow_d5877_r2) ++ wsJx4a65c0)
def wsJx4a65c_add_72be8_r1 : List Cond := [Cond.fieldLink RJx4a65c 48 "java/util/ArrayList" "size" "I", Cond.methodLink RJx4a65c 129 yJx4a65c_grow_d5877, Cond.instanceMethod yJx4a65c_grow_d5877, Cond.selects RJx4a65c yJx4a65c_grow_d5877 yJx4a65c_grow_d5877, Cond.initialized RJx4a65c, Cond.code yJx4a65c_grow_d5877 cJx4a65c_grow_d5877 1 (some (.array (.object "java/lang/Object"))), Cond.methodLink RJx4a65c 69 yJx4a65c_grow_92f84, Cond.instanceMethod yJx4a65c_grow_92f84, Cond.selects RJx4a65c yJx4a65c_grow_92f84 yJx4a65c_grow_92f84, Cond.code yJx4a65c_grow_92f84 cJx4a65c_grow_92f84 4 (some (.array (.object "java/lang/Object"))), Cond.fieldLink RJx4a65c 9 "java/util/ArrayList" "elementData" "[Ljava/lang/Object;", Cond.fieldLink RJx4a65c 39 "java/util/ArrayList" "DEFAULTCAPACITY_EMPTY_ELEMENTDATA" "[Ljava/lang/Object;", Cond.methodLink RJx4a65c 79 Lib.Math.max.name, Cond.static Lib.Math.max.name, Cond.initialized "java/lang/Math", Cond.code Lib.Math.max.name Lib.Math.max.code 2 (some .int), Cond.classLink RJx4a65c 7 "java/lang/Object", Cond.methodLink RJx4a65c 73 yJ8_newLength_cabcc, Cond.static yJ8_newLength_cabcc, Cond.initialized RJ8, Cond.code yJ8_newLength_cabcc cJ8_newLength_cabcc 4 (some .int), Cond.methodLink RJ8 194 Lib.Math.max.name, Cond.constant RJ8 200 (2147483639), Cond.methodLink RJ8 201 yJ8_hugeLength_7cf53]
def wsJx4a65c_add_72be8_r2 : List Cond := [Cond.static yJ8_hugeLength_7cf53, Cond.code yJ8_hugeLength_7cf53 cJ8_hugeLength_7cf53 3 (some .int), Cond.methodLink RJx4a65c 66 yJ7_copyOf_1904c, Cond.static yJ7_copyOf_1904c, Cond.initialized RJ7, Cond.code yJ7_copyOf_1904c cJ7_copyOf_1904c 2 (some (.array (.object "java/lang/Object"))), Cond.methodLink RJ7 86 ⟨"java/lang/Object", "getClass", "()Ljava/lang/Class;"⟩, Cond.selects "[Ljava/lang/Object;" ⟨"java/lang/Object", "getClass", "()Ljava/lang/Class;"⟩ ⟨"java/lang/Object", "getClass", "()Ljava/lang/Class;"⟩, Cond.instanceMethod ⟨"java/lang/Object", "getClass", "()Ljava/lang/Class;"⟩, Cond.native ⟨"java/lang/Object", "getClass", "()Ljava/lang/Class;"⟩, Cond.methodLink RJ7 300 yJ7_copyOf_6403c, Cond.static yJ7_copyOf_6403c, Cond.code yJ7_copyOf_6403c cJ7_copyOf_6403c 4 (some (.array (.object "java/lang/Object"))), Cond.classLink RJ7 110 "[Ljava/lang/Object;", Cond.classLink RJ7 2 "java/lang/Object", Cond.methodLink RJ7 304 Lib.Math.min.name, Cond.static Lib.Math.min.name, Cond.code Lib.Math.min.name Lib.Math.min.code 2 (some .int), Cond.methodLink RJ7 150 arraycopyName, Cond.native arraycopyName, Cond.static arraycopyName, Cond.initialized "java/lang/System"]
def wsJx4a65c_add_72be8 : List Cond := .code yJx4a65c_add_72be8 cJx4a65c_add_72be8 4 none :: ((wsJx4a65c_add_72be8_r1 ++ wsJx4a65c_add_72be8_r2) ++ wsJx4a65c0)
def wsJx4a65c_add_9ea2d_r1 : List Cond := [Cond.fieldLink RJx4a65c 63 "java/util/ArrayList" "modCount" "I", Cond.sameField "java/util/ArrayList" "java/util/AbstractList" "modCount" "I", Cond.fieldLink RJx4a65c 9 "java/util/ArrayList" "elementData" "[Ljava/lang/Object;", Cond.fieldLink RJx4a65c 48 "java/util/ArrayList" "size" "I", Cond.methodLink RJx4a65c 131 yJx4a65c_add_72be8, Cond.instanceMethod yJx4a65c_add_72be8, Cond.selects RJx4a65c yJx4a65c_add_72be8 yJx4a65c_add_72be8, Cond.initialized RJx4a65c, Cond.code yJx4a65c_add_72be8 cJx4a65c_add_72be8 4 none, Cond.methodLink RJx4a65c 129 yJx4a65c_grow_d5877, Cond.instanceMethod yJx4a65c_grow_d5877, Cond.selects RJx4a65c yJx4a65c_grow_d5877 yJx4a65c_grow_d5877, Cond.code yJx4a65c_grow_d5877 cJx4a65c_grow_d5877 1 (some (.array (.object "java/lang/Object"))), Cond.methodLink RJx4a65c 69 yJx4a65c_grow_92f84, Cond.instanceMethod yJx4a65c_grow_92f84, Cond.selects RJx4a65c yJx4a65c_grow_92f84 yJx4a65c_grow_92f84, Cond.code yJx4a65c_grow_92f84 cJx4a65c_grow_92f84 4 (some (.array (.object "java/lang/Object"))), Cond.fieldLink RJx4a65c 39 "java/util/ArrayList" "DEFAULTCAPACITY_EMPTY_ELEMENTDATA" "[Ljava/lang/Object;", Cond.methodLink RJx4a65c 79 Lib.Math.max.name, Cond.static Lib.Math.max.name, Cond.initialized "java/lang/Math", Cond.code Lib.Math.max.name Lib.Math.max.code 2 (some .int), Cond.classLink RJx4a65c 7 "java/lang/Object", Cond.methodLink RJx4a65c 73 yJ8_newLength_cabcc]
def wsJx4a65c_add_9ea2d_r2 : List Cond := [Cond.static yJ8_newLength_cabcc, Cond.initialized RJ8, Cond.code yJ8_newLength_cabcc cJ8_newLength_cabcc 4 (some .int), Cond.methodLink RJ8 194 Lib.Math.max.name, Cond.constant RJ8 200 (2147483639), Cond.methodLink RJ8 201 yJ8_hugeLength_7cf53, Cond.static yJ8_hugeLength_7cf53, Cond.code yJ8_hugeLength_7cf53 cJ8_hugeLength_7cf53 3 (some .int), Cond.methodLink RJx4a65c 66 yJ7_copyOf_1904c, Cond.static yJ7_copyOf_1904c, Cond.initialized RJ7, Cond.code yJ7_copyOf_1904c cJ7_copyOf_1904c 2 (some (.array (.object "java/lang/Object"))), Cond.methodLink RJ7 86 ⟨"java/lang/Object", "getClass", "()Ljava/lang/Class;"⟩, Cond.selects "[Ljava/lang/Object;" ⟨"java/lang/Object", "getClass", "()Ljava/lang/Class;"⟩ ⟨"java/lang/Object", "getClass", "()Ljava/lang/Class;"⟩, Cond.instanceMethod ⟨"java/lang/Object", "getClass", "()Ljava/lang/Class;"⟩, Cond.native ⟨"java/lang/Object", "getClass", "()Ljava/lang/Class;"⟩, Cond.methodLink RJ7 300 yJ7_copyOf_6403c, Cond.static yJ7_copyOf_6403c, Cond.code yJ7_copyOf_6403c cJ7_copyOf_6403c 4 (some (.array (.object "java/lang/Object"))), Cond.classLink RJ7 110 "[Ljava/lang/Object;", Cond.classLink RJ7 2 "java/lang/Object", Cond.methodLink RJ7 304 Lib.Math.min.name, Cond.static Lib.Math.min.name, Cond.code Lib.Math.min.name Lib.Math.min.code 2 (some .int)]
def wsJx4a65c_add_9ea2d_r3 : List Cond := [Cond.methodLink RJ7 150 arraycopyName, Cond.native arraycopyName, Cond.static arraycopyName, Cond.initialized "java/lang/System"]
def wsJx4a65c_add_9ea2d : List Cond := .code yJx4a65c_add_9ea2d cJx4a65c_add_9ea2d 2 (some .boolean) :: ((wsJx4a65c_add_9ea2d_r1 ++ (wsJx4a65c_add_9ea2d_r2 ++ wsJx4a65c_add_9ea2d_r3)) ++ wsJx4a65c0)
def wsX3_addSack_r1 : List Cond := [Cond.classLink RX3 46 "java/lang/IllegalStateException", Cond.initialized "java/lang/IllegalStateException", Cond.fieldLink RX3 12 "FeatherBeds" "sacks" "Ljava/util/ArrayList;", Cond.classLink RX3 53 RX1, Cond.instantiable RX1 2, Cond.initialized RX1, Cond.methodLink RX3 39 yX3_needRange, Cond.static yX3_needRange, Cond.initialized RX3, Cond.code yX3_needRange cX3_needRange 3 none, Cond.classLink RX3 128 "java/lang/IllegalArgumentException", Cond.initialized "java/lang/IllegalArgumentException", Cond.methodLink RX3 42 yJx4a65c_size_8abf5, Cond.instanceMethod yJx4a65c_size_8abf5, Cond.selects RJx4a65c yJx4a65c_size_8abf5 yJx4a65c_size_8abf5, Cond.initialized RJx4a65c, Cond.code yJx4a65c_size_8abf5 cJx4a65c_size_8abf5 1 (some .int), Cond.fieldLink RJx4a65c 48 "java/util/ArrayList" "size" "I", Cond.methodLink RX3 55 yX1_init, Cond.instanceMethod yX1_init, Cond.code yX1_init cX1_init 2 none, Cond.methodLink RX1 3 objectInit, Cond.instanceMethod objectInit, Cond.code objectInit ⟨#[0xb1]⟩ 1 none]
def wsX3_addSack_r2 : List Cond := [Cond.classLink RX1 9 RX0, Cond.instantiable RX0 2, Cond.initialized RX0, Cond.fieldLink RX1 12 "FeatherBeds$Sack" "heap" "LFeatherBeds$Heap;", Cond.fieldLink RX1 18 "FeatherBeds$Sack" "damp" "I", Cond.methodLink RX1 11 yX0_init, Cond.instanceMethod yX0_init, Cond.code yX0_init cX0_init 1 none, Cond.methodLink RX0 3 objectInit, Cond.arrayClass .int, Cond.fieldLink RX0 9 "FeatherBeds$Heap" "ofSize" "[I", Cond.methodLink RX3 58 yJx4a65c_add_9ea2d, Cond.instanceMethod yJx4a65c_add_9ea2d, Cond.selects RJx4a65c yJx4a65c_add_9ea2d yJx4a65c_add_9ea2d, Cond.code yJx4a65c_add_9ea2d cJx4a65c_add_9ea2d 2 (some .boolean), Cond.fieldLink RJx4a65c 63 "java/util/ArrayList" "modCount" "I", Cond.sameField "java/util/ArrayList" "java/util/AbstractList" "modCount" "I", Cond.fieldLink RJx4a65c 9 "java/util/ArrayList" "elementData" "[Ljava/lang/Object;", Cond.methodLink RJx4a65c 131 yJx4a65c_add_72be8, Cond.instanceMethod yJx4a65c_add_72be8, Cond.selects RJx4a65c yJx4a65c_add_72be8 yJx4a65c_add_72be8, Cond.code yJx4a65c_add_72be8 cJx4a65c_add_72be8 4 none, Cond.methodLink RJx4a65c 129 yJx4a65c_grow_d5877, Cond.instanceMethod yJx4a65c_grow_d5877]
def wsX3_addSack_r3 : List Cond := [Cond.selects RJx4a65c yJx4a65c_grow_d5877 yJx4a65c_grow_d5877, Cond.code yJx4a65c_grow_d5877 cJx4a65c_grow_d5877 1 (some (.array (.object "java/lang/Object"))), Cond.methodLink RJx4a65c 69 yJx4a65c_grow_92f84, Cond.instanceMethod yJx4a65c_grow_92f84, Cond.selects RJx4a65c yJx4a65c_grow_92f84 yJx4a65c_grow_92f84, Cond.code yJx4a65c_grow_92f84 cJx4a65c_grow_92f84 4 (some (.array (.object "java/lang/Object"))), Cond.fieldLink RJx4a65c 39 "java/util/ArrayList" "DEFAULTCAPACITY_EMPTY_ELEMENTDATA" "[Ljava/lang/Object;", Cond.methodLink RJx4a65c 79 Lib.Math.max.name, Cond.static Lib.Math.max.name, Cond.initialized "java/lang/Math", Cond.code Lib.Math.max.name Lib.Math.max.code 2 (some .int), Cond.classLink RJx4a65c 7 "java/lang/Object", Cond.methodLink RJx4a65c 73 yJ8_newLength_cabcc, Cond.static yJ8_newLength_cabcc, Cond.initialized RJ8, Cond.code yJ8_newLength_cabcc cJ8_newLength_cabcc 4 (some .int), Cond.methodLink RJ8 194 Lib.Math.max.name, Cond.constant RJ8 200 (2147483639), Cond.methodLink RJ8 201 yJ8_hugeLength_7cf53, Cond.static yJ8_hugeLength_7cf53, Cond.code yJ8_hugeLength_7cf53 cJ8_hugeLength_7cf53 3 (some .int), Cond.methodLink RJx4a65c 66 yJ7_copyOf_1904c, Cond.static yJ7_copyOf_1904c, Cond.initialized RJ7]
def wsX3_addSack_r4 : List Cond := [Cond.code yJ7_copyOf_1904c cJ7_copyOf_1904c 2 (some (.array (.object "java/lang/Object"))), Cond.methodLink RJ7 86 ⟨"java/lang/Object", "getClass", "()Ljava/lang/Class;"⟩, Cond.selects "[Ljava/lang/Object;" ⟨"java/lang/Object", "getClass", "()Ljava/lang/Class;"⟩ ⟨"java/lang/Object", "getClass", "()Ljava/lang/Class;"⟩, Cond.instanceMethod ⟨"java/lang/Object", "getClass", "()Ljava/lang/Class;"⟩, Cond.native ⟨"java/lang/Object", "getClass", "()Ljava/lang/Class;"⟩, Cond.methodLink RJ7 300 yJ7_copyOf_6403c, Cond.static yJ7_copyOf_6403c, Cond.code yJ7_copyOf_6403c cJ7_copyOf_6403c 4 (some (.array (.object "java/lang/Object"))), Cond.classLink RJ7 110 "[Ljava/lang/Object;", Cond.classLink RJ7 2 "java/lang/Object", Cond.methodLink RJ7 304 Lib.Math.min.name, Cond.static Lib.Math.min.name, Cond.code Lib.Math.min.name Lib.Math.min.code 2 (some .int), Cond.methodLink RJ7 150 arraycopyName, Cond.native arraycopyName, Cond.static arraycopyName, Cond.initialized "java/lang/System"]
def wsX3_addSack : List Cond := .code yX3_addSack cX3_addSack 2 (some .int) :: ((wsX3_addSack_r1 ++ (wsX3_addSack_r2 ++ (wsX3_addSack_r3 ++ wsX3_addSack_r4))) ++ wsX30 ++ wsX10 ++ wsJx4a65c0 ++ wsX00 ++ (vx_atS RX3 50 "java/lang/IllegalStateException" ["java/lang/RuntimeException", "java/lang/Exception"]).filter goodWord ++ (vx_atS RX3 132 "java/lang/IllegalArgumentException" ["java/lang/RuntimeException", "java/lang/Exception"]).filter goodWord)
def wsJ3_checkIndex_8e157 : List Cond := .code yJ3_checkIndex_8e157 cJ3_checkIndex_8e157 3 (some .int) :: ([])
def wsJ15_checkIndex_7cf53 : List Cond := .code yJ15_checkIndex_7cf53 cJ15_checkIndex_7cf53 2 (some .int) :: ([.methodLink RJ15 105 yJ3_checkIndex_8e157, .static yJ3_checkIndex_8e157, .initialized RJ3, .code yJ3_checkIndex_8e157 cJ3_checkIndex_8e157 3 (some .int)])
def wsJx4a65c_elementData_915e3 : List Cond := .code yJx4a65c_elementData_915e3 cJx4a65c_elementData_915e3 2 (some (.object "java/lang/Object")) :: ([.fieldLink RJx4a65c 9 "java/util/ArrayList" "elementData" "[Ljava/lang/Object;"] ++ wsJx4a65c0)
def wsJx4a65c_get_915e3 : List Cond := .code yJx4a65c_get_915e3 cJx4a65c_get_915e3 2 (some (.object "java/lang/Object")) :: ([.fieldLink RJx4a65c 48 "java/util/ArrayList" "size" "I", .methodLink RJx4a65c 118 yJ15_checkIndex_7cf53, .static yJ15_checkIndex_7cf53, .initialized RJ15, .code yJ15_checkIndex_7cf53 cJ15_checkIndex_7cf53 2 (some .int), .methodLink RJ15 105 yJ3_checkIndex_8e157, .static yJ3_checkIndex_8e157, .initialized RJ3, .code yJ3_checkIndex_8e157 cJ3_checkIndex_8e157 3 (some .int), .methodLink RJx4a65c 123 yJx4a65c_elementData_915e3, .instanceMethod yJx4a65c_elementData_915e3, .selects RJx4a65c yJx4a65c_elementData_915e3 yJx4a65c_elementData_915e3, .initialized RJx4a65c, .code yJx4a65c_elementData_915e3 cJx4a65c_elementData_915e3 2 (some (.object "java/lang/Object")), .fieldLink RJx4a65c 9 "java/util/ArrayList" "elementData" "[Ljava/lang/Object;"] ++ wsJx4a65c0)
def wsX3_needSack_r1 : List Cond := [Cond.classLink RX3 210 "java/lang/IndexOutOfBoundsException", Cond.initialized "java/lang/IndexOutOfBoundsException", Cond.fieldLink RX3 12 "FeatherBeds" "sacks" "Ljava/util/ArrayList;", Cond.classLink RX3 53 "FeatherBeds$Sack", Cond.methodLink RX3 42 yJx4a65c_size_8abf5, Cond.instanceMethod yJx4a65c_size_8abf5, Cond.selects RJx4a65c yJx4a65c_size_8abf5 yJx4a65c_size_8abf5, Cond.initialized RJx4a65c, Cond.code yJx4a65c_size_8abf5 cJx4a65c_size_8abf5 1 (some .int), Cond.fieldLink RJx4a65c 48 "java/util/ArrayList" "size" "I", Cond.methodLink RX3 154 yJx4a65c_get_915e3, Cond.instanceMethod yJx4a65c_get_915e3, Cond.selects RJx4a65c yJx4a65c_get_915e3 yJx4a65c_get_915e3, Cond.code yJx4a65c_get_915e3 cJx4a65c_get_915e3 2 (some (.object "java/lang/Object")), Cond.methodLink RJx4a65c 118 yJ15_checkIndex_7cf53, Cond.static yJ15_checkIndex_7cf53, Cond.initialized RJ15, Cond.code yJ15_checkIndex_7cf53 cJ15_checkIndex_7cf53 2 (some .int), Cond.methodLink RJ15 105 yJ3_checkIndex_8e157, Cond.static yJ3_checkIndex_8e157, Cond.initialized RJ3, Cond.code yJ3_checkIndex_8e157 cJ3_checkIndex_8e157 3 (some .int), Cond.methodLink RJx4a65c 123 yJx4a65c_elementData_915e3, Cond.instanceMethod yJx4a65c_elementData_915e3]
def wsX3_needSack_r2 : List Cond := [Cond.selects RJx4a65c yJx4a65c_elementData_915e3 yJx4a65c_elementData_915e3, Cond.code yJx4a65c_elementData_915e3 cJx4a65c_elementData_915e3 2 (some (.object "java/lang/Object")), Cond.fieldLink RJx4a65c 9 "java/util/ArrayList" "elementData" "[Ljava/lang/Object;"]
def wsX3_needSack : List Cond := .code yX3_needSack cX3_needSack 2 (some (.object "FeatherBeds$Sack")) :: ((wsX3_needSack_r1 ++ wsX3_needSack_r2) ++ wsX30 ++ wsJx4a65c0 ++ (vx_atS RX3 214 "java/lang/IndexOutOfBoundsException" ["java/lang/RuntimeException", "java/lang/Exception"]).filter goodWord)
def wsX3_needIndex : List Cond := .code yX3_needIndex cX3_needIndex 2 none :: ([.classLink RX3 210 "java/lang/IndexOutOfBoundsException", .initialized "java/lang/IndexOutOfBoundsException"] ++ (vx_atS RX3 214 "java/lang/IndexOutOfBoundsException" ["java/lang/RuntimeException", "java/lang/Exception"]).filter goodWord)
def wsX3_put_r1 : List Cond := [Cond.classLink RX3 46 "java/lang/IllegalStateException", Cond.initialized "java/lang/IllegalStateException", Cond.methodLink RX3 62 yX3_needSack, Cond.instanceMethod yX3_needSack, Cond.selects RX3 yX3_needSack yX3_needSack, Cond.initialized RX3, Cond.code yX3_needSack cX3_needSack 2 (some (.object "FeatherBeds$Sack")), Cond.classLink RX3 210 "java/lang/IndexOutOfBoundsException", Cond.initialized "java/lang/IndexOutOfBoundsException", Cond.fieldLink RX3 12 "FeatherBeds" "sacks" "Ljava/util/ArrayList;", Cond.classLink RX3 53 "FeatherBeds$Sack", Cond.methodLink RX3 42 yJx4a65c_size_8abf5, Cond.instanceMethod yJx4a65c_size_8abf5, Cond.selects RJx4a65c yJx4a65c_size_8abf5 yJx4a65c_size_8abf5, Cond.initialized RJx4a65c, Cond.code yJx4a65c_size_8abf5 cJx4a65c_size_8abf5 1 (some .int), Cond.fieldLink RJx4a65c 48 "java/util/ArrayList" "size" "I", Cond.methodLink RX3 154 yJx4a65c_get_915e3, Cond.instanceMethod yJx4a65c_get_915e3, Cond.selects RJx4a65c yJx4a65c_get_915e3 yJx4a65c_get_915e3, Cond.code yJx4a65c_get_915e3 cJx4a65c_get_915e3 2 (some (.object "java/lang/Object")), Cond.methodLink RJx4a65c 118 yJ15_checkIndex_7cf53, Cond.static yJ15_checkIndex_7cf53, Cond.initialized RJ15]
def wsX3_put_r2 : List Cond := [Cond.code yJ15_checkIndex_7cf53 cJ15_checkIndex_7cf53 2 (some .int), Cond.methodLink RJ15 105 yJ3_checkIndex_8e157, Cond.static yJ3_checkIndex_8e157, Cond.initialized RJ3, Cond.code yJ3_checkIndex_8e157 cJ3_checkIndex_8e157 3 (some .int), Cond.methodLink RJx4a65c 123 yJx4a65c_elementData_915e3, Cond.instanceMethod yJx4a65c_elementData_915e3, Cond.selects RJx4a65c yJx4a65c_elementData_915e3 yJx4a65c_elementData_915e3, Cond.code yJx4a65c_elementData_915e3 cJx4a65c_elementData_915e3 2 (some (.object "java/lang/Object")), Cond.fieldLink RJx4a65c 9 "java/util/ArrayList" "elementData" "[Ljava/lang/Object;", Cond.methodLink RX3 70 yX3_needIndex, Cond.static yX3_needIndex, Cond.code yX3_needIndex cX3_needIndex 2 none, Cond.methodLink RX3 39 yX3_needRange, Cond.static yX3_needRange, Cond.code yX3_needRange cX3_needRange 3 none, Cond.classLink RX3 128 "java/lang/IllegalArgumentException", Cond.initialized "java/lang/IllegalArgumentException", Cond.methodLink RX3 74 yX0_of, Cond.instanceMethod yX0_of, Cond.selects RX0 yX0_of yX0_of, Cond.initialized RX0, Cond.code yX0_of cX0_of 2 (some .int), Cond.fieldLink RX0 9 "FeatherBeds$Heap" "ofSize" "[I"]
def wsX3_put_r3 : List Cond := [Cond.methodLink RX3 80 yX0_change, Cond.instanceMethod yX0_change, Cond.selects RX0 yX0_change yX0_change, Cond.code yX0_change cX0_change 3 none, Cond.fieldLink RX0 15 "FeatherBeds$Heap" "all" "I"]
def wsX3_put : List Cond := .code yX3_put cX3_put 5 (some .int) :: ((wsX3_put_r1 ++ (wsX3_put_r2 ++ wsX3_put_r3)) ++ wsX10 ++ wsX30 ++ wsJx4a65c0 ++ wsX00 ++ (vx_atS RX3 50 "java/lang/IllegalStateException" ["java/lang/RuntimeException", "java/lang/Exception"]).filter goodWord ++ (vx_atS RX3 214 "java/lang/IndexOutOfBoundsException" ["java/lang/RuntimeException", "java/lang/Exception"]).filter goodWord ++ (vx_atS RX3 132 "java/lang/IllegalArgumentException" ["java/lang/RuntimeException", "java/lang/Exception"]).filter goodWord)
def wsX3_dry_r1 : List Cond := [Cond.methodLink RX3 86 Lib.Math.max.name, Cond.static Lib.Math.max.name, Cond.initialized "java/lang/Math", Cond.code Lib.Math.max.name Lib.Math.max.code 2 (some .int), Cond.methodLink RX3 62 yX3_needSack, Cond.instanceMethod yX3_needSack, Cond.selects RX3 yX3_needSack yX3_needSack, Cond.initialized RX3, Cond.code yX3_needSack cX3_needSack 2 (some (.object "FeatherBeds$Sack")), Cond.classLink RX3 210 "java/lang/IndexOutOfBoundsException", Cond.initialized "java/lang/IndexOutOfBoundsException", Cond.fieldLink RX3 12 "FeatherBeds" "sacks" "Ljava/util/ArrayList;", Cond.classLink RX3 53 "FeatherBeds$Sack", Cond.methodLink RX3 42 yJx4a65c_size_8abf5, Cond.instanceMethod yJx4a65c_size_8abf5, Cond.selects RJx4a65c yJx4a65c_size_8abf5 yJx4a65c_size_8abf5, Cond.initialized RJx4a65c, Cond.code yJx4a65c_size_8abf5 cJx4a65c_size_8abf5 1 (some .int), Cond.fieldLink RJx4a65c 48 "java/util/ArrayList" "size" "I", Cond.methodLink RX3 154 yJx4a65c_get_915e3, Cond.instanceMethod yJx4a65c_get_915e3, Cond.selects RJx4a65c yJx4a65c_get_915e3 yJx4a65c_get_915e3, Cond.code yJx4a65c_get_915e3 cJx4a65c_get_915e3 2 (some (.object "java/lang/Object")), Cond.methodLink RJx4a65c 118 yJ15_checkIndex_7cf53]
def wsX3_dry_r2 : List Cond := [Cond.static yJ15_checkIndex_7cf53, Cond.initialized RJ15, Cond.code yJ15_checkIndex_7cf53 cJ15_checkIndex_7cf53 2 (some .int), Cond.methodLink RJ15 105 yJ3_checkIndex_8e157, Cond.static yJ3_checkIndex_8e157, Cond.initialized RJ3, Cond.code yJ3_checkIndex_8e157 cJ3_checkIndex_8e157 3 (some .int), Cond.methodLink RJx4a65c 123 yJx4a65c_elementData_915e3, Cond.instanceMethod yJx4a65c_elementData_915e3, Cond.selects RJx4a65c yJx4a65c_elementData_915e3 yJx4a65c_elementData_915e3, Cond.code yJx4a65c_elementData_915e3 cJx4a65c_elementData_915e3 2 (some (.object "java/lang/Object")), Cond.fieldLink RJx4a65c 9 "java/util/ArrayList" "elementData" "[Ljava/lang/Object;", Cond.methodLink RX3 39 yX3_needRange, Cond.static yX3_needRange, Cond.code yX3_needRange cX3_needRange 3 none, Cond.classLink RX3 128 "java/lang/IllegalArgumentException", Cond.initialized "java/lang/IllegalArgumentException"]
def wsX3_dry : List Cond := .code yX3_dry cX3_dry 4 (some .int) :: ((wsX3_dry_r1 ++ wsX3_dry_r2) ++ wsX10 ++ wsX30 ++ wsJx4a65c0 ++ (vx_atS RX3 214 "java/lang/IndexOutOfBoundsException" ["java/lang/RuntimeException", "java/lang/Exception"]).filter goodWord ++ (vx_atS RX3 132 "java/lang/IllegalArgumentException" ["java/lang/RuntimeException", "java/lang/Exception"]).filter goodWord)
def wsX3_sack_r1 : List Cond := [Cond.methodLink RX3 62 yX3_needSack, Cond.instanceMethod yX3_needSack, Cond.selects RX3 yX3_needSack yX3_needSack, Cond.initialized RX3, Cond.code yX3_needSack cX3_needSack 2 (some (.object "FeatherBeds$Sack")), Cond.classLink RX3 210 "java/lang/IndexOutOfBoundsException", Cond.initialized "java/lang/IndexOutOfBoundsException", Cond.fieldLink RX3 12 "FeatherBeds" "sacks" "Ljava/util/ArrayList;", Cond.classLink RX3 53 "FeatherBeds$Sack", Cond.methodLink RX3 42 yJx4a65c_size_8abf5, Cond.instanceMethod yJx4a65c_size_8abf5, Cond.selects RJx4a65c yJx4a65c_size_8abf5 yJx4a65c_size_8abf5, Cond.initialized RJx4a65c, Cond.code yJx4a65c_size_8abf5 cJx4a65c_size_8abf5 1 (some .int), Cond.fieldLink RJx4a65c 48 "java/util/ArrayList" "size" "I", Cond.methodLink RX3 154 yJx4a65c_get_915e3, Cond.instanceMethod yJx4a65c_get_915e3, Cond.selects RJx4a65c yJx4a65c_get_915e3 yJx4a65c_get_915e3, Cond.code yJx4a65c_get_915e3 cJx4a65c_get_915e3 2 (some (.object "java/lang/Object")), Cond.methodLink RJx4a65c 118 yJ15_checkIndex_7cf53, Cond.static yJ15_checkIndex_7cf53, Cond.initialized RJ15, Cond.code yJ15_checkIndex_7cf53 cJ15_checkIndex_7cf53 2 (some .int), Cond.methodLink RJ15 105 yJ3_checkIndex_8e157]
def wsX3_sack_r2 : List Cond := [Cond.static yJ3_checkIndex_8e157, Cond.initialized RJ3, Cond.code yJ3_checkIndex_8e157 cJ3_checkIndex_8e157 3 (some .int), Cond.methodLink RJx4a65c 123 yJx4a65c_elementData_915e3, Cond.instanceMethod yJx4a65c_elementData_915e3, Cond.selects RJx4a65c yJx4a65c_elementData_915e3 yJx4a65c_elementData_915e3, Cond.code yJx4a65c_elementData_915e3 cJx4a65c_elementData_915e3 2 (some (.object "java/lang/Object")), Cond.fieldLink RJx4a65c 9 "java/util/ArrayList" "elementData" "[Ljava/lang/Object;", Cond.methodLink RX3 70 yX3_needIndex, Cond.static yX3_needIndex, Cond.code yX3_needIndex cX3_needIndex 2 none, Cond.methodLink RX3 92 yX1_tells, Cond.instanceMethod yX1_tells, Cond.selects RX1 yX1_tells yX1_tells, Cond.initialized RX1, Cond.code yX1_tells cX1_tells 2 (some .int), Cond.fieldLink RX1 12 "FeatherBeds$Sack" "heap" "LFeatherBeds$Heap;", Cond.fieldLink RX1 18 "FeatherBeds$Sack" "damp" "I", Cond.methodLink RX1 22 yX0_of, Cond.instanceMethod yX0_of, Cond.selects RX0 yX0_of yX0_of, Cond.initialized RX0, Cond.code yX0_of cX0_of 2 (some .int), Cond.fieldLink RX0 9 "FeatherBeds$Heap" "ofSize" "[I"]
def wsX3_sack : List Cond := .code yX3_sack cX3_sack 4 (some .int) :: ((wsX3_sack_r1 ++ wsX3_sack_r2) ++ wsX30 ++ wsJx4a65c0 ++ wsX10 ++ wsX00 ++ (vx_atS RX3 214 "java/lang/IndexOutOfBoundsException" ["java/lang/RuntimeException", "java/lang/Exception"]).filter goodWord)
def wsX3_setWind : List Cond := .code yX3_setWind cX3_setWind 3 (some .int) :: ([.fieldLink RX3 35 "FeatherBeds" "wind" "I", .methodLink RX3 39 yX3_needRange, .static yX3_needRange, .initialized RX3, .code yX3_needRange cX3_needRange 3 none, .classLink RX3 128 "java/lang/IllegalArgumentException", .initialized "java/lang/IllegalArgumentException"] ++ wsX30 ++ (vx_atS RX3 132 "java/lang/IllegalArgumentException" ["java/lang/RuntimeException", "java/lang/Exception"]).filter goodWord)
def wsX3_blow_r1 : List Cond := [Cond.fieldLink RX3 21 "FeatherBeds" "chambers" "[LFeatherBeds$Heap;", Cond.fieldLink RX3 35 "FeatherBeds" "wind" "I", Cond.fieldLink RX3 99 "FeatherBeds" "lostInYard" "I", Cond.methodLink RX3 62 yX3_needSack, Cond.instanceMethod yX3_needSack, Cond.selects RX3 yX3_needSack yX3_needSack, Cond.initialized RX3, Cond.code yX3_needSack cX3_needSack 2 (some (.object "FeatherBeds$Sack")), Cond.classLink RX3 210 "java/lang/IndexOutOfBoundsException", Cond.initialized "java/lang/IndexOutOfBoundsException", Cond.fieldLink RX3 12 "FeatherBeds" "sacks" "Ljava/util/ArrayList;", Cond.classLink RX3 53 "FeatherBeds$Sack", Cond.methodLink RX3 42 yJx4a65c_size_8abf5, Cond.instanceMethod yJx4a65c_size_8abf5, Cond.selects RJx4a65c yJx4a65c_size_8abf5 yJx4a65c_size_8abf5, Cond.initialized RJx4a65c, Cond.code yJx4a65c_size_8abf5 cJx4a65c_size_8abf5 1 (some .int), Cond.fieldLink RJx4a65c 48 "java/util/ArrayList" "size" "I", Cond.methodLink RX3 154 yJx4a65c_get_915e3, Cond.instanceMethod yJx4a65c_get_915e3, Cond.selects RJx4a65c yJx4a65c_get_915e3 yJx4a65c_get_915e3, Cond.code yJx4a65c_get_915e3 cJx4a65c_get_915e3 2 (some (.object "java/lang/Object")), Cond.methodLink RJx4a65c 118 yJ15_checkIndex_7cf53, Cond.static yJ15_checkIndex_7cf53]
def wsX3_blow_r2 : List Cond := [Cond.initialized RJ15, Cond.code yJ15_checkIndex_7cf53 cJ15_checkIndex_7cf53 2 (some .int), Cond.methodLink RJ15 105 yJ3_checkIndex_8e157, Cond.static yJ3_checkIndex_8e157, Cond.initialized RJ3, Cond.code yJ3_checkIndex_8e157 cJ3_checkIndex_8e157 3 (some .int), Cond.methodLink RJx4a65c 123 yJx4a65c_elementData_915e3, Cond.instanceMethod yJx4a65c_elementData_915e3, Cond.selects RJx4a65c yJx4a65c_elementData_915e3 yJx4a65c_elementData_915e3, Cond.code yJx4a65c_elementData_915e3 cJx4a65c_elementData_915e3 2 (some (.object "java/lang/Object")), Cond.fieldLink RJx4a65c 9 "java/util/ArrayList" "elementData" "[Ljava/lang/Object;", Cond.methodLink RX3 95 yX1_brings, Cond.instanceMethod yX1_brings, Cond.selects RX1 yX1_brings yX1_brings, Cond.initialized RX1, Cond.code yX1_brings cX1_brings 8 (some .int), Cond.fieldLink RX1 12 "FeatherBeds$Sack" "heap" "LFeatherBeds$Heap;", Cond.methodLink RX1 22 yX0_of, Cond.instanceMethod yX0_of, Cond.selects RX0 yX0_of yX0_of, Cond.initialized RX0, Cond.code yX0_of cX0_of 2 (some .int), Cond.fieldLink RX0 9 "FeatherBeds$Heap" "ofSize" "[I", Cond.methodLink RX1 35 yX1_flight]
def wsX3_blow_r3 : List Cond := [Cond.instanceMethod yX1_flight, Cond.selects RX1 yX1_flight yX1_flight, Cond.code yX1_flight cX1_flight 5 (some .int), Cond.fieldLink RX1 18 "FeatherBeds$Sack" "damp" "I", Cond.methodLink RX1 29 Lib.Math.min.name, Cond.static Lib.Math.min.name, Cond.initialized "java/lang/Math", Cond.code Lib.Math.min.name Lib.Math.min.code 2 (some .int), Cond.methodLink RX3 80 yX0_change, Cond.instanceMethod yX0_change, Cond.selects RX0 yX0_change yX0_change, Cond.code yX0_change cX0_change 3 none, Cond.fieldLink RX0 15 "FeatherBeds$Heap" "all" "I", Cond.methodLink RX3 74 yX0_of]
def wsX3_blow : List Cond := .code yX3_blow cX3_blow 7 (some .int) :: ((wsX3_blow_r1 ++ (wsX3_blow_r2 ++ wsX3_blow_r3)) ++ wsX30 ++ wsX10 ++ wsJx4a65c0 ++ wsX00 ++ (vx_atS RX3 214 "java/lang/IndexOutOfBoundsException" ["java/lang/RuntimeException", "java/lang/Exception"]).filter goodWord)
def wsX3_needChamber : List Cond := .code yX3_needChamber cX3_needChamber 2 (some (.object "FeatherBeds$Heap")) :: ([.classLink RX3 210 "java/lang/IndexOutOfBoundsException", .initialized "java/lang/IndexOutOfBoundsException", .fieldLink RX3 21 "FeatherBeds" "chambers" "[LFeatherBeds$Heap;"] ++ wsX30 ++ (vx_atS RX3 214 "java/lang/IndexOutOfBoundsException" ["java/lang/RuntimeException", "java/lang/Exception"]).filter goodWord)
def wsX3_sweep_r1 : List Cond := [Cond.methodLink RX3 106 Lib.Math.min.name, Cond.static Lib.Math.min.name, Cond.initialized "java/lang/Math", Cond.code Lib.Math.min.name Lib.Math.min.code 2 (some .int), Cond.methodLink RX3 102 yX3_needChamber, Cond.instanceMethod yX3_needChamber, Cond.selects RX3 yX3_needChamber yX3_needChamber, Cond.initialized RX3, Cond.code yX3_needChamber cX3_needChamber 2 (some (.object "FeatherBeds$Heap")), Cond.classLink RX3 210 "java/lang/IndexOutOfBoundsException", Cond.initialized "java/lang/IndexOutOfBoundsException", Cond.fieldLink RX3 21 "FeatherBeds" "chambers" "[LFeatherBeds$Heap;", Cond.methodLink RX3 62 yX3_needSack, Cond.instanceMethod yX3_needSack, Cond.selects RX3 yX3_needSack yX3_needSack, Cond.code yX3_needSack cX3_needSack 2 (some (.object "FeatherBeds$Sack")), Cond.fieldLink RX3 12 "FeatherBeds" "sacks" "Ljava/util/ArrayList;", Cond.classLink RX3 53 "FeatherBeds$Sack", Cond.methodLink RX3 42 yJx4a65c_size_8abf5, Cond.instanceMethod yJx4a65c_size_8abf5, Cond.selects RJx4a65c yJx4a65c_size_8abf5 yJx4a65c_size_8abf5, Cond.initialized RJx4a65c, Cond.code yJx4a65c_size_8abf5 cJx4a65c_size_8abf5 1 (some .int), Cond.fieldLink RJx4a65c 48 "java/util/ArrayList" "size" "I"]
def wsX3_sweep_r2 : List Cond := [Cond.methodLink RX3 154 yJx4a65c_get_915e3, Cond.instanceMethod yJx4a65c_get_915e3, Cond.selects RJx4a65c yJx4a65c_get_915e3 yJx4a65c_get_915e3, Cond.code yJx4a65c_get_915e3 cJx4a65c_get_915e3 2 (some (.object "java/lang/Object")), Cond.methodLink RJx4a65c 118 yJ15_checkIndex_7cf53, Cond.static yJ15_checkIndex_7cf53, Cond.initialized RJ15, Cond.code yJ15_checkIndex_7cf53 cJ15_checkIndex_7cf53 2 (some .int), Cond.methodLink RJ15 105 yJ3_checkIndex_8e157, Cond.static yJ3_checkIndex_8e157, Cond.initialized RJ3, Cond.code yJ3_checkIndex_8e157 cJ3_checkIndex_8e157 3 (some .int), Cond.methodLink RJx4a65c 123 yJx4a65c_elementData_915e3, Cond.instanceMethod yJx4a65c_elementData_915e3, Cond.selects RJx4a65c yJx4a65c_elementData_915e3 yJx4a65c_elementData_915e3, Cond.code yJx4a65c_elementData_915e3 cJx4a65c_elementData_915e3 2 (some (.object "java/lang/Object")), Cond.fieldLink RJx4a65c 9 "java/util/ArrayList" "elementData" "[Ljava/lang/Object;", Cond.methodLink RX3 74 yX0_of, Cond.instanceMethod yX0_of, Cond.selects RX0 yX0_of yX0_of, Cond.initialized RX0, Cond.code yX0_of cX0_of 2 (some .int), Cond.fieldLink RX0 9 "FeatherBeds$Heap" "ofSize" "[I", Cond.methodLink RX3 80 yX0_change]
def wsX3_sweep_r3 : List Cond := [Cond.instanceMethod yX0_change, Cond.selects RX0 yX0_change yX0_change, Cond.code yX0_change cX0_change 3 none, Cond.fieldLink RX0 15 "FeatherBeds$Heap" "all" "I"]
def wsX3_sweep : List Cond := .code yX3_sweep cX3_sweep 8 (some .int) :: ((wsX3_sweep_r1 ++ (wsX3_sweep_r2 ++ wsX3_sweep_r3)) ++ wsX10 ++ wsX30 ++ wsJx4a65c0 ++ wsX00 ++ (vx_atS RX3 214 "java/lang/IndexOutOfBoundsException" ["java/lang/RuntimeException", "java/lang/Exception"]).filter goodWord)
def wsX3_addTick_r1 : List Cond := [Cond.classLink RX3 46 "java/lang/IllegalStateException", Cond.initialized "java/lang/IllegalStateException", Cond.fieldLink RX3 16 "FeatherBeds" "ticks" "Ljava/util/ArrayList;", Cond.classLink RX3 26 RX2, Cond.instantiable RX2 7, Cond.initialized RX2, Cond.methodLink RX3 39 yX3_needRange, Cond.static yX3_needRange, Cond.initialized RX3, Cond.code yX3_needRange cX3_needRange 3 none, Cond.classLink RX3 128 "java/lang/IllegalArgumentException", Cond.initialized "java/lang/IllegalArgumentException", Cond.methodLink RX3 42 yJx4a65c_size_8abf5, Cond.instanceMethod yJx4a65c_size_8abf5, Cond.selects RJx4a65c yJx4a65c_size_8abf5 yJx4a65c_size_8abf5, Cond.initialized RJx4a65c, Cond.code yJx4a65c_size_8abf5 cJx4a65c_size_8abf5 1 (some .int), Cond.fieldLink RJx4a65c 48 "java/util/ArrayList" "size" "I", Cond.methodLink RX3 28 yX2_init, Cond.instanceMethod yX2_init, Cond.code yX2_init cX2_init 5 none, Cond.methodLink RX2 3 objectInit, Cond.instanceMethod objectInit, Cond.code objectInit ⟨#[0xb1]⟩ 1 none]
def wsX3_addTick_r2 : List Cond := [Cond.fieldLink RX2 9 "FeatherBeds$Tick" "columns" "I", Cond.fieldLink RX2 15 "FeatherBeds$Tick" "rows" "I", Cond.fieldLink RX2 18 "FeatherBeds$Tick" "density" "I", Cond.fieldLink RX2 21 "FeatherBeds$Tick" "squares" "I", Cond.classLink RX2 24 RX0, Cond.fieldLink RX2 26 "FeatherBeds$Tick" "heaps" "[LFeatherBeds$Heap;", Cond.instantiable RX0 2, Cond.initialized RX0, Cond.arrayClass .boolean, Cond.fieldLink RX2 31 "FeatherBeds$Tick" "sewn" "[Z", Cond.arrayClass .int, Cond.fieldLink RX2 35 "FeatherBeds$Tick" "partOf" "[I", Cond.methodLink RX2 30 yX0_init, Cond.instanceMethod yX0_init, Cond.code yX0_init cX0_init 1 none, Cond.methodLink RX0 3 objectInit, Cond.fieldLink RX0 9 "FeatherBeds$Heap" "ofSize" "[I", Cond.methodLink RX3 58 yJx4a65c_add_9ea2d, Cond.instanceMethod yJx4a65c_add_9ea2d, Cond.selects RJx4a65c yJx4a65c_add_9ea2d yJx4a65c_add_9ea2d, Cond.code yJx4a65c_add_9ea2d cJx4a65c_add_9ea2d 2 (some .boolean), Cond.fieldLink RJx4a65c 63 "java/util/ArrayList" "modCount" "I", Cond.sameField "java/util/ArrayList" "java/util/AbstractList" "modCount" "I", Cond.fieldLink RJx4a65c 9 "java/util/ArrayList" "elementData" "[Ljava/lang/Object;"]
def wsX3_addTick_r3 : List Cond := [Cond.methodLink RJx4a65c 131 yJx4a65c_add_72be8, Cond.instanceMethod yJx4a65c_add_72be8, Cond.selects RJx4a65c yJx4a65c_add_72be8 yJx4a65c_add_72be8, Cond.code yJx4a65c_add_72be8 cJx4a65c_add_72be8 4 none, Cond.methodLink RJx4a65c 129 yJx4a65c_grow_d5877, Cond.instanceMethod yJx4a65c_grow_d5877, Cond.selects RJx4a65c yJx4a65c_grow_d5877 yJx4a65c_grow_d5877, Cond.code yJx4a65c_grow_d5877 cJx4a65c_grow_d5877 1 (some (.array (.object "java/lang/Object"))), Cond.methodLink RJx4a65c 69 yJx4a65c_grow_92f84, Cond.instanceMethod yJx4a65c_grow_92f84, Cond.selects RJx4a65c yJx4a65c_grow_92f84 yJx4a65c_grow_92f84, Cond.code yJx4a65c_grow_92f84 cJx4a65c_grow_92f84 4 (some (.array (.object "java/lang/Object"))), Cond.fieldLink RJx4a65c 39 "java/util/ArrayList" "DEFAULTCAPACITY_EMPTY_ELEMENTDATA" "[Ljava/lang/Object;", Cond.methodLink RJx4a65c 79 Lib.Math.max.name, Cond.static Lib.Math.max.name, Cond.initialized "java/lang/Math", Cond.code Lib.Math.max.name Lib.Math.max.code 2 (some .int), Cond.classLink RJx4a65c 7 "java/lang/Object", Cond.methodLink RJx4a65c 73 yJ8_newLength_cabcc, Cond.static yJ8_newLength_cabcc, Cond.initialized RJ8, Cond.code yJ8_newLength_cabcc cJ8_newLength_cabcc 4 (some .int), Cond.methodLink RJ8 194 Lib.Math.max.name, Cond.constant RJ8 200 (2147483639)]
def wsX3_addTick_r4 : List Cond := [Cond.methodLink RJ8 201 yJ8_hugeLength_7cf53, Cond.static yJ8_hugeLength_7cf53, Cond.code yJ8_hugeLength_7cf53 cJ8_hugeLength_7cf53 3 (some .int), Cond.methodLink RJx4a65c 66 yJ7_copyOf_1904c, Cond.static yJ7_copyOf_1904c, Cond.initialized RJ7, Cond.code yJ7_copyOf_1904c cJ7_copyOf_1904c 2 (some (.array (.object "java/lang/Object"))), Cond.methodLink RJ7 86 ⟨"java/lang/Object", "getClass", "()Ljava/lang/Class;"⟩, Cond.selects "[Ljava/lang/Object;" ⟨"java/lang/Object", "getClass", "()Ljava/lang/Class;"⟩ ⟨"java/lang/Object", "getClass", "()Ljava/lang/Class;"⟩, Cond.instanceMethod ⟨"java/lang/Object", "getClass", "()Ljava/lang/Class;"⟩, Cond.native ⟨"java/lang/Object", "getClass", "()Ljava/lang/Class;"⟩, Cond.methodLink RJ7 300 yJ7_copyOf_6403c, Cond.static yJ7_copyOf_6403c, Cond.code yJ7_copyOf_6403c cJ7_copyOf_6403c 4 (some (.array (.object "java/lang/Object"))), Cond.classLink RJ7 110 "[Ljava/lang/Object;", Cond.classLink RJ7 2 "java/lang/Object", Cond.methodLink RJ7 304 Lib.Math.min.name, Cond.static Lib.Math.min.name, Cond.code Lib.Math.min.name Lib.Math.min.code 2 (some .int), Cond.methodLink RJ7 150 arraycopyName, Cond.native arraycopyName, Cond.static arraycopyName, Cond.initialized "java/lang/System"]
def wsX3_addTick : List Cond := .code yX3_addTick cX3_addTick 4 (some .int) :: ((wsX3_addTick_r1 ++ (wsX3_addTick_r2 ++ (wsX3_addTick_r3 ++ wsX3_addTick_r4))) ++ wsX30 ++ wsX20 ++ wsJx4a65c0 ++ wsX00 ++ (vx_atS RX3 50 "java/lang/IllegalStateException" ["java/lang/RuntimeException", "java/lang/Exception"]).filter goodWord ++ (vx_atS RX3 132 "java/lang/IllegalArgumentException" ["java/lang/RuntimeException", "java/lang/Exception"]).filter goodWord)
def wsX3_needTick_r1 : List Cond := [Cond.classLink RX3 210 "java/lang/IndexOutOfBoundsException", Cond.initialized "java/lang/IndexOutOfBoundsException", Cond.fieldLink RX3 16 "FeatherBeds" "ticks" "Ljava/util/ArrayList;", Cond.classLink RX3 26 "FeatherBeds$Tick", Cond.methodLink RX3 42 yJx4a65c_size_8abf5, Cond.instanceMethod yJx4a65c_size_8abf5, Cond.selects RJx4a65c yJx4a65c_size_8abf5 yJx4a65c_size_8abf5, Cond.initialized RJx4a65c, Cond.code yJx4a65c_size_8abf5 cJx4a65c_size_8abf5 1 (some .int), Cond.fieldLink RJx4a65c 48 "java/util/ArrayList" "size" "I", Cond.methodLink RX3 154 yJx4a65c_get_915e3, Cond.instanceMethod yJx4a65c_get_915e3, Cond.selects RJx4a65c yJx4a65c_get_915e3 yJx4a65c_get_915e3, Cond.code yJx4a65c_get_915e3 cJx4a65c_get_915e3 2 (some (.object "java/lang/Object")), Cond.methodLink RJx4a65c 118 yJ15_checkIndex_7cf53, Cond.static yJ15_checkIndex_7cf53, Cond.initialized RJ15, Cond.code yJ15_checkIndex_7cf53 cJ15_checkIndex_7cf53 2 (some .int), Cond.methodLink RJ15 105 yJ3_checkIndex_8e157, Cond.static yJ3_checkIndex_8e157, Cond.initialized RJ3, Cond.code yJ3_checkIndex_8e157 cJ3_checkIndex_8e157 3 (some .int), Cond.methodLink RJx4a65c 123 yJx4a65c_elementData_915e3, Cond.instanceMethod yJx4a65c_elementData_915e3]
def wsX3_needTick_r2 : List Cond := [Cond.selects RJx4a65c yJx4a65c_elementData_915e3 yJx4a65c_elementData_915e3, Cond.code yJx4a65c_elementData_915e3 cJx4a65c_elementData_915e3 2 (some (.object "java/lang/Object")), Cond.fieldLink RJx4a65c 9 "java/util/ArrayList" "elementData" "[Ljava/lang/Object;"]
def wsX3_needTick : List Cond := .code yX3_needTick cX3_needTick 2 (some (.object "FeatherBeds$Tick")) :: ((wsX3_needTick_r1 ++ wsX3_needTick_r2) ++ wsX30 ++ wsJx4a65c0 ++ (vx_atS RX3 214 "java/lang/IndexOutOfBoundsException" ["java/lang/RuntimeException", "java/lang/Exception"]).filter goodWord)
def wsX3_sew_r1 : List Cond := [Cond.classLink RX3 128 "java/lang/IllegalArgumentException", Cond.initialized "java/lang/IllegalArgumentException", Cond.methodLink RX3 118 yX3_needTick, Cond.instanceMethod yX3_needTick, Cond.selects RX3 yX3_needTick yX3_needTick, Cond.initialized RX3, Cond.code yX3_needTick cX3_needTick 2 (some (.object "FeatherBeds$Tick")), Cond.classLink RX3 210 "java/lang/IndexOutOfBoundsException", Cond.initialized "java/lang/IndexOutOfBoundsException", Cond.fieldLink RX3 16 "FeatherBeds" "ticks" "Ljava/util/ArrayList;", Cond.classLink RX3 26 "FeatherBeds$Tick", Cond.methodLink RX3 42 yJx4a65c_size_8abf5, Cond.instanceMethod yJx4a65c_size_8abf5, Cond.selects RJx4a65c yJx4a65c_size_8abf5 yJx4a65c_size_8abf5, Cond.initialized RJx4a65c, Cond.code yJx4a65c_size_8abf5 cJx4a65c_size_8abf5 1 (some .int), Cond.fieldLink RJx4a65c 48 "java/util/ArrayList" "size" "I", Cond.methodLink RX3 154 yJx4a65c_get_915e3, Cond.instanceMethod yJx4a65c_get_915e3, Cond.selects RJx4a65c yJx4a65c_get_915e3 yJx4a65c_get_915e3, Cond.code yJx4a65c_get_915e3 cJx4a65c_get_915e3 2 (some (.object "java/lang/Object")), Cond.methodLink RJx4a65c 118 yJ15_checkIndex_7cf53, Cond.static yJ15_checkIndex_7cf53, Cond.initialized RJ15]
def wsX3_sew_r2 : List Cond := [Cond.code yJ15_checkIndex_7cf53 cJ15_checkIndex_7cf53 2 (some .int), Cond.methodLink RJ15 105 yJ3_checkIndex_8e157, Cond.static yJ3_checkIndex_8e157, Cond.initialized RJ3, Cond.code yJ3_checkIndex_8e157 cJ3_checkIndex_8e157 3 (some .int), Cond.methodLink RJx4a65c 123 yJx4a65c_elementData_915e3, Cond.instanceMethod yJx4a65c_elementData_915e3, Cond.selects RJx4a65c yJx4a65c_elementData_915e3 yJx4a65c_elementData_915e3, Cond.code yJx4a65c_elementData_915e3 cJx4a65c_elementData_915e3 2 (some (.object "java/lang/Object")), Cond.fieldLink RJx4a65c 9 "java/util/ArrayList" "elementData" "[Ljava/lang/Object;", Cond.methodLink RX3 70 yX3_needIndex, Cond.static yX3_needIndex, Cond.code yX3_needIndex cX3_needIndex 2 none, Cond.methodLink RX3 125 yX2_otherOfPair, Cond.instanceMethod yX2_otherOfPair, Cond.selects RX2 yX2_otherOfPair yX2_otherOfPair, Cond.initialized RX2, Cond.code yX2_otherOfPair cX2_otherOfPair 3 (some .int), Cond.fieldLink RX2 21 "FeatherBeds$Tick" "squares" "I", Cond.fieldLink RX2 9 "FeatherBeds$Tick" "columns" "I", Cond.methodLink RX3 133 yX2_setSeam, Cond.instanceMethod yX2_setSeam, Cond.selects RX2 yX2_setSeam yX2_setSeam, Cond.code yX2_setSeam cX2_setSeam 5 none]
def wsX3_sew_r3 : List Cond := [Cond.fieldLink RX2 31 "FeatherBeds$Tick" "sewn" "[Z", Cond.methodLink RX3 137 yX2_openPairs, Cond.instanceMethod yX2_openPairs, Cond.selects RX2 yX2_openPairs yX2_openPairs, Cond.code yX2_openPairs cX2_openPairs 4 (some .int), Cond.methodLink RX2 47 yX2_isOpen, Cond.instanceMethod yX2_isOpen, Cond.selects RX2 yX2_isOpen yX2_isOpen, Cond.code yX2_isOpen cX2_isOpen 4 (some .boolean), Cond.methodLink RX2 43 yX2_otherOfPair]
def wsX3_sew : List Cond := .code yX3_sew cX3_sew 6 (some .int) :: ((wsX3_sew_r1 ++ (wsX3_sew_r2 ++ wsX3_sew_r3)) ++ wsX20 ++ wsX30 ++ wsJx4a65c0 ++ (vx_atS RX3 132 "java/lang/IllegalArgumentException" ["java/lang/RuntimeException", "java/lang/Exception"]).filter goodWord ++ (vx_atS RX3 214 "java/lang/IndexOutOfBoundsException" ["java/lang/RuntimeException", "java/lang/Exception"]).filter goodWord)
def wsX3_needSquare : List Cond := .code yX3_needSquare cX3_needSquare 2 (some (.object "FeatherBeds$Heap")) :: ([.classLink RX3 210 "java/lang/IndexOutOfBoundsException", .initialized "java/lang/IndexOutOfBoundsException"] ++ wsX20 ++ (vx_atS RX3 214 "java/lang/IndexOutOfBoundsException" ["java/lang/RuntimeException", "java/lang/Exception"]).filter goodWord)
def wsX3_moveByHand : List Cond := .code yX3_moveByHand cX3_moveByHand 3 (some .int) :: ([.methodLink RX3 106 Lib.Math.min.name, .static Lib.Math.min.name, .initialized "java/lang/Math", .code Lib.Math.min.name Lib.Math.min.code 2 (some .int), .methodLink RX3 229 yX0_moveTo, .instanceMethod yX0_moveTo, .selects RX0 yX0_moveTo yX0_moveTo, .initialized RX0, .code yX0_moveTo cX0_moveTo 7 (some .int), .methodLink RX0 27 Lib.Math.min.name, .methodLink RX0 19 yX0_of, .instanceMethod yX0_of, .selects RX0 yX0_of yX0_of, .code yX0_of cX0_of 2 (some .int), .fieldLink RX0 9 "FeatherBeds$Heap" "ofSize" "[I", .methodLink RX0 23 yX0_change, .instanceMethod yX0_change, .selects RX0 yX0_change yX0_change, .code yX0_change cX0_change 3 none, .fieldLink RX0 15 "FeatherBeds$Heap" "all" "I"] ++ wsX00)
def wsX3_fill_r1 : List Cond := [Cond.methodLink RX3 118 yX3_needTick, Cond.instanceMethod yX3_needTick, Cond.selects RX3 yX3_needTick yX3_needTick, Cond.initialized RX3, Cond.code yX3_needTick cX3_needTick 2 (some (.object "FeatherBeds$Tick")), Cond.classLink RX3 210 "java/lang/IndexOutOfBoundsException", Cond.initialized "java/lang/IndexOutOfBoundsException", Cond.fieldLink RX3 16 "FeatherBeds" "ticks" "Ljava/util/ArrayList;", Cond.classLink RX3 26 "FeatherBeds$Tick", Cond.methodLink RX3 42 yJx4a65c_size_8abf5, Cond.instanceMethod yJx4a65c_size_8abf5, Cond.selects RJx4a65c yJx4a65c_size_8abf5 yJx4a65c_size_8abf5, Cond.initialized RJx4a65c, Cond.code yJx4a65c_size_8abf5 cJx4a65c_size_8abf5 1 (some .int), Cond.fieldLink RJx4a65c 48 "java/util/ArrayList" "size" "I", Cond.methodLink RX3 154 yJx4a65c_get_915e3, Cond.instanceMethod yJx4a65c_get_915e3, Cond.selects RJx4a65c yJx4a65c_get_915e3 yJx4a65c_get_915e3, Cond.code yJx4a65c_get_915e3 cJx4a65c_get_915e3 2 (some (.object "java/lang/Object")), Cond.methodLink RJx4a65c 118 yJ15_checkIndex_7cf53, Cond.static yJ15_checkIndex_7cf53, Cond.initialized RJ15, Cond.code yJ15_checkIndex_7cf53 cJ15_checkIndex_7cf53 2 (some .int), Cond.methodLink RJ15 105 yJ3_checkIndex_8e157]
def wsX3_fill_r2 : List Cond := [Cond.static yJ3_checkIndex_8e157, Cond.initialized RJ3, Cond.code yJ3_checkIndex_8e157 cJ3_checkIndex_8e157 3 (some .int), Cond.methodLink RJx4a65c 123 yJx4a65c_elementData_915e3, Cond.instanceMethod yJx4a65c_elementData_915e3, Cond.selects RJx4a65c yJx4a65c_elementData_915e3 yJx4a65c_elementData_915e3, Cond.code yJx4a65c_elementData_915e3 cJx4a65c_elementData_915e3 2 (some (.object "java/lang/Object")), Cond.fieldLink RJx4a65c 9 "java/util/ArrayList" "elementData" "[Ljava/lang/Object;", Cond.methodLink RX3 140 yX3_needSquare, Cond.static yX3_needSquare, Cond.code yX3_needSquare cX3_needSquare 2 (some (.object "FeatherBeds$Heap")), Cond.methodLink RX3 102 yX3_needChamber, Cond.instanceMethod yX3_needChamber, Cond.selects RX3 yX3_needChamber yX3_needChamber, Cond.code yX3_needChamber cX3_needChamber 2 (some (.object "FeatherBeds$Heap")), Cond.fieldLink RX3 21 "FeatherBeds" "chambers" "[LFeatherBeds$Heap;", Cond.methodLink RX3 39 yX3_needRange, Cond.static yX3_needRange, Cond.code yX3_needRange cX3_needRange 3 none, Cond.classLink RX3 128 "java/lang/IllegalArgumentException", Cond.initialized "java/lang/IllegalArgumentException", Cond.methodLink RX3 144 yX3_moveByHand, Cond.static yX3_moveByHand, Cond.code yX3_moveByHand cX3_moveByHand 3 (some .int)]
def wsX3_fill_r3 : List Cond := [Cond.methodLink RX3 106 Lib.Math.min.name, Cond.static Lib.Math.min.name, Cond.initialized "java/lang/Math", Cond.code Lib.Math.min.name Lib.Math.min.code 2 (some .int), Cond.methodLink RX3 229 yX0_moveTo, Cond.instanceMethod yX0_moveTo, Cond.selects RX0 yX0_moveTo yX0_moveTo, Cond.initialized RX0, Cond.code yX0_moveTo cX0_moveTo 7 (some .int), Cond.methodLink RX0 27 Lib.Math.min.name, Cond.methodLink RX0 19 yX0_of, Cond.instanceMethod yX0_of, Cond.selects RX0 yX0_of yX0_of, Cond.code yX0_of cX0_of 2 (some .int), Cond.fieldLink RX0 9 "FeatherBeds$Heap" "ofSize" "[I", Cond.methodLink RX0 23 yX0_change, Cond.instanceMethod yX0_change, Cond.selects RX0 yX0_change yX0_change, Cond.code yX0_change cX0_change 3 none, Cond.fieldLink RX0 15 "FeatherBeds$Heap" "all" "I"]
def wsX3_fill : List Cond := .code yX3_fill cX3_fill 7 (some .int) :: ((wsX3_fill_r1 ++ (wsX3_fill_r2 ++ wsX3_fill_r3)) ++ wsX30 ++ wsJx4a65c0 ++ wsX20 ++ wsX00 ++ (vx_atS RX3 214 "java/lang/IndexOutOfBoundsException" ["java/lang/RuntimeException", "java/lang/Exception"]).filter goodWord ++ (vx_atS RX3 132 "java/lang/IllegalArgumentException" ["java/lang/RuntimeException", "java/lang/Exception"]).filter goodWord)
def wsX3_shift_r1 : List Cond := [Cond.classLink RX3 128 "java/lang/IllegalArgumentException", Cond.initialized "java/lang/IllegalArgumentException", Cond.methodLink RX3 118 yX3_needTick, Cond.instanceMethod yX3_needTick, Cond.selects RX3 yX3_needTick yX3_needTick, Cond.initialized RX3, Cond.code yX3_needTick cX3_needTick 2 (some (.object "FeatherBeds$Tick")), Cond.classLink RX3 210 "java/lang/IndexOutOfBoundsException", Cond.initialized "java/lang/IndexOutOfBoundsException", Cond.fieldLink RX3 16 "FeatherBeds" "ticks" "Ljava/util/ArrayList;", Cond.classLink RX3 26 "FeatherBeds$Tick", Cond.methodLink RX3 42 yJx4a65c_size_8abf5, Cond.instanceMethod yJx4a65c_size_8abf5, Cond.selects RJx4a65c yJx4a65c_size_8abf5 yJx4a65c_size_8abf5, Cond.initialized RJx4a65c, Cond.code yJx4a65c_size_8abf5 cJx4a65c_size_8abf5 1 (some .int), Cond.fieldLink RJx4a65c 48 "java/util/ArrayList" "size" "I", Cond.methodLink RX3 154 yJx4a65c_get_915e3, Cond.instanceMethod yJx4a65c_get_915e3, Cond.selects RJx4a65c yJx4a65c_get_915e3 yJx4a65c_get_915e3, Cond.code yJx4a65c_get_915e3 cJx4a65c_get_915e3 2 (some (.object "java/lang/Object")), Cond.methodLink RJx4a65c 118 yJ15_checkIndex_7cf53, Cond.static yJ15_checkIndex_7cf53, Cond.initialized RJ15]
def wsX3_shift_r2 : List Cond := [Cond.code yJ15_checkIndex_7cf53 cJ15_checkIndex_7cf53 2 (some .int), Cond.methodLink RJ15 105 yJ3_checkIndex_8e157, Cond.static yJ3_checkIndex_8e157, Cond.initialized RJ3, Cond.code yJ3_checkIndex_8e157 cJ3_checkIndex_8e157 3 (some .int), Cond.methodLink RJx4a65c 123 yJx4a65c_elementData_915e3, Cond.instanceMethod yJx4a65c_elementData_915e3, Cond.selects RJx4a65c yJx4a65c_elementData_915e3 yJx4a65c_elementData_915e3, Cond.code yJx4a65c_elementData_915e3 cJx4a65c_elementData_915e3 2 (some (.object "java/lang/Object")), Cond.fieldLink RJx4a65c 9 "java/util/ArrayList" "elementData" "[Ljava/lang/Object;", Cond.methodLink RX3 140 yX3_needSquare, Cond.static yX3_needSquare, Cond.code yX3_needSquare cX3_needSquare 2 (some (.object "FeatherBeds$Heap")), Cond.methodLink RX3 39 yX3_needRange, Cond.static yX3_needRange, Cond.code yX3_needRange cX3_needRange 3 none, Cond.methodLink RX3 144 yX3_moveByHand, Cond.static yX3_moveByHand, Cond.code yX3_moveByHand cX3_moveByHand 3 (some .int), Cond.methodLink RX3 106 Lib.Math.min.name, Cond.static Lib.Math.min.name, Cond.initialized "java/lang/Math", Cond.code Lib.Math.min.name Lib.Math.min.code 2 (some .int), Cond.methodLink RX3 229 yX0_moveTo]
def wsX3_shift_r3 : List Cond := [Cond.instanceMethod yX0_moveTo, Cond.selects RX0 yX0_moveTo yX0_moveTo, Cond.initialized RX0, Cond.code yX0_moveTo cX0_moveTo 7 (some .int), Cond.methodLink RX0 27 Lib.Math.min.name, Cond.methodLink RX0 19 yX0_of, Cond.instanceMethod yX0_of, Cond.selects RX0 yX0_of yX0_of, Cond.code yX0_of cX0_of 2 (some .int), Cond.fieldLink RX0 9 "FeatherBeds$Heap" "ofSize" "[I", Cond.methodLink RX0 23 yX0_change, Cond.instanceMethod yX0_change, Cond.selects RX0 yX0_change yX0_change, Cond.code yX0_change cX0_change 3 none, Cond.fieldLink RX0 15 "FeatherBeds$Heap" "all" "I"]
def wsX3_shift : List Cond := .code yX3_shift cX3_shift 8 (some .int) :: ((wsX3_shift_r1 ++ (wsX3_shift_r2 ++ wsX3_shift_r3)) ++ wsX30 ++ wsJx4a65c0 ++ wsX20 ++ wsX00 ++ (vx_atS RX3 132 "java/lang/IllegalArgumentException" ["java/lang/RuntimeException", "java/lang/Exception"]).filter goodWord ++ (vx_atS RX3 214 "java/lang/IndexOutOfBoundsException" ["java/lang/RuntimeException", "java/lang/Exception"]).filter goodWord)
def wsX3_square_r1 : List Cond := [Cond.methodLink RX3 118 yX3_needTick, Cond.instanceMethod yX3_needTick, Cond.selects RX3 yX3_needTick yX3_needTick, Cond.initialized RX3, Cond.code yX3_needTick cX3_needTick 2 (some (.object "FeatherBeds$Tick")), Cond.classLink RX3 210 "java/lang/IndexOutOfBoundsException", Cond.initialized "java/lang/IndexOutOfBoundsException", Cond.fieldLink RX3 16 "FeatherBeds" "ticks" "Ljava/util/ArrayList;", Cond.classLink RX3 26 "FeatherBeds$Tick", Cond.methodLink RX3 42 yJx4a65c_size_8abf5, Cond.instanceMethod yJx4a65c_size_8abf5, Cond.selects RJx4a65c yJx4a65c_size_8abf5 yJx4a65c_size_8abf5, Cond.initialized RJx4a65c, Cond.code yJx4a65c_size_8abf5 cJx4a65c_size_8abf5 1 (some .int), Cond.fieldLink RJx4a65c 48 "java/util/ArrayList" "size" "I", Cond.methodLink RX3 154 yJx4a65c_get_915e3, Cond.instanceMethod yJx4a65c_get_915e3, Cond.selects RJx4a65c yJx4a65c_get_915e3 yJx4a65c_get_915e3, Cond.code yJx4a65c_get_915e3 cJx4a65c_get_915e3 2 (some (.object "java/lang/Object")), Cond.methodLink RJx4a65c 118 yJ15_checkIndex_7cf53, Cond.static yJ15_checkIndex_7cf53, Cond.initialized RJ15, Cond.code yJ15_checkIndex_7cf53 cJ15_checkIndex_7cf53 2 (some .int), Cond.methodLink RJ15 105 yJ3_checkIndex_8e157]
def wsX3_square_r2 : List Cond := [Cond.static yJ3_checkIndex_8e157, Cond.initialized RJ3, Cond.code yJ3_checkIndex_8e157 cJ3_checkIndex_8e157 3 (some .int), Cond.methodLink RJx4a65c 123 yJx4a65c_elementData_915e3, Cond.instanceMethod yJx4a65c_elementData_915e3, Cond.selects RJx4a65c yJx4a65c_elementData_915e3 yJx4a65c_elementData_915e3, Cond.code yJx4a65c_elementData_915e3 cJx4a65c_elementData_915e3 2 (some (.object "java/lang/Object")), Cond.fieldLink RJx4a65c 9 "java/util/ArrayList" "elementData" "[Ljava/lang/Object;", Cond.methodLink RX3 70 yX3_needIndex, Cond.static yX3_needIndex, Cond.code yX3_needIndex cX3_needIndex 2 none, Cond.methodLink RX3 150 yX2_squareTells, Cond.instanceMethod yX2_squareTells, Cond.selects RX2 yX2_squareTells yX2_squareTells, Cond.initialized RX2, Cond.code yX2_squareTells cX2_squareTells 3 (some .int), Cond.fieldLink RX2 26 "FeatherBeds$Tick" "heaps" "[LFeatherBeds$Heap;", Cond.methodLink RX2 83 yX0_of, Cond.instanceMethod yX0_of, Cond.selects RX0 yX0_of yX0_of, Cond.initialized RX0, Cond.code yX0_of cX0_of 2 (some .int), Cond.fieldLink RX0 9 "FeatherBeds$Heap" "ofSize" "[I", Cond.methodLink RX2 57 yX0_warmth]
def wsX3_square_r3 : List Cond := [Cond.instanceMethod yX0_warmth, Cond.selects RX0 yX0_warmth yX0_warmth, Cond.code yX0_warmth cX0_warmth 3 (some .int), Cond.methodLink RX0 27 Lib.Math.min.name, Cond.static Lib.Math.min.name, Cond.initialized "java/lang/Math", Cond.code Lib.Math.min.name Lib.Math.min.code 2 (some .int), Cond.methodLink RX2 47 yX2_isOpen, Cond.instanceMethod yX2_isOpen, Cond.selects RX2 yX2_isOpen yX2_isOpen, Cond.code yX2_isOpen cX2_isOpen 4 (some .boolean), Cond.fieldLink RX2 31 "FeatherBeds$Tick" "sewn" "[Z", Cond.methodLink RX2 43 yX2_otherOfPair, Cond.instanceMethod yX2_otherOfPair, Cond.selects RX2 yX2_otherOfPair yX2_otherOfPair, Cond.code yX2_otherOfPair cX2_otherOfPair 3 (some .int), Cond.fieldLink RX2 21 "FeatherBeds$Tick" "squares" "I", Cond.fieldLink RX2 9 "FeatherBeds$Tick" "columns" "I"]
def wsX3_square : List Cond := .code yX3_square cX3_square 5 (some .int) :: ((wsX3_square_r1 ++ (wsX3_square_r2 ++ wsX3_square_r3)) ++ wsX20 ++ wsX30 ++ wsJx4a65c0 ++ wsX00 ++ (vx_atS RX3 214 "java/lang/IndexOutOfBoundsException" ["java/lang/RuntimeException", "java/lang/Exception"]).filter goodWord)
def wsX3_tick_r1 : List Cond := [Cond.methodLink RX3 118 yX3_needTick, Cond.instanceMethod yX3_needTick, Cond.selects RX3 yX3_needTick yX3_needTick, Cond.initialized RX3, Cond.code yX3_needTick cX3_needTick 2 (some (.object "FeatherBeds$Tick")), Cond.classLink RX3 210 "java/lang/IndexOutOfBoundsException", Cond.initialized "java/lang/IndexOutOfBoundsException", Cond.fieldLink RX3 16 "FeatherBeds" "ticks" "Ljava/util/ArrayList;", Cond.classLink RX3 26 "FeatherBeds$Tick", Cond.methodLink RX3 42 yJx4a65c_size_8abf5, Cond.instanceMethod yJx4a65c_size_8abf5, Cond.selects RJx4a65c yJx4a65c_size_8abf5 yJx4a65c_size_8abf5, Cond.initialized RJx4a65c, Cond.code yJx4a65c_size_8abf5 cJx4a65c_size_8abf5 1 (some .int), Cond.fieldLink RJx4a65c 48 "java/util/ArrayList" "size" "I", Cond.methodLink RX3 154 yJx4a65c_get_915e3, Cond.instanceMethod yJx4a65c_get_915e3, Cond.selects RJx4a65c yJx4a65c_get_915e3 yJx4a65c_get_915e3, Cond.code yJx4a65c_get_915e3 cJx4a65c_get_915e3 2 (some (.object "java/lang/Object")), Cond.methodLink RJx4a65c 118 yJ15_checkIndex_7cf53, Cond.static yJ15_checkIndex_7cf53, Cond.initialized RJ15, Cond.code yJ15_checkIndex_7cf53 cJ15_checkIndex_7cf53 2 (some .int), Cond.methodLink RJ15 105 yJ3_checkIndex_8e157]
def wsX3_tick_r2 : List Cond := [Cond.static yJ3_checkIndex_8e157, Cond.initialized RJ3, Cond.code yJ3_checkIndex_8e157 cJ3_checkIndex_8e157 3 (some .int), Cond.methodLink RJx4a65c 123 yJx4a65c_elementData_915e3, Cond.instanceMethod yJx4a65c_elementData_915e3, Cond.selects RJx4a65c yJx4a65c_elementData_915e3 yJx4a65c_elementData_915e3, Cond.code yJx4a65c_elementData_915e3 cJx4a65c_elementData_915e3 2 (some (.object "java/lang/Object")), Cond.fieldLink RJx4a65c 9 "java/util/ArrayList" "elementData" "[Ljava/lang/Object;", Cond.methodLink RX3 70 yX3_needIndex, Cond.static yX3_needIndex, Cond.code yX3_needIndex cX3_needIndex 2 none, Cond.methodLink RX3 153 yX2_tells, Cond.instanceMethod yX2_tells, Cond.selects RX2 yX2_tells yX2_tells, Cond.initialized RX2, Cond.code yX2_tells cX2_tells 2 (some .int), Cond.fieldLink RX2 9 "FeatherBeds$Tick" "columns" "I", Cond.fieldLink RX2 15 "FeatherBeds$Tick" "rows" "I", Cond.fieldLink RX2 18 "FeatherBeds$Tick" "density" "I", Cond.methodLink RX2 68 yX2_feathers, Cond.instanceMethod yX2_feathers, Cond.selects RX2 yX2_feathers yX2_feathers, Cond.code yX2_feathers cX2_feathers 3 (some .int), Cond.fieldLink RX2 26 "FeatherBeds$Tick" "heaps" "[LFeatherBeds$Heap;"]
def wsX3_tick_r3 : List Cond := [Cond.methodLink RX2 71 yX2_warmthInAll, Cond.instanceMethod yX2_warmthInAll, Cond.selects RX2 yX2_warmthInAll yX2_warmthInAll, Cond.code yX2_warmthInAll cX2_warmthInAll 3 (some .int), Cond.methodLink RX2 57 yX0_warmth, Cond.instanceMethod yX0_warmth, Cond.selects RX0 yX0_warmth yX0_warmth, Cond.initialized RX0, Cond.code yX0_warmth cX0_warmth 3 (some .int), Cond.fieldLink RX0 9 "FeatherBeds$Heap" "ofSize" "[I", Cond.methodLink RX0 27 Lib.Math.min.name, Cond.static Lib.Math.min.name, Cond.initialized "java/lang/Math", Cond.code Lib.Math.min.name Lib.Math.min.code 2 (some .int), Cond.methodLink RX2 74 yX2_coldestWarmth, Cond.instanceMethod yX2_coldestWarmth, Cond.selects RX2 yX2_coldestWarmth yX2_coldestWarmth, Cond.code yX2_coldestWarmth cX2_coldestWarmth 1 (some .int), Cond.methodLink RX2 65 yX2_coldestSquare, Cond.instanceMethod yX2_coldestSquare, Cond.selects RX2 yX2_coldestSquare yX2_coldestSquare, Cond.code yX2_coldestSquare cX2_coldestSquare 3 (some .int), Cond.fieldLink RX2 21 "FeatherBeds$Tick" "squares" "I", Cond.methodLink RX2 61 yX2_warmthAt]
def wsX3_tick_r4 : List Cond := [Cond.instanceMethod yX2_warmthAt, Cond.selects RX2 yX2_warmthAt yX2_warmthAt, Cond.code yX2_warmthAt cX2_warmthAt 2 (some .int), Cond.methodLink RX2 77 yX2_openPairs, Cond.instanceMethod yX2_openPairs, Cond.selects RX2 yX2_openPairs yX2_openPairs, Cond.code yX2_openPairs cX2_openPairs 4 (some .int), Cond.methodLink RX2 47 yX2_isOpen, Cond.instanceMethod yX2_isOpen, Cond.selects RX2 yX2_isOpen yX2_isOpen, Cond.code yX2_isOpen cX2_isOpen 4 (some .boolean), Cond.fieldLink RX2 31 "FeatherBeds$Tick" "sewn" "[Z", Cond.methodLink RX2 43 yX2_otherOfPair, Cond.instanceMethod yX2_otherOfPair, Cond.selects RX2 yX2_otherOfPair yX2_otherOfPair, Cond.code yX2_otherOfPair cX2_otherOfPair 3 (some .int), Cond.methodLink RX2 80 yX2_parts, Cond.instanceMethod yX2_parts, Cond.selects RX2 yX2_parts yX2_parts, Cond.code yX2_parts cX2_parts 4 (some .int), Cond.fieldLink RX2 35 "FeatherBeds$Tick" "partOf" "[I", Cond.methodLink RX2 51 yX2_joinParts, Cond.instanceMethod yX2_joinParts, Cond.selects RX2 yX2_joinParts yX2_joinParts]
def wsX3_tick_r5 : List Cond := [Cond.code yX2_joinParts cX2_joinParts 6 (some .boolean)]
def wsX3_tick : List Cond := .code yX3_tick cX3_tick 4 (some .int) :: ((wsX3_tick_r1 ++ (wsX3_tick_r2 ++ (wsX3_tick_r3 ++ (wsX3_tick_r4 ++ wsX3_tick_r5)))) ++ wsX30 ++ wsJx4a65c0 ++ wsX20 ++ wsX00 ++ (vx_atS RX3 214 "java/lang/IndexOutOfBoundsException" ["java/lang/RuntimeException", "java/lang/Exception"]).filter goodWord)
def wsX3_pass_r1 : List Cond := [Cond.fieldLink RX3 16 "FeatherBeds" "ticks" "Ljava/util/ArrayList;", Cond.classLink RX3 26 "FeatherBeds$Tick", Cond.fieldLink RX3 161 "FeatherBeds" "nightsGone" "I", Cond.fieldLink RX3 164 "FeatherBeds" "lostByPricking" "I", Cond.methodLink RX3 39 yX3_needRange, Cond.static yX3_needRange, Cond.initialized RX3, Cond.code yX3_needRange cX3_needRange 3 none, Cond.classLink RX3 128 "java/lang/IllegalArgumentException", Cond.initialized "java/lang/IllegalArgumentException", Cond.methodLink RX3 42 yJx4a65c_size_8abf5, Cond.instanceMethod yJx4a65c_size_8abf5, Cond.selects RJx4a65c yJx4a65c_size_8abf5 yJx4a65c_size_8abf5, Cond.initialized RJx4a65c, Cond.code yJx4a65c_size_8abf5 cJx4a65c_size_8abf5 1 (some .int), Cond.fieldLink RJx4a65c 48 "java/util/ArrayList" "size" "I", Cond.methodLink RX3 154 yJx4a65c_get_915e3, Cond.instanceMethod yJx4a65c_get_915e3, Cond.selects RJx4a65c yJx4a65c_get_915e3 yJx4a65c_get_915e3, Cond.code yJx4a65c_get_915e3 cJx4a65c_get_915e3 2 (some (.object "java/lang/Object")), Cond.methodLink RJx4a65c 118 yJ15_checkIndex_7cf53, Cond.static yJ15_checkIndex_7cf53, Cond.initialized RJ15, Cond.code yJ15_checkIndex_7cf53 cJ15_checkIndex_7cf53 2 (some .int)]
def wsX3_pass_r2 : List Cond := [Cond.methodLink RJ15 105 yJ3_checkIndex_8e157, Cond.static yJ3_checkIndex_8e157, Cond.initialized RJ3, Cond.code yJ3_checkIndex_8e157 cJ3_checkIndex_8e157 3 (some .int), Cond.methodLink RJx4a65c 123 yJx4a65c_elementData_915e3, Cond.instanceMethod yJx4a65c_elementData_915e3, Cond.selects RJx4a65c yJx4a65c_elementData_915e3 yJx4a65c_elementData_915e3, Cond.code yJx4a65c_elementData_915e3 cJx4a65c_elementData_915e3 2 (some (.object "java/lang/Object")), Cond.fieldLink RJx4a65c 9 "java/util/ArrayList" "elementData" "[Ljava/lang/Object;", Cond.methodLink RX3 158 yX2_sleep, Cond.instanceMethod yX2_sleep, Cond.selects RX2 yX2_sleep yX2_sleep, Cond.initialized RX2, Cond.code yX2_sleep cX2_sleep 6 (some .int), Cond.methodLink RX2 86 yX2_prickInAll, Cond.instanceMethod yX2_prickInAll, Cond.selects RX2 yX2_prickInAll yX2_prickInAll, Cond.code yX2_prickInAll cX2_prickInAll 3 (some .int), Cond.fieldLink RX2 26 "FeatherBeds$Tick" "heaps" "[LFeatherBeds$Heap;", Cond.fieldLink RX2 18 "FeatherBeds$Tick" "density" "I", Cond.methodLink RX2 92 yX0_prick, Cond.instanceMethod yX0_prick, Cond.selects RX0 yX0_prick yX0_prick, Cond.initialized RX0]
def wsX3_pass_r3 : List Cond := [Cond.code yX0_prick cX0_prick 6 (some .int), Cond.methodLink RX0 19 yX0_of, Cond.instanceMethod yX0_of, Cond.selects RX0 yX0_of yX0_of, Cond.code yX0_of cX0_of 2 (some .int), Cond.fieldLink RX0 9 "FeatherBeds$Heap" "ofSize" "[I", Cond.methodLink RX0 23 yX0_change, Cond.instanceMethod yX0_change, Cond.selects RX0 yX0_change yX0_change, Cond.code yX0_change cX0_change 3 none, Cond.fieldLink RX0 15 "FeatherBeds$Heap" "all" "I", Cond.methodLink RX2 89 yX2_shiftInAll, Cond.instanceMethod yX2_shiftInAll, Cond.selects RX2 yX2_shiftInAll yX2_shiftInAll, Cond.code yX2_shiftInAll cX2_shiftInAll 4 (some .int), Cond.fieldLink RX2 21 "FeatherBeds$Tick" "squares" "I", Cond.methodLink RX2 47 yX2_isOpen, Cond.instanceMethod yX2_isOpen, Cond.selects RX2 yX2_isOpen yX2_isOpen, Cond.code yX2_isOpen cX2_isOpen 4 (some .boolean), Cond.fieldLink RX2 31 "FeatherBeds$Tick" "sewn" "[Z", Cond.methodLink RX2 43 yX2_otherOfPair, Cond.instanceMethod yX2_otherOfPair, Cond.selects RX2 yX2_otherOfPair yX2_otherOfPair]
def wsX3_pass_r4 : List Cond := [Cond.code yX2_otherOfPair cX2_otherOfPair 3 (some .int), Cond.fieldLink RX2 9 "FeatherBeds$Tick" "columns" "I", Cond.methodLink RX2 95 yX2_shiftBetween, Cond.instanceMethod yX2_shiftBetween, Cond.selects RX2 yX2_shiftBetween yX2_shiftBetween, Cond.code yX2_shiftBetween cX2_shiftBetween 4 (some .int), Cond.methodLink RX2 98 yX0_moveTo, Cond.instanceMethod yX0_moveTo, Cond.selects RX0 yX0_moveTo yX0_moveTo, Cond.code yX0_moveTo cX0_moveTo 7 (some .int), Cond.methodLink RX0 27 Lib.Math.min.name, Cond.static Lib.Math.min.name, Cond.initialized "java/lang/Math", Cond.code Lib.Math.min.name Lib.Math.min.code 2 (some .int)]
def wsX3_pass : List Cond := .code yX3_pass cX3_pass 4 (some .int) :: ((wsX3_pass_r1 ++ (wsX3_pass_r2 ++ (wsX3_pass_r3 ++ wsX3_pass_r4))) ++ wsX30 ++ wsJx4a65c0 ++ wsX20 ++ wsX00 ++ (vx_atS RX3 132 "java/lang/IllegalArgumentException" ["java/lang/RuntimeException", "java/lang/Exception"]).filter goodWord)
def wsX3_inSacks_r1 : List Cond := [Cond.fieldLink RX3 12 "FeatherBeds" "sacks" "Ljava/util/ArrayList;", Cond.classLink RX3 53 "FeatherBeds$Sack", Cond.methodLink RX3 42 yJx4a65c_size_8abf5, Cond.instanceMethod yJx4a65c_size_8abf5, Cond.selects RJx4a65c yJx4a65c_size_8abf5 yJx4a65c_size_8abf5, Cond.initialized RJx4a65c, Cond.code yJx4a65c_size_8abf5 cJx4a65c_size_8abf5 1 (some .int), Cond.fieldLink RJx4a65c 48 "java/util/ArrayList" "size" "I", Cond.methodLink RX3 154 yJx4a65c_get_915e3, Cond.instanceMethod yJx4a65c_get_915e3, Cond.selects RJx4a65c yJx4a65c_get_915e3 yJx4a65c_get_915e3, Cond.code yJx4a65c_get_915e3 cJx4a65c_get_915e3 2 (some (.object "java/lang/Object")), Cond.methodLink RJx4a65c 118 yJ15_checkIndex_7cf53, Cond.static yJ15_checkIndex_7cf53, Cond.initialized RJ15, Cond.code yJ15_checkIndex_7cf53 cJ15_checkIndex_7cf53 2 (some .int), Cond.methodLink RJ15 105 yJ3_checkIndex_8e157, Cond.static yJ3_checkIndex_8e157, Cond.initialized RJ3, Cond.code yJ3_checkIndex_8e157 cJ3_checkIndex_8e157 3 (some .int), Cond.methodLink RJx4a65c 123 yJx4a65c_elementData_915e3, Cond.instanceMethod yJx4a65c_elementData_915e3, Cond.selects RJx4a65c yJx4a65c_elementData_915e3 yJx4a65c_elementData_915e3, Cond.code yJx4a65c_elementData_915e3 cJx4a65c_elementData_915e3 2 (some (.object "java/lang/Object"))]
def wsX3_inSacks_r2 : List Cond := [Cond.fieldLink RJx4a65c 9 "java/util/ArrayList" "elementData" "[Ljava/lang/Object;"]
def wsX3_inSacks : List Cond := .code yX3_inSacks cX3_inSacks 3 (some .int) :: ((wsX3_inSacks_r1 ++ wsX3_inSacks_r2) ++ wsX30 ++ wsX10 ++ wsX00 ++ wsJx4a65c0)
def wsX3_inChambers : List Cond := .code yX3_inChambers cX3_inChambers 3 (some .int) :: ([.fieldLink RX3 21 "FeatherBeds" "chambers" "[LFeatherBeds$Heap;"] ++ wsX30 ++ wsX00)
def wsX3_inTicks_r1 : List Cond := [Cond.fieldLink RX3 16 "FeatherBeds" "ticks" "Ljava/util/ArrayList;", Cond.classLink RX3 26 "FeatherBeds$Tick", Cond.methodLink RX3 42 yJx4a65c_size_8abf5, Cond.instanceMethod yJx4a65c_size_8abf5, Cond.selects RJx4a65c yJx4a65c_size_8abf5 yJx4a65c_size_8abf5, Cond.initialized RJx4a65c, Cond.code yJx4a65c_size_8abf5 cJx4a65c_size_8abf5 1 (some .int), Cond.fieldLink RJx4a65c 48 "java/util/ArrayList" "size" "I", Cond.methodLink RX3 154 yJx4a65c_get_915e3, Cond.instanceMethod yJx4a65c_get_915e3, Cond.selects RJx4a65c yJx4a65c_get_915e3 yJx4a65c_get_915e3, Cond.code yJx4a65c_get_915e3 cJx4a65c_get_915e3 2 (some (.object "java/lang/Object")), Cond.methodLink RJx4a65c 118 yJ15_checkIndex_7cf53, Cond.static yJ15_checkIndex_7cf53, Cond.initialized RJ15, Cond.code yJ15_checkIndex_7cf53 cJ15_checkIndex_7cf53 2 (some .int), Cond.methodLink RJ15 105 yJ3_checkIndex_8e157, Cond.static yJ3_checkIndex_8e157, Cond.initialized RJ3, Cond.code yJ3_checkIndex_8e157 cJ3_checkIndex_8e157 3 (some .int), Cond.methodLink RJx4a65c 123 yJx4a65c_elementData_915e3, Cond.instanceMethod yJx4a65c_elementData_915e3, Cond.selects RJx4a65c yJx4a65c_elementData_915e3 yJx4a65c_elementData_915e3, Cond.code yJx4a65c_elementData_915e3 cJx4a65c_elementData_915e3 2 (some (.object "java/lang/Object"))]
def wsX3_inTicks_r2 : List Cond := [Cond.fieldLink RJx4a65c 9 "java/util/ArrayList" "elementData" "[Ljava/lang/Object;", Cond.methodLink RX3 174 yX2_feathers, Cond.instanceMethod yX2_feathers, Cond.selects RX2 yX2_feathers yX2_feathers, Cond.initialized RX2, Cond.code yX2_feathers cX2_feathers 3 (some .int), Cond.fieldLink RX2 26 "FeatherBeds$Tick" "heaps" "[LFeatherBeds$Heap;"]
def wsX3_inTicks : List Cond := .code yX3_inTicks cX3_inTicks 3 (some .int) :: ((wsX3_inTicks_r1 ++ wsX3_inTicks_r2) ++ wsX30 ++ wsJx4a65c0 ++ wsX20 ++ wsX00)
def wsX3_countTells_r1 : List Cond := [Cond.fieldLink RX3 161 "FeatherBeds" "nightsGone" "I", Cond.fieldLink RX3 12 "FeatherBeds" "sacks" "Ljava/util/ArrayList;", Cond.fieldLink RX3 16 "FeatherBeds" "ticks" "Ljava/util/ArrayList;", Cond.fieldLink RX3 99 "FeatherBeds" "lostInYard" "I", Cond.fieldLink RX3 164 "FeatherBeds" "lostByPricking" "I", Cond.fieldLink RX3 35 "FeatherBeds" "wind" "I", Cond.methodLink RX3 42 yJx4a65c_size_8abf5, Cond.instanceMethod yJx4a65c_size_8abf5, Cond.selects RJx4a65c yJx4a65c_size_8abf5 yJx4a65c_size_8abf5, Cond.initialized RJx4a65c, Cond.code yJx4a65c_size_8abf5 cJx4a65c_size_8abf5 1 (some .int), Cond.fieldLink RJx4a65c 48 "java/util/ArrayList" "size" "I", Cond.methodLink RX3 194 yX3_inSacks, Cond.instanceMethod yX3_inSacks, Cond.selects RX3 yX3_inSacks yX3_inSacks, Cond.initialized RX3, Cond.code yX3_inSacks cX3_inSacks 3 (some .int), Cond.classLink RX3 53 "FeatherBeds$Sack", Cond.methodLink RX3 154 yJx4a65c_get_915e3, Cond.instanceMethod yJx4a65c_get_915e3, Cond.selects RJx4a65c yJx4a65c_get_915e3 yJx4a65c_get_915e3, Cond.code yJx4a65c_get_915e3 cJx4a65c_get_915e3 2 (some (.object "java/lang/Object")), Cond.methodLink RJx4a65c 118 yJ15_checkIndex_7cf53, Cond.static yJ15_checkIndex_7cf53]
def wsX3_countTells_r2 : List Cond := [Cond.initialized RJ15, Cond.code yJ15_checkIndex_7cf53 cJ15_checkIndex_7cf53 2 (some .int), Cond.methodLink RJ15 105 yJ3_checkIndex_8e157, Cond.static yJ3_checkIndex_8e157, Cond.initialized RJ3, Cond.code yJ3_checkIndex_8e157 cJ3_checkIndex_8e157 3 (some .int), Cond.methodLink RJx4a65c 123 yJx4a65c_elementData_915e3, Cond.instanceMethod yJx4a65c_elementData_915e3, Cond.selects RJx4a65c yJx4a65c_elementData_915e3 yJx4a65c_elementData_915e3, Cond.code yJx4a65c_elementData_915e3 cJx4a65c_elementData_915e3 2 (some (.object "java/lang/Object")), Cond.fieldLink RJx4a65c 9 "java/util/ArrayList" "elementData" "[Ljava/lang/Object;", Cond.methodLink RX3 197 yX3_inChambers, Cond.instanceMethod yX3_inChambers, Cond.selects RX3 yX3_inChambers yX3_inChambers, Cond.code yX3_inChambers cX3_inChambers 3 (some .int), Cond.fieldLink RX3 21 "FeatherBeds" "chambers" "[LFeatherBeds$Heap;", Cond.methodLink RX3 191 yX3_inTicks, Cond.instanceMethod yX3_inTicks, Cond.selects RX3 yX3_inTicks yX3_inTicks, Cond.code yX3_inTicks cX3_inTicks 3 (some .int), Cond.classLink RX3 26 "FeatherBeds$Tick", Cond.methodLink RX3 174 yX2_feathers, Cond.instanceMethod yX2_feathers, Cond.selects RX2 yX2_feathers yX2_feathers]
def wsX3_countTells_r3 : List Cond := [Cond.initialized RX2, Cond.code yX2_feathers cX2_feathers 3 (some .int), Cond.fieldLink RX2 26 "FeatherBeds$Tick" "heaps" "[LFeatherBeds$Heap;"]
def wsX3_countTells : List Cond := .code yX3_countTells cX3_countTells 2 (some .int) :: ((wsX3_countTells_r1 ++ (wsX3_countTells_r2 ++ wsX3_countTells_r3)) ++ wsX30 ++ wsJx4a65c0 ++ wsX10 ++ wsX00 ++ wsX20)
def wsX3_count_r1 : List Cond := [Cond.methodLink RX3 70 yX3_needIndex, Cond.static yX3_needIndex, Cond.initialized RX3, Cond.code yX3_needIndex cX3_needIndex 2 none, Cond.classLink RX3 210 "java/lang/IndexOutOfBoundsException", Cond.initialized "java/lang/IndexOutOfBoundsException", Cond.methodLink RX3 167 yX3_countTells, Cond.instanceMethod yX3_countTells, Cond.selects RX3 yX3_countTells yX3_countTells, Cond.code yX3_countTells cX3_countTells 2 (some .int), Cond.fieldLink RX3 161 "FeatherBeds" "nightsGone" "I", Cond.fieldLink RX3 12 "FeatherBeds" "sacks" "Ljava/util/ArrayList;", Cond.fieldLink RX3 16 "FeatherBeds" "ticks" "Ljava/util/ArrayList;", Cond.fieldLink RX3 99 "FeatherBeds" "lostInYard" "I", Cond.fieldLink RX3 164 "FeatherBeds" "lostByPricking" "I", Cond.fieldLink RX3 35 "FeatherBeds" "wind" "I", Cond.methodLink RX3 42 yJx4a65c_size_8abf5, Cond.instanceMethod yJx4a65c_size_8abf5, Cond.selects RJx4a65c yJx4a65c_size_8abf5 yJx4a65c_size_8abf5, Cond.initialized RJx4a65c, Cond.code yJx4a65c_size_8abf5 cJx4a65c_size_8abf5 1 (some .int), Cond.fieldLink RJx4a65c 48 "java/util/ArrayList" "size" "I", Cond.methodLink RX3 194 yX3_inSacks, Cond.instanceMethod yX3_inSacks]
def wsX3_count_r2 : List Cond := [Cond.selects RX3 yX3_inSacks yX3_inSacks, Cond.code yX3_inSacks cX3_inSacks 3 (some .int), Cond.classLink RX3 53 "FeatherBeds$Sack", Cond.methodLink RX3 154 yJx4a65c_get_915e3, Cond.instanceMethod yJx4a65c_get_915e3, Cond.selects RJx4a65c yJx4a65c_get_915e3 yJx4a65c_get_915e3, Cond.code yJx4a65c_get_915e3 cJx4a65c_get_915e3 2 (some (.object "java/lang/Object")), Cond.methodLink RJx4a65c 118 yJ15_checkIndex_7cf53, Cond.static yJ15_checkIndex_7cf53, Cond.initialized RJ15, Cond.code yJ15_checkIndex_7cf53 cJ15_checkIndex_7cf53 2 (some .int), Cond.methodLink RJ15 105 yJ3_checkIndex_8e157, Cond.static yJ3_checkIndex_8e157, Cond.initialized RJ3, Cond.code yJ3_checkIndex_8e157 cJ3_checkIndex_8e157 3 (some .int), Cond.methodLink RJx4a65c 123 yJx4a65c_elementData_915e3, Cond.instanceMethod yJx4a65c_elementData_915e3, Cond.selects RJx4a65c yJx4a65c_elementData_915e3 yJx4a65c_elementData_915e3, Cond.code yJx4a65c_elementData_915e3 cJx4a65c_elementData_915e3 2 (some (.object "java/lang/Object")), Cond.fieldLink RJx4a65c 9 "java/util/ArrayList" "elementData" "[Ljava/lang/Object;", Cond.methodLink RX3 197 yX3_inChambers, Cond.instanceMethod yX3_inChambers, Cond.selects RX3 yX3_inChambers yX3_inChambers, Cond.code yX3_inChambers cX3_inChambers 3 (some .int)]
def wsX3_count_r3 : List Cond := [Cond.fieldLink RX3 21 "FeatherBeds" "chambers" "[LFeatherBeds$Heap;", Cond.methodLink RX3 191 yX3_inTicks, Cond.instanceMethod yX3_inTicks, Cond.selects RX3 yX3_inTicks yX3_inTicks, Cond.code yX3_inTicks cX3_inTicks 3 (some .int), Cond.classLink RX3 26 "FeatherBeds$Tick", Cond.methodLink RX3 174 yX2_feathers, Cond.instanceMethod yX2_feathers, Cond.selects RX2 yX2_feathers yX2_feathers, Cond.initialized RX2, Cond.code yX2_feathers cX2_feathers 3 (some .int), Cond.fieldLink RX2 26 "FeatherBeds$Tick" "heaps" "[LFeatherBeds$Heap;"]
def wsX3_count : List Cond := .code yX3_count cX3_count 2 (some .int) :: ((wsX3_count_r1 ++ (wsX3_count_r2 ++ wsX3_count_r3)) ++ wsX30 ++ wsJx4a65c0 ++ wsX10 ++ wsX00 ++ wsX20 ++ (vx_atS RX3 214 "java/lang/IndexOutOfBoundsException" ["java/lang/RuntimeException", "java/lang/Exception"]).filter goodWord)
def wsX3_foresee_r1 : List Cond := [Cond.fieldLink RX3 31 "FeatherBeds" "trial" "LFeatherBeds$Tick;", Cond.methodLink RX3 118 yX3_needTick, Cond.instanceMethod yX3_needTick, Cond.selects RX3 yX3_needTick yX3_needTick, Cond.initialized RX3, Cond.code yX3_needTick cX3_needTick 2 (some (.object "FeatherBeds$Tick")), Cond.classLink RX3 210 "java/lang/IndexOutOfBoundsException", Cond.initialized "java/lang/IndexOutOfBoundsException", Cond.fieldLink RX3 16 "FeatherBeds" "ticks" "Ljava/util/ArrayList;", Cond.classLink RX3 26 "FeatherBeds$Tick", Cond.methodLink RX3 42 yJx4a65c_size_8abf5, Cond.instanceMethod yJx4a65c_size_8abf5, Cond.selects RJx4a65c yJx4a65c_size_8abf5 yJx4a65c_size_8abf5, Cond.initialized RJx4a65c, Cond.code yJx4a65c_size_8abf5 cJx4a65c_size_8abf5 1 (some .int), Cond.fieldLink RJx4a65c 48 "java/util/ArrayList" "size" "I", Cond.methodLink RX3 154 yJx4a65c_get_915e3, Cond.instanceMethod yJx4a65c_get_915e3, Cond.selects RJx4a65c yJx4a65c_get_915e3 yJx4a65c_get_915e3, Cond.code yJx4a65c_get_915e3 cJx4a65c_get_915e3 2 (some (.object "java/lang/Object")), Cond.methodLink RJx4a65c 118 yJ15_checkIndex_7cf53, Cond.static yJ15_checkIndex_7cf53, Cond.initialized RJ15, Cond.code yJ15_checkIndex_7cf53 cJ15_checkIndex_7cf53 2 (some .int)]
def wsX3_foresee_r2 : List Cond := [Cond.methodLink RJ15 105 yJ3_checkIndex_8e157, Cond.static yJ3_checkIndex_8e157, Cond.initialized RJ3, Cond.code yJ3_checkIndex_8e157 cJ3_checkIndex_8e157 3 (some .int), Cond.methodLink RJx4a65c 123 yJx4a65c_elementData_915e3, Cond.instanceMethod yJx4a65c_elementData_915e3, Cond.selects RJx4a65c yJx4a65c_elementData_915e3 yJx4a65c_elementData_915e3, Cond.code yJx4a65c_elementData_915e3 cJx4a65c_elementData_915e3 2 (some (.object "java/lang/Object")), Cond.fieldLink RJx4a65c 9 "java/util/ArrayList" "elementData" "[Ljava/lang/Object;", Cond.methodLink RX3 70 yX3_needIndex, Cond.static yX3_needIndex, Cond.code yX3_needIndex cX3_needIndex 2 none, Cond.methodLink RX3 39 yX3_needRange, Cond.static yX3_needRange, Cond.code yX3_needRange cX3_needRange 3 none, Cond.classLink RX3 128 "java/lang/IllegalArgumentException", Cond.initialized "java/lang/IllegalArgumentException", Cond.methodLink RX3 170 yX2_become, Cond.instanceMethod yX2_become, Cond.selects RX2 yX2_become yX2_become, Cond.initialized RX2, Cond.code yX2_become cX2_become 3 none, Cond.fieldLink RX2 9 "FeatherBeds$Tick" "columns" "I", Cond.fieldLink RX2 15 "FeatherBeds$Tick" "rows" "I"]
def wsX3_foresee_r3 : List Cond := [Cond.fieldLink RX2 18 "FeatherBeds$Tick" "density" "I", Cond.fieldLink RX2 21 "FeatherBeds$Tick" "squares" "I", Cond.fieldLink RX2 26 "FeatherBeds$Tick" "heaps" "[LFeatherBeds$Heap;", Cond.fieldLink RX2 31 "FeatherBeds$Tick" "sewn" "[Z", Cond.methodLink RX2 39 yX0_become, Cond.instanceMethod yX0_become, Cond.selects RX0 yX0_become yX0_become, Cond.initialized RX0, Cond.code yX0_become cX0_become 3 none, Cond.methodLink RX0 19 yX0_of, Cond.instanceMethod yX0_of, Cond.selects RX0 yX0_of yX0_of, Cond.code yX0_of cX0_of 2 (some .int), Cond.fieldLink RX0 9 "FeatherBeds$Heap" "ofSize" "[I", Cond.methodLink RX0 23 yX0_change, Cond.instanceMethod yX0_change, Cond.selects RX0 yX0_change yX0_change, Cond.code yX0_change cX0_change 3 none, Cond.fieldLink RX0 15 "FeatherBeds$Heap" "all" "I", Cond.methodLink RX3 158 yX2_sleep, Cond.instanceMethod yX2_sleep, Cond.selects RX2 yX2_sleep yX2_sleep, Cond.code yX2_sleep cX2_sleep 6 (some .int), Cond.methodLink RX2 86 yX2_prickInAll]
def wsX3_foresee_r4 : List Cond := [Cond.instanceMethod yX2_prickInAll, Cond.selects RX2 yX2_prickInAll yX2_prickInAll, Cond.code yX2_prickInAll cX2_prickInAll 3 (some .int), Cond.methodLink RX2 92 yX0_prick, Cond.instanceMethod yX0_prick, Cond.selects RX0 yX0_prick yX0_prick, Cond.code yX0_prick cX0_prick 6 (some .int), Cond.methodLink RX2 89 yX2_shiftInAll, Cond.instanceMethod yX2_shiftInAll, Cond.selects RX2 yX2_shiftInAll yX2_shiftInAll, Cond.code yX2_shiftInAll cX2_shiftInAll 4 (some .int), Cond.methodLink RX2 47 yX2_isOpen, Cond.instanceMethod yX2_isOpen, Cond.selects RX2 yX2_isOpen yX2_isOpen, Cond.code yX2_isOpen cX2_isOpen 4 (some .boolean), Cond.methodLink RX2 43 yX2_otherOfPair, Cond.instanceMethod yX2_otherOfPair, Cond.selects RX2 yX2_otherOfPair yX2_otherOfPair, Cond.code yX2_otherOfPair cX2_otherOfPair 3 (some .int), Cond.methodLink RX2 95 yX2_shiftBetween, Cond.instanceMethod yX2_shiftBetween, Cond.selects RX2 yX2_shiftBetween yX2_shiftBetween, Cond.code yX2_shiftBetween cX2_shiftBetween 4 (some .int), Cond.methodLink RX2 98 yX0_moveTo]
def wsX3_foresee_r5 : List Cond := [Cond.instanceMethod yX0_moveTo, Cond.selects RX0 yX0_moveTo yX0_moveTo, Cond.code yX0_moveTo cX0_moveTo 7 (some .int), Cond.methodLink RX0 27 Lib.Math.min.name, Cond.static Lib.Math.min.name, Cond.initialized "java/lang/Math", Cond.code Lib.Math.min.name Lib.Math.min.code 2 (some .int), Cond.methodLink RX3 174 yX2_feathers, Cond.instanceMethod yX2_feathers, Cond.selects RX2 yX2_feathers yX2_feathers, Cond.code yX2_feathers cX2_feathers 3 (some .int), Cond.methodLink RX3 177 yX2_coldestWarmth, Cond.instanceMethod yX2_coldestWarmth, Cond.selects RX2 yX2_coldestWarmth yX2_coldestWarmth, Cond.code yX2_coldestWarmth cX2_coldestWarmth 1 (some .int), Cond.methodLink RX2 65 yX2_coldestSquare, Cond.instanceMethod yX2_coldestSquare, Cond.selects RX2 yX2_coldestSquare yX2_coldestSquare, Cond.code yX2_coldestSquare cX2_coldestSquare 3 (some .int), Cond.methodLink RX2 61 yX2_warmthAt, Cond.instanceMethod yX2_warmthAt, Cond.selects RX2 yX2_warmthAt yX2_warmthAt, Cond.code yX2_warmthAt cX2_warmthAt 2 (some .int), Cond.methodLink RX2 57 yX0_warmth]
def wsX3_foresee_r6 : List Cond := [Cond.instanceMethod yX0_warmth, Cond.selects RX0 yX0_warmth yX0_warmth, Cond.code yX0_warmth cX0_warmth 3 (some .int), Cond.methodLink RX3 180 yX2_coldestSquare]
def wsX3_foresee : List Cond := .code yX3_foresee cX3_foresee 5 (some .int) :: ((wsX3_foresee_r1 ++ (wsX3_foresee_r2 ++ (wsX3_foresee_r3 ++ (wsX3_foresee_r4 ++ (wsX3_foresee_r5 ++ wsX3_foresee_r6))))) ++ wsX30 ++ wsJx4a65c0 ++ wsX20 ++ wsX00 ++ (vx_atS RX3 214 "java/lang/IndexOutOfBoundsException" ["java/lang/RuntimeException", "java/lang/Exception"]).filter goodWord ++ (vx_atS RX3 132 "java/lang/IllegalArgumentException" ["java/lang/RuntimeException", "java/lang/Exception"]).filter goodWord)
def wsX3_lasts_r1 : List Cond := [Cond.fieldLink RX3 31 "FeatherBeds" "trial" "LFeatherBeds$Tick;", Cond.methodLink RX3 118 yX3_needTick, Cond.instanceMethod yX3_needTick, Cond.selects RX3 yX3_needTick yX3_needTick, Cond.initialized RX3, Cond.code yX3_needTick cX3_needTick 2 (some (.object "FeatherBeds$Tick")), Cond.classLink RX3 210 "java/lang/IndexOutOfBoundsException", Cond.initialized "java/lang/IndexOutOfBoundsException", Cond.fieldLink RX3 16 "FeatherBeds" "ticks" "Ljava/util/ArrayList;", Cond.classLink RX3 26 "FeatherBeds$Tick", Cond.methodLink RX3 42 yJx4a65c_size_8abf5, Cond.instanceMethod yJx4a65c_size_8abf5, Cond.selects RJx4a65c yJx4a65c_size_8abf5 yJx4a65c_size_8abf5, Cond.initialized RJx4a65c, Cond.code yJx4a65c_size_8abf5 cJx4a65c_size_8abf5 1 (some .int), Cond.fieldLink RJx4a65c 48 "java/util/ArrayList" "size" "I", Cond.methodLink RX3 154 yJx4a65c_get_915e3, Cond.instanceMethod yJx4a65c_get_915e3, Cond.selects RJx4a65c yJx4a65c_get_915e3 yJx4a65c_get_915e3, Cond.code yJx4a65c_get_915e3 cJx4a65c_get_915e3 2 (some (.object "java/lang/Object")), Cond.methodLink RJx4a65c 118 yJ15_checkIndex_7cf53, Cond.static yJ15_checkIndex_7cf53, Cond.initialized RJ15, Cond.code yJ15_checkIndex_7cf53 cJ15_checkIndex_7cf53 2 (some .int)]
def wsX3_lasts_r2 : List Cond := [Cond.methodLink RJ15 105 yJ3_checkIndex_8e157, Cond.static yJ3_checkIndex_8e157, Cond.initialized RJ3, Cond.code yJ3_checkIndex_8e157 cJ3_checkIndex_8e157 3 (some .int), Cond.methodLink RJx4a65c 123 yJx4a65c_elementData_915e3, Cond.instanceMethod yJx4a65c_elementData_915e3, Cond.selects RJx4a65c yJx4a65c_elementData_915e3 yJx4a65c_elementData_915e3, Cond.code yJx4a65c_elementData_915e3 cJx4a65c_elementData_915e3 2 (some (.object "java/lang/Object")), Cond.fieldLink RJx4a65c 9 "java/util/ArrayList" "elementData" "[Ljava/lang/Object;", Cond.methodLink RX3 39 yX3_needRange, Cond.static yX3_needRange, Cond.code yX3_needRange cX3_needRange 3 none, Cond.classLink RX3 128 "java/lang/IllegalArgumentException", Cond.initialized "java/lang/IllegalArgumentException", Cond.methodLink RX3 170 yX2_become, Cond.instanceMethod yX2_become, Cond.selects RX2 yX2_become yX2_become, Cond.initialized RX2, Cond.code yX2_become cX2_become 3 none, Cond.fieldLink RX2 9 "FeatherBeds$Tick" "columns" "I", Cond.fieldLink RX2 15 "FeatherBeds$Tick" "rows" "I", Cond.fieldLink RX2 18 "FeatherBeds$Tick" "density" "I", Cond.fieldLink RX2 21 "FeatherBeds$Tick" "squares" "I", Cond.fieldLink RX2 26 "FeatherBeds$Tick" "heaps" "[LFeatherBeds$Heap;"]
def wsX3_lasts_r3 : List Cond := [Cond.fieldLink RX2 31 "FeatherBeds$Tick" "sewn" "[Z", Cond.methodLink RX2 39 yX0_become, Cond.instanceMethod yX0_become, Cond.selects RX0 yX0_become yX0_become, Cond.initialized RX0, Cond.code yX0_become cX0_become 3 none, Cond.methodLink RX0 19 yX0_of, Cond.instanceMethod yX0_of, Cond.selects RX0 yX0_of yX0_of, Cond.code yX0_of cX0_of 2 (some .int), Cond.fieldLink RX0 9 "FeatherBeds$Heap" "ofSize" "[I", Cond.methodLink RX0 23 yX0_change, Cond.instanceMethod yX0_change, Cond.selects RX0 yX0_change yX0_change, Cond.code yX0_change cX0_change 3 none, Cond.fieldLink RX0 15 "FeatherBeds$Heap" "all" "I", Cond.methodLink RX3 177 yX2_coldestWarmth, Cond.instanceMethod yX2_coldestWarmth, Cond.selects RX2 yX2_coldestWarmth yX2_coldestWarmth, Cond.code yX2_coldestWarmth cX2_coldestWarmth 1 (some .int), Cond.methodLink RX2 65 yX2_coldestSquare, Cond.instanceMethod yX2_coldestSquare, Cond.selects RX2 yX2_coldestSquare yX2_coldestSquare, Cond.code yX2_coldestSquare cX2_coldestSquare 3 (some .int)]
def wsX3_lasts_r4 : List Cond := [Cond.methodLink RX2 61 yX2_warmthAt, Cond.instanceMethod yX2_warmthAt, Cond.selects RX2 yX2_warmthAt yX2_warmthAt, Cond.code yX2_warmthAt cX2_warmthAt 2 (some .int), Cond.methodLink RX2 57 yX0_warmth, Cond.instanceMethod yX0_warmth, Cond.selects RX0 yX0_warmth yX0_warmth, Cond.code yX0_warmth cX0_warmth 3 (some .int), Cond.methodLink RX0 27 Lib.Math.min.name, Cond.static Lib.Math.min.name, Cond.initialized "java/lang/Math", Cond.code Lib.Math.min.name Lib.Math.min.code 2 (some .int), Cond.methodLink RX3 158 yX2_sleep, Cond.instanceMethod yX2_sleep, Cond.selects RX2 yX2_sleep yX2_sleep, Cond.code yX2_sleep cX2_sleep 6 (some .int), Cond.methodLink RX2 86 yX2_prickInAll, Cond.instanceMethod yX2_prickInAll, Cond.selects RX2 yX2_prickInAll yX2_prickInAll, Cond.code yX2_prickInAll cX2_prickInAll 3 (some .int), Cond.methodLink RX2 92 yX0_prick, Cond.instanceMethod yX0_prick, Cond.selects RX0 yX0_prick yX0_prick, Cond.code yX0_prick cX0_prick 6 (some .int)]
def wsX3_lasts_r5 : List Cond := [Cond.methodLink RX2 89 yX2_shiftInAll, Cond.instanceMethod yX2_shiftInAll, Cond.selects RX2 yX2_shiftInAll yX2_shiftInAll, Cond.code yX2_shiftInAll cX2_shiftInAll 4 (some .int), Cond.methodLink RX2 47 yX2_isOpen, Cond.instanceMethod yX2_isOpen, Cond.selects RX2 yX2_isOpen yX2_isOpen, Cond.code yX2_isOpen cX2_isOpen 4 (some .boolean), Cond.methodLink RX2 43 yX2_otherOfPair, Cond.instanceMethod yX2_otherOfPair, Cond.selects RX2 yX2_otherOfPair yX2_otherOfPair, Cond.code yX2_otherOfPair cX2_otherOfPair 3 (some .int), Cond.methodLink RX2 95 yX2_shiftBetween, Cond.instanceMethod yX2_shiftBetween, Cond.selects RX2 yX2_shiftBetween yX2_shiftBetween, Cond.code yX2_shiftBetween cX2_shiftBetween 4 (some .int), Cond.methodLink RX2 98 yX0_moveTo, Cond.instanceMethod yX0_moveTo, Cond.selects RX0 yX0_moveTo yX0_moveTo, Cond.code yX0_moveTo cX0_moveTo 7 (some .int)]
def wsX3_lasts : List Cond := .code yX3_lasts cX3_lasts 5 (some .int) :: ((wsX3_lasts_r1 ++ (wsX3_lasts_r2 ++ (wsX3_lasts_r3 ++ (wsX3_lasts_r4 ++ wsX3_lasts_r5)))) ++ wsX30 ++ wsJx4a65c0 ++ wsX20 ++ wsX00 ++ (vx_atS RX3 214 "java/lang/IndexOutOfBoundsException" ["java/lang/RuntimeException", "java/lang/Exception"]).filter goodWord ++ (vx_atS RX3 132 "java/lang/IllegalArgumentException" ["java/lang/RuntimeException", "java/lang/Exception"]).filter goodWord)
def wsX4_init : List Cond := .code yX4_init cX4_init 1 none :: ([.methodLink RX4 1 objectInit, .instanceMethod objectInit, .code objectInit ⟨#[0xb1]⟩ 1 none, .classLink RX4 7 "[I", .fieldLink RX4 9 "FeatherBedsLaw$Sim" "sacks" "[[I", .arrayClass .int, .fieldLink RX4 15 "FeatherBedsLaw$Sim" "damp" "[I", .fieldLink RX4 18 "FeatherBedsLaw$Sim" "wind" "I", .classLink RX4 22 "[[I", .fieldLink RX4 23 "FeatherBedsLaw$Sim" "chambers" "[[I", .classLink RX4 26 RX5, .fieldLink RX4 28 "FeatherBedsLaw$Sim" "ticks" "[LFeatherBedsLaw$Tick;"] ++ wsX40)
def wsX4_sack : List Cond := .code yX4_sack cX4_sack 4 none :: ([.fieldLink RX4 9 "FeatherBedsLaw$Sim" "sacks" "[[I", .classLink RX4 7 "[I", .arrayClass .int, .fieldLink RX4 15 "FeatherBedsLaw$Sim" "damp" "[I"] ++ wsX40)
def wsX5_init : List Cond := .code yX5_init cX5_init 4 none :: ([.methodLink RX5 1 objectInit, .instanceMethod objectInit, .code objectInit ⟨#[0xb1]⟩ 1 none, .fieldLink RX5 7 "FeatherBedsLaw$Tick" "columns" "I", .fieldLink RX5 13 "FeatherBedsLaw$Tick" "rows" "I", .fieldLink RX5 16 "FeatherBedsLaw$Tick" "density" "I", .classLink RX5 19 "[[I", .arrayClass .int, .fieldLink RX5 21 "FeatherBedsLaw$Tick" "squares" "[[I", .classLink RX5 24 "[[Z", .arrayClass .boolean, .fieldLink RX5 26 "FeatherBedsLaw$Tick" "sewn" "[[Z"] ++ wsX50)
def wsX4_tick : List Cond := .code yX4_tick cX4_tick 6 none :: ([.fieldLink RX4 28 "FeatherBedsLaw$Sim" "ticks" "[LFeatherBedsLaw$Tick;", .classLink RX4 26 RX5, .instantiable RX5 5, .initialized RX5, .methodLink RX4 32 yX5_init, .instanceMethod yX5_init, .code yX5_init cX5_init 4 none, .methodLink RX5 1 objectInit, .instanceMethod objectInit, .code objectInit ⟨#[0xb1]⟩ 1 none, .fieldLink RX5 7 "FeatherBedsLaw$Tick" "columns" "I", .fieldLink RX5 13 "FeatherBedsLaw$Tick" "rows" "I", .fieldLink RX5 16 "FeatherBedsLaw$Tick" "density" "I", .classLink RX5 19 "[[I", .arrayClass .int, .fieldLink RX5 21 "FeatherBedsLaw$Tick" "squares" "[[I", .classLink RX5 24 "[[Z", .arrayClass .boolean, .fieldLink RX5 26 "FeatherBedsLaw$Tick" "sewn" "[[Z"] ++ wsX40 ++ wsX50)
def wsX4_blown : List Cond := .code yX4_blown cX4_blown 7 (some (.array (.array .int))) :: ([.classLink RX4 22 "[[I", .arrayClass .int, .fieldLink RX4 9 "FeatherBedsLaw$Sim" "sacks" "[[I", .fieldLink RX4 15 "FeatherBedsLaw$Sim" "damp" "[I", .methodLink RX4 35 Lib.Math.min.name, .static Lib.Math.min.name, .initialized "java/lang/Math", .code Lib.Math.min.name Lib.Math.min.code 2 (some .int)] ++ wsX40)
def wsX5_all : List Cond := .code yX5_all cX5_all 6 (some .int) :: ([])
def wsX4_blow : List Cond := .code yX4_blow cX4_blow 6 (some .int) :: ([.fieldLink RX4 18 "FeatherBedsLaw$Sim" "wind" "I", .fieldLink RX4 23 "FeatherBedsLaw$Sim" "chambers" "[[I", .fieldLink RX4 9 "FeatherBedsLaw$Sim" "sacks" "[[I", .fieldLink RX4 45 "FeatherBedsLaw$Sim" "yard" "I", .methodLink RX4 41 yX4_blown, .instanceMethod yX4_blown, .selects RX4 yX4_blown yX4_blown, .initialized RX4, .code yX4_blown cX4_blown 7 (some (.array (.array .int))), .classLink RX4 22 "[[I", .arrayClass .int, .fieldLink RX4 15 "FeatherBedsLaw$Sim" "damp" "[I", .methodLink RX4 35 Lib.Math.min.name, .static Lib.Math.min.name, .initialized "java/lang/Math", .code Lib.Math.min.name Lib.Math.min.code 2 (some .int), .methodLink RX4 48 yX5_all, .static yX5_all, .initialized RX5, .code yX5_all cX5_all 6 (some .int)] ++ wsX40)
def wsX4_take : List Cond := .code yX4_take cX4_take 7 (some .int) :: ([.methodLink RX4 35 Lib.Math.min.name, .static Lib.Math.min.name, .initialized "java/lang/Math", .code Lib.Math.min.name Lib.Math.min.code 2 (some .int), .methodLink RX4 48 yX5_all, .static yX5_all, .initialized RX5, .code yX5_all cX5_all 6 (some .int)])
def wsX5_has : List Cond := .code yX5_has cX5_has 3 (some .boolean) :: ([.fieldLink RX5 7 "FeatherBedsLaw$Tick" "columns" "I", .fieldLink RX5 13 "FeatherBedsLaw$Tick" "rows" "I"] ++ wsX50)
def wsX5_isOpen : List Cond := .code yX5_isOpen cX5_isOpen 3 (some .boolean) :: ([.fieldLink RX5 26 "FeatherBedsLaw$Tick" "sewn" "[[Z", .methodLink RX5 41 yX5_has, .instanceMethod yX5_has, .selects RX5 yX5_has yX5_has, .initialized RX5, .code yX5_has cX5_has 3 (some .boolean), .fieldLink RX5 7 "FeatherBedsLaw$Tick" "columns" "I", .fieldLink RX5 13 "FeatherBedsLaw$Tick" "rows" "I"] ++ wsX50)
def wsX5_to : List Cond := .code yX5_to cX5_to 3 (some .int) :: ([.fieldLink RX5 7 "FeatherBedsLaw$Tick" "columns" "I"] ++ wsX50)
def wsX5_night_r1 : List Cond := [Cond.fieldLink RX5 21 "FeatherBedsLaw$Tick" "squares" "[[I", Cond.fieldLink RX5 16 "FeatherBedsLaw$Tick" "density" "I", Cond.methodLink RX5 63 Lib.Math.min.name, Cond.static Lib.Math.min.name, Cond.initialized "java/lang/Math", Cond.code Lib.Math.min.name Lib.Math.min.code 2 (some .int), Cond.methodLink RX5 45 yX5_isOpen, Cond.instanceMethod yX5_isOpen, Cond.selects RX5 yX5_isOpen yX5_isOpen, Cond.initialized RX5, Cond.code yX5_isOpen cX5_isOpen 3 (some .boolean), Cond.fieldLink RX5 26 "FeatherBedsLaw$Tick" "sewn" "[[Z", Cond.methodLink RX5 41 yX5_has, Cond.instanceMethod yX5_has, Cond.selects RX5 yX5_has yX5_has, Cond.code yX5_has cX5_has 3 (some .boolean), Cond.fieldLink RX5 7 "FeatherBedsLaw$Tick" "columns" "I", Cond.fieldLink RX5 13 "FeatherBedsLaw$Tick" "rows" "I", Cond.methodLink RX5 52 yX5_to, Cond.instanceMethod yX5_to, Cond.selects RX5 yX5_to yX5_to, Cond.code yX5_to cX5_to 3 (some .int), Cond.methodLink RX5 60 yX5_all, Cond.static yX5_all]
def wsX5_night_r2 : List Cond := [Cond.code yX5_all cX5_all 6 (some .int)]
def wsX5_night : List Cond := .code yX5_night cX5_night 9 (some .int) :: ((wsX5_night_r1 ++ wsX5_night_r2) ++ wsX50)
def wsX4_pass_r1 : List Cond := [Cond.fieldLink RX4 28 "FeatherBedsLaw$Sim" "ticks" "[LFeatherBedsLaw$Tick;", Cond.fieldLink RX4 56 "FeatherBedsLaw$Sim" "nights" "I", Cond.fieldLink RX4 59 "FeatherBedsLaw$Sim" "pricked" "I", Cond.methodLink RX4 52 yX5_night, Cond.instanceMethod yX5_night, Cond.selects RX5 yX5_night yX5_night, Cond.initialized RX5, Cond.code yX5_night cX5_night 9 (some .int), Cond.fieldLink RX5 21 "FeatherBedsLaw$Tick" "squares" "[[I", Cond.fieldLink RX5 16 "FeatherBedsLaw$Tick" "density" "I", Cond.methodLink RX5 63 Lib.Math.min.name, Cond.static Lib.Math.min.name, Cond.initialized "java/lang/Math", Cond.code Lib.Math.min.name Lib.Math.min.code 2 (some .int), Cond.methodLink RX5 45 yX5_isOpen, Cond.instanceMethod yX5_isOpen, Cond.selects RX5 yX5_isOpen yX5_isOpen, Cond.code yX5_isOpen cX5_isOpen 3 (some .boolean), Cond.fieldLink RX5 26 "FeatherBedsLaw$Tick" "sewn" "[[Z", Cond.methodLink RX5 41 yX5_has, Cond.instanceMethod yX5_has, Cond.selects RX5 yX5_has yX5_has, Cond.code yX5_has cX5_has 3 (some .boolean), Cond.fieldLink RX5 7 "FeatherBedsLaw$Tick" "columns" "I"]
def wsX4_pass_r2 : List Cond := [Cond.fieldLink RX5 13 "FeatherBedsLaw$Tick" "rows" "I", Cond.methodLink RX5 52 yX5_to, Cond.instanceMethod yX5_to, Cond.selects RX5 yX5_to yX5_to, Cond.code yX5_to cX5_to 3 (some .int), Cond.methodLink RX5 60 yX5_all, Cond.static yX5_all, Cond.code yX5_all cX5_all 6 (some .int)]
def wsX4_pass : List Cond := .code yX4_pass cX4_pass 6 (some .int) :: ((wsX4_pass_r1 ++ wsX4_pass_r2) ++ wsX40 ++ wsX50)
def wsX5_open : List Cond := .code yX5_open cX5_open 4 (some .int) :: ([.fieldLink RX5 21 "FeatherBedsLaw$Tick" "squares" "[[I", .methodLink RX5 45 yX5_isOpen, .instanceMethod yX5_isOpen, .selects RX5 yX5_isOpen yX5_isOpen, .initialized RX5, .code yX5_isOpen cX5_isOpen 3 (some .boolean), .fieldLink RX5 26 "FeatherBedsLaw$Tick" "sewn" "[[Z", .methodLink RX5 41 yX5_has, .instanceMethod yX5_has, .selects RX5 yX5_has yX5_has, .code yX5_has cX5_has 3 (some .boolean), .fieldLink RX5 7 "FeatherBedsLaw$Tick" "columns" "I", .fieldLink RX5 13 "FeatherBedsLaw$Tick" "rows" "I"] ++ wsX50)
def wsJ9_max_7cf53 : List Cond := .code yJ9_max_7cf53 cJ9_max_7cf53 2 (some .int) :: ([])
def wsJ9_min_7cf53 : List Cond := .code yJ9_min_7cf53 cJ9_min_7cf53 2 (some .int) :: ([])
def wsL_below : List Cond := .code yL_below cL_below 2 (some .int) :: ([.constant RL 7 (2147483647)])
def wsL_cell : List Cond := .code yL_cell cL_cell 2 (some .int) :: ([.constant RL 8 (790386105)])
def wsL_build_r1 : List Cond := [Cond.classLink RL 9 RX4, Cond.instantiable RX4 8, Cond.initialized RX4, Cond.fieldLink RL 32 "FeatherBedsLaw$Sim" "sacks" "[[I", Cond.instanceMethod yX4_init, Cond.code yX4_init cX4_init 1 none, Cond.methodLink RX4 1 objectInit, Cond.instanceMethod objectInit, Cond.code objectInit ⟨#[0xb1]⟩ 1 none, Cond.classLink RX4 7 "[I", Cond.fieldLink RX4 9 "FeatherBedsLaw$Sim" "sacks" "[[I", Cond.arrayClass .int, Cond.fieldLink RX4 15 "FeatherBedsLaw$Sim" "damp" "[I", Cond.fieldLink RX4 18 "FeatherBedsLaw$Sim" "wind" "I", Cond.classLink RX4 22 "[[I", Cond.fieldLink RX4 23 "FeatherBedsLaw$Sim" "chambers" "[[I", Cond.classLink RX4 26 RX5, Cond.fieldLink RX4 28 "FeatherBedsLaw$Sim" "ticks" "[LFeatherBedsLaw$Tick;", Cond.methodLink RL 12 yL_cell, Cond.static yL_cell, Cond.initialized RL, Cond.code yL_cell cL_cell 2 (some .int), Cond.constant RL 8 (790386105), Cond.methodLink RL 18 yL_below]
def wsL_build_r2 : List Cond := [Cond.static yL_below, Cond.code yL_below cL_below 2 (some .int), Cond.constant RL 7 (2147483647), Cond.methodLink RL 22 yX3_addSack, Cond.instanceMethod yX3_addSack, Cond.selects RX3 yX3_addSack yX3_addSack, Cond.initialized RX3, Cond.code yX3_addSack cX3_addSack 2 (some .int), Cond.classLink RX3 46 "java/lang/IllegalStateException", Cond.initialized "java/lang/IllegalStateException", Cond.fieldLink RX3 12 "FeatherBeds" "sacks" "Ljava/util/ArrayList;", Cond.classLink RX3 53 RX1, Cond.instantiable RX1 2, Cond.initialized RX1, Cond.methodLink RX3 39 yX3_needRange, Cond.static yX3_needRange, Cond.code yX3_needRange cX3_needRange 3 none, Cond.classLink RX3 128 "java/lang/IllegalArgumentException", Cond.initialized "java/lang/IllegalArgumentException", Cond.methodLink RX3 42 yJx4a65c_size_8abf5, Cond.instanceMethod yJx4a65c_size_8abf5, Cond.selects RJx4a65c yJx4a65c_size_8abf5 yJx4a65c_size_8abf5, Cond.initialized RJx4a65c, Cond.code yJx4a65c_size_8abf5 cJx4a65c_size_8abf5 1 (some .int)]
def wsL_build_r3 : List Cond := [Cond.fieldLink RJx4a65c 48 "java/util/ArrayList" "size" "I", Cond.methodLink RX3 55 yX1_init, Cond.instanceMethod yX1_init, Cond.code yX1_init cX1_init 2 none, Cond.methodLink RX1 3 objectInit, Cond.classLink RX1 9 RX0, Cond.instantiable RX0 2, Cond.initialized RX0, Cond.fieldLink RX1 12 "FeatherBeds$Sack" "heap" "LFeatherBeds$Heap;", Cond.fieldLink RX1 18 "FeatherBeds$Sack" "damp" "I", Cond.methodLink RX1 11 yX0_init, Cond.instanceMethod yX0_init, Cond.code yX0_init cX0_init 1 none, Cond.methodLink RX0 3 objectInit, Cond.fieldLink RX0 9 "FeatherBeds$Heap" "ofSize" "[I", Cond.methodLink RX3 58 yJx4a65c_add_9ea2d, Cond.instanceMethod yJx4a65c_add_9ea2d, Cond.selects RJx4a65c yJx4a65c_add_9ea2d yJx4a65c_add_9ea2d, Cond.code yJx4a65c_add_9ea2d cJx4a65c_add_9ea2d 2 (some .boolean), Cond.fieldLink RJx4a65c 63 "java/util/ArrayList" "modCount" "I", Cond.sameField "java/util/ArrayList" "java/util/AbstractList" "modCount" "I", Cond.fieldLink RJx4a65c 9 "java/util/ArrayList" "elementData" "[Ljava/lang/Object;", Cond.methodLink RJx4a65c 131 yJx4a65c_add_72be8, Cond.instanceMethod yJx4a65c_add_72be8]
def wsL_build_r4 : List Cond := [Cond.selects RJx4a65c yJx4a65c_add_72be8 yJx4a65c_add_72be8, Cond.code yJx4a65c_add_72be8 cJx4a65c_add_72be8 4 none, Cond.methodLink RJx4a65c 129 yJx4a65c_grow_d5877, Cond.instanceMethod yJx4a65c_grow_d5877, Cond.selects RJx4a65c yJx4a65c_grow_d5877 yJx4a65c_grow_d5877, Cond.code yJx4a65c_grow_d5877 cJx4a65c_grow_d5877 1 (some (.array (.object "java/lang/Object"))), Cond.methodLink RJx4a65c 69 yJx4a65c_grow_92f84, Cond.instanceMethod yJx4a65c_grow_92f84, Cond.selects RJx4a65c yJx4a65c_grow_92f84 yJx4a65c_grow_92f84, Cond.code yJx4a65c_grow_92f84 cJx4a65c_grow_92f84 4 (some (.array (.object "java/lang/Object"))), Cond.fieldLink RJx4a65c 39 "java/util/ArrayList" "DEFAULTCAPACITY_EMPTY_ELEMENTDATA" "[Ljava/lang/Object;", Cond.methodLink RJx4a65c 79 Lib.Math.max.name, Cond.static Lib.Math.max.name, Cond.initialized "java/lang/Math", Cond.code Lib.Math.max.name Lib.Math.max.code 2 (some .int), Cond.classLink RJx4a65c 7 "java/lang/Object", Cond.methodLink RJx4a65c 73 yJ8_newLength_cabcc, Cond.static yJ8_newLength_cabcc, Cond.initialized RJ8, Cond.code yJ8_newLength_cabcc cJ8_newLength_cabcc 4 (some .int), Cond.methodLink RJ8 194 Lib.Math.max.name, Cond.constant RJ8 200 (2147483639), Cond.methodLink RJ8 201 yJ8_hugeLength_7cf53, Cond.static yJ8_hugeLength_7cf53]
def wsL_build_r5 : List Cond := [Cond.code yJ8_hugeLength_7cf53 cJ8_hugeLength_7cf53 3 (some .int), Cond.methodLink RJx4a65c 66 yJ7_copyOf_1904c, Cond.static yJ7_copyOf_1904c, Cond.initialized RJ7, Cond.code yJ7_copyOf_1904c cJ7_copyOf_1904c 2 (some (.array (.object "java/lang/Object"))), Cond.methodLink RJ7 86 ⟨"java/lang/Object", "getClass", "()Ljava/lang/Class;"⟩, Cond.selects "[Ljava/lang/Object;" ⟨"java/lang/Object", "getClass", "()Ljava/lang/Class;"⟩ ⟨"java/lang/Object", "getClass", "()Ljava/lang/Class;"⟩, Cond.instanceMethod ⟨"java/lang/Object", "getClass", "()Ljava/lang/Class;"⟩, Cond.native ⟨"java/lang/Object", "getClass", "()Ljava/lang/Class;"⟩, Cond.methodLink RJ7 300 yJ7_copyOf_6403c, Cond.static yJ7_copyOf_6403c, Cond.code yJ7_copyOf_6403c cJ7_copyOf_6403c 4 (some (.array (.object "java/lang/Object"))), Cond.classLink RJ7 110 "[Ljava/lang/Object;", Cond.classLink RJ7 2 "java/lang/Object", Cond.methodLink RJ7 304 Lib.Math.min.name, Cond.static Lib.Math.min.name, Cond.code Lib.Math.min.name Lib.Math.min.code 2 (some .int), Cond.methodLink RJ7 150 arraycopyName, Cond.native arraycopyName, Cond.static arraycopyName, Cond.initialized "java/lang/System", Cond.methodLink RL 28 yX4_sack, Cond.instanceMethod yX4_sack, Cond.selects RX4 yX4_sack yX4_sack]
def wsL_build_r6 : List Cond := [Cond.code yX4_sack cX4_sack 4 none, Cond.methodLink RL 36 yX3_put, Cond.instanceMethod yX3_put, Cond.selects RX3 yX3_put yX3_put, Cond.code yX3_put cX3_put 5 (some .int), Cond.methodLink RX3 62 yX3_needSack, Cond.instanceMethod yX3_needSack, Cond.selects RX3 yX3_needSack yX3_needSack, Cond.code yX3_needSack cX3_needSack 2 (some (.object "FeatherBeds$Sack")), Cond.classLink RX3 210 "java/lang/IndexOutOfBoundsException", Cond.initialized "java/lang/IndexOutOfBoundsException", Cond.classLink RX3 53 "FeatherBeds$Sack", Cond.methodLink RX3 154 yJx4a65c_get_915e3, Cond.instanceMethod yJx4a65c_get_915e3, Cond.selects RJx4a65c yJx4a65c_get_915e3 yJx4a65c_get_915e3, Cond.code yJx4a65c_get_915e3 cJx4a65c_get_915e3 2 (some (.object "java/lang/Object")), Cond.methodLink RJx4a65c 118 yJ15_checkIndex_7cf53, Cond.static yJ15_checkIndex_7cf53, Cond.initialized RJ15, Cond.code yJ15_checkIndex_7cf53 cJ15_checkIndex_7cf53 2 (some .int), Cond.methodLink RJ15 105 yJ3_checkIndex_8e157, Cond.static yJ3_checkIndex_8e157, Cond.initialized RJ3, Cond.code yJ3_checkIndex_8e157 cJ3_checkIndex_8e157 3 (some .int)]
def wsL_build_r7 : List Cond := [Cond.methodLink RJx4a65c 123 yJx4a65c_elementData_915e3, Cond.instanceMethod yJx4a65c_elementData_915e3, Cond.selects RJx4a65c yJx4a65c_elementData_915e3 yJx4a65c_elementData_915e3, Cond.code yJx4a65c_elementData_915e3 cJx4a65c_elementData_915e3 2 (some (.object "java/lang/Object")), Cond.methodLink RX3 70 yX3_needIndex, Cond.static yX3_needIndex, Cond.code yX3_needIndex cX3_needIndex 2 none, Cond.methodLink RX3 74 yX0_of, Cond.instanceMethod yX0_of, Cond.selects RX0 yX0_of yX0_of, Cond.code yX0_of cX0_of 2 (some .int), Cond.methodLink RX3 80 yX0_change, Cond.instanceMethod yX0_change, Cond.selects RX0 yX0_change yX0_change, Cond.code yX0_change cX0_change 3 none, Cond.fieldLink RX0 15 "FeatherBeds$Heap" "all" "I", Cond.methodLink RL 40 yX3_addTick, Cond.instanceMethod yX3_addTick, Cond.selects RX3 yX3_addTick yX3_addTick, Cond.code yX3_addTick cX3_addTick 4 (some .int), Cond.fieldLink RX3 16 "FeatherBeds" "ticks" "Ljava/util/ArrayList;", Cond.classLink RX3 26 RX2, Cond.instantiable RX2 7, Cond.initialized RX2]
def wsL_build_r8 : List Cond := [Cond.methodLink RX3 28 yX2_init, Cond.instanceMethod yX2_init, Cond.code yX2_init cX2_init 5 none, Cond.methodLink RX2 3 objectInit, Cond.fieldLink RX2 9 "FeatherBeds$Tick" "columns" "I", Cond.fieldLink RX2 15 "FeatherBeds$Tick" "rows" "I", Cond.fieldLink RX2 18 "FeatherBeds$Tick" "density" "I", Cond.fieldLink RX2 21 "FeatherBeds$Tick" "squares" "I", Cond.classLink RX2 24 RX0, Cond.fieldLink RX2 26 "FeatherBeds$Tick" "heaps" "[LFeatherBeds$Heap;", Cond.arrayClass .boolean, Cond.fieldLink RX2 31 "FeatherBeds$Tick" "sewn" "[Z", Cond.fieldLink RX2 35 "FeatherBeds$Tick" "partOf" "[I", Cond.methodLink RX2 30 yX0_init, Cond.methodLink RL 43 yX4_tick, Cond.instanceMethod yX4_tick, Cond.selects RX4 yX4_tick yX4_tick, Cond.code yX4_tick cX4_tick 6 none, Cond.instantiable RX5 5, Cond.initialized RX5, Cond.methodLink RX4 32 yX5_init, Cond.instanceMethod yX5_init, Cond.code yX5_init cX5_init 4 none, Cond.methodLink RX5 1 objectInit]
def wsL_build_r9 : List Cond := [Cond.fieldLink RX5 7 "FeatherBedsLaw$Tick" "columns" "I", Cond.fieldLink RX5 13 "FeatherBedsLaw$Tick" "rows" "I", Cond.fieldLink RX5 16 "FeatherBedsLaw$Tick" "density" "I", Cond.classLink RX5 19 "[[I", Cond.fieldLink RX5 21 "FeatherBedsLaw$Tick" "squares" "[[I", Cond.classLink RX5 24 "[[Z", Cond.fieldLink RX5 26 "FeatherBedsLaw$Tick" "sewn" "[[Z"]
def wsL_build : List Cond := .code yL_build cL_build 10 (some (.object "FeatherBedsLaw$Sim")) :: ((wsL_build_r1 ++ (wsL_build_r2 ++ (wsL_build_r3 ++ (wsL_build_r4 ++ (wsL_build_r5 ++ (wsL_build_r6 ++ (wsL_build_r7 ++ (wsL_build_r8 ++ wsL_build_r9)))))))) ++ wsX40 ++ wsX30 ++ wsX10 ++ wsJx4a65c0 ++ wsX00 ++ wsX20 ++ wsX50 ++ (vx_atS RX3 50 "java/lang/IllegalStateException" ["java/lang/RuntimeException", "java/lang/Exception"]).filter goodWord ++ (vx_atS RX3 132 "java/lang/IllegalArgumentException" ["java/lang/RuntimeException", "java/lang/Exception"]).filter goodWord ++ (vx_atS RX3 214 "java/lang/IndexOutOfBoundsException" ["java/lang/RuntimeException", "java/lang/Exception"]).filter goodWord)
def wsL_act_r1 : List Cond := [Cond.fieldLink RL 32 "FeatherBedsLaw$Sim" "sacks" "[[I", Cond.fieldLink RL 47 "FeatherBedsLaw$Sim" "ticks" "[LFeatherBedsLaw$Tick;", Cond.fieldLink RL 51 "FeatherBedsLaw$Tick" "squares" "[[I", Cond.fieldLink RL 60 "FeatherBedsLaw$Sim" "chambers" "[[I", Cond.methodLink RL 63 Lib.Math.min.name, Cond.static Lib.Math.min.name, Cond.initialized "java/lang/Math", Cond.code Lib.Math.min.name Lib.Math.min.code 2 (some .int), Cond.fieldLink RL 71 "FeatherBedsLaw$Sim" "wind" "I", Cond.fieldLink RL 78 "FeatherBedsLaw$Sim" "damp" "[I", Cond.methodLink RL 82 Lib.Math.max.name, Cond.static Lib.Math.max.name, Cond.code Lib.Math.max.name Lib.Math.max.code 2 (some .int), Cond.fieldLink RL 92 "FeatherBedsLaw$Tick" "sewn" "[[Z", Cond.methodLink RL 18 yL_below, Cond.static yL_below, Cond.initialized RL, Cond.code yL_below cL_below 2 (some .int), Cond.constant RL 7 (2147483647), Cond.methodLink RL 56 yX3_blow, Cond.instanceMethod yX3_blow, Cond.selects RX3 yX3_blow yX3_blow, Cond.initialized RX3, Cond.code yX3_blow cX3_blow 7 (some .int)]
def wsL_act_r2 : List Cond := [Cond.fieldLink RX3 21 "FeatherBeds" "chambers" "[LFeatherBeds$Heap;", Cond.fieldLink RX3 35 "FeatherBeds" "wind" "I", Cond.fieldLink RX3 99 "FeatherBeds" "lostInYard" "I", Cond.methodLink RX3 62 yX3_needSack, Cond.instanceMethod yX3_needSack, Cond.selects RX3 yX3_needSack yX3_needSack, Cond.code yX3_needSack cX3_needSack 2 (some (.object "FeatherBeds$Sack")), Cond.classLink RX3 210 "java/lang/IndexOutOfBoundsException", Cond.initialized "java/lang/IndexOutOfBoundsException", Cond.fieldLink RX3 12 "FeatherBeds" "sacks" "Ljava/util/ArrayList;", Cond.classLink RX3 53 "FeatherBeds$Sack", Cond.methodLink RX3 42 yJx4a65c_size_8abf5, Cond.instanceMethod yJx4a65c_size_8abf5, Cond.selects RJx4a65c yJx4a65c_size_8abf5 yJx4a65c_size_8abf5, Cond.initialized RJx4a65c, Cond.code yJx4a65c_size_8abf5 cJx4a65c_size_8abf5 1 (some .int), Cond.fieldLink RJx4a65c 48 "java/util/ArrayList" "size" "I", Cond.methodLink RX3 154 yJx4a65c_get_915e3, Cond.instanceMethod yJx4a65c_get_915e3, Cond.selects RJx4a65c yJx4a65c_get_915e3 yJx4a65c_get_915e3, Cond.code yJx4a65c_get_915e3 cJx4a65c_get_915e3 2 (some (.object "java/lang/Object")), Cond.methodLink RJx4a65c 118 yJ15_checkIndex_7cf53, Cond.static yJ15_checkIndex_7cf53, Cond.initialized RJ15]
def wsL_act_r3 : List Cond := [Cond.code yJ15_checkIndex_7cf53 cJ15_checkIndex_7cf53 2 (some .int), Cond.methodLink RJ15 105 yJ3_checkIndex_8e157, Cond.static yJ3_checkIndex_8e157, Cond.initialized RJ3, Cond.code yJ3_checkIndex_8e157 cJ3_checkIndex_8e157 3 (some .int), Cond.methodLink RJx4a65c 123 yJx4a65c_elementData_915e3, Cond.instanceMethod yJx4a65c_elementData_915e3, Cond.selects RJx4a65c yJx4a65c_elementData_915e3 yJx4a65c_elementData_915e3, Cond.code yJx4a65c_elementData_915e3 cJx4a65c_elementData_915e3 2 (some (.object "java/lang/Object")), Cond.fieldLink RJx4a65c 9 "java/util/ArrayList" "elementData" "[Ljava/lang/Object;", Cond.methodLink RX3 95 yX1_brings, Cond.instanceMethod yX1_brings, Cond.selects RX1 yX1_brings yX1_brings, Cond.initialized RX1, Cond.code yX1_brings cX1_brings 8 (some .int), Cond.fieldLink RX1 12 "FeatherBeds$Sack" "heap" "LFeatherBeds$Heap;", Cond.methodLink RX1 22 yX0_of, Cond.instanceMethod yX0_of, Cond.selects RX0 yX0_of yX0_of, Cond.initialized RX0, Cond.code yX0_of cX0_of 2 (some .int), Cond.fieldLink RX0 9 "FeatherBeds$Heap" "ofSize" "[I", Cond.methodLink RX1 35 yX1_flight, Cond.instanceMethod yX1_flight]
def wsL_act_r4 : List Cond := [Cond.selects RX1 yX1_flight yX1_flight, Cond.code yX1_flight cX1_flight 5 (some .int), Cond.fieldLink RX1 18 "FeatherBeds$Sack" "damp" "I", Cond.methodLink RX1 29 Lib.Math.min.name, Cond.methodLink RX3 80 yX0_change, Cond.instanceMethod yX0_change, Cond.selects RX0 yX0_change yX0_change, Cond.code yX0_change cX0_change 3 none, Cond.fieldLink RX0 15 "FeatherBeds$Heap" "all" "I", Cond.methodLink RX3 74 yX0_of, Cond.methodLink RL 59 yX4_blow, Cond.instanceMethod yX4_blow, Cond.selects RX4 yX4_blow yX4_blow, Cond.initialized RX4, Cond.code yX4_blow cX4_blow 6 (some .int), Cond.fieldLink RX4 18 "FeatherBedsLaw$Sim" "wind" "I", Cond.fieldLink RX4 23 "FeatherBedsLaw$Sim" "chambers" "[[I", Cond.fieldLink RX4 9 "FeatherBedsLaw$Sim" "sacks" "[[I", Cond.fieldLink RX4 45 "FeatherBedsLaw$Sim" "yard" "I", Cond.methodLink RX4 41 yX4_blown, Cond.instanceMethod yX4_blown, Cond.selects RX4 yX4_blown yX4_blown, Cond.code yX4_blown cX4_blown 7 (some (.array (.array .int))), Cond.classLink RX4 22 "[[I"]
def wsL_act_r5 : List Cond := [Cond.arrayClass .int, Cond.fieldLink RX4 15 "FeatherBedsLaw$Sim" "damp" "[I", Cond.methodLink RX4 35 Lib.Math.min.name, Cond.methodLink RX4 48 yX5_all, Cond.static yX5_all, Cond.initialized RX5, Cond.code yX5_all cX5_all 6 (some .int), Cond.methodLink RL 68 yX3_sweep, Cond.instanceMethod yX3_sweep, Cond.selects RX3 yX3_sweep yX3_sweep, Cond.code yX3_sweep cX3_sweep 8 (some .int), Cond.methodLink RX3 106 Lib.Math.min.name, Cond.methodLink RX3 102 yX3_needChamber, Cond.instanceMethod yX3_needChamber, Cond.selects RX3 yX3_needChamber yX3_needChamber, Cond.code yX3_needChamber cX3_needChamber 2 (some (.object "FeatherBeds$Heap")), Cond.methodLink RL 75 yX3_setWind, Cond.instanceMethod yX3_setWind, Cond.selects RX3 yX3_setWind yX3_setWind, Cond.code yX3_setWind cX3_setWind 3 (some .int), Cond.methodLink RX3 39 yX3_needRange, Cond.static yX3_needRange, Cond.code yX3_needRange cX3_needRange 3 none, Cond.classLink RX3 128 "java/lang/IllegalArgumentException"]
def wsL_act_r6 : List Cond := [Cond.initialized "java/lang/IllegalArgumentException", Cond.methodLink RL 85 yX3_dry, Cond.instanceMethod yX3_dry, Cond.selects RX3 yX3_dry yX3_dry, Cond.code yX3_dry cX3_dry 4 (some .int), Cond.methodLink RX3 86 Lib.Math.max.name, Cond.methodLink RL 36 yX3_put, Cond.instanceMethod yX3_put, Cond.selects RX3 yX3_put yX3_put, Cond.code yX3_put cX3_put 5 (some .int), Cond.classLink RX3 46 "java/lang/IllegalStateException", Cond.initialized "java/lang/IllegalStateException", Cond.methodLink RX3 70 yX3_needIndex, Cond.static yX3_needIndex, Cond.code yX3_needIndex cX3_needIndex 2 none, Cond.methodLink RL 88 yX5_has, Cond.instanceMethod yX5_has, Cond.selects RX5 yX5_has yX5_has, Cond.code yX5_has cX5_has 3 (some .boolean), Cond.fieldLink RX5 7 "FeatherBedsLaw$Tick" "columns" "I", Cond.fieldLink RX5 13 "FeatherBedsLaw$Tick" "rows" "I", Cond.methodLink RL 96 yX3_sew, Cond.instanceMethod yX3_sew, Cond.selects RX3 yX3_sew yX3_sew]
def wsL_act_r7 : List Cond := [Cond.code yX3_sew cX3_sew 6 (some .int), Cond.methodLink RX3 118 yX3_needTick, Cond.instanceMethod yX3_needTick, Cond.selects RX3 yX3_needTick yX3_needTick, Cond.code yX3_needTick cX3_needTick 2 (some (.object "FeatherBeds$Tick")), Cond.fieldLink RX3 16 "FeatherBeds" "ticks" "Ljava/util/ArrayList;", Cond.classLink RX3 26 "FeatherBeds$Tick", Cond.methodLink RX3 125 yX2_otherOfPair, Cond.instanceMethod yX2_otherOfPair, Cond.selects RX2 yX2_otherOfPair yX2_otherOfPair, Cond.initialized RX2, Cond.code yX2_otherOfPair cX2_otherOfPair 3 (some .int), Cond.fieldLink RX2 21 "FeatherBeds$Tick" "squares" "I", Cond.fieldLink RX2 9 "FeatherBeds$Tick" "columns" "I", Cond.methodLink RX3 133 yX2_setSeam, Cond.instanceMethod yX2_setSeam, Cond.selects RX2 yX2_setSeam yX2_setSeam, Cond.code yX2_setSeam cX2_setSeam 5 none, Cond.fieldLink RX2 31 "FeatherBeds$Tick" "sewn" "[Z", Cond.methodLink RX3 137 yX2_openPairs, Cond.instanceMethod yX2_openPairs, Cond.selects RX2 yX2_openPairs yX2_openPairs, Cond.code yX2_openPairs cX2_openPairs 4 (some .int), Cond.methodLink RX2 47 yX2_isOpen]
def wsL_act_r8 : List Cond := [Cond.instanceMethod yX2_isOpen, Cond.selects RX2 yX2_isOpen yX2_isOpen, Cond.code yX2_isOpen cX2_isOpen 4 (some .boolean), Cond.methodLink RX2 43 yX2_otherOfPair, Cond.methodLink RL 100 yX5_open, Cond.instanceMethod yX5_open, Cond.selects RX5 yX5_open yX5_open, Cond.code yX5_open cX5_open 4 (some .int), Cond.fieldLink RX5 21 "FeatherBedsLaw$Tick" "squares" "[[I", Cond.methodLink RX5 45 yX5_isOpen, Cond.instanceMethod yX5_isOpen, Cond.selects RX5 yX5_isOpen yX5_isOpen, Cond.code yX5_isOpen cX5_isOpen 3 (some .boolean), Cond.fieldLink RX5 26 "FeatherBedsLaw$Tick" "sewn" "[[Z", Cond.methodLink RX5 41 yX5_has, Cond.methodLink RL 104 yX3_shift, Cond.instanceMethod yX3_shift, Cond.selects RX3 yX3_shift yX3_shift, Cond.code yX3_shift cX3_shift 8 (some .int), Cond.methodLink RX3 140 yX3_needSquare, Cond.static yX3_needSquare, Cond.code yX3_needSquare cX3_needSquare 2 (some (.object "FeatherBeds$Heap")), Cond.methodLink RX3 144 yX3_moveByHand, Cond.static yX3_moveByHand]
def wsL_act_r9 : List Cond := [Cond.code yX3_moveByHand cX3_moveByHand 3 (some .int), Cond.methodLink RX3 229 yX0_moveTo, Cond.instanceMethod yX0_moveTo, Cond.selects RX0 yX0_moveTo yX0_moveTo, Cond.code yX0_moveTo cX0_moveTo 7 (some .int), Cond.methodLink RX0 27 Lib.Math.min.name, Cond.methodLink RX0 19 yX0_of, Cond.methodLink RX0 23 yX0_change, Cond.methodLink RL 108 yX4_take, Cond.static yX4_take, Cond.code yX4_take cX4_take 7 (some .int), Cond.methodLink RL 112 yX5_all, Cond.methodLink RL 116 yX3_fill, Cond.instanceMethod yX3_fill, Cond.selects RX3 yX3_fill yX3_fill, Cond.code yX3_fill cX3_fill 7 (some .int)]
def wsL_act : List Cond := .code yL_act cL_act 15 (some .boolean) :: ((wsL_act_r1 ++ (wsL_act_r2 ++ (wsL_act_r3 ++ (wsL_act_r4 ++ (wsL_act_r5 ++ (wsL_act_r6 ++ (wsL_act_r7 ++ (wsL_act_r8 ++ wsL_act_r9)))))))) ++ wsX40 ++ wsX50 ++ wsX30 ++ wsX10 ++ wsJx4a65c0 ++ wsX00 ++ wsX20 ++ (vx_atS RX3 214 "java/lang/IndexOutOfBoundsException" ["java/lang/RuntimeException", "java/lang/Exception"]).filter goodWord ++ (vx_atS RX3 132 "java/lang/IllegalArgumentException" ["java/lang/RuntimeException", "java/lang/Exception"]).filter goodWord ++ (vx_atS RX3 50 "java/lang/IllegalStateException" ["java/lang/RuntimeException", "java/lang/Exception"]).filter goodWord)
def wsL_coldest : List Cond := .code yL_coldest cL_coldest 3 (some .int) :: ([])
def wsL_law0_r1 : List Cond := [Cond.classLink RL 23 RX3, Cond.instantiable RX3 8, Cond.initialized RX3, Cond.fieldLink RL 47 "FeatherBedsLaw$Sim" "ticks" "[LFeatherBedsLaw$Tick;", Cond.fieldLink RL 51 "FeatherBedsLaw$Tick" "squares" "[[I", Cond.classLink RL 131 "[[I", Cond.arrayClass .int, Cond.methodLink RL 82 Lib.Math.max.name, Cond.static Lib.Math.max.name, Cond.initialized "java/lang/Math", Cond.code Lib.Math.max.name Lib.Math.max.code 2 (some .int), Cond.fieldLink RL 32 "FeatherBedsLaw$Sim" "sacks" "[[I", Cond.methodLink RL 119 yX3_init, Cond.instanceMethod yX3_init, Cond.code yX3_init cX3_init 2 none, Cond.methodLink RX3 3 objectInit, Cond.instanceMethod objectInit, Cond.code objectInit ⟨#[0xb1]⟩ 1 none, Cond.classLink RX3 9 RJx4a65c, Cond.instantiable RJx4a65c 3, Cond.initialized RJx4a65c, Cond.fieldLink RX3 12 "FeatherBeds" "sacks" "Ljava/util/ArrayList;", Cond.fieldLink RX3 16 "FeatherBeds" "ticks" "Ljava/util/ArrayList;", Cond.classLink RX3 19 RX0]
def wsL_law0_r2 : List Cond := [Cond.fieldLink RX3 21 "FeatherBeds" "chambers" "[LFeatherBeds$Heap;", Cond.instantiable RX0 2, Cond.initialized RX0, Cond.classLink RX3 26 RX2, Cond.instantiable RX2 7, Cond.initialized RX2, Cond.fieldLink RX3 31 "FeatherBeds" "trial" "LFeatherBeds$Tick;", Cond.fieldLink RX3 35 "FeatherBeds" "wind" "I", Cond.methodLink RX3 11 yJx4a65c_init_da8c8, Cond.instanceMethod yJx4a65c_init_da8c8, Cond.code yJx4a65c_init_da8c8 cJx4a65c_init_da8c8 1 none, Cond.fieldLink RJx4a65c 39 "java/util/ArrayList" "DEFAULTCAPACITY_EMPTY_ELEMENTDATA" "[Ljava/lang/Object;", Cond.fieldLink RJx4a65c 9 "java/util/ArrayList" "elementData" "[Ljava/lang/Object;", Cond.methodLink RJx4a65c 1 yJxc12de_init_da8c8, Cond.instanceMethod yJxc12de_init_da8c8, Cond.initialized RJxc12de, Cond.code yJxc12de_init_da8c8 cJxc12de_init_da8c8 1 none, Cond.fieldLink RJxc12de 7 "java/util/AbstractList" "modCount" "I", Cond.methodLink RJxc12de 1 yJxa1e45_init_da8c8, Cond.instanceMethod yJxa1e45_init_da8c8, Cond.initialized RJxa1e45, Cond.code yJxa1e45_init_da8c8 cJxa1e45_init_da8c8 1 none, Cond.methodLink RJxa1e45 1 objectInit, Cond.methodLink RX3 25 yX0_init]
def wsL_law0_r3 : List Cond := [Cond.instanceMethod yX0_init, Cond.code yX0_init cX0_init 1 none, Cond.methodLink RX0 3 objectInit, Cond.fieldLink RX0 9 "FeatherBeds$Heap" "ofSize" "[I", Cond.methodLink RX3 28 yX2_init, Cond.instanceMethod yX2_init, Cond.code yX2_init cX2_init 5 none, Cond.methodLink RX2 3 objectInit, Cond.fieldLink RX2 9 "FeatherBeds$Tick" "columns" "I", Cond.fieldLink RX2 15 "FeatherBeds$Tick" "rows" "I", Cond.fieldLink RX2 18 "FeatherBeds$Tick" "density" "I", Cond.fieldLink RX2 21 "FeatherBeds$Tick" "squares" "I", Cond.classLink RX2 24 RX0, Cond.fieldLink RX2 26 "FeatherBeds$Tick" "heaps" "[LFeatherBeds$Heap;", Cond.arrayClass .boolean, Cond.fieldLink RX2 31 "FeatherBeds$Tick" "sewn" "[Z", Cond.fieldLink RX2 35 "FeatherBeds$Tick" "partOf" "[I", Cond.methodLink RX2 30 yX0_init, Cond.methodLink RL 120 yL_build, Cond.static yL_build, Cond.initialized RL, Cond.code yL_build cL_build 10 (some (.object "FeatherBedsLaw$Sim")), Cond.classLink RL 9 RX4, Cond.instantiable RX4 8]
def wsL_law0_r4 : List Cond := [Cond.initialized RX4, Cond.instanceMethod yX4_init, Cond.code yX4_init cX4_init 1 none, Cond.methodLink RX4 1 objectInit, Cond.classLink RX4 7 "[I", Cond.fieldLink RX4 9 "FeatherBedsLaw$Sim" "sacks" "[[I", Cond.fieldLink RX4 15 "FeatherBedsLaw$Sim" "damp" "[I", Cond.fieldLink RX4 18 "FeatherBedsLaw$Sim" "wind" "I", Cond.classLink RX4 22 "[[I", Cond.fieldLink RX4 23 "FeatherBedsLaw$Sim" "chambers" "[[I", Cond.classLink RX4 26 RX5, Cond.fieldLink RX4 28 "FeatherBedsLaw$Sim" "ticks" "[LFeatherBedsLaw$Tick;", Cond.methodLink RL 12 yL_cell, Cond.static yL_cell, Cond.code yL_cell cL_cell 2 (some .int), Cond.constant RL 8 (790386105), Cond.methodLink RL 18 yL_below, Cond.static yL_below, Cond.code yL_below cL_below 2 (some .int), Cond.constant RL 7 (2147483647), Cond.methodLink RL 22 yX3_addSack, Cond.instanceMethod yX3_addSack, Cond.selects RX3 yX3_addSack yX3_addSack, Cond.code yX3_addSack cX3_addSack 2 (some .int)]
def wsL_law0_r5 : List Cond := [Cond.classLink RX3 46 "java/lang/IllegalStateException", Cond.initialized "java/lang/IllegalStateException", Cond.classLink RX3 53 RX1, Cond.instantiable RX1 2, Cond.initialized RX1, Cond.methodLink RX3 39 yX3_needRange, Cond.static yX3_needRange, Cond.code yX3_needRange cX3_needRange 3 none, Cond.classLink RX3 128 "java/lang/IllegalArgumentException", Cond.initialized "java/lang/IllegalArgumentException", Cond.methodLink RX3 42 yJx4a65c_size_8abf5, Cond.instanceMethod yJx4a65c_size_8abf5, Cond.selects RJx4a65c yJx4a65c_size_8abf5 yJx4a65c_size_8abf5, Cond.code yJx4a65c_size_8abf5 cJx4a65c_size_8abf5 1 (some .int), Cond.fieldLink RJx4a65c 48 "java/util/ArrayList" "size" "I", Cond.methodLink RX3 55 yX1_init, Cond.instanceMethod yX1_init, Cond.code yX1_init cX1_init 2 none, Cond.methodLink RX1 3 objectInit, Cond.classLink RX1 9 RX0, Cond.fieldLink RX1 12 "FeatherBeds$Sack" "heap" "LFeatherBeds$Heap;", Cond.fieldLink RX1 18 "FeatherBeds$Sack" "damp" "I", Cond.methodLink RX1 11 yX0_init, Cond.methodLink RX3 58 yJx4a65c_add_9ea2d]
def wsL_law0_r6 : List Cond := [Cond.instanceMethod yJx4a65c_add_9ea2d, Cond.selects RJx4a65c yJx4a65c_add_9ea2d yJx4a65c_add_9ea2d, Cond.code yJx4a65c_add_9ea2d cJx4a65c_add_9ea2d 2 (some .boolean), Cond.fieldLink RJx4a65c 63 "java/util/ArrayList" "modCount" "I", Cond.sameField "java/util/ArrayList" "java/util/AbstractList" "modCount" "I", Cond.methodLink RJx4a65c 131 yJx4a65c_add_72be8, Cond.instanceMethod yJx4a65c_add_72be8, Cond.selects RJx4a65c yJx4a65c_add_72be8 yJx4a65c_add_72be8, Cond.code yJx4a65c_add_72be8 cJx4a65c_add_72be8 4 none, Cond.methodLink RJx4a65c 129 yJx4a65c_grow_d5877, Cond.instanceMethod yJx4a65c_grow_d5877, Cond.selects RJx4a65c yJx4a65c_grow_d5877 yJx4a65c_grow_d5877, Cond.code yJx4a65c_grow_d5877 cJx4a65c_grow_d5877 1 (some (.array (.object "java/lang/Object"))), Cond.methodLink RJx4a65c 69 yJx4a65c_grow_92f84, Cond.instanceMethod yJx4a65c_grow_92f84, Cond.selects RJx4a65c yJx4a65c_grow_92f84 yJx4a65c_grow_92f84, Cond.code yJx4a65c_grow_92f84 cJx4a65c_grow_92f84 4 (some (.array (.object "java/lang/Object"))), Cond.methodLink RJx4a65c 79 Lib.Math.max.name, Cond.classLink RJx4a65c 7 "java/lang/Object", Cond.methodLink RJx4a65c 73 yJ8_newLength_cabcc, Cond.static yJ8_newLength_cabcc, Cond.initialized RJ8, Cond.code yJ8_newLength_cabcc cJ8_newLength_cabcc 4 (some .int), Cond.methodLink RJ8 194 Lib.Math.max.name]
def wsL_law0_r7 : List Cond := [Cond.constant RJ8 200 (2147483639), Cond.methodLink RJ8 201 yJ8_hugeLength_7cf53, Cond.static yJ8_hugeLength_7cf53, Cond.code yJ8_hugeLength_7cf53 cJ8_hugeLength_7cf53 3 (some .int), Cond.methodLink RJx4a65c 66 yJ7_copyOf_1904c, Cond.static yJ7_copyOf_1904c, Cond.initialized RJ7, Cond.code yJ7_copyOf_1904c cJ7_copyOf_1904c 2 (some (.array (.object "java/lang/Object"))), Cond.methodLink RJ7 86 ⟨"java/lang/Object", "getClass", "()Ljava/lang/Class;"⟩, Cond.selects "[Ljava/lang/Object;" ⟨"java/lang/Object", "getClass", "()Ljava/lang/Class;"⟩ ⟨"java/lang/Object", "getClass", "()Ljava/lang/Class;"⟩, Cond.instanceMethod ⟨"java/lang/Object", "getClass", "()Ljava/lang/Class;"⟩, Cond.native ⟨"java/lang/Object", "getClass", "()Ljava/lang/Class;"⟩, Cond.methodLink RJ7 300 yJ7_copyOf_6403c, Cond.static yJ7_copyOf_6403c, Cond.code yJ7_copyOf_6403c cJ7_copyOf_6403c 4 (some (.array (.object "java/lang/Object"))), Cond.classLink RJ7 110 "[Ljava/lang/Object;", Cond.classLink RJ7 2 "java/lang/Object", Cond.methodLink RJ7 304 Lib.Math.min.name, Cond.static Lib.Math.min.name, Cond.code Lib.Math.min.name Lib.Math.min.code 2 (some .int), Cond.methodLink RJ7 150 arraycopyName, Cond.native arraycopyName, Cond.static arraycopyName, Cond.initialized "java/lang/System"]
def wsL_law0_r8 : List Cond := [Cond.methodLink RL 28 yX4_sack, Cond.instanceMethod yX4_sack, Cond.selects RX4 yX4_sack yX4_sack, Cond.code yX4_sack cX4_sack 4 none, Cond.methodLink RL 36 yX3_put, Cond.instanceMethod yX3_put, Cond.selects RX3 yX3_put yX3_put, Cond.code yX3_put cX3_put 5 (some .int), Cond.methodLink RX3 62 yX3_needSack, Cond.instanceMethod yX3_needSack, Cond.selects RX3 yX3_needSack yX3_needSack, Cond.code yX3_needSack cX3_needSack 2 (some (.object "FeatherBeds$Sack")), Cond.classLink RX3 210 "java/lang/IndexOutOfBoundsException", Cond.initialized "java/lang/IndexOutOfBoundsException", Cond.classLink RX3 53 "FeatherBeds$Sack", Cond.methodLink RX3 154 yJx4a65c_get_915e3, Cond.instanceMethod yJx4a65c_get_915e3, Cond.selects RJx4a65c yJx4a65c_get_915e3 yJx4a65c_get_915e3, Cond.code yJx4a65c_get_915e3 cJx4a65c_get_915e3 2 (some (.object "java/lang/Object")), Cond.methodLink RJx4a65c 118 yJ15_checkIndex_7cf53, Cond.static yJ15_checkIndex_7cf53, Cond.initialized RJ15, Cond.code yJ15_checkIndex_7cf53 cJ15_checkIndex_7cf53 2 (some .int), Cond.methodLink RJ15 105 yJ3_checkIndex_8e157]
def wsL_law0_r9 : List Cond := [Cond.static yJ3_checkIndex_8e157, Cond.initialized RJ3, Cond.code yJ3_checkIndex_8e157 cJ3_checkIndex_8e157 3 (some .int), Cond.methodLink RJx4a65c 123 yJx4a65c_elementData_915e3, Cond.instanceMethod yJx4a65c_elementData_915e3, Cond.selects RJx4a65c yJx4a65c_elementData_915e3 yJx4a65c_elementData_915e3, Cond.code yJx4a65c_elementData_915e3 cJx4a65c_elementData_915e3 2 (some (.object "java/lang/Object")), Cond.methodLink RX3 70 yX3_needIndex, Cond.static yX3_needIndex, Cond.code yX3_needIndex cX3_needIndex 2 none, Cond.methodLink RX3 74 yX0_of, Cond.instanceMethod yX0_of, Cond.selects RX0 yX0_of yX0_of, Cond.code yX0_of cX0_of 2 (some .int), Cond.methodLink RX3 80 yX0_change, Cond.instanceMethod yX0_change, Cond.selects RX0 yX0_change yX0_change, Cond.code yX0_change cX0_change 3 none, Cond.fieldLink RX0 15 "FeatherBeds$Heap" "all" "I", Cond.methodLink RL 40 yX3_addTick, Cond.instanceMethod yX3_addTick, Cond.selects RX3 yX3_addTick yX3_addTick, Cond.code yX3_addTick cX3_addTick 4 (some .int), Cond.methodLink RL 43 yX4_tick]
def wsL_law0_r10 : List Cond := [Cond.instanceMethod yX4_tick, Cond.selects RX4 yX4_tick yX4_tick, Cond.code yX4_tick cX4_tick 6 none, Cond.instantiable RX5 5, Cond.initialized RX5, Cond.methodLink RX4 32 yX5_init, Cond.instanceMethod yX5_init, Cond.code yX5_init cX5_init 4 none, Cond.methodLink RX5 1 objectInit, Cond.fieldLink RX5 7 "FeatherBedsLaw$Tick" "columns" "I", Cond.fieldLink RX5 13 "FeatherBedsLaw$Tick" "rows" "I", Cond.fieldLink RX5 16 "FeatherBedsLaw$Tick" "density" "I", Cond.classLink RX5 19 "[[I", Cond.fieldLink RX5 21 "FeatherBedsLaw$Tick" "squares" "[[I", Cond.classLink RX5 24 "[[Z", Cond.fieldLink RX5 26 "FeatherBedsLaw$Tick" "sewn" "[[Z", Cond.methodLink RL 124 yX3_count, Cond.instanceMethod yX3_count, Cond.selects RX3 yX3_count yX3_count, Cond.code yX3_count cX3_count 2 (some .int), Cond.methodLink RX3 167 yX3_countTells, Cond.instanceMethod yX3_countTells, Cond.selects RX3 yX3_countTells yX3_countTells, Cond.code yX3_countTells cX3_countTells 2 (some .int)]
def wsL_law0_r11 : List Cond := [Cond.fieldLink RX3 161 "FeatherBeds" "nightsGone" "I", Cond.fieldLink RX3 99 "FeatherBeds" "lostInYard" "I", Cond.fieldLink RX3 164 "FeatherBeds" "lostByPricking" "I", Cond.methodLink RX3 194 yX3_inSacks, Cond.instanceMethod yX3_inSacks, Cond.selects RX3 yX3_inSacks yX3_inSacks, Cond.code yX3_inSacks cX3_inSacks 3 (some .int), Cond.methodLink RX3 197 yX3_inChambers, Cond.instanceMethod yX3_inChambers, Cond.selects RX3 yX3_inChambers yX3_inChambers, Cond.code yX3_inChambers cX3_inChambers 3 (some .int), Cond.methodLink RX3 191 yX3_inTicks, Cond.instanceMethod yX3_inTicks, Cond.selects RX3 yX3_inTicks yX3_inTicks, Cond.code yX3_inTicks cX3_inTicks 3 (some .int), Cond.classLink RX3 26 "FeatherBeds$Tick", Cond.methodLink RX3 174 yX2_feathers, Cond.instanceMethod yX2_feathers, Cond.selects RX2 yX2_feathers yX2_feathers, Cond.code yX2_feathers cX2_feathers 3 (some .int), Cond.methodLink RL 127 yL_act, Cond.static yL_act, Cond.code yL_act cL_act 15 (some .boolean), Cond.fieldLink RL 60 "FeatherBedsLaw$Sim" "chambers" "[[I"]
def wsL_law0_r12 : List Cond := [Cond.methodLink RL 63 Lib.Math.min.name, Cond.fieldLink RL 71 "FeatherBedsLaw$Sim" "wind" "I", Cond.fieldLink RL 78 "FeatherBedsLaw$Sim" "damp" "[I", Cond.fieldLink RL 92 "FeatherBedsLaw$Tick" "sewn" "[[Z", Cond.methodLink RL 56 yX3_blow, Cond.instanceMethod yX3_blow, Cond.selects RX3 yX3_blow yX3_blow, Cond.code yX3_blow cX3_blow 7 (some .int), Cond.methodLink RX3 95 yX1_brings, Cond.instanceMethod yX1_brings, Cond.selects RX1 yX1_brings yX1_brings, Cond.code yX1_brings cX1_brings 8 (some .int), Cond.methodLink RX1 22 yX0_of, Cond.methodLink RX1 35 yX1_flight, Cond.instanceMethod yX1_flight, Cond.selects RX1 yX1_flight yX1_flight, Cond.code yX1_flight cX1_flight 5 (some .int), Cond.methodLink RX1 29 Lib.Math.min.name, Cond.methodLink RL 59 yX4_blow, Cond.instanceMethod yX4_blow, Cond.selects RX4 yX4_blow yX4_blow, Cond.code yX4_blow cX4_blow 6 (some .int), Cond.fieldLink RX4 45 "FeatherBedsLaw$Sim" "yard" "I", Cond.methodLink RX4 41 yX4_blown]
def wsL_law0_r13 : List Cond := [Cond.instanceMethod yX4_blown, Cond.selects RX4 yX4_blown yX4_blown, Cond.code yX4_blown cX4_blown 7 (some (.array (.array .int))), Cond.methodLink RX4 35 Lib.Math.min.name, Cond.methodLink RX4 48 yX5_all, Cond.static yX5_all, Cond.code yX5_all cX5_all 6 (some .int), Cond.methodLink RL 68 yX3_sweep, Cond.instanceMethod yX3_sweep, Cond.selects RX3 yX3_sweep yX3_sweep, Cond.code yX3_sweep cX3_sweep 8 (some .int), Cond.methodLink RX3 106 Lib.Math.min.name, Cond.methodLink RX3 102 yX3_needChamber, Cond.instanceMethod yX3_needChamber, Cond.selects RX3 yX3_needChamber yX3_needChamber, Cond.code yX3_needChamber cX3_needChamber 2 (some (.object "FeatherBeds$Heap")), Cond.methodLink RL 75 yX3_setWind, Cond.instanceMethod yX3_setWind, Cond.selects RX3 yX3_setWind yX3_setWind, Cond.code yX3_setWind cX3_setWind 3 (some .int), Cond.methodLink RL 85 yX3_dry, Cond.instanceMethod yX3_dry, Cond.selects RX3 yX3_dry yX3_dry, Cond.code yX3_dry cX3_dry 4 (some .int)]
def wsL_law0_r14 : List Cond := [Cond.methodLink RX3 86 Lib.Math.max.name, Cond.methodLink RL 88 yX5_has, Cond.instanceMethod yX5_has, Cond.selects RX5 yX5_has yX5_has, Cond.code yX5_has cX5_has 3 (some .boolean), Cond.methodLink RL 96 yX3_sew, Cond.instanceMethod yX3_sew, Cond.selects RX3 yX3_sew yX3_sew, Cond.code yX3_sew cX3_sew 6 (some .int), Cond.methodLink RX3 118 yX3_needTick, Cond.instanceMethod yX3_needTick, Cond.selects RX3 yX3_needTick yX3_needTick, Cond.code yX3_needTick cX3_needTick 2 (some (.object "FeatherBeds$Tick")), Cond.methodLink RX3 125 yX2_otherOfPair, Cond.instanceMethod yX2_otherOfPair, Cond.selects RX2 yX2_otherOfPair yX2_otherOfPair, Cond.code yX2_otherOfPair cX2_otherOfPair 3 (some .int), Cond.methodLink RX3 133 yX2_setSeam, Cond.instanceMethod yX2_setSeam, Cond.selects RX2 yX2_setSeam yX2_setSeam, Cond.code yX2_setSeam cX2_setSeam 5 none, Cond.methodLink RX3 137 yX2_openPairs, Cond.instanceMethod yX2_openPairs, Cond.selects RX2 yX2_openPairs yX2_openPairs]
def wsL_law0_r15 : List Cond := [Cond.code yX2_openPairs cX2_openPairs 4 (some .int), Cond.methodLink RX2 47 yX2_isOpen, Cond.instanceMethod yX2_isOpen, Cond.selects RX2 yX2_isOpen yX2_isOpen, Cond.code yX2_isOpen cX2_isOpen 4 (some .boolean), Cond.methodLink RX2 43 yX2_otherOfPair, Cond.methodLink RL 100 yX5_open, Cond.instanceMethod yX5_open, Cond.selects RX5 yX5_open yX5_open, Cond.code yX5_open cX5_open 4 (some .int), Cond.methodLink RX5 45 yX5_isOpen, Cond.instanceMethod yX5_isOpen, Cond.selects RX5 yX5_isOpen yX5_isOpen, Cond.code yX5_isOpen cX5_isOpen 3 (some .boolean), Cond.methodLink RX5 41 yX5_has, Cond.methodLink RL 104 yX3_shift, Cond.instanceMethod yX3_shift, Cond.selects RX3 yX3_shift yX3_shift, Cond.code yX3_shift cX3_shift 8 (some .int), Cond.methodLink RX3 140 yX3_needSquare, Cond.static yX3_needSquare, Cond.code yX3_needSquare cX3_needSquare 2 (some (.object "FeatherBeds$Heap")), Cond.methodLink RX3 144 yX3_moveByHand, Cond.static yX3_moveByHand]
def wsL_law0_r16 : List Cond := [Cond.code yX3_moveByHand cX3_moveByHand 3 (some .int), Cond.methodLink RX3 229 yX0_moveTo, Cond.instanceMethod yX0_moveTo, Cond.selects RX0 yX0_moveTo yX0_moveTo, Cond.code yX0_moveTo cX0_moveTo 7 (some .int), Cond.methodLink RX0 27 Lib.Math.min.name, Cond.methodLink RX0 19 yX0_of, Cond.methodLink RX0 23 yX0_change, Cond.methodLink RL 108 yX4_take, Cond.static yX4_take, Cond.code yX4_take cX4_take 7 (some .int), Cond.methodLink RL 112 yX5_all, Cond.methodLink RL 116 yX3_fill, Cond.instanceMethod yX3_fill, Cond.selects RX3 yX3_fill yX3_fill, Cond.code yX3_fill cX3_fill 7 (some .int), Cond.methodLink RL 132 yX3_square, Cond.instanceMethod yX3_square, Cond.selects RX3 yX3_square yX3_square, Cond.code yX3_square cX3_square 5 (some .int), Cond.methodLink RX3 150 yX2_squareTells, Cond.instanceMethod yX2_squareTells, Cond.selects RX2 yX2_squareTells yX2_squareTells, Cond.code yX2_squareTells cX2_squareTells 3 (some .int)]
def wsL_law0_r17 : List Cond := [Cond.methodLink RX2 83 yX0_of, Cond.methodLink RX2 57 yX0_warmth, Cond.instanceMethod yX0_warmth, Cond.selects RX0 yX0_warmth yX0_warmth, Cond.code yX0_warmth cX0_warmth 3 (some .int), Cond.methodLink RL 135 yX3_foresee, Cond.instanceMethod yX3_foresee, Cond.selects RX3 yX3_foresee yX3_foresee, Cond.code yX3_foresee cX3_foresee 5 (some .int), Cond.methodLink RX3 170 yX2_become, Cond.instanceMethod yX2_become, Cond.selects RX2 yX2_become yX2_become, Cond.code yX2_become cX2_become 3 none, Cond.methodLink RX2 39 yX0_become, Cond.instanceMethod yX0_become, Cond.selects RX0 yX0_become yX0_become, Cond.code yX0_become cX0_become 3 none, Cond.methodLink RX3 158 yX2_sleep, Cond.instanceMethod yX2_sleep, Cond.selects RX2 yX2_sleep yX2_sleep, Cond.code yX2_sleep cX2_sleep 6 (some .int), Cond.methodLink RX2 86 yX2_prickInAll, Cond.instanceMethod yX2_prickInAll, Cond.selects RX2 yX2_prickInAll yX2_prickInAll]
def wsL_law0_r18 : List Cond := [Cond.code yX2_prickInAll cX2_prickInAll 3 (some .int), Cond.methodLink RX2 92 yX0_prick, Cond.instanceMethod yX0_prick, Cond.selects RX0 yX0_prick yX0_prick, Cond.code yX0_prick cX0_prick 6 (some .int), Cond.methodLink RX2 89 yX2_shiftInAll, Cond.instanceMethod yX2_shiftInAll, Cond.selects RX2 yX2_shiftInAll yX2_shiftInAll, Cond.code yX2_shiftInAll cX2_shiftInAll 4 (some .int), Cond.methodLink RX2 95 yX2_shiftBetween, Cond.instanceMethod yX2_shiftBetween, Cond.selects RX2 yX2_shiftBetween yX2_shiftBetween, Cond.code yX2_shiftBetween cX2_shiftBetween 4 (some .int), Cond.methodLink RX2 98 yX0_moveTo, Cond.methodLink RX3 177 yX2_coldestWarmth, Cond.instanceMethod yX2_coldestWarmth, Cond.selects RX2 yX2_coldestWarmth yX2_coldestWarmth, Cond.code yX2_coldestWarmth cX2_coldestWarmth 1 (some .int), Cond.methodLink RX2 65 yX2_coldestSquare, Cond.instanceMethod yX2_coldestSquare, Cond.selects RX2 yX2_coldestSquare yX2_coldestSquare, Cond.code yX2_coldestSquare cX2_coldestSquare 3 (some .int), Cond.methodLink RX2 61 yX2_warmthAt, Cond.instanceMethod yX2_warmthAt]
def wsL_law0_r19 : List Cond := [Cond.selects RX2 yX2_warmthAt yX2_warmthAt, Cond.code yX2_warmthAt cX2_warmthAt 2 (some .int), Cond.methodLink RX3 180 yX2_coldestSquare, Cond.methodLink RL 138 yX3_lasts, Cond.instanceMethod yX3_lasts, Cond.selects RX3 yX3_lasts yX3_lasts, Cond.code yX3_lasts cX3_lasts 5 (some .int), Cond.methodLink RL 141 yX3_pass, Cond.instanceMethod yX3_pass, Cond.selects RX3 yX3_pass yX3_pass, Cond.code yX3_pass cX3_pass 4 (some .int), Cond.methodLink RL 144 yX4_pass, Cond.instanceMethod yX4_pass, Cond.selects RX4 yX4_pass yX4_pass, Cond.code yX4_pass cX4_pass 6 (some .int), Cond.fieldLink RX4 56 "FeatherBedsLaw$Sim" "nights" "I", Cond.fieldLink RX4 59 "FeatherBedsLaw$Sim" "pricked" "I", Cond.methodLink RX4 52 yX5_night, Cond.instanceMethod yX5_night, Cond.selects RX5 yX5_night yX5_night, Cond.code yX5_night cX5_night 9 (some .int), Cond.methodLink RX5 63 Lib.Math.min.name, Cond.methodLink RX5 52 yX5_to, Cond.instanceMethod yX5_to]
def wsL_law0_r20 : List Cond := [Cond.selects RX5 yX5_to yX5_to, Cond.code yX5_to cX5_to 3 (some .int), Cond.methodLink RX5 60 yX5_all, Cond.methodLink RL 146 yX3_tick, Cond.instanceMethod yX3_tick, Cond.selects RX3 yX3_tick yX3_tick, Cond.code yX3_tick cX3_tick 4 (some .int), Cond.methodLink RX3 153 yX2_tells, Cond.instanceMethod yX2_tells, Cond.selects RX2 yX2_tells yX2_tells, Cond.code yX2_tells cX2_tells 2 (some .int), Cond.methodLink RX2 68 yX2_feathers, Cond.methodLink RX2 71 yX2_warmthInAll, Cond.instanceMethod yX2_warmthInAll, Cond.selects RX2 yX2_warmthInAll yX2_warmthInAll, Cond.code yX2_warmthInAll cX2_warmthInAll 3 (some .int), Cond.methodLink RX2 74 yX2_coldestWarmth, Cond.methodLink RX2 77 yX2_openPairs, Cond.methodLink RX2 80 yX2_parts, Cond.instanceMethod yX2_parts, Cond.selects RX2 yX2_parts yX2_parts, Cond.code yX2_parts cX2_parts 4 (some .int), Cond.methodLink RX2 51 yX2_joinParts, Cond.instanceMethod yX2_joinParts]
def wsL_law0_r21 : List Cond := [Cond.selects RX2 yX2_joinParts yX2_joinParts, Cond.code yX2_joinParts cX2_joinParts 6 (some .boolean), Cond.methodLink RL 148 yL_coldest, Cond.static yL_coldest, Cond.code yL_coldest cL_coldest 3 (some .int), Cond.methodLink RL 152 yX3_sack, Cond.instanceMethod yX3_sack, Cond.selects RX3 yX3_sack yX3_sack, Cond.code yX3_sack cX3_sack 4 (some .int), Cond.methodLink RX3 92 yX1_tells, Cond.instanceMethod yX1_tells, Cond.selects RX1 yX1_tells yX1_tells, Cond.code yX1_tells cX1_tells 2 (some .int)]
def wsL_law0 : List Cond := (wsL_law0_r1 ++ (wsL_law0_r2 ++ (wsL_law0_r3 ++ (wsL_law0_r4 ++ (wsL_law0_r5 ++ (wsL_law0_r6 ++ (wsL_law0_r7 ++ (wsL_law0_r8 ++ (wsL_law0_r9 ++ (wsL_law0_r10 ++ (wsL_law0_r11 ++ (wsL_law0_r12 ++ (wsL_law0_r13 ++ (wsL_law0_r14 ++ (wsL_law0_r15 ++ (wsL_law0_r16 ++ (wsL_law0_r17 ++ (wsL_law0_r18 ++ (wsL_law0_r19 ++ (wsL_law0_r20 ++ wsL_law0_r21)))))))))))))))))))) ++ wsX30 ++ wsX40 ++ wsX50 ++ wsJx4a65c0 ++ wsX00 ++ wsX20 ++ wsX10 ++ ([] : List Cond)
def wsL_law : List Cond := wsL_law0 ++ (vx_atS RX3 50 "java/lang/IllegalStateException" ["java/lang/RuntimeException", "java/lang/Exception"]).filter goodWord ++ (vx_atS RX3 132 "java/lang/IllegalArgumentException" ["java/lang/RuntimeException", "java/lang/Exception"]).filter goodWord ++ (vx_atS RX3 214 "java/lang/IndexOutOfBoundsException" ["java/lang/RuntimeException", "java/lang/Exception"]).filter goodWord
end
section
set_option maxRecDepth 20000 in
theorem wsL_g_wsL_law0_r1_0 : ∀ w ∈ ([Cond.classLink RL 23 RX3, Cond.instantiable RX3 8, Cond.initialized RX3, Cond.fieldLink RL 47 "FeatherBedsLaw$Sim" "ticks" "[LFeatherBedsLaw$Tick;", Cond.fieldLink RL 51 "FeatherBedsLaw$Tick" "squares" "[[I", Cond.classLink RL 131 "[[I"] : List Cond), w ∈ lw_tbl := by decide +kernel
set_option maxRecDepth 20000 in
theorem wsL_g_wsL_law0_r1_1 : ∀ w ∈ ([Cond.arrayClass .int, Cond.methodLink RL 82 Lib.Math.max.name, Cond.static Lib.Math.max.name, Cond.initialized "java/lang/Math", Cond.code Lib.Math.max.name Lib.Math.max.code 2 (some .int), Cond.fieldLink RL 32 "FeatherBedsLaw$Sim" "sacks" "[[I"] : List Cond), w ∈ lw_tbl := by decide +kernel
set_option maxRecDepth 20000 in
theorem wsL_g_wsL_law0_r1_2 : ∀ w ∈ ([Cond.methodLink RL 119 yX3_init, Cond.instanceMethod yX3_init, Cond.code yX3_init cX3_init 2 none, Cond.methodLink RX3 3 objectInit, Cond.instanceMethod objectInit, Cond.code objectInit ⟨#[0xb1]⟩ 1 none] : List Cond), w ∈ lw_tbl := by decide +kernel
set_option maxRecDepth 20000 in
theorem wsL_g_wsL_law0_r1_3 : ∀ w ∈ ([Cond.classLink RX3 9 RJx4a65c, Cond.instantiable RJx4a65c 3, Cond.initialized RJx4a65c, Cond.fieldLink RX3 12 "FeatherBeds" "sacks" "Ljava/util/ArrayList;", Cond.fieldLink RX3 16 "FeatherBeds" "ticks" "Ljava/util/ArrayList;", Cond.classLink RX3 19 RX0] : List Cond), w ∈ lw_tbl := by decide +kernel
theorem wsL_in_wsL_law0_r1 : ∀ w ∈ wsL_law0_r1, w ∈ lw_tbl := (List.forall_mem_append.mpr ⟨wsL_g_wsL_law0_r1_0, List.forall_mem_append.mpr ⟨wsL_g_wsL_law0_r1_1, List.forall_mem_append.mpr ⟨wsL_g_wsL_law0_r1_2, wsL_g_wsL_law0_r1_3⟩⟩⟩ : ∀ w ∈ ([Cond.classLink RL 23 RX3, Cond.instantiable RX3 8, Cond.initialized RX3, Cond.fieldLink RL 47 "FeatherBedsLaw$Sim" "ticks" "[LFeatherBedsLaw$Tick;", Cond.fieldLink RL 51 "FeatherBedsLaw$Tick" "squares" "[[I", Cond.classLink RL 131 "[[I"] ++ ([Cond.arrayClass .int, Cond.methodLink RL 82 Lib.Math.max.name, Cond.static Lib.Math.max.name, Cond.initialized "java/lang/Math", Cond.code Lib.Math.max.name Lib.Math.max.code 2 (some .int), Cond.fieldLink RL 32 "FeatherBedsLaw$Sim" "sacks" "[[I"] ++ ([Cond.methodLink RL 119 yX3_init, Cond.instanceMethod yX3_init, Cond.code yX3_init cX3_init 2 none, Cond.methodLink RX3 3 objectInit, Cond.instanceMethod objectInit, Cond.code objectInit ⟨#[0xb1]⟩ 1 none] ++ ([Cond.classLink RX3 9 RJx4a65c, Cond.instantiable RJx4a65c 3, Cond.initialized RJx4a65c, Cond.fieldLink RX3 12 "FeatherBeds" "sacks" "Ljava/util/ArrayList;", Cond.fieldLink RX3 16 "FeatherBeds" "ticks" "Ljava/util/ArrayList;", Cond.classLink RX3 19 RX0]))) : List Cond), w ∈ lw_tbl)
set_option maxRecDepth 20000 in
theorem wsL_g_wsL_law0_r2_0 : ∀ w ∈ ([Cond.fieldLink RX3 21 "FeatherBeds" "chambers" "[LFeatherBeds$Heap;", Cond.instantiable RX0 2, Cond.initialized RX0, Cond.classLink RX3 26 RX2, Cond.instantiable RX2 7, Cond.initialized RX2] : List Cond), w ∈ lw_tbl := by decide +kernel
set_option maxRecDepth 20000 in
theorem wsL_g_wsL_law0_r2_1 : ∀ w ∈ ([Cond.fieldLink RX3 31 "FeatherBeds" "trial" "LFeatherBeds$Tick;", Cond.fieldLink RX3 35 "FeatherBeds" "wind" "I", Cond.methodLink RX3 11 yJx4a65c_init_da8c8, Cond.instanceMethod yJx4a65c_init_da8c8, Cond.code yJx4a65c_init_da8c8 cJx4a65c_init_da8c8 1 none, Cond.fieldLink RJx4a65c 39 "java/util/ArrayList" "DEFAULTCAPACITY_EMPTY_ELEMENTDATA" "[Ljava/lang/Object;"] : List Cond), w ∈ lw_tbl := by decide +kernel
set_option maxRecDepth 20000 in
theorem wsL_g_wsL_law0_r2_2 : ∀ w ∈ ([Cond.fieldLink RJx4a65c 9 "java/util/ArrayList" "elementData" "[Ljava/lang/Object;", Cond.methodLink RJx4a65c 1 yJxc12de_init_da8c8, Cond.instanceMethod yJxc12de_init_da8c8, Cond.initialized RJxc12de, Cond.code yJxc12de_init_da8c8 cJxc12de_init_da8c8 1 none, Cond.fieldLink RJxc12de 7 "java/util/AbstractList" "modCount" "I"] : List Cond), w ∈ lw_tbl := by decide +kernel
set_option maxRecDepth 20000 in
theorem wsL_g_wsL_law0_r2_3 : ∀ w ∈ ([Cond.methodLink RJxc12de 1 yJxa1e45_init_da8c8, Cond.instanceMethod yJxa1e45_init_da8c8, Cond.initialized RJxa1e45, Cond.code yJxa1e45_init_da8c8 cJxa1e45_init_da8c8 1 none, Cond.methodLink RJxa1e45 1 objectInit, Cond.methodLink RX3 25 yX0_init] : List Cond), w ∈ lw_tbl := by decide +kernel
theorem wsL_in_wsL_law0_r2 : ∀ w ∈ wsL_law0_r2, w ∈ lw_tbl := (List.forall_mem_append.mpr ⟨wsL_g_wsL_law0_r2_0, List.forall_mem_append.mpr ⟨wsL_g_wsL_law0_r2_1, List.forall_mem_append.mpr ⟨wsL_g_wsL_law0_r2_2, wsL_g_wsL_law0_r2_3⟩⟩⟩ : ∀ w ∈ ([Cond.fieldLink RX3 21 "FeatherBeds" "chambers" "[LFeatherBeds$Heap;", Cond.instantiable RX0 2, Cond.initialized RX0, Cond.classLink RX3 26 RX2, Cond.instantiable RX2 7, Cond.initialized RX2] ++ ([Cond.fieldLink RX3 31 "FeatherBeds" "trial" "LFeatherBeds$Tick;", Cond.fieldLink RX3 35 "FeatherBeds" "wind" "I", Cond.methodLink RX3 11 yJx4a65c_init_da8c8, Cond.instanceMethod yJx4a65c_init_da8c8, Cond.code yJx4a65c_init_da8c8 cJx4a65c_init_da8c8 1 none, Cond.fieldLink RJx4a65c 39 "java/util/ArrayList" "DEFAULTCAPACITY_EMPTY_ELEMENTDATA" "[Ljava/lang/Object;"] ++ ([Cond.fieldLink RJx4a65c 9 "java/util/ArrayList" "elementData" "[Ljava/lang/Object;", Cond.methodLink RJx4a65c 1 yJxc12de_init_da8c8, Cond.instanceMethod yJxc12de_init_da8c8, Cond.initialized RJxc12de, Cond.code yJxc12de_init_da8c8 cJxc12de_init_da8c8 1 none, Cond.fieldLink RJxc12de 7 "java/util/AbstractList" "modCount" "I"] ++ ([Cond.methodLink RJxc12de 1 yJxa1e45_init_da8c8, Cond.instanceMethod yJxa1e45_init_da8c8, Cond.initialized RJxa1e45, Cond.code yJxa1e45_init_da8c8 cJxa1e45_init_da8c8 1 none, Cond.methodLink RJxa1e45 1 objectInit, Cond.methodLink RX3 25 yX0_init]))) : List Cond), w ∈ lw_tbl)
set_option maxRecDepth 20000 in
theorem wsL_g_wsL_law0_r3_0 : ∀ w ∈ ([Cond.instanceMethod yX0_init, Cond.code yX0_init cX0_init 1 none, Cond.methodLink RX0 3 objectInit, Cond.fieldLink RX0 9 "FeatherBeds$Heap" "ofSize" "[I", Cond.methodLink RX3 28 yX2_init, Cond.instanceMethod yX2_init] : List Cond), w ∈ lw_tbl := by decide +kernel
set_option maxRecDepth 20000 in
theorem wsL_g_wsL_law0_r3_1 : ∀ w ∈ ([Cond.code yX2_init cX2_init 5 none, Cond.methodLink RX2 3 objectInit, Cond.fieldLink RX2 9 "FeatherBeds$Tick" "columns" "I", Cond.fieldLink RX2 15 "FeatherBeds$Tick" "rows" "I", Cond.fieldLink RX2 18 "FeatherBeds$Tick" "density" "I", Cond.fieldLink RX2 21 "FeatherBeds$Tick" "squares" "I"] : List Cond), w ∈ lw_tbl := by decide +kernel
set_option maxRecDepth 20000 in
theorem wsL_g_wsL_law0_r3_2 : ∀ w ∈ ([Cond.classLink RX2 24 RX0, Cond.fieldLink RX2 26 "FeatherBeds$Tick" "heaps" "[LFeatherBeds$Heap;", Cond.arrayClass .boolean, Cond.fieldLink RX2 31 "FeatherBeds$Tick" "sewn" "[Z", Cond.fieldLink RX2 35 "FeatherBeds$Tick" "partOf" "[I", Cond.methodLink RX2 30 yX0_init] : List Cond), w ∈ lw_tbl := by decide +kernel
set_option maxRecDepth 20000 in
theorem wsL_g_wsL_law0_r3_3 : ∀ w ∈ ([Cond.methodLink RL 120 yL_build, Cond.static yL_build, Cond.initialized RL, Cond.code yL_build cL_build 10 (some (.object "FeatherBedsLaw$Sim")), Cond.classLink RL 9 RX4, Cond.instantiable RX4 8] : List Cond), w ∈ lw_tbl := by decide +kernel
theorem wsL_in_wsL_law0_r3 : ∀ w ∈ wsL_law0_r3, w ∈ lw_tbl := (List.forall_mem_append.mpr ⟨wsL_g_wsL_law0_r3_0, List.forall_mem_append.mpr ⟨wsL_g_wsL_law0_r3_1, List.forall_mem_append.mpr ⟨wsL_g_wsL_law0_r3_2, wsL_g_wsL_law0_r3_3⟩⟩⟩ : ∀ w ∈ ([Cond.instanceMethod yX0_init, Cond.code yX0_init cX0_init 1 none, Cond.methodLink RX0 3 objectInit, Cond.fieldLink RX0 9 "FeatherBeds$Heap" "ofSize" "[I", Cond.methodLink RX3 28 yX2_init, Cond.instanceMethod yX2_init] ++ ([Cond.code yX2_init cX2_init 5 none, Cond.methodLink RX2 3 objectInit, Cond.fieldLink RX2 9 "FeatherBeds$Tick" "columns" "I", Cond.fieldLink RX2 15 "FeatherBeds$Tick" "rows" "I", Cond.fieldLink RX2 18 "FeatherBeds$Tick" "density" "I", Cond.fieldLink RX2 21 "FeatherBeds$Tick" "squares" "I"] ++ ([Cond.classLink RX2 24 RX0, Cond.fieldLink RX2 26 "FeatherBeds$Tick" "heaps" "[LFeatherBeds$Heap;", Cond.arrayClass .boolean, Cond.fieldLink RX2 31 "FeatherBeds$Tick" "sewn" "[Z", Cond.fieldLink RX2 35 "FeatherBeds$Tick" "partOf" "[I", Cond.methodLink RX2 30 yX0_init] ++ ([Cond.methodLink RL 120 yL_build, Cond.static yL_build, Cond.initialized RL, Cond.code yL_build cL_build 10 (some (.object "FeatherBedsLaw$Sim")), Cond.classLink RL 9 RX4, Cond.instantiable RX4 8]))) : List Cond), w ∈ lw_tbl)
set_option maxRecDepth 20000 in
theorem wsL_g_wsL_law0_r4_0 : ∀ w ∈ ([Cond.initialized RX4, Cond.instanceMethod yX4_init, Cond.code yX4_init cX4_init 1 none, Cond.methodLink RX4 1 objectInit, Cond.classLink RX4 7 "[I", Cond.fieldLink RX4 9 "FeatherBedsLaw$Sim" "sacks" "[[I"] : List Cond), w ∈ lw_tbl := by decide +kernel
set_option maxRecDepth 20000 in
theorem wsL_g_wsL_law0_r4_1 : ∀ w ∈ ([Cond.fieldLink RX4 15 "FeatherBedsLaw$Sim" "damp" "[I", Cond.fieldLink RX4 18 "FeatherBedsLaw$Sim" "wind" "I", Cond.classLink RX4 22 "[[I", Cond.fieldLink RX4 23 "FeatherBedsLaw$Sim" "chambers" "[[I", Cond.classLink RX4 26 RX5, Cond.fieldLink RX4 28 "FeatherBedsLaw$Sim" "ticks" "[LFeatherBedsLaw$Tick;"] : List Cond), w ∈ lw_tbl := by decide +kernel
set_option maxRecDepth 20000 in
theorem wsL_g_wsL_law0_r4_2 : ∀ w ∈ ([Cond.methodLink RL 12 yL_cell, Cond.static yL_cell, Cond.code yL_cell cL_cell 2 (some .int), Cond.constant RL 8 (790386105), Cond.methodLink RL 18 yL_below, Cond.static yL_below] : List Cond), w ∈ lw_tbl := by decide +kernel
set_option maxRecDepth 20000 in
theorem wsL_g_wsL_law0_r4_3 : ∀ w ∈ ([Cond.code yL_below cL_below 2 (some .int), Cond.constant RL 7 (2147483647), Cond.methodLink RL 22 yX3_addSack, Cond.instanceMethod yX3_addSack, Cond.selects RX3 yX3_addSack yX3_addSack, Cond.code yX3_addSack cX3_addSack 2 (some .int)] : List Cond), w ∈ lw_tbl := by decide +kernel
theorem wsL_in_wsL_law0_r4 : ∀ w ∈ wsL_law0_r4, w ∈ lw_tbl := (List.forall_mem_append.mpr ⟨wsL_g_wsL_law0_r4_0, List.forall_mem_append.mpr ⟨wsL_g_wsL_law0_r4_1, List.forall_mem_append.mpr ⟨wsL_g_wsL_law0_r4_2, wsL_g_wsL_law0_r4_3⟩⟩⟩ : ∀ w ∈ ([Cond.initialized RX4, Cond.instanceMethod yX4_init, Cond.code yX4_init cX4_init 1 none, Cond.methodLink RX4 1 objectInit, Cond.classLink RX4 7 "[I", Cond.fieldLink RX4 9 "FeatherBedsLaw$Sim" "sacks" "[[I"] ++ ([Cond.fieldLink RX4 15 "FeatherBedsLaw$Sim" "damp" "[I", Cond.fieldLink RX4 18 "FeatherBedsLaw$Sim" "wind" "I", Cond.classLink RX4 22 "[[I", Cond.fieldLink RX4 23 "FeatherBedsLaw$Sim" "chambers" "[[I", Cond.classLink RX4 26 RX5, Cond.fieldLink RX4 28 "FeatherBedsLaw$Sim" "ticks" "[LFeatherBedsLaw$Tick;"] ++ ([Cond.methodLink RL 12 yL_cell, Cond.static yL_cell, Cond.code yL_cell cL_cell 2 (some .int), Cond.constant RL 8 (790386105), Cond.methodLink RL 18 yL_below, Cond.static yL_below] ++ ([Cond.code yL_below cL_below 2 (some .int), Cond.constant RL 7 (2147483647), Cond.methodLink RL 22 yX3_addSack, Cond.instanceMethod yX3_addSack, Cond.selects RX3 yX3_addSack yX3_addSack, Cond.code yX3_addSack cX3_addSack 2 (some .int)]))) : List Cond), w ∈ lw_tbl)
set_option maxRecDepth 20000 in
theorem wsL_g_wsL_law0_r5_0 : ∀ w ∈ ([Cond.classLink RX3 46 "java/lang/IllegalStateException", Cond.initialized "java/lang/IllegalStateException", Cond.classLink RX3 53 RX1, Cond.instantiable RX1 2, Cond.initialized RX1, Cond.methodLink RX3 39 yX3_needRange] : List Cond), w ∈ lw_tbl := by decide +kernel
set_option maxRecDepth 20000 in
theorem wsL_g_wsL_law0_r5_1 : ∀ w ∈ ([Cond.static yX3_needRange, Cond.code yX3_needRange cX3_needRange 3 none, Cond.classLink RX3 128 "java/lang/IllegalArgumentException", Cond.initialized "java/lang/IllegalArgumentException", Cond.methodLink RX3 42 yJx4a65c_size_8abf5, Cond.instanceMethod yJx4a65c_size_8abf5] : List Cond), w ∈ lw_tbl := by decide +kernel
set_option maxRecDepth 20000 in
theorem wsL_g_wsL_law0_r5_2 : ∀ w ∈ ([Cond.selects RJx4a65c yJx4a65c_size_8abf5 yJx4a65c_size_8abf5, Cond.code yJx4a65c_size_8abf5 cJx4a65c_size_8abf5 1 (some .int), Cond.fieldLink RJx4a65c 48 "java/util/ArrayList" "size" "I", Cond.methodLink RX3 55 yX1_init, Cond.instanceMethod yX1_init, Cond.code yX1_init cX1_init 2 none] : List Cond), w ∈ lw_tbl := by decide +kernel
set_option maxRecDepth 20000 in
theorem wsL_g_wsL_law0_r5_3 : ∀ w ∈ ([Cond.methodLink RX1 3 objectInit, Cond.classLink RX1 9 RX0, Cond.fieldLink RX1 12 "FeatherBeds$Sack" "heap" "LFeatherBeds$Heap;", Cond.fieldLink RX1 18 "FeatherBeds$Sack" "damp" "I", Cond.methodLink RX1 11 yX0_init, Cond.methodLink RX3 58 yJx4a65c_add_9ea2d] : List Cond), w ∈ lw_tbl := by decide +kernel
theorem wsL_in_wsL_law0_r5 : ∀ w ∈ wsL_law0_r5, w ∈ lw_tbl := (List.forall_mem_append.mpr ⟨wsL_g_wsL_law0_r5_0, List.forall_mem_append.mpr ⟨wsL_g_wsL_law0_r5_1, List.forall_mem_append.mpr ⟨wsL_g_wsL_law0_r5_2, wsL_g_wsL_law0_r5_3⟩⟩⟩ : ∀ w ∈ ([Cond.classLink RX3 46 "java/lang/IllegalStateException", Cond.initialized "java/lang/IllegalStateException", Cond.classLink RX3 53 RX1, Cond.instantiable RX1 2, Cond.initialized RX1, Cond.methodLink RX3 39 yX3_needRange] ++ ([Cond.static yX3_needRange, Cond.code yX3_needRange cX3_needRange 3 none, Cond.classLink RX3 128 "java/lang/IllegalArgumentException", Cond.initialized "java/lang/IllegalArgumentException", Cond.methodLink RX3 42 yJx4a65c_size_8abf5, Cond.instanceMethod yJx4a65c_size_8abf5] ++ ([Cond.selects RJx4a65c yJx4a65c_size_8abf5 yJx4a65c_size_8abf5, Cond.code yJx4a65c_size_8abf5 cJx4a65c_size_8abf5 1 (some .int), Cond.fieldLink RJx4a65c 48 "java/util/ArrayList" "size" "I", Cond.methodLink RX3 55 yX1_init, Cond.instanceMethod yX1_init, Cond.code yX1_init cX1_init 2 none] ++ ([Cond.methodLink RX1 3 objectInit, Cond.classLink RX1 9 RX0, Cond.fieldLink RX1 12 "FeatherBeds$Sack" "heap" "LFeatherBeds$Heap;", Cond.fieldLink RX1 18 "FeatherBeds$Sack" "damp" "I", Cond.methodLink RX1 11 yX0_init, Cond.methodLink RX3 58 yJx4a65c_add_9ea2d]))) : List Cond), w ∈ lw_tbl)
set_option maxRecDepth 20000 in
theorem wsL_g_wsL_law0_r6_0 : ∀ w ∈ ([Cond.instanceMethod yJx4a65c_add_9ea2d, Cond.selects RJx4a65c yJx4a65c_add_9ea2d yJx4a65c_add_9ea2d, Cond.code yJx4a65c_add_9ea2d cJx4a65c_add_9ea2d 2 (some .boolean), Cond.fieldLink RJx4a65c 63 "java/util/ArrayList" "modCount" "I", Cond.sameField "java/util/ArrayList" "java/util/AbstractList" "modCount" "I", Cond.methodLink RJx4a65c 131 yJx4a65c_add_72be8] : List Cond), w ∈ lw_tbl := by decide +kernel
set_option maxRecDepth 20000 in
theorem wsL_g_wsL_law0_r6_1 : ∀ w ∈ ([Cond.instanceMethod yJx4a65c_add_72be8, Cond.selects RJx4a65c yJx4a65c_add_72be8 yJx4a65c_add_72be8, Cond.code yJx4a65c_add_72be8 cJx4a65c_add_72be8 4 none, Cond.methodLink RJx4a65c 129 yJx4a65c_grow_d5877, Cond.instanceMethod yJx4a65c_grow_d5877, Cond.selects RJx4a65c yJx4a65c_grow_d5877 yJx4a65c_grow_d5877] : List Cond), w ∈ lw_tbl := by decide +kernel
set_option maxRecDepth 20000 in
theorem wsL_g_wsL_law0_r6_2 : ∀ w ∈ ([Cond.code yJx4a65c_grow_d5877 cJx4a65c_grow_d5877 1 (some (.array (.object "java/lang/Object"))), Cond.methodLink RJx4a65c 69 yJx4a65c_grow_92f84, Cond.instanceMethod yJx4a65c_grow_92f84, Cond.selects RJx4a65c yJx4a65c_grow_92f84 yJx4a65c_grow_92f84, Cond.code yJx4a65c_grow_92f84 cJx4a65c_grow_92f84 4 (some (.array (.object "java/lang/Object"))), Cond.methodLink RJx4a65c 79 Lib.Math.max.name] : List Cond), w ∈ lw_tbl := by decide +kernel
set_option maxRecDepth 20000 in
theorem wsL_g_wsL_law0_r6_3 : ∀ w ∈ ([Cond.classLink RJx4a65c 7 "java/lang/Object", Cond.methodLink RJx4a65c 73 yJ8_newLength_cabcc, Cond.static yJ8_newLength_cabcc, Cond.initialized RJ8, Cond.code yJ8_newLength_cabcc cJ8_newLength_cabcc 4 (some .int), Cond.methodLink RJ8 194 Lib.Math.max.name] : List Cond), w ∈ lw_tbl := by decide +kernel
theorem wsL_in_wsL_law0_r6 : ∀ w ∈ wsL_law0_r6, w ∈ lw_tbl := (List.forall_mem_append.mpr ⟨wsL_g_wsL_law0_r6_0, List.forall_mem_append.mpr ⟨wsL_g_wsL_law0_r6_1, List.forall_mem_append.mpr ⟨wsL_g_wsL_law0_r6_2, wsL_g_wsL_law0_r6_3⟩⟩⟩ : ∀ w ∈ ([Cond.instanceMethod yJx4a65c_add_9ea2d, Cond.selects RJx4a65c yJx4a65c_add_9ea2d yJx4a65c_add_9ea2d, Cond.code yJx4a65c_add_9ea2d cJx4a65c_add_9ea2d 2 (some .boolean), Cond.fieldLink RJx4a65c 63 "java/util/ArrayList" "modCount" "I", Cond.sameField "java/util/ArrayList" "java/util/AbstractList" "modCount" "I", Cond.methodLink RJx4a65c 131 yJx4a65c_add_72be8] ++ ([Cond.instanceMethod yJx4a65c_add_72be8, Cond.selects RJx4a65c yJx4a65c_add_72be8 yJx4a65c_add_72be8, Cond.code yJx4a65c_add_72be8 cJx4a65c_add_72be8 4 none, Cond.methodLink RJx4a65c 129 yJx4a65c_grow_d5877, Cond.instanceMethod yJx4a65c_grow_d5877, Cond.selects RJx4a65c yJx4a65c_grow_d5877 yJx4a65c_grow_d5877] ++ ([Cond.code yJx4a65c_grow_d5877 cJx4a65c_grow_d5877 1 (some (.array (.object "java/lang/Object"))), Cond.methodLink RJx4a65c 69 yJx4a65c_grow_92f84, Cond.instanceMethod yJx4a65c_grow_92f84, Cond.selects RJx4a65c yJx4a65c_grow_92f84 yJx4a65c_grow_92f84, Cond.code yJx4a65c_grow_92f84 cJx4a65c_grow_92f84 4 (some (.array (.object "java/lang/Object"))), Cond.methodLink RJx4a65c 79 Lib.Math.max.name] ++ ([Cond.classLink RJx4a65c 7 "java/lang/Object", Cond.methodLink RJx4a65c 73 yJ8_newLength_cabcc, Cond.static yJ8_newLength_cabcc, Cond.initialized RJ8, Cond.code yJ8_newLength_cabcc cJ8_newLength_cabcc 4 (some .int), Cond.methodLink RJ8 194 Lib.Math.max.name]))) : List Cond), w ∈ lw_tbl)
set_option maxRecDepth 20000 in
theorem wsL_g_wsL_law0_r7_0 : ∀ w ∈ ([Cond.constant RJ8 200 (2147483639), Cond.methodLink RJ8 201 yJ8_hugeLength_7cf53, Cond.static yJ8_hugeLength_7cf53, Cond.code yJ8_hugeLength_7cf53 cJ8_hugeLength_7cf53 3 (some .int), Cond.methodLink RJx4a65c 66 yJ7_copyOf_1904c, Cond.static yJ7_copyOf_1904c] : List Cond), w ∈ lw_tbl := by decide +kernel
set_option maxRecDepth 20000 in
theorem wsL_g_wsL_law0_r7_1 : ∀ w ∈ ([Cond.initialized RJ7, Cond.code yJ7_copyOf_1904c cJ7_copyOf_1904c 2 (some (.array (.object "java/lang/Object"))), Cond.methodLink RJ7 86 ⟨"java/lang/Object", "getClass", "()Ljava/lang/Class;"⟩, Cond.selects "[Ljava/lang/Object;" ⟨"java/lang/Object", "getClass", "()Ljava/lang/Class;"⟩ ⟨"java/lang/Object", "getClass", "()Ljava/lang/Class;"⟩, Cond.instanceMethod ⟨"java/lang/Object", "getClass", "()Ljava/lang/Class;"⟩, Cond.native ⟨"java/lang/Object", "getClass", "()Ljava/lang/Class;"⟩] : List Cond), w ∈ lw_tbl := by decide +kernel
set_option maxRecDepth 20000 in
theorem wsL_g_wsL_law0_r7_2 : ∀ w ∈ ([Cond.methodLink RJ7 300 yJ7_copyOf_6403c, Cond.static yJ7_copyOf_6403c, Cond.code yJ7_copyOf_6403c cJ7_copyOf_6403c 4 (some (.array (.object "java/lang/Object"))), Cond.classLink RJ7 110 "[Ljava/lang/Object;", Cond.classLink RJ7 2 "java/lang/Object", Cond.methodLink RJ7 304 Lib.Math.min.name] : List Cond), w ∈ lw_tbl := by decide +kernel
set_option maxRecDepth 20000 in
theorem wsL_g_wsL_law0_r7_3 : ∀ w ∈ ([Cond.static Lib.Math.min.name, Cond.code Lib.Math.min.name Lib.Math.min.code 2 (some .int), Cond.methodLink RJ7 150 arraycopyName, Cond.native arraycopyName, Cond.static arraycopyName, Cond.initialized "java/lang/System"] : List Cond), w ∈ lw_tbl := by decide +kernel
theorem wsL_in_wsL_law0_r7 : ∀ w ∈ wsL_law0_r7, w ∈ lw_tbl := (List.forall_mem_append.mpr ⟨wsL_g_wsL_law0_r7_0, List.forall_mem_append.mpr ⟨wsL_g_wsL_law0_r7_1, List.forall_mem_append.mpr ⟨wsL_g_wsL_law0_r7_2, wsL_g_wsL_law0_r7_3⟩⟩⟩ : ∀ w ∈ ([Cond.constant RJ8 200 (2147483639), Cond.methodLink RJ8 201 yJ8_hugeLength_7cf53, Cond.static yJ8_hugeLength_7cf53, Cond.code yJ8_hugeLength_7cf53 cJ8_hugeLength_7cf53 3 (some .int), Cond.methodLink RJx4a65c 66 yJ7_copyOf_1904c, Cond.static yJ7_copyOf_1904c] ++ ([Cond.initialized RJ7, Cond.code yJ7_copyOf_1904c cJ7_copyOf_1904c 2 (some (.array (.object "java/lang/Object"))), Cond.methodLink RJ7 86 ⟨"java/lang/Object", "getClass", "()Ljava/lang/Class;"⟩, Cond.selects "[Ljava/lang/Object;" ⟨"java/lang/Object", "getClass", "()Ljava/lang/Class;"⟩ ⟨"java/lang/Object", "getClass", "()Ljava/lang/Class;"⟩, Cond.instanceMethod ⟨"java/lang/Object", "getClass", "()Ljava/lang/Class;"⟩, Cond.native ⟨"java/lang/Object", "getClass", "()Ljava/lang/Class;"⟩] ++ ([Cond.methodLink RJ7 300 yJ7_copyOf_6403c, Cond.static yJ7_copyOf_6403c, Cond.code yJ7_copyOf_6403c cJ7_copyOf_6403c 4 (some (.array (.object "java/lang/Object"))), Cond.classLink RJ7 110 "[Ljava/lang/Object;", Cond.classLink RJ7 2 "java/lang/Object", Cond.methodLink RJ7 304 Lib.Math.min.name] ++ ([Cond.static Lib.Math.min.name, Cond.code Lib.Math.min.name Lib.Math.min.code 2 (some .int), Cond.methodLink RJ7 150 arraycopyName, Cond.native arraycopyName, Cond.static arraycopyName, Cond.initialized "java/lang/System"]))) : List Cond), w ∈ lw_tbl)
end
section
set_option maxRecDepth 20000 in
theorem wsL_g_wsL_law0_r8_0 : ∀ w ∈ ([Cond.methodLink RL 28 yX4_sack, Cond.instanceMethod yX4_sack, Cond.selects RX4 yX4_sack yX4_sack, Cond.code yX4_sack cX4_sack 4 none, Cond.methodLink RL 36 yX3_put, Cond.instanceMethod yX3_put] : List Cond), w ∈ lw_tbl := by decide +kernel
set_option maxRecDepth 20000 in
theorem wsL_g_wsL_law0_r8_1 : ∀ w ∈ ([Cond.selects RX3 yX3_put yX3_put, Cond.code yX3_put cX3_put 5 (some .int), Cond.methodLink RX3 62 yX3_needSack, Cond.instanceMethod yX3_needSack, Cond.selects RX3 yX3_needSack yX3_needSack, Cond.code yX3_needSack cX3_needSack 2 (some (.object "FeatherBeds$Sack"))] : List Cond), w ∈ lw_tbl := by decide +kernel
set_option maxRecDepth 20000 in
theorem wsL_g_wsL_law0_r8_2 : ∀ w ∈ ([Cond.classLink RX3 210 "java/lang/IndexOutOfBoundsException", Cond.initialized "java/lang/IndexOutOfBoundsException", Cond.classLink RX3 53 "FeatherBeds$Sack", Cond.methodLink RX3 154 yJx4a65c_get_915e3, Cond.instanceMethod yJx4a65c_get_915e3, Cond.selects RJx4a65c yJx4a65c_get_915e3 yJx4a65c_get_915e3] : List Cond), w ∈ lw_tbl := by decide +kernel
set_option maxRecDepth 20000 in
theorem wsL_g_wsL_law0_r8_3 : ∀ w ∈ ([Cond.code yJx4a65c_get_915e3 cJx4a65c_get_915e3 2 (some (.object "java/lang/Object")), Cond.methodLink RJx4a65c 118 yJ15_checkIndex_7cf53, Cond.static yJ15_checkIndex_7cf53, Cond.initialized RJ15, Cond.code yJ15_checkIndex_7cf53 cJ15_checkIndex_7cf53 2 (some .int), Cond.methodLink RJ15 105 yJ3_checkIndex_8e157] : List Cond), w ∈ lw_tbl := by decide +kernel
theorem wsL_in_wsL_law0_r8 : ∀ w ∈ wsL_law0_r8, w ∈ lw_tbl := (List.forall_mem_append.mpr ⟨wsL_g_wsL_law0_r8_0, List.forall_mem_append.mpr ⟨wsL_g_wsL_law0_r8_1, List.forall_mem_append.mpr ⟨wsL_g_wsL_law0_r8_2, wsL_g_wsL_law0_r8_3⟩⟩⟩ : ∀ w ∈ ([Cond.methodLink RL 28 yX4_sack, Cond.instanceMethod yX4_sack, Cond.selects RX4 yX4_sack yX4_sack, Cond.code yX4_sack cX4_sack 4 none, Cond.methodLink RL 36 yX3_put, Cond.instanceMethod yX3_put] ++ ([Cond.selects RX3 yX3_put yX3_put, Cond.code yX3_put cX3_put 5 (some .int), Cond.methodLink RX3 62 yX3_needSack, Cond.instanceMethod yX3_needSack, Cond.selects RX3 yX3_needSack yX3_needSack, Cond.code yX3_needSack cX3_needSack 2 (some (.object "FeatherBeds$Sack"))] ++ ([Cond.classLink RX3 210 "java/lang/IndexOutOfBoundsException", Cond.initialized "java/lang/IndexOutOfBoundsException", Cond.classLink RX3 53 "FeatherBeds$Sack", Cond.methodLink RX3 154 yJx4a65c_get_915e3, Cond.instanceMethod yJx4a65c_get_915e3, Cond.selects RJx4a65c yJx4a65c_get_915e3 yJx4a65c_get_915e3] ++ ([Cond.code yJx4a65c_get_915e3 cJx4a65c_get_915e3 2 (some (.object "java/lang/Object")), Cond.methodLink RJx4a65c 118 yJ15_checkIndex_7cf53, Cond.static yJ15_checkIndex_7cf53, Cond.initialized RJ15, Cond.code yJ15_checkIndex_7cf53 cJ15_checkIndex_7cf53 2 (some .int), Cond.methodLink RJ15 105 yJ3_checkIndex_8e157]))) : List Cond), w ∈ lw_tbl)
set_option maxRecDepth 20000 in
theorem wsL_g_wsL_law0_r9_0 : ∀ w ∈ ([Cond.static yJ3_checkIndex_8e157, Cond.initialized RJ3, Cond.code yJ3_checkIndex_8e157 cJ3_checkIndex_8e157 3 (some .int), Cond.methodLink RJx4a65c 123 yJx4a65c_elementData_915e3, Cond.instanceMethod yJx4a65c_elementData_915e3, Cond.selects RJx4a65c yJx4a65c_elementData_915e3 yJx4a65c_elementData_915e3] : List Cond), w ∈ lw_tbl := by decide +kernel
set_option maxRecDepth 20000 in
theorem wsL_g_wsL_law0_r9_1 : ∀ w ∈ ([Cond.code yJx4a65c_elementData_915e3 cJx4a65c_elementData_915e3 2 (some (.object "java/lang/Object")), Cond.methodLink RX3 70 yX3_needIndex, Cond.static yX3_needIndex, Cond.code yX3_needIndex cX3_needIndex 2 none, Cond.methodLink RX3 74 yX0_of, Cond.instanceMethod yX0_of] : List Cond), w ∈ lw_tbl := by decide +kernel
set_option maxRecDepth 20000 in
theorem wsL_g_wsL_law0_r9_2 : ∀ w ∈ ([Cond.selects RX0 yX0_of yX0_of, Cond.code yX0_of cX0_of 2 (some .int), Cond.methodLink RX3 80 yX0_change, Cond.instanceMethod yX0_change, Cond.selects RX0 yX0_change yX0_change, Cond.code yX0_change cX0_change 3 none] : List Cond), w ∈ lw_tbl := by decide +kernel
set_option maxRecDepth 20000 in
theorem wsL_g_wsL_law0_r9_3 : ∀ w ∈ ([Cond.fieldLink RX0 15 "FeatherBeds$Heap" "all" "I", Cond.methodLink RL 40 yX3_addTick, Cond.instanceMethod yX3_addTick, Cond.selects RX3 yX3_addTick yX3_addTick, Cond.code yX3_addTick cX3_addTick 4 (some .int), Cond.methodLink RL 43 yX4_tick] : List Cond), w ∈ lw_tbl := by decide +kernel
theorem wsL_in_wsL_law0_r9 : ∀ w ∈ wsL_law0_r9, w ∈ lw_tbl := (List.forall_mem_append.mpr ⟨wsL_g_wsL_law0_r9_0, List.forall_mem_append.mpr ⟨wsL_g_wsL_law0_r9_1, List.forall_mem_append.mpr ⟨wsL_g_wsL_law0_r9_2, wsL_g_wsL_law0_r9_3⟩⟩⟩ : ∀ w ∈ ([Cond.static yJ3_checkIndex_8e157, Cond.initialized RJ3, Cond.code yJ3_checkIndex_8e157 cJ3_checkIndex_8e157 3 (some .int), Cond.methodLink RJx4a65c 123 yJx4a65c_elementData_915e3, Cond.instanceMethod yJx4a65c_elementData_915e3, Cond.selects RJx4a65c yJx4a65c_elementData_915e3 yJx4a65c_elementData_915e3] ++ ([Cond.code yJx4a65c_elementData_915e3 cJx4a65c_elementData_915e3 2 (some (.object "java/lang/Object")), Cond.methodLink RX3 70 yX3_needIndex, Cond.static yX3_needIndex, Cond.code yX3_needIndex cX3_needIndex 2 none, Cond.methodLink RX3 74 yX0_of, Cond.instanceMethod yX0_of] ++ ([Cond.selects RX0 yX0_of yX0_of, Cond.code yX0_of cX0_of 2 (some .int), Cond.methodLink RX3 80 yX0_change, Cond.instanceMethod yX0_change, Cond.selects RX0 yX0_change yX0_change, Cond.code yX0_change cX0_change 3 none] ++ ([Cond.fieldLink RX0 15 "FeatherBeds$Heap" "all" "I", Cond.methodLink RL 40 yX3_addTick, Cond.instanceMethod yX3_addTick, Cond.selects RX3 yX3_addTick yX3_addTick, Cond.code yX3_addTick cX3_addTick 4 (some .int), Cond.methodLink RL 43 yX4_tick]))) : List Cond), w ∈ lw_tbl)
set_option maxRecDepth 20000 in
theorem wsL_g_wsL_law0_r10_0 : ∀ w ∈ ([Cond.instanceMethod yX4_tick, Cond.selects RX4 yX4_tick yX4_tick, Cond.code yX4_tick cX4_tick 6 none, Cond.instantiable RX5 5, Cond.initialized RX5, Cond.methodLink RX4 32 yX5_init] : List Cond), w ∈ lw_tbl := by decide +kernel
set_option maxRecDepth 20000 in
theorem wsL_g_wsL_law0_r10_1 : ∀ w ∈ ([Cond.instanceMethod yX5_init, Cond.code yX5_init cX5_init 4 none, Cond.methodLink RX5 1 objectInit, Cond.fieldLink RX5 7 "FeatherBedsLaw$Tick" "columns" "I", Cond.fieldLink RX5 13 "FeatherBedsLaw$Tick" "rows" "I", Cond.fieldLink RX5 16 "FeatherBedsLaw$Tick" "density" "I"] : List Cond), w ∈ lw_tbl := by decide +kernel
set_option maxRecDepth 20000 in
theorem wsL_g_wsL_law0_r10_2 : ∀ w ∈ ([Cond.classLink RX5 19 "[[I", Cond.fieldLink RX5 21 "FeatherBedsLaw$Tick" "squares" "[[I", Cond.classLink RX5 24 "[[Z", Cond.fieldLink RX5 26 "FeatherBedsLaw$Tick" "sewn" "[[Z", Cond.methodLink RL 124 yX3_count, Cond.instanceMethod yX3_count] : List Cond), w ∈ lw_tbl := by decide +kernel
set_option maxRecDepth 20000 in
theorem wsL_g_wsL_law0_r10_3 : ∀ w ∈ ([Cond.selects RX3 yX3_count yX3_count, Cond.code yX3_count cX3_count 2 (some .int), Cond.methodLink RX3 167 yX3_countTells, Cond.instanceMethod yX3_countTells, Cond.selects RX3 yX3_countTells yX3_countTells, Cond.code yX3_countTells cX3_countTells 2 (some .int)] : List Cond), w ∈ lw_tbl := by decide +kernel
theorem wsL_in_wsL_law0_r10 : ∀ w ∈ wsL_law0_r10, w ∈ lw_tbl := (List.forall_mem_append.mpr ⟨wsL_g_wsL_law0_r10_0, List.forall_mem_append.mpr ⟨wsL_g_wsL_law0_r10_1, List.forall_mem_append.mpr ⟨wsL_g_wsL_law0_r10_2, wsL_g_wsL_law0_r10_3⟩⟩⟩ : ∀ w ∈ ([Cond.instanceMethod yX4_tick, Cond.selects RX4 yX4_tick yX4_tick, Cond.code yX4_tick cX4_tick 6 none, Cond.instantiable RX5 5, Cond.initialized RX5, Cond.methodLink RX4 32 yX5_init] ++ ([Cond.instanceMethod yX5_init, Cond.code yX5_init cX5_init 4 none, Cond.methodLink RX5 1 objectInit, Cond.fieldLink RX5 7 "FeatherBedsLaw$Tick" "columns" "I", Cond.fieldLink RX5 13 "FeatherBedsLaw$Tick" "rows" "I", Cond.fieldLink RX5 16 "FeatherBedsLaw$Tick" "density" "I"] ++ ([Cond.classLink RX5 19 "[[I", Cond.fieldLink RX5 21 "FeatherBedsLaw$Tick" "squares" "[[I", Cond.classLink RX5 24 "[[Z", Cond.fieldLink RX5 26 "FeatherBedsLaw$Tick" "sewn" "[[Z", Cond.methodLink RL 124 yX3_count, Cond.instanceMethod yX3_count] ++ ([Cond.selects RX3 yX3_count yX3_count, Cond.code yX3_count cX3_count 2 (some .int), Cond.methodLink RX3 167 yX3_countTells, Cond.instanceMethod yX3_countTells, Cond.selects RX3 yX3_countTells yX3_countTells, Cond.code yX3_countTells cX3_countTells 2 (some .int)]))) : List Cond), w ∈ lw_tbl)
set_option maxRecDepth 20000 in
theorem wsL_g_wsL_law0_r11_0 : ∀ w ∈ ([Cond.fieldLink RX3 161 "FeatherBeds" "nightsGone" "I", Cond.fieldLink RX3 99 "FeatherBeds" "lostInYard" "I", Cond.fieldLink RX3 164 "FeatherBeds" "lostByPricking" "I", Cond.methodLink RX3 194 yX3_inSacks, Cond.instanceMethod yX3_inSacks, Cond.selects RX3 yX3_inSacks yX3_inSacks] : List Cond), w ∈ lw_tbl := by decide +kernel
set_option maxRecDepth 20000 in
theorem wsL_g_wsL_law0_r11_1 : ∀ w ∈ ([Cond.code yX3_inSacks cX3_inSacks 3 (some .int), Cond.methodLink RX3 197 yX3_inChambers, Cond.instanceMethod yX3_inChambers, Cond.selects RX3 yX3_inChambers yX3_inChambers, Cond.code yX3_inChambers cX3_inChambers 3 (some .int), Cond.methodLink RX3 191 yX3_inTicks] : List Cond), w ∈ lw_tbl := by decide +kernel
set_option maxRecDepth 20000 in
theorem wsL_g_wsL_law0_r11_2 : ∀ w ∈ ([Cond.instanceMethod yX3_inTicks, Cond.selects RX3 yX3_inTicks yX3_inTicks, Cond.code yX3_inTicks cX3_inTicks 3 (some .int), Cond.classLink RX3 26 "FeatherBeds$Tick", Cond.methodLink RX3 174 yX2_feathers, Cond.instanceMethod yX2_feathers] : List Cond), w ∈ lw_tbl := by decide +kernel
set_option maxRecDepth 20000 in
theorem wsL_g_wsL_law0_r11_3 : ∀ w ∈ ([Cond.selects RX2 yX2_feathers yX2_feathers, Cond.code yX2_feathers cX2_feathers 3 (some .int), Cond.methodLink RL 127 yL_act, Cond.static yL_act] : List Cond), w ∈ lw_tbl := by decide +kernel
set_option maxRecDepth 20000 in
set_option maxHeartbeats 4000000 in
theorem wsL_act_tbl : Cond.code yL_act cL_act 15 (some .boolean) ∈ lw_tbl := by
  unfold lw_tbl tables_1
  refine List.mem_append_right _ (List.mem_append_right _ <| List.mem_append_right _ <| List.mem_append_left _ ?_)
  unfold tables_1_3
  iterate 134 apply List.mem_cons_of_mem
  exact List.mem_cons_self
theorem wsL_g_wsL_law0_r11_4 : ∀ w ∈ ([Cond.code yL_act cL_act 15 (some .boolean)] : List Cond), w ∈ lw_tbl := fun w h => by rw [List.mem_singleton.mp h]; exact wsL_act_tbl
set_option maxRecDepth 20000 in
theorem wsL_g_wsL_law0_r11_5 : ∀ w ∈ ([Cond.fieldLink RL 60 "FeatherBedsLaw$Sim" "chambers" "[[I"] : List Cond), w ∈ lw_tbl := by decide +kernel
theorem wsL_in_wsL_law0_r11 : ∀ w ∈ wsL_law0_r11, w ∈ lw_tbl := (List.forall_mem_append.mpr ⟨wsL_g_wsL_law0_r11_0, List.forall_mem_append.mpr ⟨wsL_g_wsL_law0_r11_1, List.forall_mem_append.mpr ⟨wsL_g_wsL_law0_r11_2, List.forall_mem_append.mpr ⟨wsL_g_wsL_law0_r11_3, List.forall_mem_append.mpr ⟨wsL_g_wsL_law0_r11_4, wsL_g_wsL_law0_r11_5⟩⟩⟩⟩⟩ : ∀ w ∈ ([Cond.fieldLink RX3 161 "FeatherBeds" "nightsGone" "I", Cond.fieldLink RX3 99 "FeatherBeds" "lostInYard" "I", Cond.fieldLink RX3 164 "FeatherBeds" "lostByPricking" "I", Cond.methodLink RX3 194 yX3_inSacks, Cond.instanceMethod yX3_inSacks, Cond.selects RX3 yX3_inSacks yX3_inSacks] ++ ([Cond.code yX3_inSacks cX3_inSacks 3 (some .int), Cond.methodLink RX3 197 yX3_inChambers, Cond.instanceMethod yX3_inChambers, Cond.selects RX3 yX3_inChambers yX3_inChambers, Cond.code yX3_inChambers cX3_inChambers 3 (some .int), Cond.methodLink RX3 191 yX3_inTicks] ++ ([Cond.instanceMethod yX3_inTicks, Cond.selects RX3 yX3_inTicks yX3_inTicks, Cond.code yX3_inTicks cX3_inTicks 3 (some .int), Cond.classLink RX3 26 "FeatherBeds$Tick", Cond.methodLink RX3 174 yX2_feathers, Cond.instanceMethod yX2_feathers] ++ ([Cond.selects RX2 yX2_feathers yX2_feathers, Cond.code yX2_feathers cX2_feathers 3 (some .int), Cond.methodLink RL 127 yL_act, Cond.static yL_act] ++ ([Cond.code yL_act cL_act 15 (some .boolean)] ++ ([Cond.fieldLink RL 60 "FeatherBedsLaw$Sim" "chambers" "[[I"]))))) : List Cond), w ∈ lw_tbl)
set_option maxRecDepth 20000 in
theorem wsL_g_wsL_law0_r12_0 : ∀ w ∈ ([Cond.methodLink RL 63 Lib.Math.min.name, Cond.fieldLink RL 71 "FeatherBedsLaw$Sim" "wind" "I", Cond.fieldLink RL 78 "FeatherBedsLaw$Sim" "damp" "[I", Cond.fieldLink RL 92 "FeatherBedsLaw$Tick" "sewn" "[[Z", Cond.methodLink RL 56 yX3_blow, Cond.instanceMethod yX3_blow] : List Cond), w ∈ lw_tbl := by decide +kernel
set_option maxRecDepth 20000 in
theorem wsL_g_wsL_law0_r12_1 : ∀ w ∈ ([Cond.selects RX3 yX3_blow yX3_blow, Cond.code yX3_blow cX3_blow 7 (some .int), Cond.methodLink RX3 95 yX1_brings, Cond.instanceMethod yX1_brings, Cond.selects RX1 yX1_brings yX1_brings, Cond.code yX1_brings cX1_brings 8 (some .int)] : List Cond), w ∈ lw_tbl := by decide +kernel
set_option maxRecDepth 20000 in
theorem wsL_g_wsL_law0_r12_2 : ∀ w ∈ ([Cond.methodLink RX1 22 yX0_of, Cond.methodLink RX1 35 yX1_flight, Cond.instanceMethod yX1_flight, Cond.selects RX1 yX1_flight yX1_flight, Cond.code yX1_flight cX1_flight 5 (some .int), Cond.methodLink RX1 29 Lib.Math.min.name] : List Cond), w ∈ lw_tbl := by decide +kernel
set_option maxRecDepth 20000 in
theorem wsL_g_wsL_law0_r12_3 : ∀ w ∈ ([Cond.methodLink RL 59 yX4_blow, Cond.instanceMethod yX4_blow, Cond.selects RX4 yX4_blow yX4_blow, Cond.code yX4_blow cX4_blow 6 (some .int), Cond.fieldLink RX4 45 "FeatherBedsLaw$Sim" "yard" "I", Cond.methodLink RX4 41 yX4_blown] : List Cond), w ∈ lw_tbl := by decide +kernel
theorem wsL_in_wsL_law0_r12 : ∀ w ∈ wsL_law0_r12, w ∈ lw_tbl := (List.forall_mem_append.mpr ⟨wsL_g_wsL_law0_r12_0, List.forall_mem_append.mpr ⟨wsL_g_wsL_law0_r12_1, List.forall_mem_append.mpr ⟨wsL_g_wsL_law0_r12_2, wsL_g_wsL_law0_r12_3⟩⟩⟩ : ∀ w ∈ ([Cond.methodLink RL 63 Lib.Math.min.name, Cond.fieldLink RL 71 "FeatherBedsLaw$Sim" "wind" "I", Cond.fieldLink RL 78 "FeatherBedsLaw$Sim" "damp" "[I", Cond.fieldLink RL 92 "FeatherBedsLaw$Tick" "sewn" "[[Z", Cond.methodLink RL 56 yX3_blow, Cond.instanceMethod yX3_blow] ++ ([Cond.selects RX3 yX3_blow yX3_blow, Cond.code yX3_blow cX3_blow 7 (some .int), Cond.methodLink RX3 95 yX1_brings, Cond.instanceMethod yX1_brings, Cond.selects RX1 yX1_brings yX1_brings, Cond.code yX1_brings cX1_brings 8 (some .int)] ++ ([Cond.methodLink RX1 22 yX0_of, Cond.methodLink RX1 35 yX1_flight, Cond.instanceMethod yX1_flight, Cond.selects RX1 yX1_flight yX1_flight, Cond.code yX1_flight cX1_flight 5 (some .int), Cond.methodLink RX1 29 Lib.Math.min.name] ++ ([Cond.methodLink RL 59 yX4_blow, Cond.instanceMethod yX4_blow, Cond.selects RX4 yX4_blow yX4_blow, Cond.code yX4_blow cX4_blow 6 (some .int), Cond.fieldLink RX4 45 "FeatherBedsLaw$Sim" "yard" "I", Cond.methodLink RX4 41 yX4_blown]))) : List Cond), w ∈ lw_tbl)
set_option maxRecDepth 20000 in
theorem wsL_g_wsL_law0_r13_0 : ∀ w ∈ ([Cond.instanceMethod yX4_blown, Cond.selects RX4 yX4_blown yX4_blown, Cond.code yX4_blown cX4_blown 7 (some (.array (.array .int))), Cond.methodLink RX4 35 Lib.Math.min.name, Cond.methodLink RX4 48 yX5_all, Cond.static yX5_all] : List Cond), w ∈ lw_tbl := by decide +kernel
set_option maxRecDepth 20000 in
theorem wsL_g_wsL_law0_r13_1 : ∀ w ∈ ([Cond.code yX5_all cX5_all 6 (some .int), Cond.methodLink RL 68 yX3_sweep, Cond.instanceMethod yX3_sweep, Cond.selects RX3 yX3_sweep yX3_sweep, Cond.code yX3_sweep cX3_sweep 8 (some .int), Cond.methodLink RX3 106 Lib.Math.min.name] : List Cond), w ∈ lw_tbl := by decide +kernel
set_option maxRecDepth 20000 in
theorem wsL_g_wsL_law0_r13_2 : ∀ w ∈ ([Cond.methodLink RX3 102 yX3_needChamber, Cond.instanceMethod yX3_needChamber, Cond.selects RX3 yX3_needChamber yX3_needChamber, Cond.code yX3_needChamber cX3_needChamber 2 (some (.object "FeatherBeds$Heap")), Cond.methodLink RL 75 yX3_setWind, Cond.instanceMethod yX3_setWind] : List Cond), w ∈ lw_tbl := by decide +kernel
set_option maxRecDepth 20000 in
theorem wsL_g_wsL_law0_r13_3 : ∀ w ∈ ([Cond.selects RX3 yX3_setWind yX3_setWind, Cond.code yX3_setWind cX3_setWind 3 (some .int), Cond.methodLink RL 85 yX3_dry, Cond.instanceMethod yX3_dry, Cond.selects RX3 yX3_dry yX3_dry, Cond.code yX3_dry cX3_dry 4 (some .int)] : List Cond), w ∈ lw_tbl := by decide +kernel
theorem wsL_in_wsL_law0_r13 : ∀ w ∈ wsL_law0_r13, w ∈ lw_tbl := (List.forall_mem_append.mpr ⟨wsL_g_wsL_law0_r13_0, List.forall_mem_append.mpr ⟨wsL_g_wsL_law0_r13_1, List.forall_mem_append.mpr ⟨wsL_g_wsL_law0_r13_2, wsL_g_wsL_law0_r13_3⟩⟩⟩ : ∀ w ∈ ([Cond.instanceMethod yX4_blown, Cond.selects RX4 yX4_blown yX4_blown, Cond.code yX4_blown cX4_blown 7 (some (.array (.array .int))), Cond.methodLink RX4 35 Lib.Math.min.name, Cond.methodLink RX4 48 yX5_all, Cond.static yX5_all] ++ ([Cond.code yX5_all cX5_all 6 (some .int), Cond.methodLink RL 68 yX3_sweep, Cond.instanceMethod yX3_sweep, Cond.selects RX3 yX3_sweep yX3_sweep, Cond.code yX3_sweep cX3_sweep 8 (some .int), Cond.methodLink RX3 106 Lib.Math.min.name] ++ ([Cond.methodLink RX3 102 yX3_needChamber, Cond.instanceMethod yX3_needChamber, Cond.selects RX3 yX3_needChamber yX3_needChamber, Cond.code yX3_needChamber cX3_needChamber 2 (some (.object "FeatherBeds$Heap")), Cond.methodLink RL 75 yX3_setWind, Cond.instanceMethod yX3_setWind] ++ ([Cond.selects RX3 yX3_setWind yX3_setWind, Cond.code yX3_setWind cX3_setWind 3 (some .int), Cond.methodLink RL 85 yX3_dry, Cond.instanceMethod yX3_dry, Cond.selects RX3 yX3_dry yX3_dry, Cond.code yX3_dry cX3_dry 4 (some .int)]))) : List Cond), w ∈ lw_tbl)
set_option maxRecDepth 20000 in
theorem wsL_g_wsL_law0_r14_0 : ∀ w ∈ ([Cond.methodLink RX3 86 Lib.Math.max.name, Cond.methodLink RL 88 yX5_has, Cond.instanceMethod yX5_has, Cond.selects RX5 yX5_has yX5_has, Cond.code yX5_has cX5_has 3 (some .boolean), Cond.methodLink RL 96 yX3_sew] : List Cond), w ∈ lw_tbl := by decide +kernel
set_option maxRecDepth 20000 in
theorem wsL_g_wsL_law0_r14_1 : ∀ w ∈ ([Cond.instanceMethod yX3_sew, Cond.selects RX3 yX3_sew yX3_sew, Cond.code yX3_sew cX3_sew 6 (some .int), Cond.methodLink RX3 118 yX3_needTick, Cond.instanceMethod yX3_needTick, Cond.selects RX3 yX3_needTick yX3_needTick] : List Cond), w ∈ lw_tbl := by decide +kernel
set_option maxRecDepth 20000 in
theorem wsL_g_wsL_law0_r14_2 : ∀ w ∈ ([Cond.code yX3_needTick cX3_needTick 2 (some (.object "FeatherBeds$Tick")), Cond.methodLink RX3 125 yX2_otherOfPair, Cond.instanceMethod yX2_otherOfPair, Cond.selects RX2 yX2_otherOfPair yX2_otherOfPair, Cond.code yX2_otherOfPair cX2_otherOfPair 3 (some .int), Cond.methodLink RX3 133 yX2_setSeam] : List Cond), w ∈ lw_tbl := by decide +kernel
set_option maxRecDepth 20000 in
theorem wsL_g_wsL_law0_r14_3 : ∀ w ∈ ([Cond.instanceMethod yX2_setSeam, Cond.selects RX2 yX2_setSeam yX2_setSeam, Cond.code yX2_setSeam cX2_setSeam 5 none, Cond.methodLink RX3 137 yX2_openPairs, Cond.instanceMethod yX2_openPairs, Cond.selects RX2 yX2_openPairs yX2_openPairs] : List Cond), w ∈ lw_tbl := by decide +kernel
theorem wsL_in_wsL_law0_r14 : ∀ w ∈ wsL_law0_r14, w ∈ lw_tbl := (List.forall_mem_append.mpr ⟨wsL_g_wsL_law0_r14_0, List.forall_mem_append.mpr ⟨wsL_g_wsL_law0_r14_1, List.forall_mem_append.mpr ⟨wsL_g_wsL_law0_r14_2, wsL_g_wsL_law0_r14_3⟩⟩⟩ : ∀ w ∈ ([Cond.methodLink RX3 86 Lib.Math.max.name, Cond.methodLink RL 88 yX5_has, Cond.instanceMethod yX5_has, Cond.selects RX5 yX5_has yX5_has, Cond.code yX5_has cX5_has 3 (some .boolean), Cond.methodLink RL 96 yX3_sew] ++ ([Cond.instanceMethod yX3_sew, Cond.selects RX3 yX3_sew yX3_sew, Cond.code yX3_sew cX3_sew 6 (some .int), Cond.methodLink RX3 118 yX3_needTick, Cond.instanceMethod yX3_needTick, Cond.selects RX3 yX3_needTick yX3_needTick] ++ ([Cond.code yX3_needTick cX3_needTick 2 (some (.object "FeatherBeds$Tick")), Cond.methodLink RX3 125 yX2_otherOfPair, Cond.instanceMethod yX2_otherOfPair, Cond.selects RX2 yX2_otherOfPair yX2_otherOfPair, Cond.code yX2_otherOfPair cX2_otherOfPair 3 (some .int), Cond.methodLink RX3 133 yX2_setSeam] ++ ([Cond.instanceMethod yX2_setSeam, Cond.selects RX2 yX2_setSeam yX2_setSeam, Cond.code yX2_setSeam cX2_setSeam 5 none, Cond.methodLink RX3 137 yX2_openPairs, Cond.instanceMethod yX2_openPairs, Cond.selects RX2 yX2_openPairs yX2_openPairs]))) : List Cond), w ∈ lw_tbl)
end
section
set_option maxRecDepth 20000 in
theorem wsL_g_wsL_law0_r15_0 : ∀ w ∈ ([Cond.code yX2_openPairs cX2_openPairs 4 (some .int), Cond.methodLink RX2 47 yX2_isOpen, Cond.instanceMethod yX2_isOpen, Cond.selects RX2 yX2_isOpen yX2_isOpen, Cond.code yX2_isOpen cX2_isOpen 4 (some .boolean), Cond.methodLink RX2 43 yX2_otherOfPair] : List Cond), w ∈ lw_tbl := by decide +kernel
set_option maxRecDepth 20000 in
theorem wsL_g_wsL_law0_r15_1 : ∀ w ∈ ([Cond.methodLink RL 100 yX5_open, Cond.instanceMethod yX5_open, Cond.selects RX5 yX5_open yX5_open, Cond.code yX5_open cX5_open 4 (some .int), Cond.methodLink RX5 45 yX5_isOpen, Cond.instanceMethod yX5_isOpen] : List Cond), w ∈ lw_tbl := by decide +kernel
set_option maxRecDepth 20000 in
theorem wsL_g_wsL_law0_r15_2 : ∀ w ∈ ([Cond.selects RX5 yX5_isOpen yX5_isOpen, Cond.code yX5_isOpen cX5_isOpen 3 (some .boolean), Cond.methodLink RX5 41 yX5_has, Cond.methodLink RL 104 yX3_shift, Cond.instanceMethod yX3_shift, Cond.selects RX3 yX3_shift yX3_shift] : List Cond), w ∈ lw_tbl := by decide +kernel
set_option maxRecDepth 20000 in
theorem wsL_g_wsL_law0_r15_3 : ∀ w ∈ ([Cond.code yX3_shift cX3_shift 8 (some .int), Cond.methodLink RX3 140 yX3_needSquare, Cond.static yX3_needSquare, Cond.code yX3_needSquare cX3_needSquare 2 (some (.object "FeatherBeds$Heap")), Cond.methodLink RX3 144 yX3_moveByHand, Cond.static yX3_moveByHand] : List Cond), w ∈ lw_tbl := by decide +kernel
theorem wsL_in_wsL_law0_r15 : ∀ w ∈ wsL_law0_r15, w ∈ lw_tbl := (List.forall_mem_append.mpr ⟨wsL_g_wsL_law0_r15_0, List.forall_mem_append.mpr ⟨wsL_g_wsL_law0_r15_1, List.forall_mem_append.mpr ⟨wsL_g_wsL_law0_r15_2, wsL_g_wsL_law0_r15_3⟩⟩⟩ : ∀ w ∈ ([Cond.code yX2_openPairs cX2_openPairs 4 (some .int), Cond.methodLink RX2 47 yX2_isOpen, Cond.instanceMethod yX2_isOpen, Cond.selects RX2 yX2_isOpen yX2_isOpen, Cond.code yX2_isOpen cX2_isOpen 4 (some .boolean), Cond.methodLink RX2 43 yX2_otherOfPair] ++ ([Cond.methodLink RL 100 yX5_open, Cond.instanceMethod yX5_open, Cond.selects RX5 yX5_open yX5_open, Cond.code yX5_open cX5_open 4 (some .int), Cond.methodLink RX5 45 yX5_isOpen, Cond.instanceMethod yX5_isOpen] ++ ([Cond.selects RX5 yX5_isOpen yX5_isOpen, Cond.code yX5_isOpen cX5_isOpen 3 (some .boolean), Cond.methodLink RX5 41 yX5_has, Cond.methodLink RL 104 yX3_shift, Cond.instanceMethod yX3_shift, Cond.selects RX3 yX3_shift yX3_shift] ++ ([Cond.code yX3_shift cX3_shift 8 (some .int), Cond.methodLink RX3 140 yX3_needSquare, Cond.static yX3_needSquare, Cond.code yX3_needSquare cX3_needSquare 2 (some (.object "FeatherBeds$Heap")), Cond.methodLink RX3 144 yX3_moveByHand, Cond.static yX3_moveByHand]))) : List Cond), w ∈ lw_tbl)
set_option maxRecDepth 20000 in
theorem wsL_g_wsL_law0_r16_0 : ∀ w ∈ ([Cond.code yX3_moveByHand cX3_moveByHand 3 (some .int), Cond.methodLink RX3 229 yX0_moveTo, Cond.instanceMethod yX0_moveTo, Cond.selects RX0 yX0_moveTo yX0_moveTo, Cond.code yX0_moveTo cX0_moveTo 7 (some .int), Cond.methodLink RX0 27 Lib.Math.min.name] : List Cond), w ∈ lw_tbl := by decide +kernel
set_option maxRecDepth 20000 in
theorem wsL_g_wsL_law0_r16_1 : ∀ w ∈ ([Cond.methodLink RX0 19 yX0_of, Cond.methodLink RX0 23 yX0_change, Cond.methodLink RL 108 yX4_take, Cond.static yX4_take, Cond.code yX4_take cX4_take 7 (some .int), Cond.methodLink RL 112 yX5_all] : List Cond), w ∈ lw_tbl := by decide +kernel
set_option maxRecDepth 20000 in
theorem wsL_g_wsL_law0_r16_2 : ∀ w ∈ ([Cond.methodLink RL 116 yX3_fill, Cond.instanceMethod yX3_fill, Cond.selects RX3 yX3_fill yX3_fill, Cond.code yX3_fill cX3_fill 7 (some .int), Cond.methodLink RL 132 yX3_square, Cond.instanceMethod yX3_square] : List Cond), w ∈ lw_tbl := by decide +kernel
set_option maxRecDepth 20000 in
theorem wsL_g_wsL_law0_r16_3 : ∀ w ∈ ([Cond.selects RX3 yX3_square yX3_square, Cond.code yX3_square cX3_square 5 (some .int), Cond.methodLink RX3 150 yX2_squareTells, Cond.instanceMethod yX2_squareTells, Cond.selects RX2 yX2_squareTells yX2_squareTells, Cond.code yX2_squareTells cX2_squareTells 3 (some .int)] : List Cond), w ∈ lw_tbl := by decide +kernel
theorem wsL_in_wsL_law0_r16 : ∀ w ∈ wsL_law0_r16, w ∈ lw_tbl := (List.forall_mem_append.mpr ⟨wsL_g_wsL_law0_r16_0, List.forall_mem_append.mpr ⟨wsL_g_wsL_law0_r16_1, List.forall_mem_append.mpr ⟨wsL_g_wsL_law0_r16_2, wsL_g_wsL_law0_r16_3⟩⟩⟩ : ∀ w ∈ ([Cond.code yX3_moveByHand cX3_moveByHand 3 (some .int), Cond.methodLink RX3 229 yX0_moveTo, Cond.instanceMethod yX0_moveTo, Cond.selects RX0 yX0_moveTo yX0_moveTo, Cond.code yX0_moveTo cX0_moveTo 7 (some .int), Cond.methodLink RX0 27 Lib.Math.min.name] ++ ([Cond.methodLink RX0 19 yX0_of, Cond.methodLink RX0 23 yX0_change, Cond.methodLink RL 108 yX4_take, Cond.static yX4_take, Cond.code yX4_take cX4_take 7 (some .int), Cond.methodLink RL 112 yX5_all] ++ ([Cond.methodLink RL 116 yX3_fill, Cond.instanceMethod yX3_fill, Cond.selects RX3 yX3_fill yX3_fill, Cond.code yX3_fill cX3_fill 7 (some .int), Cond.methodLink RL 132 yX3_square, Cond.instanceMethod yX3_square] ++ ([Cond.selects RX3 yX3_square yX3_square, Cond.code yX3_square cX3_square 5 (some .int), Cond.methodLink RX3 150 yX2_squareTells, Cond.instanceMethod yX2_squareTells, Cond.selects RX2 yX2_squareTells yX2_squareTells, Cond.code yX2_squareTells cX2_squareTells 3 (some .int)]))) : List Cond), w ∈ lw_tbl)
set_option maxRecDepth 20000 in
theorem wsL_g_wsL_law0_r17_0 : ∀ w ∈ ([Cond.methodLink RX2 83 yX0_of, Cond.methodLink RX2 57 yX0_warmth, Cond.instanceMethod yX0_warmth, Cond.selects RX0 yX0_warmth yX0_warmth, Cond.code yX0_warmth cX0_warmth 3 (some .int), Cond.methodLink RL 135 yX3_foresee] : List Cond), w ∈ lw_tbl := by decide +kernel
set_option maxRecDepth 20000 in
theorem wsL_g_wsL_law0_r17_1 : ∀ w ∈ ([Cond.instanceMethod yX3_foresee, Cond.selects RX3 yX3_foresee yX3_foresee, Cond.code yX3_foresee cX3_foresee 5 (some .int), Cond.methodLink RX3 170 yX2_become, Cond.instanceMethod yX2_become, Cond.selects RX2 yX2_become yX2_become] : List Cond), w ∈ lw_tbl := by decide +kernel
set_option maxRecDepth 20000 in
theorem wsL_g_wsL_law0_r17_2 : ∀ w ∈ ([Cond.code yX2_become cX2_become 3 none, Cond.methodLink RX2 39 yX0_become, Cond.instanceMethod yX0_become, Cond.selects RX0 yX0_become yX0_become, Cond.code yX0_become cX0_become 3 none, Cond.methodLink RX3 158 yX2_sleep] : List Cond), w ∈ lw_tbl := by decide +kernel
set_option maxRecDepth 20000 in
theorem wsL_g_wsL_law0_r17_3 : ∀ w ∈ ([Cond.instanceMethod yX2_sleep, Cond.selects RX2 yX2_sleep yX2_sleep, Cond.code yX2_sleep cX2_sleep 6 (some .int), Cond.methodLink RX2 86 yX2_prickInAll, Cond.instanceMethod yX2_prickInAll, Cond.selects RX2 yX2_prickInAll yX2_prickInAll] : List Cond), w ∈ lw_tbl := by decide +kernel
theorem wsL_in_wsL_law0_r17 : ∀ w ∈ wsL_law0_r17, w ∈ lw_tbl := (List.forall_mem_append.mpr ⟨wsL_g_wsL_law0_r17_0, List.forall_mem_append.mpr ⟨wsL_g_wsL_law0_r17_1, List.forall_mem_append.mpr ⟨wsL_g_wsL_law0_r17_2, wsL_g_wsL_law0_r17_3⟩⟩⟩ : ∀ w ∈ ([Cond.methodLink RX2 83 yX0_of, Cond.methodLink RX2 57 yX0_warmth, Cond.instanceMethod yX0_warmth, Cond.selects RX0 yX0_warmth yX0_warmth, Cond.code yX0_warmth cX0_warmth 3 (some .int), Cond.methodLink RL 135 yX3_foresee] ++ ([Cond.instanceMethod yX3_foresee, Cond.selects RX3 yX3_foresee yX3_foresee, Cond.code yX3_foresee cX3_foresee 5 (some .int), Cond.methodLink RX3 170 yX2_become, Cond.instanceMethod yX2_become, Cond.selects RX2 yX2_become yX2_become] ++ ([Cond.code yX2_become cX2_become 3 none, Cond.methodLink RX2 39 yX0_become, Cond.instanceMethod yX0_become, Cond.selects RX0 yX0_become yX0_become, Cond.code yX0_become cX0_become 3 none, Cond.methodLink RX3 158 yX2_sleep] ++ ([Cond.instanceMethod yX2_sleep, Cond.selects RX2 yX2_sleep yX2_sleep, Cond.code yX2_sleep cX2_sleep 6 (some .int), Cond.methodLink RX2 86 yX2_prickInAll, Cond.instanceMethod yX2_prickInAll, Cond.selects RX2 yX2_prickInAll yX2_prickInAll]))) : List Cond), w ∈ lw_tbl)
set_option maxRecDepth 20000 in
theorem wsL_g_wsL_law0_r18_0 : ∀ w ∈ ([Cond.code yX2_prickInAll cX2_prickInAll 3 (some .int), Cond.methodLink RX2 92 yX0_prick, Cond.instanceMethod yX0_prick, Cond.selects RX0 yX0_prick yX0_prick, Cond.code yX0_prick cX0_prick 6 (some .int), Cond.methodLink RX2 89 yX2_shiftInAll] : List Cond), w ∈ lw_tbl := by decide +kernel
set_option maxRecDepth 20000 in
theorem wsL_g_wsL_law0_r18_1 : ∀ w ∈ ([Cond.instanceMethod yX2_shiftInAll, Cond.selects RX2 yX2_shiftInAll yX2_shiftInAll, Cond.code yX2_shiftInAll cX2_shiftInAll 4 (some .int), Cond.methodLink RX2 95 yX2_shiftBetween, Cond.instanceMethod yX2_shiftBetween, Cond.selects RX2 yX2_shiftBetween yX2_shiftBetween] : List Cond), w ∈ lw_tbl := by decide +kernel
set_option maxRecDepth 20000 in
theorem wsL_g_wsL_law0_r18_2 : ∀ w ∈ ([Cond.code yX2_shiftBetween cX2_shiftBetween 4 (some .int), Cond.methodLink RX2 98 yX0_moveTo, Cond.methodLink RX3 177 yX2_coldestWarmth, Cond.instanceMethod yX2_coldestWarmth, Cond.selects RX2 yX2_coldestWarmth yX2_coldestWarmth, Cond.code yX2_coldestWarmth cX2_coldestWarmth 1 (some .int)] : List Cond), w ∈ lw_tbl := by decide +kernel
set_option maxRecDepth 20000 in
theorem wsL_g_wsL_law0_r18_3 : ∀ w ∈ ([Cond.methodLink RX2 65 yX2_coldestSquare, Cond.instanceMethod yX2_coldestSquare, Cond.selects RX2 yX2_coldestSquare yX2_coldestSquare, Cond.code yX2_coldestSquare cX2_coldestSquare 3 (some .int), Cond.methodLink RX2 61 yX2_warmthAt, Cond.instanceMethod yX2_warmthAt] : List Cond), w ∈ lw_tbl := by decide +kernel
theorem wsL_in_wsL_law0_r18 : ∀ w ∈ wsL_law0_r18, w ∈ lw_tbl := (List.forall_mem_append.mpr ⟨wsL_g_wsL_law0_r18_0, List.forall_mem_append.mpr ⟨wsL_g_wsL_law0_r18_1, List.forall_mem_append.mpr ⟨wsL_g_wsL_law0_r18_2, wsL_g_wsL_law0_r18_3⟩⟩⟩ : ∀ w ∈ ([Cond.code yX2_prickInAll cX2_prickInAll 3 (some .int), Cond.methodLink RX2 92 yX0_prick, Cond.instanceMethod yX0_prick, Cond.selects RX0 yX0_prick yX0_prick, Cond.code yX0_prick cX0_prick 6 (some .int), Cond.methodLink RX2 89 yX2_shiftInAll] ++ ([Cond.instanceMethod yX2_shiftInAll, Cond.selects RX2 yX2_shiftInAll yX2_shiftInAll, Cond.code yX2_shiftInAll cX2_shiftInAll 4 (some .int), Cond.methodLink RX2 95 yX2_shiftBetween, Cond.instanceMethod yX2_shiftBetween, Cond.selects RX2 yX2_shiftBetween yX2_shiftBetween] ++ ([Cond.code yX2_shiftBetween cX2_shiftBetween 4 (some .int), Cond.methodLink RX2 98 yX0_moveTo, Cond.methodLink RX3 177 yX2_coldestWarmth, Cond.instanceMethod yX2_coldestWarmth, Cond.selects RX2 yX2_coldestWarmth yX2_coldestWarmth, Cond.code yX2_coldestWarmth cX2_coldestWarmth 1 (some .int)] ++ ([Cond.methodLink RX2 65 yX2_coldestSquare, Cond.instanceMethod yX2_coldestSquare, Cond.selects RX2 yX2_coldestSquare yX2_coldestSquare, Cond.code yX2_coldestSquare cX2_coldestSquare 3 (some .int), Cond.methodLink RX2 61 yX2_warmthAt, Cond.instanceMethod yX2_warmthAt]))) : List Cond), w ∈ lw_tbl)
set_option maxRecDepth 20000 in
theorem wsL_g_wsL_law0_r19_0 : ∀ w ∈ ([Cond.selects RX2 yX2_warmthAt yX2_warmthAt, Cond.code yX2_warmthAt cX2_warmthAt 2 (some .int), Cond.methodLink RX3 180 yX2_coldestSquare, Cond.methodLink RL 138 yX3_lasts, Cond.instanceMethod yX3_lasts, Cond.selects RX3 yX3_lasts yX3_lasts] : List Cond), w ∈ lw_tbl := by decide +kernel
set_option maxRecDepth 20000 in
theorem wsL_g_wsL_law0_r19_1 : ∀ w ∈ ([Cond.code yX3_lasts cX3_lasts 5 (some .int), Cond.methodLink RL 141 yX3_pass, Cond.instanceMethod yX3_pass, Cond.selects RX3 yX3_pass yX3_pass, Cond.code yX3_pass cX3_pass 4 (some .int), Cond.methodLink RL 144 yX4_pass] : List Cond), w ∈ lw_tbl := by decide +kernel
set_option maxRecDepth 20000 in
theorem wsL_g_wsL_law0_r19_2 : ∀ w ∈ ([Cond.instanceMethod yX4_pass, Cond.selects RX4 yX4_pass yX4_pass, Cond.code yX4_pass cX4_pass 6 (some .int), Cond.fieldLink RX4 56 "FeatherBedsLaw$Sim" "nights" "I", Cond.fieldLink RX4 59 "FeatherBedsLaw$Sim" "pricked" "I", Cond.methodLink RX4 52 yX5_night] : List Cond), w ∈ lw_tbl := by decide +kernel
set_option maxRecDepth 20000 in
theorem wsL_g_wsL_law0_r19_3 : ∀ w ∈ ([Cond.instanceMethod yX5_night, Cond.selects RX5 yX5_night yX5_night, Cond.code yX5_night cX5_night 9 (some .int), Cond.methodLink RX5 63 Lib.Math.min.name, Cond.methodLink RX5 52 yX5_to, Cond.instanceMethod yX5_to] : List Cond), w ∈ lw_tbl := by decide +kernel
theorem wsL_in_wsL_law0_r19 : ∀ w ∈ wsL_law0_r19, w ∈ lw_tbl := (List.forall_mem_append.mpr ⟨wsL_g_wsL_law0_r19_0, List.forall_mem_append.mpr ⟨wsL_g_wsL_law0_r19_1, List.forall_mem_append.mpr ⟨wsL_g_wsL_law0_r19_2, wsL_g_wsL_law0_r19_3⟩⟩⟩ : ∀ w ∈ ([Cond.selects RX2 yX2_warmthAt yX2_warmthAt, Cond.code yX2_warmthAt cX2_warmthAt 2 (some .int), Cond.methodLink RX3 180 yX2_coldestSquare, Cond.methodLink RL 138 yX3_lasts, Cond.instanceMethod yX3_lasts, Cond.selects RX3 yX3_lasts yX3_lasts] ++ ([Cond.code yX3_lasts cX3_lasts 5 (some .int), Cond.methodLink RL 141 yX3_pass, Cond.instanceMethod yX3_pass, Cond.selects RX3 yX3_pass yX3_pass, Cond.code yX3_pass cX3_pass 4 (some .int), Cond.methodLink RL 144 yX4_pass] ++ ([Cond.instanceMethod yX4_pass, Cond.selects RX4 yX4_pass yX4_pass, Cond.code yX4_pass cX4_pass 6 (some .int), Cond.fieldLink RX4 56 "FeatherBedsLaw$Sim" "nights" "I", Cond.fieldLink RX4 59 "FeatherBedsLaw$Sim" "pricked" "I", Cond.methodLink RX4 52 yX5_night] ++ ([Cond.instanceMethod yX5_night, Cond.selects RX5 yX5_night yX5_night, Cond.code yX5_night cX5_night 9 (some .int), Cond.methodLink RX5 63 Lib.Math.min.name, Cond.methodLink RX5 52 yX5_to, Cond.instanceMethod yX5_to]))) : List Cond), w ∈ lw_tbl)
set_option maxRecDepth 20000 in
theorem wsL_g_wsL_law0_r20_0 : ∀ w ∈ ([Cond.selects RX5 yX5_to yX5_to, Cond.code yX5_to cX5_to 3 (some .int), Cond.methodLink RX5 60 yX5_all, Cond.methodLink RL 146 yX3_tick, Cond.instanceMethod yX3_tick, Cond.selects RX3 yX3_tick yX3_tick] : List Cond), w ∈ lw_tbl := by decide +kernel
set_option maxRecDepth 20000 in
theorem wsL_g_wsL_law0_r20_1 : ∀ w ∈ ([Cond.code yX3_tick cX3_tick 4 (some .int), Cond.methodLink RX3 153 yX2_tells, Cond.instanceMethod yX2_tells, Cond.selects RX2 yX2_tells yX2_tells, Cond.code yX2_tells cX2_tells 2 (some .int), Cond.methodLink RX2 68 yX2_feathers] : List Cond), w ∈ lw_tbl := by decide +kernel
set_option maxRecDepth 20000 in
theorem wsL_g_wsL_law0_r20_2 : ∀ w ∈ ([Cond.methodLink RX2 71 yX2_warmthInAll, Cond.instanceMethod yX2_warmthInAll, Cond.selects RX2 yX2_warmthInAll yX2_warmthInAll, Cond.code yX2_warmthInAll cX2_warmthInAll 3 (some .int), Cond.methodLink RX2 74 yX2_coldestWarmth, Cond.methodLink RX2 77 yX2_openPairs] : List Cond), w ∈ lw_tbl := by decide +kernel
set_option maxRecDepth 20000 in
theorem wsL_g_wsL_law0_r20_3 : ∀ w ∈ ([Cond.methodLink RX2 80 yX2_parts, Cond.instanceMethod yX2_parts, Cond.selects RX2 yX2_parts yX2_parts, Cond.code yX2_parts cX2_parts 4 (some .int), Cond.methodLink RX2 51 yX2_joinParts, Cond.instanceMethod yX2_joinParts] : List Cond), w ∈ lw_tbl := by decide +kernel
theorem wsL_in_wsL_law0_r20 : ∀ w ∈ wsL_law0_r20, w ∈ lw_tbl := (List.forall_mem_append.mpr ⟨wsL_g_wsL_law0_r20_0, List.forall_mem_append.mpr ⟨wsL_g_wsL_law0_r20_1, List.forall_mem_append.mpr ⟨wsL_g_wsL_law0_r20_2, wsL_g_wsL_law0_r20_3⟩⟩⟩ : ∀ w ∈ ([Cond.selects RX5 yX5_to yX5_to, Cond.code yX5_to cX5_to 3 (some .int), Cond.methodLink RX5 60 yX5_all, Cond.methodLink RL 146 yX3_tick, Cond.instanceMethod yX3_tick, Cond.selects RX3 yX3_tick yX3_tick] ++ ([Cond.code yX3_tick cX3_tick 4 (some .int), Cond.methodLink RX3 153 yX2_tells, Cond.instanceMethod yX2_tells, Cond.selects RX2 yX2_tells yX2_tells, Cond.code yX2_tells cX2_tells 2 (some .int), Cond.methodLink RX2 68 yX2_feathers] ++ ([Cond.methodLink RX2 71 yX2_warmthInAll, Cond.instanceMethod yX2_warmthInAll, Cond.selects RX2 yX2_warmthInAll yX2_warmthInAll, Cond.code yX2_warmthInAll cX2_warmthInAll 3 (some .int), Cond.methodLink RX2 74 yX2_coldestWarmth, Cond.methodLink RX2 77 yX2_openPairs] ++ ([Cond.methodLink RX2 80 yX2_parts, Cond.instanceMethod yX2_parts, Cond.selects RX2 yX2_parts yX2_parts, Cond.code yX2_parts cX2_parts 4 (some .int), Cond.methodLink RX2 51 yX2_joinParts, Cond.instanceMethod yX2_joinParts]))) : List Cond), w ∈ lw_tbl)
set_option maxRecDepth 20000 in
theorem wsL_g_wsL_law0_r21_0 : ∀ w ∈ ([Cond.selects RX2 yX2_joinParts yX2_joinParts, Cond.code yX2_joinParts cX2_joinParts 6 (some .boolean), Cond.methodLink RL 148 yL_coldest, Cond.static yL_coldest, Cond.code yL_coldest cL_coldest 3 (some .int), Cond.methodLink RL 152 yX3_sack] : List Cond), w ∈ lw_tbl := by decide +kernel
set_option maxRecDepth 20000 in
theorem wsL_g_wsL_law0_r21_1 : ∀ w ∈ ([Cond.instanceMethod yX3_sack, Cond.selects RX3 yX3_sack yX3_sack, Cond.code yX3_sack cX3_sack 4 (some .int), Cond.methodLink RX3 92 yX1_tells, Cond.instanceMethod yX1_tells, Cond.selects RX1 yX1_tells yX1_tells] : List Cond), w ∈ lw_tbl := by decide +kernel
set_option maxRecDepth 20000 in
theorem wsL_g_wsL_law0_r21_2 : ∀ w ∈ ([Cond.code yX1_tells cX1_tells 2 (some .int)] : List Cond), w ∈ lw_tbl := by decide +kernel
theorem wsL_in_wsL_law0_r21 : ∀ w ∈ wsL_law0_r21, w ∈ lw_tbl := (List.forall_mem_append.mpr ⟨wsL_g_wsL_law0_r21_0, List.forall_mem_append.mpr ⟨wsL_g_wsL_law0_r21_1, wsL_g_wsL_law0_r21_2⟩⟩ : ∀ w ∈ ([Cond.selects RX2 yX2_joinParts yX2_joinParts, Cond.code yX2_joinParts cX2_joinParts 6 (some .boolean), Cond.methodLink RL 148 yL_coldest, Cond.static yL_coldest, Cond.code yL_coldest cL_coldest 3 (some .int), Cond.methodLink RL 152 yX3_sack] ++ ([Cond.instanceMethod yX3_sack, Cond.selects RX3 yX3_sack yX3_sack, Cond.code yX3_sack cX3_sack 4 (some .int), Cond.methodLink RX3 92 yX1_tells, Cond.instanceMethod yX1_tells, Cond.selects RX1 yX1_tells yX1_tells] ++ ([Cond.code yX1_tells cX1_tells 2 (some .int)])) : List Cond), w ∈ lw_tbl)
end
section
set_option maxRecDepth 20000 in
theorem wsL_in_wsX30 : ∀ w ∈ wsX30, w ∈ lw_tbl := by decide +kernel
set_option maxRecDepth 20000 in
theorem wsL_in_wsX40 : ∀ w ∈ wsX40, w ∈ lw_tbl := by decide +kernel
set_option maxRecDepth 20000 in
theorem wsL_in_wsX50 : ∀ w ∈ wsX50, w ∈ lw_tbl := by decide +kernel
set_option maxRecDepth 20000 in
theorem wsL_in_wsJx4a65c0 : ∀ w ∈ wsJx4a65c0, w ∈ lw_tbl := by decide +kernel
set_option maxRecDepth 20000 in
theorem wsL_in_wsX00 : ∀ w ∈ wsX00, w ∈ lw_tbl := by decide +kernel
set_option maxRecDepth 20000 in
theorem wsL_in_wsX20 : ∀ w ∈ wsX20, w ∈ lw_tbl := by decide +kernel
set_option maxRecDepth 20000 in
theorem wsL_in_wsX10 : ∀ w ∈ wsX10, w ∈ lw_tbl := by decide +kernel
end
section
theorem wsL_law_in0 : ∀ w ∈ wsL_law0, w ∈ lw_tbl := by
  unfold wsL_law0
  exact List.forall_mem_append.mpr ⟨List.forall_mem_append.mpr ⟨List.forall_mem_append.mpr ⟨List.forall_mem_append.mpr ⟨List.forall_mem_append.mpr ⟨List.forall_mem_append.mpr ⟨List.forall_mem_append.mpr ⟨List.forall_mem_append.mpr ⟨List.forall_mem_append.mpr ⟨wsL_in_wsL_law0_r1, List.forall_mem_append.mpr ⟨wsL_in_wsL_law0_r2, List.forall_mem_append.mpr ⟨wsL_in_wsL_law0_r3, List.forall_mem_append.mpr ⟨wsL_in_wsL_law0_r4, List.forall_mem_append.mpr ⟨wsL_in_wsL_law0_r5, List.forall_mem_append.mpr ⟨wsL_in_wsL_law0_r6, List.forall_mem_append.mpr ⟨wsL_in_wsL_law0_r7, List.forall_mem_append.mpr ⟨wsL_in_wsL_law0_r8, List.forall_mem_append.mpr ⟨wsL_in_wsL_law0_r9, List.forall_mem_append.mpr ⟨wsL_in_wsL_law0_r10, List.forall_mem_append.mpr ⟨wsL_in_wsL_law0_r11, List.forall_mem_append.mpr ⟨wsL_in_wsL_law0_r12, List.forall_mem_append.mpr ⟨wsL_in_wsL_law0_r13, List.forall_mem_append.mpr ⟨wsL_in_wsL_law0_r14, List.forall_mem_append.mpr ⟨wsL_in_wsL_law0_r15, List.forall_mem_append.mpr ⟨wsL_in_wsL_law0_r16, List.forall_mem_append.mpr ⟨wsL_in_wsL_law0_r17, List.forall_mem_append.mpr ⟨wsL_in_wsL_law0_r18, List.forall_mem_append.mpr ⟨wsL_in_wsL_law0_r19, List.forall_mem_append.mpr ⟨wsL_in_wsL_law0_r20, wsL_in_wsL_law0_r21⟩⟩⟩⟩⟩⟩⟩⟩⟩⟩⟩⟩⟩⟩⟩⟩⟩⟩⟩⟩, wsL_in_wsX30⟩, wsL_in_wsX40⟩, wsL_in_wsX50⟩, wsL_in_wsJx4a65c0⟩, wsL_in_wsX00⟩, wsL_in_wsX20⟩, wsL_in_wsX10⟩, (fun _ h => absurd h List.not_mem_nil)⟩
theorem wsL_law_x0 : ∀ w ∈ (vx_atS RX3 50 "java/lang/IllegalStateException" ["java/lang/RuntimeException", "java/lang/Exception"]).filter goodWord, w ∈ lw_tbl := by decide +kernel
theorem wsL_law_x1 : ∀ w ∈ (vx_atS RX3 132 "java/lang/IllegalArgumentException" ["java/lang/RuntimeException", "java/lang/Exception"]).filter goodWord, w ∈ lw_tbl := by decide +kernel
theorem wsL_law_x2 : ∀ w ∈ (vx_atS RX3 214 "java/lang/IndexOutOfBoundsException" ["java/lang/RuntimeException", "java/lang/Exception"]).filter goodWord, w ∈ lw_tbl := by decide +kernel
theorem wsL_law_in : ∀ w ∈ wsL_law, w ∈ lw_tbl := fun w h => (List.mem_append.mp h).elim (fun h => (List.mem_append.mp h).elim (fun h => (List.mem_append.mp h).elim (fun h => wsL_law_in0 w h) (fun h => wsL_law_x0 w h)) (fun h => wsL_law_x1 w h)) (fun h => wsL_law_x2 w h)
theorem inlX0 : ∀ w ∈ wsX00, w ∈ wsL_law := fun _ h => List.mem_append_left _ (List.mem_append_left _ (List.mem_append_left _ (List.mem_append_left _ (List.mem_append_left _ (List.mem_append_left _ (List.mem_append_right _ h))))))
theorem inX0 : ∀ w ∈ wsX00, w ∈ lw_tbl := fun w h => wsL_law_in w (inlX0 w h)
theorem inlX1 : ∀ w ∈ wsX10, w ∈ wsL_law := fun _ h => List.mem_append_left _ (List.mem_append_left _ (List.mem_append_left _ (List.mem_append_left _ (List.mem_append_right _ h))))
theorem inX1 : ∀ w ∈ wsX10, w ∈ lw_tbl := fun w h => wsL_law_in w (inlX1 w h)
theorem inlX2 : ∀ w ∈ wsX20, w ∈ wsL_law := fun _ h => List.mem_append_left _ (List.mem_append_left _ (List.mem_append_left _ (List.mem_append_left _ (List.mem_append_left _ (List.mem_append_right _ h)))))
theorem inX2 : ∀ w ∈ wsX20, w ∈ lw_tbl := fun w h => wsL_law_in w (inlX2 w h)
theorem inlX3 : ∀ w ∈ wsX30, w ∈ wsL_law := fun _ h => List.mem_append_left _ (List.mem_append_left _ (List.mem_append_left _ (List.mem_append_left _ (List.mem_append_left _ (List.mem_append_left _ (List.mem_append_left _ (List.mem_append_left _ (List.mem_append_left _ (List.mem_append_left _ (List.mem_append_right _ h))))))))))
theorem inX3 : ∀ w ∈ wsX30, w ∈ lw_tbl := fun w h => wsL_law_in w (inlX3 w h)
theorem inlX4 : ∀ w ∈ wsX40, w ∈ wsL_law := fun _ h => List.mem_append_left _ (List.mem_append_left _ (List.mem_append_left _ (List.mem_append_left _ (List.mem_append_left _ (List.mem_append_left _ (List.mem_append_left _ (List.mem_append_left _ (List.mem_append_left _ (List.mem_append_right _ h)))))))))
theorem inX4 : ∀ w ∈ wsX40, w ∈ lw_tbl := fun w h => wsL_law_in w (inlX4 w h)
theorem inlX5 : ∀ w ∈ wsX50, w ∈ wsL_law := fun _ h => List.mem_append_left _ (List.mem_append_left _ (List.mem_append_left _ (List.mem_append_left _ (List.mem_append_left _ (List.mem_append_left _ (List.mem_append_left _ (List.mem_append_left _ (List.mem_append_right _ h))))))))
theorem inX5 : ∀ w ∈ wsX50, w ∈ lw_tbl := fun w h => wsL_law_in w (inlX5 w h)
theorem inX6 : ∀ w ∈ wsX60, w ∈ lw_tbl := by decide +kernel
theorem inJx145de : ∀ w ∈ wsJx145de0, w ∈ lw_tbl := by decide +kernel
theorem inJx8e188 : ∀ w ∈ wsJx8e1880, w ∈ lw_tbl := by decide +kernel
theorem inJxab1ab : ∀ w ∈ wsJxab1ab0, w ∈ lw_tbl := by decide +kernel
theorem inJ9 : ∀ w ∈ wsJ90, w ∈ lw_tbl := by decide +kernel
theorem inJ0 : ∀ w ∈ wsJ00, w ∈ lw_tbl := by decide +kernel
theorem inJ10 : ∀ w ∈ wsJ100, w ∈ lw_tbl := by decide +kernel
theorem inJxa1e45 : ∀ w ∈ wsJxa1e450, w ∈ lw_tbl := by decide +kernel
theorem inJxc12de : ∀ w ∈ wsJxc12de0, w ∈ lw_tbl := by decide +kernel
theorem inlJx4a65c : ∀ w ∈ wsJx4a65c0, w ∈ wsL_law := fun _ h => List.mem_append_left _ (List.mem_append_left _ (List.mem_append_left _ (List.mem_append_left _ (List.mem_append_left _ (List.mem_append_left _ (List.mem_append_left _ (List.mem_append_right _ h)))))))
theorem inJx4a65c : ∀ w ∈ wsJx4a65c0, w ∈ lw_tbl := fun w h => wsL_law_in w (inlJx4a65c w h)
theorem inJ7 : ∀ w ∈ wsJ70, w ∈ lw_tbl := by decide +kernel
theorem inJx5ef63 : ∀ w ∈ wsJx5ef630, w ∈ lw_tbl := by decide +kernel
theorem inJxbd725 : ∀ w ∈ wsJxbd7250, w ∈ lw_tbl := by decide +kernel
theorem inJ15 : ∀ w ∈ wsJ150, w ∈ lw_tbl := by decide +kernel
theorem inJxf0a74 : ∀ w ∈ wsJxf0a740, w ∈ lw_tbl := by decide +kernel
theorem inJxa66e6 : ∀ w ∈ wsJxa66e60, w ∈ lw_tbl := by decide +kernel
theorem inJ8 : ∀ w ∈ wsJ80, w ∈ lw_tbl := by decide +kernel
theorem inJ3 : ∀ w ∈ wsJ30, w ∈ lw_tbl := by decide +kernel
end
section
theorem dX0_init_0 : decode cX0_init 0 = .ok (.aload_n 0, 1) := by decide +kernel
theorem dX0_init_1 : decode cX0_init 1 = .ok (.invokespecial 3, 3) := by decide +kernel
theorem dX0_init_4 : decode cX0_init 4 = .ok (.aload_n 0, 1) := by decide +kernel
theorem dX0_init_5 : decode cX0_init 5 = .ok (.bipush 6, 2) := by decide +kernel
theorem dX0_init_7 : decode cX0_init 7 = .ok (.newarray .int, 2) := by decide +kernel
theorem dX0_init_9 : decode cX0_init 9 = .ok (.putfield 9, 3) := by decide +kernel
theorem dX0_init_12 : decode cX0_init 12 = .ok (.return_, 1) := by decide +kernel
theorem dX0_of_0 : decode cX0_of 0 = .ok (.iload_n 1, 1) := by decide +kernel
theorem dX0_of_1 : decode cX0_of 1 = .ok (.ifCond .lt 21, 3) := by decide +kernel
theorem dX0_of_4 : decode cX0_of 4 = .ok (.iload_n 1, 1) := by decide +kernel
theorem dX0_of_5 : decode cX0_of 5 = .ok (.aload_n 0, 1) := by decide +kernel
theorem dX0_of_6 : decode cX0_of 6 = .ok (.getfield 9, 3) := by decide +kernel
theorem dX0_of_9 : decode cX0_of 9 = .ok (.arraylength, 1) := by decide +kernel
theorem dX0_of_10 : decode cX0_of 10 = .ok (.if_icmp .ge 12, 3) := by decide +kernel
theorem dX0_of_13 : decode cX0_of 13 = .ok (.aload_n 0, 1) := by decide +kernel
theorem dX0_of_14 : decode cX0_of 14 = .ok (.getfield 9, 3) := by decide +kernel
theorem dX0_of_17 : decode cX0_of 17 = .ok (.iload_n 1, 1) := by decide +kernel
theorem dX0_of_18 : decode cX0_of 18 = .ok (.iaload, 1) := by decide +kernel
theorem dX0_of_19 : decode cX0_of 19 = .ok (.goto 4, 3) := by decide +kernel
theorem dX0_of_22 : decode cX0_of 22 = .ok (.iconst 0, 1) := by decide +kernel
theorem dX0_of_23 : decode cX0_of 23 = .ok (.ireturn, 1) := by decide +kernel
theorem dX0_change_0 : decode cX0_change 0 = .ok (.iload_n 1, 1) := by decide +kernel
theorem dX0_change_1 : decode cX0_change 1 = .ok (.ifCond .lt 32, 3) := by decide +kernel
theorem dX0_change_4 : decode cX0_change 4 = .ok (.iload_n 1, 1) := by decide +kernel
theorem dX0_change_5 : decode cX0_change 5 = .ok (.aload_n 0, 1) := by decide +kernel
theorem dX0_change_6 : decode cX0_change 6 = .ok (.getfield 9, 3) := by decide +kernel
theorem dX0_change_9 : decode cX0_change 9 = .ok (.arraylength, 1) := by decide +kernel
theorem dX0_change_10 : decode cX0_change 10 = .ok (.if_icmp .ge 23, 3) := by decide +kernel
theorem dX0_change_13 : decode cX0_change 13 = .ok (.aload_n 0, 1) := by decide +kernel
theorem dX0_change_14 : decode cX0_change 14 = .ok (.getfield 9, 3) := by decide +kernel
theorem dX0_change_17 : decode cX0_change 17 = .ok (.iload_n 1, 1) := by decide +kernel
theorem dX0_change_18 : decode cX0_change 18 = .ok (.dup2, 1) := by decide +kernel
theorem dX0_change_19 : decode cX0_change 19 = .ok (.iaload, 1) := by decide +kernel
theorem dX0_change_20 : decode cX0_change 20 = .ok (.iload_n 2, 1) := by decide +kernel
theorem dX0_change_21 : decode cX0_change 21 = .ok (.iadd, 1) := by decide +kernel
theorem dX0_change_22 : decode cX0_change 22 = .ok (.iastore, 1) := by decide +kernel
theorem dX0_change_23 : decode cX0_change 23 = .ok (.aload_n 0, 1) := by decide +kernel
theorem dX0_change_24 : decode cX0_change 24 = .ok (.dup, 1) := by decide +kernel
theorem dX0_change_25 : decode cX0_change 25 = .ok (.getfield 15, 3) := by decide +kernel
theorem dX0_change_28 : decode cX0_change 28 = .ok (.iload_n 2, 1) := by decide +kernel
theorem dX0_change_29 : decode cX0_change 29 = .ok (.iadd, 1) := by decide +kernel
theorem dX0_change_30 : decode cX0_change 30 = .ok (.putfield 15, 3) := by decide +kernel
theorem dX0_change_33 : decode cX0_change 33 = .ok (.return_, 1) := by decide +kernel
set_option maxRecDepth 20000 in
theorem ggX0_become_X0_of : GoodIn wsX0_become wsX0_of := goodIn_r _ [5, 6, 12, 13] (by decide +kernel) (by decide +kernel)
set_option maxRecDepth 20000 in
theorem gX0_become_X0_of : GoodIn wsX0_become (wsV RX0 19 RX0 yX0_of wsX0_of) := goodIn_app (goodIn_of _ (by decide +kernel)) ggX0_become_X0_of
set_option maxRecDepth 20000 in
theorem ggX0_become_X0_change : GoodIn wsX0_become wsX0_change := goodIn_r _ [10, 6, 11, 12, 13] (by decide +kernel) (by decide +kernel)
set_option maxRecDepth 20000 in
theorem gX0_become_X0_change : GoodIn wsX0_become (wsV RX0 23 RX0 yX0_change wsX0_change) := goodIn_app (goodIn_of _ (by decide +kernel)) ggX0_become_X0_change
theorem dX0_become_0 : decode cX0_become 0 = .ok (.iconst 0, 1) := by decide +kernel
theorem dX0_become_1 : decode cX0_become 1 = .ok (.istore_n 2, 1) := by decide +kernel
theorem dX0_become_2 : decode cX0_become 2 = .ok (.iload_n 2, 1) := by decide +kernel
theorem dX0_become_3 : decode cX0_become 3 = .ok (.bipush 6, 2) := by decide +kernel
theorem dX0_become_5 : decode cX0_become 5 = .ok (.if_icmp .ge 25, 3) := by decide +kernel
theorem dX0_become_8 : decode cX0_become 8 = .ok (.aload_n 0, 1) := by decide +kernel
theorem dX0_become_9 : decode cX0_become 9 = .ok (.iload_n 2, 1) := by decide +kernel
theorem dX0_become_10 : decode cX0_become 10 = .ok (.aload_n 1, 1) := by decide +kernel
theorem dX0_become_11 : decode cX0_become 11 = .ok (.iload_n 2, 1) := by decide +kernel
theorem dX0_become_12 : decode cX0_become 12 = .ok (.invokevirtual 19, 3) := by decide +kernel
theorem dX0_become_15 : decode cX0_become 15 = .ok (.aload_n 0, 1) := by decide +kernel
theorem dX0_become_16 : decode cX0_become 16 = .ok (.iload_n 2, 1) := by decide +kernel
theorem dX0_become_17 : decode cX0_become 17 = .ok (.invokevirtual 19, 3) := by decide +kernel
theorem dX0_become_20 : decode cX0_become 20 = .ok (.isub, 1) := by decide +kernel
theorem dX0_become_21 : decode cX0_become 21 = .ok (.invokevirtual 23, 3) := by decide +kernel
theorem dX0_become_24 : decode cX0_become 24 = .ok (.iinc 2 1, 3) := by decide +kernel
theorem dX0_become_27 : decode cX0_become 27 = .ok (.goto (-25), 3) := by decide +kernel
theorem dX0_become_30 : decode cX0_become 30 = .ok (.return_, 1) := by decide +kernel
set_option maxRecDepth 20000 in
theorem ggX0_moveTo_X0_of : GoodIn wsX0_moveTo wsX0_of := goodIn_r _ [9, 10, 16, 17] (by decide +kernel) (by decide +kernel)
set_option maxRecDepth 20000 in
theorem gX0_moveTo_X0_of : GoodIn wsX0_moveTo (wsV RX0 19 RX0 yX0_of wsX0_of) := goodIn_app (goodIn_of _ (by decide +kernel)) ggX0_moveTo_X0_of
set_option maxRecDepth 20000 in
theorem ggX0_moveTo_X0_change : GoodIn wsX0_moveTo wsX0_change := goodIn_r _ [14, 10, 15, 16, 17] (by decide +kernel) (by decide +kernel)
set_option maxRecDepth 20000 in
theorem gX0_moveTo_X0_change : GoodIn wsX0_moveTo (wsV RX0 23 RX0 yX0_change wsX0_change) := goodIn_app (goodIn_of _ (by decide +kernel)) ggX0_moveTo_X0_change
theorem dX0_moveTo_0 : decode cX0_moveTo 0 = .ok (.iconst 0, 1) := by decide +kernel
theorem dX0_moveTo_1 : decode cX0_moveTo 1 = .ok (.istore 4, 2) := by decide +kernel
theorem dX0_moveTo_3 : decode cX0_moveTo 3 = .ok (.iconst 0, 1) := by decide +kernel
theorem dX0_moveTo_4 : decode cX0_moveTo 4 = .ok (.istore 5, 2) := by decide +kernel
theorem dX0_moveTo_6 : decode cX0_moveTo 6 = .ok (.iload 5, 2) := by decide +kernel
theorem dX0_moveTo_8 : decode cX0_moveTo 8 = .ok (.iload_n 3, 1) := by decide +kernel
theorem dX0_moveTo_9 : decode cX0_moveTo 9 = .ok (.if_icmp .ge 48, 3) := by decide +kernel
theorem dX0_moveTo_12 : decode cX0_moveTo 12 = .ok (.aload_n 0, 1) := by decide +kernel
theorem dX0_moveTo_13 : decode cX0_moveTo 13 = .ok (.iload 5, 2) := by decide +kernel
theorem dX0_moveTo_15 : decode cX0_moveTo 15 = .ok (.invokevirtual 19, 3) := by decide +kernel
theorem dX0_moveTo_18 : decode cX0_moveTo 18 = .ok (.iload_n 2, 1) := by decide +kernel
theorem dX0_moveTo_19 : decode cX0_moveTo 19 = .ok (.iload 4, 2) := by decide +kernel
theorem dX0_moveTo_21 : decode cX0_moveTo 21 = .ok (.isub, 1) := by decide +kernel
theorem dX0_moveTo_22 : decode cX0_moveTo 22 = .ok (.invokestatic 27, 3) := by decide +kernel
theorem dX0_moveTo_25 : decode cX0_moveTo 25 = .ok (.istore 6, 2) := by decide +kernel
theorem dX0_moveTo_27 : decode cX0_moveTo 27 = .ok (.aload_n 0, 1) := by decide +kernel
theorem dX0_moveTo_28 : decode cX0_moveTo 28 = .ok (.iload 5, 2) := by decide +kernel
theorem dX0_moveTo_30 : decode cX0_moveTo 30 = .ok (.iload 6, 2) := by decide +kernel
theorem dX0_moveTo_32 : decode cX0_moveTo 32 = .ok (.ineg, 1) := by decide +kernel
theorem dX0_moveTo_33 : decode cX0_moveTo 33 = .ok (.invokevirtual 23, 3) := by decide +kernel
theorem dX0_moveTo_36 : decode cX0_moveTo 36 = .ok (.aload_n 1, 1) := by decide +kernel
theorem dX0_moveTo_37 : decode cX0_moveTo 37 = .ok (.iload 5, 2) := by decide +kernel
theorem dX0_moveTo_39 : decode cX0_moveTo 39 = .ok (.iload 6, 2) := by decide +kernel
theorem dX0_moveTo_41 : decode cX0_moveTo 41 = .ok (.invokevirtual 23, 3) := by decide +kernel
theorem dX0_moveTo_44 : decode cX0_moveTo 44 = .ok (.iload 4, 2) := by decide +kernel
theorem dX0_moveTo_46 : decode cX0_moveTo 46 = .ok (.iload 6, 2) := by decide +kernel
theorem dX0_moveTo_48 : decode cX0_moveTo 48 = .ok (.iadd, 1) := by decide +kernel
theorem dX0_moveTo_49 : decode cX0_moveTo 49 = .ok (.istore 4, 2) := by decide +kernel
theorem dX0_moveTo_51 : decode cX0_moveTo 51 = .ok (.iinc 5 1, 3) := by decide +kernel
theorem dX0_moveTo_54 : decode cX0_moveTo 54 = .ok (.goto (-48), 3) := by decide +kernel
theorem dX0_moveTo_57 : decode cX0_moveTo 57 = .ok (.iload 4, 2) := by decide +kernel
theorem dX0_moveTo_59 : decode cX0_moveTo 59 = .ok (.ireturn, 1) := by decide +kernel
theorem dX0_warmth_0 : decode cX0_warmth 0 = .ok (.iconst 0, 1) := by decide +kernel
theorem dX0_warmth_1 : decode cX0_warmth 1 = .ok (.istore_n 1, 1) := by decide +kernel
theorem dX0_warmth_2 : decode cX0_warmth 2 = .ok (.iconst 0, 1) := by decide +kernel
theorem dX0_warmth_3 : decode cX0_warmth 3 = .ok (.istore_n 2, 1) := by decide +kernel
theorem dX0_warmth_4 : decode cX0_warmth 4 = .ok (.iload_n 2, 1) := by decide +kernel
theorem dX0_warmth_5 : decode cX0_warmth 5 = .ok (.aload_n 0, 1) := by decide +kernel
theorem dX0_warmth_6 : decode cX0_warmth 6 = .ok (.getfield 9, 3) := by decide +kernel
theorem dX0_warmth_9 : decode cX0_warmth 9 = .ok (.arraylength, 1) := by decide +kernel
theorem dX0_warmth_10 : decode cX0_warmth 10 = .ok (.if_icmp .ge 23, 3) := by decide +kernel
theorem dX0_warmth_13 : decode cX0_warmth 13 = .ok (.iload_n 1, 1) := by decide +kernel
theorem dX0_warmth_14 : decode cX0_warmth 14 = .ok (.bipush 6, 2) := by decide +kernel
theorem dX0_warmth_16 : decode cX0_warmth 16 = .ok (.iload_n 2, 1) := by decide +kernel
theorem dX0_warmth_17 : decode cX0_warmth 17 = .ok (.isub, 1) := by decide +kernel
theorem dX0_warmth_18 : decode cX0_warmth 18 = .ok (.aload_n 0, 1) := by decide +kernel
theorem dX0_warmth_19 : decode cX0_warmth 19 = .ok (.getfield 9, 3) := by decide +kernel
theorem dX0_warmth_22 : decode cX0_warmth 22 = .ok (.iload_n 2, 1) := by decide +kernel
theorem dX0_warmth_23 : decode cX0_warmth 23 = .ok (.iaload, 1) := by decide +kernel
theorem dX0_warmth_24 : decode cX0_warmth 24 = .ok (.imul, 1) := by decide +kernel
theorem dX0_warmth_25 : decode cX0_warmth 25 = .ok (.iadd, 1) := by decide +kernel
theorem dX0_warmth_26 : decode cX0_warmth 26 = .ok (.istore_n 1, 1) := by decide +kernel
theorem dX0_warmth_27 : decode cX0_warmth 27 = .ok (.iinc 2 1, 3) := by decide +kernel
theorem dX0_warmth_30 : decode cX0_warmth 30 = .ok (.goto (-26), 3) := by decide +kernel
theorem dX0_warmth_33 : decode cX0_warmth 33 = .ok (.iload_n 1, 1) := by decide +kernel
theorem dX0_warmth_34 : decode cX0_warmth 34 = .ok (.sipush 900, 3) := by decide +kernel
theorem dX0_warmth_37 : decode cX0_warmth 37 = .ok (.invokestatic 27, 3) := by decide +kernel
theorem dX0_warmth_40 : decode cX0_warmth 40 = .ok (.ireturn, 1) := by decide +kernel
set_option maxRecDepth 20000 in
theorem ggX0_prick_X0_of : GoodIn wsX0_prick wsX0_of := goodIn_r _ [5, 6, 12, 13] (by decide +kernel) (by decide +kernel)
set_option maxRecDepth 20000 in
theorem gX0_prick_X0_of : GoodIn wsX0_prick (wsV RX0 19 RX0 yX0_of wsX0_of) := goodIn_app (goodIn_of _ (by decide +kernel)) ggX0_prick_X0_of
set_option maxRecDepth 20000 in
theorem ggX0_prick_X0_change : GoodIn wsX0_prick wsX0_change := goodIn_r _ [10, 6, 11, 12, 13] (by decide +kernel) (by decide +kernel)
set_option maxRecDepth 20000 in
theorem gX0_prick_X0_change : GoodIn wsX0_prick (wsV RX0 23 RX0 yX0_change wsX0_change) := goodIn_app (goodIn_of _ (by decide +kernel)) ggX0_prick_X0_change
theorem dX0_prick_0 : decode cX0_prick 0 = .ok (.iconst 0, 1) := by decide +kernel
theorem dX0_prick_1 : decode cX0_prick 1 = .ok (.istore_n 2, 1) := by decide +kernel
theorem dX0_prick_2 : decode cX0_prick 2 = .ok (.iconst 0, 1) := by decide +kernel
theorem dX0_prick_3 : decode cX0_prick 3 = .ok (.istore_n 3, 1) := by decide +kernel
theorem dX0_prick_4 : decode cX0_prick 4 = .ok (.iload_n 3, 1) := by decide +kernel
theorem dX0_prick_5 : decode cX0_prick 5 = .ok (.bipush 6, 2) := by decide +kernel
theorem dX0_prick_7 : decode cX0_prick 7 = .ok (.if_icmp .ge 47, 3) := by decide +kernel
theorem dX0_prick_10 : decode cX0_prick 10 = .ok (.iconst 2, 1) := by decide +kernel
theorem dX0_prick_11 : decode cX0_prick 11 = .ok (.iload_n 3, 1) := by decide +kernel
theorem dX0_prick_12 : decode cX0_prick 12 = .ok (.imul, 1) := by decide +kernel
theorem dX0_prick_13 : decode cX0_prick 13 = .ok (.iload_n 1, 1) := by decide +kernel
theorem dX0_prick_14 : decode cX0_prick 14 = .ok (.isub, 1) := by decide +kernel
theorem dX0_prick_15 : decode cX0_prick 15 = .ok (.istore 4, 2) := by decide +kernel
theorem dX0_prick_17 : decode cX0_prick 17 = .ok (.iload 4, 2) := by decide +kernel
theorem dX0_prick_19 : decode cX0_prick 19 = .ok (.ifCond .le 29, 3) := by decide +kernel
theorem dX0_prick_22 : decode cX0_prick 22 = .ok (.aload_n 0, 1) := by decide +kernel
theorem dX0_prick_23 : decode cX0_prick 23 = .ok (.iload_n 3, 1) := by decide +kernel
theorem dX0_prick_24 : decode cX0_prick 24 = .ok (.invokevirtual 19, 3) := by decide +kernel
theorem dX0_prick_27 : decode cX0_prick 27 = .ok (.iload 4, 2) := by decide +kernel
theorem dX0_prick_29 : decode cX0_prick 29 = .ok (.imul, 1) := by decide +kernel
theorem dX0_prick_30 : decode cX0_prick 30 = .ok (.bipush 30, 2) := by decide +kernel
theorem dX0_prick_32 : decode cX0_prick 32 = .ok (.idiv, 1) := by decide +kernel
theorem dX0_prick_33 : decode cX0_prick 33 = .ok (.istore 5, 2) := by decide +kernel
theorem dX0_prick_35 : decode cX0_prick 35 = .ok (.aload_n 0, 1) := by decide +kernel
theorem dX0_prick_36 : decode cX0_prick 36 = .ok (.iload_n 3, 1) := by decide +kernel
theorem dX0_prick_37 : decode cX0_prick 37 = .ok (.iload 5, 2) := by decide +kernel
theorem dX0_prick_39 : decode cX0_prick 39 = .ok (.ineg, 1) := by decide +kernel
theorem dX0_prick_40 : decode cX0_prick 40 = .ok (.invokevirtual 23, 3) := by decide +kernel
theorem dX0_prick_43 : decode cX0_prick 43 = .ok (.iload_n 2, 1) := by decide +kernel
theorem dX0_prick_44 : decode cX0_prick 44 = .ok (.iload 5, 2) := by decide +kernel
theorem dX0_prick_46 : decode cX0_prick 46 = .ok (.iadd, 1) := by decide +kernel
theorem dX0_prick_47 : decode cX0_prick 47 = .ok (.istore_n 2, 1) := by decide +kernel
theorem dX0_prick_48 : decode cX0_prick 48 = .ok (.iinc 3 1, 3) := by decide +kernel
theorem dX0_prick_51 : decode cX0_prick 51 = .ok (.goto (-47), 3) := by decide +kernel
theorem dX0_prick_54 : decode cX0_prick 54 = .ok (.iload_n 2, 1) := by decide +kernel
theorem dX0_prick_55 : decode cX0_prick 55 = .ok (.ireturn, 1) := by decide +kernel
set_option maxRecDepth 20000 in
theorem ggX1_init_X0_init : GoodIn wsX1_init wsX0_init := goodIn_r _ [11, 12, 2, 3, 13, 14, 15, 16] (by decide +kernel) (by decide +kernel)
set_option maxRecDepth 20000 in
theorem gX1_init_X0_init : GoodIn wsX1_init (wsX0_init) := ggX1_init_X0_init
theorem dX1_init_0 : decode cX1_init 0 = .ok (.aload_n 0, 1) := by decide +kernel
theorem dX1_init_1 : decode cX1_init 1 = .ok (.invokespecial 3, 3) := by decide +kernel
theorem dX1_init_4 : decode cX1_init 4 = .ok (.aload_n 0, 1) := by decide +kernel
theorem dX1_init_5 : decode cX1_init 5 = .ok (.new 9, 3) := by decide +kernel
theorem dX1_init_8 : decode cX1_init 8 = .ok (.dup, 1) := by decide +kernel
theorem dX1_init_9 : decode cX1_init 9 = .ok (.invokespecial 11, 3) := by decide +kernel
theorem dX1_init_12 : decode cX1_init 12 = .ok (.putfield 12, 3) := by decide +kernel
theorem dX1_init_15 : decode cX1_init 15 = .ok (.aload_n 0, 1) := by decide +kernel
theorem dX1_init_16 : decode cX1_init 16 = .ok (.iload_n 1, 1) := by decide +kernel
theorem dX1_init_17 : decode cX1_init 17 = .ok (.putfield 18, 3) := by decide +kernel
theorem dX1_init_20 : decode cX1_init 20 = .ok (.return_, 1) := by decide +kernel
set_option maxRecDepth 20000 in
theorem ggX1_tells_X0_of : GoodIn wsX1_tells wsX0_of := goodIn_r _ [7, 8, 11, 12] (by decide +kernel) (by decide +kernel)
set_option maxRecDepth 20000 in
theorem gX1_tells_X0_of : GoodIn wsX1_tells (wsV RX1 22 RX0 yX0_of wsX0_of) := goodIn_app (goodIn_of _ (by decide +kernel)) ggX1_tells_X0_of
theorem dX1_tells_0 : decode cX1_tells 0 = .ok (.iload_n 1, 1) := by decide +kernel
theorem dX1_tells_1 : decode cX1_tells 1 = .ok (.bipush 6, 2) := by decide +kernel
theorem dX1_tells_3 : decode cX1_tells 3 = .ok (.if_icmp .ge 12, 3) := by decide +kernel
theorem dX1_tells_6 : decode cX1_tells 6 = .ok (.aload_n 0, 1) := by decide +kernel
theorem dX1_tells_7 : decode cX1_tells 7 = .ok (.getfield 12, 3) := by decide +kernel
theorem dX1_tells_10 : decode cX1_tells 10 = .ok (.iload_n 1, 1) := by decide +kernel
theorem dX1_tells_11 : decode cX1_tells 11 = .ok (.invokevirtual 22, 3) := by decide +kernel
theorem dX1_tells_14 : decode cX1_tells 14 = .ok (.ireturn, 1) := by decide +kernel
theorem dX1_tells_15 : decode cX1_tells 15 = .ok (.iload_n 1, 1) := by decide +kernel
theorem dX1_tells_16 : decode cX1_tells 16 = .ok (.bipush 6, 2) := by decide +kernel
theorem dX1_tells_18 : decode cX1_tells 18 = .ok (.if_icmp .ne 13, 3) := by decide +kernel
theorem dX1_tells_21 : decode cX1_tells 21 = .ok (.aload_n 0, 1) := by decide +kernel
theorem dX1_tells_22 : decode cX1_tells 22 = .ok (.getfield 12, 3) := by decide +kernel
theorem dX1_tells_25 : decode cX1_tells 25 = .ok (.getfield 26, 3) := by decide +kernel
theorem dX1_tells_28 : decode cX1_tells 28 = .ok (.goto 7, 3) := by decide +kernel
theorem dX1_tells_31 : decode cX1_tells 31 = .ok (.aload_n 0, 1) := by decide +kernel
theorem dX1_tells_32 : decode cX1_tells 32 = .ok (.getfield 18, 3) := by decide +kernel
theorem dX1_tells_35 : decode cX1_tells 35 = .ok (.ireturn, 1) := by decide +kernel
theorem dX1_flight_0 : decode cX1_flight 0 = .ok (.iload_n 1, 1) := by decide +kernel
theorem dX1_flight_1 : decode cX1_flight 1 = .ok (.iconst 1, 1) := by decide +kernel
theorem dX1_flight_2 : decode cX1_flight 2 = .ok (.iadd, 1) := by decide +kernel
theorem dX1_flight_3 : decode cX1_flight 3 = .ok (.iconst 4, 1) := by decide +kernel
theorem dX1_flight_4 : decode cX1_flight 4 = .ok (.aload_n 0, 1) := by decide +kernel
theorem dX1_flight_5 : decode cX1_flight 5 = .ok (.getfield 18, 3) := by decide +kernel
theorem dX1_flight_8 : decode cX1_flight 8 = .ok (.iadd, 1) := by decide +kernel
theorem dX1_flight_9 : decode cX1_flight 9 = .ok (.imul, 1) := by decide +kernel
theorem dX1_flight_10 : decode cX1_flight 10 = .ok (.istore_n 3, 1) := by decide +kernel
theorem dX1_flight_11 : decode cX1_flight 11 = .ok (.iconst 4, 1) := by decide +kernel
theorem dX1_flight_12 : decode cX1_flight 12 = .ok (.istore 4, 2) := by decide +kernel
theorem dX1_flight_14 : decode cX1_flight 14 = .ok (.iload_n 3, 1) := by decide +kernel
theorem dX1_flight_15 : decode cX1_flight 15 = .ok (.ifCond .le 17, 3) := by decide +kernel
theorem dX1_flight_18 : decode cX1_flight 18 = .ok (.iload_n 2, 1) := by decide +kernel
theorem dX1_flight_19 : decode cX1_flight 19 = .ok (.bipush 12, 2) := by decide +kernel
theorem dX1_flight_21 : decode cX1_flight 21 = .ok (.imul, 1) := by decide +kernel
theorem dX1_flight_22 : decode cX1_flight 22 = .ok (.iload_n 3, 1) := by decide +kernel
theorem dX1_flight_23 : decode cX1_flight 23 = .ok (.idiv, 1) := by decide +kernel
theorem dX1_flight_24 : decode cX1_flight 24 = .ok (.iload 4, 2) := by decide +kernel
theorem dX1_flight_26 : decode cX1_flight 26 = .ok (.invokestatic 29, 3) := by decide +kernel
theorem dX1_flight_29 : decode cX1_flight 29 = .ok (.goto 5, 3) := by decide +kernel
theorem dX1_flight_32 : decode cX1_flight 32 = .ok (.iload 4, 2) := by decide +kernel
theorem dX1_flight_34 : decode cX1_flight 34 = .ok (.ireturn, 1) := by decide +kernel
set_option maxRecDepth 20000 in
theorem ggX1_brings_X0_of : GoodIn wsX1_brings wsX0_of := goodIn_r _ [6, 7, 20, 21] (by decide +kernel) (by decide +kernel)
set_option maxRecDepth 20000 in
theorem gX1_brings_X0_of : GoodIn wsX1_brings (wsV RX1 22 RX0 yX0_of wsX0_of) := goodIn_app (goodIn_of _ (by decide +kernel)) ggX1_brings_X0_of
set_option maxRecDepth 20000 in
theorem ggX1_brings_X1_flight : GoodIn wsX1_brings wsX1_flight := goodIn_r _ [12, 13, 14, 15, 16, 17, 18, 19] (by decide +kernel) (by decide +kernel)
set_option maxRecDepth 20000 in
theorem gX1_brings_X1_flight : GoodIn wsX1_brings (wsV RX1 35 RX1 yX1_flight wsX1_flight) := goodIn_app (goodIn_of _ (by decide +kernel)) ggX1_brings_X1_flight
theorem dX1_brings_0 : decode cX1_brings 0 = .ok (.aload_n 0, 1) := by decide +kernel
theorem dX1_brings_1 : decode cX1_brings 1 = .ok (.getfield 12, 3) := by decide +kernel
theorem dX1_brings_4 : decode cX1_brings 4 = .ok (.iload_n 1, 1) := by decide +kernel
theorem dX1_brings_5 : decode cX1_brings 5 = .ok (.invokevirtual 22, 3) := by decide +kernel
theorem dX1_brings_8 : decode cX1_brings 8 = .ok (.istore 4, 2) := by decide +kernel
theorem dX1_brings_10 : decode cX1_brings 10 = .ok (.aload_n 0, 1) := by decide +kernel
theorem dX1_brings_11 : decode cX1_brings 11 = .ok (.iload_n 1, 1) := by decide +kernel
theorem dX1_brings_12 : decode cX1_brings 12 = .ok (.iload_n 2, 1) := by decide +kernel
theorem dX1_brings_13 : decode cX1_brings 13 = .ok (.invokevirtual 35, 3) := by decide +kernel
theorem dX1_brings_16 : decode cX1_brings 16 = .ok (.istore 5, 2) := by decide +kernel
theorem dX1_brings_18 : decode cX1_brings 18 = .ok (.iload 4, 2) := by decide +kernel
theorem dX1_brings_20 : decode cX1_brings 20 = .ok (.bipush 6, 2) := by decide +kernel
theorem dX1_brings_22 : decode cX1_brings 22 = .ok (.imul, 1) := by decide +kernel
theorem dX1_brings_23 : decode cX1_brings 23 = .ok (.bipush 10, 2) := by decide +kernel
theorem dX1_brings_25 : decode cX1_brings 25 = .ok (.idiv, 1) := by decide +kernel
theorem dX1_brings_26 : decode cX1_brings 26 = .ok (.istore 6, 2) := by decide +kernel
theorem dX1_brings_28 : decode cX1_brings 28 = .ok (.iload 4, 2) := by decide +kernel
theorem dX1_brings_30 : decode cX1_brings 30 = .ok (.iconst 4, 1) := by decide +kernel
theorem dX1_brings_31 : decode cX1_brings 31 = .ok (.idiv, 1) := by decide +kernel
theorem dX1_brings_32 : decode cX1_brings 32 = .ok (.istore 7, 2) := by decide +kernel
theorem dX1_brings_34 : decode cX1_brings 34 = .ok (.iload_n 3, 1) := by decide +kernel
theorem dX1_brings_35 : decode cX1_brings 35 = .ok (.iload 5, 2) := by decide +kernel
theorem dX1_brings_37 : decode cX1_brings 37 = .ok (.if_icmp .ne 6, 3) := by decide +kernel
theorem dX1_brings_40 : decode cX1_brings 40 = .ok (.iload 6, 2) := by decide +kernel
theorem dX1_brings_42 : decode cX1_brings 42 = .ok (.ireturn, 1) := by decide +kernel
theorem dX1_brings_43 : decode cX1_brings 43 = .ok (.iload_n 3, 1) := by decide +kernel
theorem dX1_brings_44 : decode cX1_brings 44 = .ok (.iload 5, 2) := by decide +kernel
theorem dX1_brings_46 : decode cX1_brings 46 = .ok (.iconst 1, 1) := by decide +kernel
theorem dX1_brings_47 : decode cX1_brings 47 = .ok (.iadd, 1) := by decide +kernel
theorem dX1_brings_48 : decode cX1_brings 48 = .ok (.if_icmp .ne 6, 3) := by decide +kernel
theorem dX1_brings_51 : decode cX1_brings 51 = .ok (.iload 7, 2) := by decide +kernel
theorem dX1_brings_53 : decode cX1_brings 53 = .ok (.ireturn, 1) := by decide +kernel
theorem dX1_brings_54 : decode cX1_brings 54 = .ok (.iload_n 3, 1) := by decide +kernel
theorem dX1_brings_55 : decode cX1_brings 55 = .ok (.iload 5, 2) := by decide +kernel
theorem dX1_brings_57 : decode cX1_brings 57 = .ok (.iconst 1, 1) := by decide +kernel
theorem dX1_brings_58 : decode cX1_brings 58 = .ok (.isub, 1) := by decide +kernel
theorem dX1_brings_59 : decode cX1_brings 59 = .ok (.if_icmp .ne 14, 3) := by decide +kernel
theorem dX1_brings_62 : decode cX1_brings 62 = .ok (.iload 4, 2) := by decide +kernel
theorem dX1_brings_64 : decode cX1_brings 64 = .ok (.iload 6, 2) := by decide +kernel
theorem dX1_brings_66 : decode cX1_brings 66 = .ok (.isub, 1) := by decide +kernel
theorem dX1_brings_67 : decode cX1_brings 67 = .ok (.iload 7, 2) := by decide +kernel
theorem dX1_brings_69 : decode cX1_brings 69 = .ok (.isub, 1) := by decide +kernel
theorem dX1_brings_70 : decode cX1_brings 70 = .ok (.goto 4, 3) := by decide +kernel
theorem dX1_brings_73 : decode cX1_brings 73 = .ok (.iconst 0, 1) := by decide +kernel
theorem dX1_brings_74 : decode cX1_brings 74 = .ok (.ireturn, 1) := by decide +kernel
set_option maxRecDepth 20000 in
theorem ggX2_init_X0_init : GoodIn wsX2_init wsX0_init := goodIn_r _ [18, 19, 2, 3, 14, 20, 28, 29] (by decide +kernel) (by decide +kernel)
set_option maxRecDepth 20000 in
theorem gX2_init_X0_init : GoodIn wsX2_init (wsX0_init) := ggX2_init_X0_init
theorem dX2_init_0 : decode cX2_init 0 = .ok (.aload_n 0, 1) := by decide +kernel
theorem dX2_init_1 : decode cX2_init 1 = .ok (.invokespecial 3, 3) := by decide +kernel
theorem dX2_init_4 : decode cX2_init 4 = .ok (.aload_n 0, 1) := by decide +kernel
theorem dX2_init_5 : decode cX2_init 5 = .ok (.iload_n 1, 1) := by decide +kernel
theorem dX2_init_6 : decode cX2_init 6 = .ok (.putfield 9, 3) := by decide +kernel
theorem dX2_init_9 : decode cX2_init 9 = .ok (.aload_n 0, 1) := by decide +kernel
theorem dX2_init_10 : decode cX2_init 10 = .ok (.iload_n 2, 1) := by decide +kernel
theorem dX2_init_11 : decode cX2_init 11 = .ok (.putfield 15, 3) := by decide +kernel
theorem dX2_init_14 : decode cX2_init 14 = .ok (.aload_n 0, 1) := by decide +kernel
theorem dX2_init_15 : decode cX2_init 15 = .ok (.iload_n 3, 1) := by decide +kernel
theorem dX2_init_16 : decode cX2_init 16 = .ok (.putfield 18, 3) := by decide +kernel
theorem dX2_init_19 : decode cX2_init 19 = .ok (.aload_n 0, 1) := by decide +kernel
theorem dX2_init_20 : decode cX2_init 20 = .ok (.iload_n 1, 1) := by decide +kernel
theorem dX2_init_21 : decode cX2_init 21 = .ok (.iload_n 2, 1) := by decide +kernel
theorem dX2_init_22 : decode cX2_init 22 = .ok (.imul, 1) := by decide +kernel
theorem dX2_init_23 : decode cX2_init 23 = .ok (.putfield 21, 3) := by decide +kernel
theorem dX2_init_26 : decode cX2_init 26 = .ok (.aload_n 0, 1) := by decide +kernel
theorem dX2_init_27 : decode cX2_init 27 = .ok (.bipush 36, 2) := by decide +kernel
theorem dX2_init_29 : decode cX2_init 29 = .ok (.anewarray 24, 3) := by decide +kernel
theorem dX2_init_32 : decode cX2_init 32 = .ok (.putfield 26, 3) := by decide +kernel
theorem dX2_init_35 : decode cX2_init 35 = .ok (.iconst 0, 1) := by decide +kernel
theorem dX2_init_36 : decode cX2_init 36 = .ok (.istore 4, 2) := by decide +kernel
theorem dX2_init_38 : decode cX2_init 38 = .ok (.iload 4, 2) := by decide +kernel
theorem dX2_init_40 : decode cX2_init 40 = .ok (.aload_n 0, 1) := by decide +kernel
theorem dX2_init_41 : decode cX2_init 41 = .ok (.getfield 26, 3) := by decide +kernel
theorem dX2_init_44 : decode cX2_init 44 = .ok (.arraylength, 1) := by decide +kernel
theorem dX2_init_45 : decode cX2_init 45 = .ok (.if_icmp .ge 23, 3) := by decide +kernel
theorem dX2_init_48 : decode cX2_init 48 = .ok (.aload_n 0, 1) := by decide +kernel
theorem dX2_init_49 : decode cX2_init 49 = .ok (.getfield 26, 3) := by decide +kernel
theorem dX2_init_52 : decode cX2_init 52 = .ok (.iload 4, 2) := by decide +kernel
theorem dX2_init_54 : decode cX2_init 54 = .ok (.new 24, 3) := by decide +kernel
theorem dX2_init_57 : decode cX2_init 57 = .ok (.dup, 1) := by decide +kernel
theorem dX2_init_58 : decode cX2_init 58 = .ok (.invokespecial 30, 3) := by decide +kernel
theorem dX2_init_61 : decode cX2_init 61 = .ok (.aastore, 1) := by decide +kernel
theorem dX2_init_62 : decode cX2_init 62 = .ok (.iinc 4 1, 3) := by decide +kernel
theorem dX2_init_65 : decode cX2_init 65 = .ok (.goto (-27), 3) := by decide +kernel
theorem dX2_init_68 : decode cX2_init 68 = .ok (.aload_n 0, 1) := by decide +kernel
theorem dX2_init_69 : decode cX2_init 69 = .ok (.bipush 72, 2) := by decide +kernel
theorem dX2_init_71 : decode cX2_init 71 = .ok (.newarray .boolean, 2) := by decide +kernel
theorem dX2_init_73 : decode cX2_init 73 = .ok (.putfield 31, 3) := by decide +kernel
theorem dX2_init_76 : decode cX2_init 76 = .ok (.aload_n 0, 1) := by decide +kernel
theorem dX2_init_77 : decode cX2_init 77 = .ok (.bipush 36, 2) := by decide +kernel
theorem dX2_init_79 : decode cX2_init 79 = .ok (.newarray .int, 2) := by decide +kernel
theorem dX2_init_81 : decode cX2_init 81 = .ok (.putfield 35, 3) := by decide +kernel
theorem dX2_init_84 : decode cX2_init 84 = .ok (.return_, 1) := by decide +kernel
set_option maxRecDepth 20000 in
theorem ggX2_become_X0_become : GoodIn wsX2_become wsX0_become := goodIn_r _ [11, 12, 13, 14, 10, 15, 16, 17, 18, 19, 20, 21, 29, 30] (by decide +kernel) (by decide +kernel)
set_option maxRecDepth 20000 in
theorem gX2_become_X0_become : GoodIn wsX2_become (wsV RX2 39 RX0 yX0_become wsX0_become) := goodIn_app (goodIn_of _ (by decide +kernel)) ggX2_become_X0_become
theorem dX2_become_0 : decode cX2_become 0 = .ok (.aload_n 0, 1) := by decide +kernel
theorem dX2_become_1 : decode cX2_become 1 = .ok (.aload_n 1, 1) := by decide +kernel
theorem dX2_become_2 : decode cX2_become 2 = .ok (.getfield 9, 3) := by decide +kernel
theorem dX2_become_5 : decode cX2_become 5 = .ok (.putfield 9, 3) := by decide +kernel
theorem dX2_become_8 : decode cX2_become 8 = .ok (.aload_n 0, 1) := by decide +kernel
theorem dX2_become_9 : decode cX2_become 9 = .ok (.aload_n 1, 1) := by decide +kernel
theorem dX2_become_10 : decode cX2_become 10 = .ok (.getfield 15, 3) := by decide +kernel
theorem dX2_become_13 : decode cX2_become 13 = .ok (.putfield 15, 3) := by decide +kernel
theorem dX2_become_16 : decode cX2_become 16 = .ok (.aload_n 0, 1) := by decide +kernel
theorem dX2_become_17 : decode cX2_become 17 = .ok (.aload_n 1, 1) := by decide +kernel
theorem dX2_become_18 : decode cX2_become 18 = .ok (.getfield 18, 3) := by decide +kernel
theorem dX2_become_21 : decode cX2_become 21 = .ok (.putfield 18, 3) := by decide +kernel
theorem dX2_become_24 : decode cX2_become 24 = .ok (.aload_n 0, 1) := by decide +kernel
theorem dX2_become_25 : decode cX2_become 25 = .ok (.aload_n 1, 1) := by decide +kernel
theorem dX2_become_26 : decode cX2_become 26 = .ok (.getfield 21, 3) := by decide +kernel
theorem dX2_become_29 : decode cX2_become 29 = .ok (.putfield 21, 3) := by decide +kernel
theorem dX2_become_32 : decode cX2_become 32 = .ok (.iconst 0, 1) := by decide +kernel
theorem dX2_become_33 : decode cX2_become 33 = .ok (.istore_n 2, 1) := by decide +kernel
theorem dX2_become_34 : decode cX2_become 34 = .ok (.iload_n 2, 1) := by decide +kernel
theorem dX2_become_35 : decode cX2_become 35 = .ok (.aload_n 0, 1) := by decide +kernel
theorem dX2_become_36 : decode cX2_become 36 = .ok (.getfield 26, 3) := by decide +kernel
theorem dX2_become_39 : decode cX2_become 39 = .ok (.arraylength, 1) := by decide +kernel
theorem dX2_become_40 : decode cX2_become 40 = .ok (.if_icmp .ge 33, 3) := by decide +kernel
theorem dX2_become_43 : decode cX2_become 43 = .ok (.iload_n 2, 1) := by decide +kernel
theorem dX2_become_44 : decode cX2_become 44 = .ok (.aload_n 1, 1) := by decide +kernel
theorem dX2_become_45 : decode cX2_become 45 = .ok (.getfield 26, 3) := by decide +kernel
theorem dX2_become_48 : decode cX2_become 48 = .ok (.arraylength, 1) := by decide +kernel
theorem dX2_become_49 : decode cX2_become 49 = .ok (.if_icmp .ge 24, 3) := by decide +kernel
theorem dX2_become_52 : decode cX2_become 52 = .ok (.aload_n 0, 1) := by decide +kernel
theorem dX2_become_53 : decode cX2_become 53 = .ok (.getfield 26, 3) := by decide +kernel
theorem dX2_become_56 : decode cX2_become 56 = .ok (.iload_n 2, 1) := by decide +kernel
theorem dX2_become_57 : decode cX2_become 57 = .ok (.aaload, 1) := by decide +kernel
theorem dX2_become_58 : decode cX2_become 58 = .ok (.aload_n 1, 1) := by decide +kernel
theorem dX2_become_59 : decode cX2_become 59 = .ok (.getfield 26, 3) := by decide +kernel
theorem dX2_become_62 : decode cX2_become 62 = .ok (.iload_n 2, 1) := by decide +kernel
theorem dX2_become_63 : decode cX2_become 63 = .ok (.aaload, 1) := by decide +kernel
theorem dX2_become_64 : decode cX2_become 64 = .ok (.invokevirtual 39, 3) := by decide +kernel
theorem dX2_become_67 : decode cX2_become 67 = .ok (.iinc 2 1, 3) := by decide +kernel
theorem dX2_become_70 : decode cX2_become 70 = .ok (.goto (-36), 3) := by decide +kernel
theorem dX2_become_73 : decode cX2_become 73 = .ok (.iconst 0, 1) := by decide +kernel
theorem dX2_become_74 : decode cX2_become 74 = .ok (.istore_n 2, 1) := by decide +kernel
theorem dX2_become_75 : decode cX2_become 75 = .ok (.iload_n 2, 1) := by decide +kernel
theorem dX2_become_76 : decode cX2_become 76 = .ok (.aload_n 0, 1) := by decide +kernel
theorem dX2_become_77 : decode cX2_become 77 = .ok (.getfield 31, 3) := by decide +kernel
theorem dX2_become_80 : decode cX2_become 80 = .ok (.arraylength, 1) := by decide +kernel
theorem dX2_become_81 : decode cX2_become 81 = .ok (.if_icmp .ge 30, 3) := by decide +kernel
theorem dX2_become_84 : decode cX2_become 84 = .ok (.iload_n 2, 1) := by decide +kernel
theorem dX2_become_85 : decode cX2_become 85 = .ok (.aload_n 1, 1) := by decide +kernel
theorem dX2_become_86 : decode cX2_become 86 = .ok (.getfield 31, 3) := by decide +kernel
theorem dX2_become_89 : decode cX2_become 89 = .ok (.arraylength, 1) := by decide +kernel
theorem dX2_become_90 : decode cX2_become 90 = .ok (.if_icmp .ge 21, 3) := by decide +kernel
theorem dX2_become_93 : decode cX2_become 93 = .ok (.aload_n 0, 1) := by decide +kernel
theorem dX2_become_94 : decode cX2_become 94 = .ok (.getfield 31, 3) := by decide +kernel
theorem dX2_become_97 : decode cX2_become 97 = .ok (.iload_n 2, 1) := by decide +kernel
theorem dX2_become_98 : decode cX2_become 98 = .ok (.aload_n 1, 1) := by decide +kernel
theorem dX2_become_99 : decode cX2_become 99 = .ok (.getfield 31, 3) := by decide +kernel
theorem dX2_become_102 : decode cX2_become 102 = .ok (.iload_n 2, 1) := by decide +kernel
theorem dX2_become_103 : decode cX2_become 103 = .ok (.baload, 1) := by decide +kernel
theorem dX2_become_104 : decode cX2_become 104 = .ok (.bastore, 1) := by decide +kernel
theorem dX2_become_105 : decode cX2_become 105 = .ok (.iinc 2 1, 3) := by decide +kernel
theorem dX2_become_108 : decode cX2_become 108 = .ok (.goto (-33), 3) := by decide +kernel
theorem dX2_become_111 : decode cX2_become 111 = .ok (.return_, 1) := by decide +kernel
theorem dX2_otherOfPair_0 : decode cX2_otherOfPair 0 = .ok (.iload_n 1, 1) := by decide +kernel
theorem dX2_otherOfPair_1 : decode cX2_otherOfPair 1 = .ok (.ifCond .lt 19, 3) := by decide +kernel
theorem dX2_otherOfPair_4 : decode cX2_otherOfPair 4 = .ok (.iload_n 1, 1) := by decide +kernel
theorem dX2_otherOfPair_5 : decode cX2_otherOfPair 5 = .ok (.aload_n 0, 1) := by decide +kernel
theorem dX2_otherOfPair_6 : decode cX2_otherOfPair 6 = .ok (.getfield 21, 3) := by decide +kernel
theorem dX2_otherOfPair_9 : decode cX2_otherOfPair 9 = .ok (.if_icmp .ge 11, 3) := by decide +kernel
theorem dX2_otherOfPair_12 : decode cX2_otherOfPair 12 = .ok (.aload_n 0, 1) := by decide +kernel
theorem dX2_otherOfPair_13 : decode cX2_otherOfPair 13 = .ok (.getfield 9, 3) := by decide +kernel
theorem dX2_otherOfPair_16 : decode cX2_otherOfPair 16 = .ok (.iconst 1, 1) := by decide +kernel
theorem dX2_otherOfPair_17 : decode cX2_otherOfPair 17 = .ok (.if_icmp .ge 5, 3) := by decide +kernel
theorem dX2_otherOfPair_20 : decode cX2_otherOfPair 20 = .ok (.iconst (-1), 1) := by decide +kernel
theorem dX2_otherOfPair_21 : decode cX2_otherOfPair 21 = .ok (.ireturn, 1) := by decide +kernel
theorem dX2_otherOfPair_22 : decode cX2_otherOfPair 22 = .ok (.iload_n 2, 1) := by decide +kernel
theorem dX2_otherOfPair_23 : decode cX2_otherOfPair 23 = .ok (.ifCond .ne 26, 3) := by decide +kernel
theorem dX2_otherOfPair_26 : decode cX2_otherOfPair 26 = .ok (.iload_n 1, 1) := by decide +kernel
theorem dX2_otherOfPair_27 : decode cX2_otherOfPair 27 = .ok (.aload_n 0, 1) := by decide +kernel
theorem dX2_otherOfPair_28 : decode cX2_otherOfPair 28 = .ok (.getfield 9, 3) := by decide +kernel
theorem dX2_otherOfPair_31 : decode cX2_otherOfPair 31 = .ok (.irem, 1) := by decide +kernel
theorem dX2_otherOfPair_32 : decode cX2_otherOfPair 32 = .ok (.iconst 1, 1) := by decide +kernel
theorem dX2_otherOfPair_33 : decode cX2_otherOfPair 33 = .ok (.iadd, 1) := by decide +kernel
theorem dX2_otherOfPair_34 : decode cX2_otherOfPair 34 = .ok (.aload_n 0, 1) := by decide +kernel
theorem dX2_otherOfPair_35 : decode cX2_otherOfPair 35 = .ok (.getfield 9, 3) := by decide +kernel
theorem dX2_otherOfPair_38 : decode cX2_otherOfPair 38 = .ok (.if_icmp .ge 9, 3) := by decide +kernel
theorem dX2_otherOfPair_41 : decode cX2_otherOfPair 41 = .ok (.iload_n 1, 1) := by decide +kernel
theorem dX2_otherOfPair_42 : decode cX2_otherOfPair 42 = .ok (.iconst 1, 1) := by decide +kernel
theorem dX2_otherOfPair_43 : decode cX2_otherOfPair 43 = .ok (.iadd, 1) := by decide +kernel
theorem dX2_otherOfPair_44 : decode cX2_otherOfPair 44 = .ok (.goto 4, 3) := by decide +kernel
theorem dX2_otherOfPair_47 : decode cX2_otherOfPair 47 = .ok (.iconst (-1), 1) := by decide +kernel
theorem dX2_otherOfPair_48 : decode cX2_otherOfPair 48 = .ok (.ireturn, 1) := by decide +kernel
theorem dX2_otherOfPair_49 : decode cX2_otherOfPair 49 = .ok (.iload_n 2, 1) := by decide +kernel
theorem dX2_otherOfPair_50 : decode cX2_otherOfPair 50 = .ok (.iconst 1, 1) := by decide +kernel
theorem dX2_otherOfPair_51 : decode cX2_otherOfPair 51 = .ok (.if_icmp .ne 25, 3) := by decide +kernel
theorem dX2_otherOfPair_54 : decode cX2_otherOfPair 54 = .ok (.iload_n 1, 1) := by decide +kernel
theorem dX2_otherOfPair_55 : decode cX2_otherOfPair 55 = .ok (.aload_n 0, 1) := by decide +kernel
theorem dX2_otherOfPair_56 : decode cX2_otherOfPair 56 = .ok (.getfield 9, 3) := by decide +kernel
theorem dX2_otherOfPair_59 : decode cX2_otherOfPair 59 = .ok (.iadd, 1) := by decide +kernel
theorem dX2_otherOfPair_60 : decode cX2_otherOfPair 60 = .ok (.aload_n 0, 1) := by decide +kernel
theorem dX2_otherOfPair_61 : decode cX2_otherOfPair 61 = .ok (.getfield 21, 3) := by decide +kernel
theorem dX2_otherOfPair_64 : decode cX2_otherOfPair 64 = .ok (.if_icmp .ge 12, 3) := by decide +kernel
theorem dX2_otherOfPair_67 : decode cX2_otherOfPair 67 = .ok (.iload_n 1, 1) := by decide +kernel
theorem dX2_otherOfPair_68 : decode cX2_otherOfPair 68 = .ok (.aload_n 0, 1) := by decide +kernel
theorem dX2_otherOfPair_69 : decode cX2_otherOfPair 69 = .ok (.getfield 9, 3) := by decide +kernel
theorem dX2_otherOfPair_72 : decode cX2_otherOfPair 72 = .ok (.iadd, 1) := by decide +kernel
theorem dX2_otherOfPair_73 : decode cX2_otherOfPair 73 = .ok (.goto 4, 3) := by decide +kernel
theorem dX2_otherOfPair_76 : decode cX2_otherOfPair 76 = .ok (.iconst (-1), 1) := by decide +kernel
theorem dX2_otherOfPair_77 : decode cX2_otherOfPair 77 = .ok (.ireturn, 1) := by decide +kernel
set_option maxRecDepth 20000 in
theorem ggX2_isOpen_X2_otherOfPair : GoodIn wsX2_isOpen wsX2_otherOfPair := goodIn_r _ [6, 7, 8, 9, 10, 11, 12, 13, 14, 15] (by decide +kernel) (by decide +kernel)
set_option maxRecDepth 20000 in
theorem gX2_isOpen_X2_otherOfPair : GoodIn wsX2_isOpen (wsV RX2 43 RX2 yX2_otherOfPair wsX2_otherOfPair) := goodIn_app (goodIn_of _ (by decide +kernel)) ggX2_isOpen_X2_otherOfPair
theorem dX2_isOpen_0 : decode cX2_isOpen 0 = .ok (.iconst 2, 1) := by decide +kernel
theorem dX2_isOpen_1 : decode cX2_isOpen 1 = .ok (.iload_n 1, 1) := by decide +kernel
theorem dX2_isOpen_2 : decode cX2_isOpen 2 = .ok (.imul, 1) := by decide +kernel
theorem dX2_isOpen_3 : decode cX2_isOpen 3 = .ok (.iload_n 2, 1) := by decide +kernel
theorem dX2_isOpen_4 : decode cX2_isOpen 4 = .ok (.iadd, 1) := by decide +kernel
theorem dX2_isOpen_5 : decode cX2_isOpen 5 = .ok (.istore_n 3, 1) := by decide +kernel
theorem dX2_isOpen_6 : decode cX2_isOpen 6 = .ok (.aload_n 0, 1) := by decide +kernel
theorem dX2_isOpen_7 : decode cX2_isOpen 7 = .ok (.iload_n 1, 1) := by decide +kernel
theorem dX2_isOpen_8 : decode cX2_isOpen 8 = .ok (.iload_n 2, 1) := by decide +kernel
theorem dX2_isOpen_9 : decode cX2_isOpen 9 = .ok (.invokevirtual 43, 3) := by decide +kernel
theorem dX2_isOpen_12 : decode cX2_isOpen 12 = .ok (.ifCond .lt 29, 3) := by decide +kernel
theorem dX2_isOpen_15 : decode cX2_isOpen 15 = .ok (.iload_n 3, 1) := by decide +kernel
theorem dX2_isOpen_16 : decode cX2_isOpen 16 = .ok (.ifCond .lt 25, 3) := by decide +kernel
theorem dX2_isOpen_19 : decode cX2_isOpen 19 = .ok (.iload_n 3, 1) := by decide +kernel
theorem dX2_isOpen_20 : decode cX2_isOpen 20 = .ok (.aload_n 0, 1) := by decide +kernel
theorem dX2_isOpen_21 : decode cX2_isOpen 21 = .ok (.getfield 31, 3) := by decide +kernel
theorem dX2_isOpen_24 : decode cX2_isOpen 24 = .ok (.arraylength, 1) := by decide +kernel
theorem dX2_isOpen_25 : decode cX2_isOpen 25 = .ok (.if_icmp .ge 16, 3) := by decide +kernel
theorem dX2_isOpen_28 : decode cX2_isOpen 28 = .ok (.aload_n 0, 1) := by decide +kernel
theorem dX2_isOpen_29 : decode cX2_isOpen 29 = .ok (.getfield 31, 3) := by decide +kernel
theorem dX2_isOpen_32 : decode cX2_isOpen 32 = .ok (.iload_n 3, 1) := by decide +kernel
theorem dX2_isOpen_33 : decode cX2_isOpen 33 = .ok (.baload, 1) := by decide +kernel
theorem dX2_isOpen_34 : decode cX2_isOpen 34 = .ok (.ifCond .ne 7, 3) := by decide +kernel
theorem dX2_isOpen_37 : decode cX2_isOpen 37 = .ok (.iconst 1, 1) := by decide +kernel
theorem dX2_isOpen_38 : decode cX2_isOpen 38 = .ok (.goto 4, 3) := by decide +kernel
theorem dX2_isOpen_41 : decode cX2_isOpen 41 = .ok (.iconst 0, 1) := by decide +kernel
theorem dX2_isOpen_42 : decode cX2_isOpen 42 = .ok (.ireturn, 1) := by decide +kernel
theorem dX2_setSeam_0 : decode cX2_setSeam 0 = .ok (.iconst 2, 1) := by decide +kernel
theorem dX2_setSeam_1 : decode cX2_setSeam 1 = .ok (.iload_n 1, 1) := by decide +kernel
theorem dX2_setSeam_2 : decode cX2_setSeam 2 = .ok (.imul, 1) := by decide +kernel
theorem dX2_setSeam_3 : decode cX2_setSeam 3 = .ok (.iload_n 2, 1) := by decide +kernel
theorem dX2_setSeam_4 : decode cX2_setSeam 4 = .ok (.iadd, 1) := by decide +kernel
theorem dX2_setSeam_5 : decode cX2_setSeam 5 = .ok (.istore 4, 2) := by decide +kernel
theorem dX2_setSeam_7 : decode cX2_setSeam 7 = .ok (.iload 4, 2) := by decide +kernel
theorem dX2_setSeam_9 : decode cX2_setSeam 9 = .ok (.ifCond .lt 21, 3) := by decide +kernel
theorem dX2_setSeam_12 : decode cX2_setSeam 12 = .ok (.iload 4, 2) := by decide +kernel
theorem dX2_setSeam_14 : decode cX2_setSeam 14 = .ok (.aload_n 0, 1) := by decide +kernel
theorem dX2_setSeam_15 : decode cX2_setSeam 15 = .ok (.getfield 31, 3) := by decide +kernel
theorem dX2_setSeam_18 : decode cX2_setSeam 18 = .ok (.arraylength, 1) := by decide +kernel
theorem dX2_setSeam_19 : decode cX2_setSeam 19 = .ok (.if_icmp .ge 11, 3) := by decide +kernel
theorem dX2_setSeam_22 : decode cX2_setSeam 22 = .ok (.aload_n 0, 1) := by decide +kernel
theorem dX2_setSeam_23 : decode cX2_setSeam 23 = .ok (.getfield 31, 3) := by decide +kernel
theorem dX2_setSeam_26 : decode cX2_setSeam 26 = .ok (.iload 4, 2) := by decide +kernel
theorem dX2_setSeam_28 : decode cX2_setSeam 28 = .ok (.iload_n 3, 1) := by decide +kernel
theorem dX2_setSeam_29 : decode cX2_setSeam 29 = .ok (.bastore, 1) := by decide +kernel
theorem dX2_setSeam_30 : decode cX2_setSeam 30 = .ok (.return_, 1) := by decide +kernel
set_option maxRecDepth 20000 in
theorem ggX2_openPairs_X2_isOpen : GoodIn wsX2_openPairs wsX2_isOpen := goodIn_r _ [6, 7, 8, 9, 10, 5, 11, 1, 12, 13, 14, 15, 16, 17, 18, 19] (by decide +kernel) (by decide +kernel)
set_option maxRecDepth 20000 in
theorem gX2_openPairs_X2_isOpen : GoodIn wsX2_openPairs (wsV RX2 47 RX2 yX2_isOpen wsX2_isOpen) := goodIn_app (goodIn_of _ (by decide +kernel)) ggX2_openPairs_X2_isOpen
theorem dX2_openPairs_0 : decode cX2_openPairs 0 = .ok (.iconst 0, 1) := by decide +kernel
theorem dX2_openPairs_1 : decode cX2_openPairs 1 = .ok (.istore_n 1, 1) := by decide +kernel
theorem dX2_openPairs_2 : decode cX2_openPairs 2 = .ok (.iconst 0, 1) := by decide +kernel
theorem dX2_openPairs_3 : decode cX2_openPairs 3 = .ok (.istore_n 2, 1) := by decide +kernel
theorem dX2_openPairs_4 : decode cX2_openPairs 4 = .ok (.iload_n 2, 1) := by decide +kernel
theorem dX2_openPairs_5 : decode cX2_openPairs 5 = .ok (.aload_n 0, 1) := by decide +kernel
theorem dX2_openPairs_6 : decode cX2_openPairs 6 = .ok (.getfield 21, 3) := by decide +kernel
theorem dX2_openPairs_9 : decode cX2_openPairs 9 = .ok (.if_icmp .ge 39, 3) := by decide +kernel
theorem dX2_openPairs_12 : decode cX2_openPairs 12 = .ok (.iconst 0, 1) := by decide +kernel
theorem dX2_openPairs_13 : decode cX2_openPairs 13 = .ok (.istore_n 3, 1) := by decide +kernel
theorem dX2_openPairs_14 : decode cX2_openPairs 14 = .ok (.iload_n 3, 1) := by decide +kernel
theorem dX2_openPairs_15 : decode cX2_openPairs 15 = .ok (.iconst 2, 1) := by decide +kernel
theorem dX2_openPairs_16 : decode cX2_openPairs 16 = .ok (.if_icmp .ge 26, 3) := by decide +kernel
theorem dX2_openPairs_19 : decode cX2_openPairs 19 = .ok (.iload_n 1, 1) := by decide +kernel
theorem dX2_openPairs_20 : decode cX2_openPairs 20 = .ok (.aload_n 0, 1) := by decide +kernel
theorem dX2_openPairs_21 : decode cX2_openPairs 21 = .ok (.iload_n 2, 1) := by decide +kernel
theorem dX2_openPairs_22 : decode cX2_openPairs 22 = .ok (.iload_n 3, 1) := by decide +kernel
theorem dX2_openPairs_23 : decode cX2_openPairs 23 = .ok (.invokevirtual 47, 3) := by decide +kernel
theorem dX2_openPairs_26 : decode cX2_openPairs 26 = .ok (.ifCond .eq 7, 3) := by decide +kernel
theorem dX2_openPairs_29 : decode cX2_openPairs 29 = .ok (.iconst 1, 1) := by decide +kernel
theorem dX2_openPairs_30 : decode cX2_openPairs 30 = .ok (.goto 4, 3) := by decide +kernel
theorem dX2_openPairs_33 : decode cX2_openPairs 33 = .ok (.iconst 0, 1) := by decide +kernel
theorem dX2_openPairs_34 : decode cX2_openPairs 34 = .ok (.iadd, 1) := by decide +kernel
theorem dX2_openPairs_35 : decode cX2_openPairs 35 = .ok (.istore_n 1, 1) := by decide +kernel
theorem dX2_openPairs_36 : decode cX2_openPairs 36 = .ok (.iinc 3 1, 3) := by decide +kernel
theorem dX2_openPairs_39 : decode cX2_openPairs 39 = .ok (.goto (-25), 3) := by decide +kernel
theorem dX2_openPairs_42 : decode cX2_openPairs 42 = .ok (.iinc 2 1, 3) := by decide +kernel
theorem dX2_openPairs_45 : decode cX2_openPairs 45 = .ok (.goto (-41), 3) := by decide +kernel
theorem dX2_openPairs_48 : decode cX2_openPairs 48 = .ok (.iload_n 1, 1) := by decide +kernel
theorem dX2_openPairs_49 : decode cX2_openPairs 49 = .ok (.ireturn, 1) := by decide +kernel
set_option maxRecDepth 20000 in
theorem ggX2_parts_X2_isOpen : GoodIn wsX2_parts wsX2_isOpen := goodIn_r _ [7, 8, 9, 10, 11, 6, 12, 2, 13, 18, 19, 20, 21, 22, 23, 24] (by decide +kernel) (by decide +kernel)
set_option maxRecDepth 20000 in
theorem gX2_parts_X2_isOpen : GoodIn wsX2_parts (wsV RX2 47 RX2 yX2_isOpen wsX2_isOpen) := goodIn_app (goodIn_of _ (by decide +kernel)) ggX2_parts_X2_isOpen
set_option maxRecDepth 20000 in
theorem ggX2_parts_X2_otherOfPair : GoodIn wsX2_parts wsX2_otherOfPair := goodIn_r _ [12, 2, 13, 18, 19, 20, 21, 22, 23, 24] (by decide +kernel) (by decide +kernel)
set_option maxRecDepth 20000 in
theorem gX2_parts_X2_otherOfPair : GoodIn wsX2_parts (wsV RX2 43 RX2 yX2_otherOfPair wsX2_otherOfPair) := goodIn_app (goodIn_of _ (by decide +kernel)) ggX2_parts_X2_otherOfPair
set_option maxRecDepth 20000 in
theorem ggX2_parts_X2_joinParts : GoodIn wsX2_parts wsX2_joinParts := goodIn_r _ [17, 1, 18, 19, 20, 21, 22, 23, 24] (by decide +kernel) (by decide +kernel)
set_option maxRecDepth 20000 in
theorem gX2_parts_X2_joinParts : GoodIn wsX2_parts (wsV RX2 51 RX2 yX2_joinParts wsX2_joinParts) := goodIn_app (goodIn_of _ (by decide +kernel)) ggX2_parts_X2_joinParts
theorem dX2_parts_0 : decode cX2_parts 0 = .ok (.iconst 0, 1) := by decide +kernel
theorem dX2_parts_1 : decode cX2_parts 1 = .ok (.istore_n 1, 1) := by decide +kernel
theorem dX2_parts_2 : decode cX2_parts 2 = .ok (.iload_n 1, 1) := by decide +kernel
theorem dX2_parts_3 : decode cX2_parts 3 = .ok (.aload_n 0, 1) := by decide +kernel
theorem dX2_parts_4 : decode cX2_parts 4 = .ok (.getfield 35, 3) := by decide +kernel
theorem dX2_parts_7 : decode cX2_parts 7 = .ok (.arraylength, 1) := by decide +kernel
theorem dX2_parts_8 : decode cX2_parts 8 = .ok (.if_icmp .ge 16, 3) := by decide +kernel
theorem dX2_parts_11 : decode cX2_parts 11 = .ok (.aload_n 0, 1) := by decide +kernel
theorem dX2_parts_12 : decode cX2_parts 12 = .ok (.getfield 35, 3) := by decide +kernel
theorem dX2_parts_15 : decode cX2_parts 15 = .ok (.iload_n 1, 1) := by decide +kernel
theorem dX2_parts_16 : decode cX2_parts 16 = .ok (.iload_n 1, 1) := by decide +kernel
theorem dX2_parts_17 : decode cX2_parts 17 = .ok (.iastore, 1) := by decide +kernel
theorem dX2_parts_18 : decode cX2_parts 18 = .ok (.iinc 1 1, 3) := by decide +kernel
theorem dX2_parts_21 : decode cX2_parts 21 = .ok (.goto (-19), 3) := by decide +kernel
theorem dX2_parts_24 : decode cX2_parts 24 = .ok (.aload_n 0, 1) := by decide +kernel
theorem dX2_parts_25 : decode cX2_parts 25 = .ok (.getfield 21, 3) := by decide +kernel
theorem dX2_parts_28 : decode cX2_parts 28 = .ok (.istore_n 1, 1) := by decide +kernel
theorem dX2_parts_29 : decode cX2_parts 29 = .ok (.iconst 0, 1) := by decide +kernel
theorem dX2_parts_30 : decode cX2_parts 30 = .ok (.istore_n 2, 1) := by decide +kernel
theorem dX2_parts_31 : decode cX2_parts 31 = .ok (.iload_n 2, 1) := by decide +kernel
theorem dX2_parts_32 : decode cX2_parts 32 = .ok (.aload_n 0, 1) := by decide +kernel
theorem dX2_parts_33 : decode cX2_parts 33 = .ok (.getfield 21, 3) := by decide +kernel
theorem dX2_parts_36 : decode cX2_parts 36 = .ok (.if_icmp .ge 48, 3) := by decide +kernel
theorem dX2_parts_39 : decode cX2_parts 39 = .ok (.iconst 0, 1) := by decide +kernel
theorem dX2_parts_40 : decode cX2_parts 40 = .ok (.istore_n 3, 1) := by decide +kernel
theorem dX2_parts_41 : decode cX2_parts 41 = .ok (.iload_n 3, 1) := by decide +kernel
theorem dX2_parts_42 : decode cX2_parts 42 = .ok (.iconst 2, 1) := by decide +kernel
theorem dX2_parts_43 : decode cX2_parts 43 = .ok (.if_icmp .ge 35, 3) := by decide +kernel
theorem dX2_parts_46 : decode cX2_parts 46 = .ok (.aload_n 0, 1) := by decide +kernel
theorem dX2_parts_47 : decode cX2_parts 47 = .ok (.iload_n 2, 1) := by decide +kernel
theorem dX2_parts_48 : decode cX2_parts 48 = .ok (.iload_n 3, 1) := by decide +kernel
theorem dX2_parts_49 : decode cX2_parts 49 = .ok (.invokevirtual 47, 3) := by decide +kernel
theorem dX2_parts_52 : decode cX2_parts 52 = .ok (.ifCond .eq 20, 3) := by decide +kernel
theorem dX2_parts_55 : decode cX2_parts 55 = .ok (.aload_n 0, 1) := by decide +kernel
theorem dX2_parts_56 : decode cX2_parts 56 = .ok (.iload_n 2, 1) := by decide +kernel
theorem dX2_parts_57 : decode cX2_parts 57 = .ok (.aload_n 0, 1) := by decide +kernel
theorem dX2_parts_58 : decode cX2_parts 58 = .ok (.iload_n 2, 1) := by decide +kernel
theorem dX2_parts_59 : decode cX2_parts 59 = .ok (.iload_n 3, 1) := by decide +kernel
theorem dX2_parts_60 : decode cX2_parts 60 = .ok (.invokevirtual 43, 3) := by decide +kernel
theorem dX2_parts_63 : decode cX2_parts 63 = .ok (.invokevirtual 51, 3) := by decide +kernel
theorem dX2_parts_66 : decode cX2_parts 66 = .ok (.ifCond .eq 6, 3) := by decide +kernel
theorem dX2_parts_69 : decode cX2_parts 69 = .ok (.iinc 1 (-1), 3) := by decide +kernel
theorem dX2_parts_72 : decode cX2_parts 72 = .ok (.iinc 3 1, 3) := by decide +kernel
theorem dX2_parts_75 : decode cX2_parts 75 = .ok (.goto (-34), 3) := by decide +kernel
theorem dX2_parts_78 : decode cX2_parts 78 = .ok (.iinc 2 1, 3) := by decide +kernel
theorem dX2_parts_81 : decode cX2_parts 81 = .ok (.goto (-50), 3) := by decide +kernel
theorem dX2_parts_84 : decode cX2_parts 84 = .ok (.iload_n 1, 1) := by decide +kernel
theorem dX2_parts_85 : decode cX2_parts 85 = .ok (.ireturn, 1) := by decide +kernel
theorem dX2_joinParts_0 : decode cX2_joinParts 0 = .ok (.iload_n 1, 1) := by decide +kernel
theorem dX2_joinParts_1 : decode cX2_joinParts 1 = .ok (.ifCond .lt 25, 3) := by decide +kernel
theorem dX2_joinParts_4 : decode cX2_joinParts 4 = .ok (.iload_n 1, 1) := by decide +kernel
theorem dX2_joinParts_5 : decode cX2_joinParts 5 = .ok (.aload_n 0, 1) := by decide +kernel
theorem dX2_joinParts_6 : decode cX2_joinParts 6 = .ok (.getfield 35, 3) := by decide +kernel
theorem dX2_joinParts_9 : decode cX2_joinParts 9 = .ok (.arraylength, 1) := by decide +kernel
theorem dX2_joinParts_10 : decode cX2_joinParts 10 = .ok (.if_icmp .ge 16, 3) := by decide +kernel
theorem dX2_joinParts_13 : decode cX2_joinParts 13 = .ok (.iload_n 2, 1) := by decide +kernel
theorem dX2_joinParts_14 : decode cX2_joinParts 14 = .ok (.ifCond .lt 12, 3) := by decide +kernel
theorem dX2_joinParts_17 : decode cX2_joinParts 17 = .ok (.iload_n 2, 1) := by decide +kernel
theorem dX2_joinParts_18 : decode cX2_joinParts 18 = .ok (.aload_n 0, 1) := by decide +kernel
theorem dX2_joinParts_19 : decode cX2_joinParts 19 = .ok (.getfield 35, 3) := by decide +kernel
theorem dX2_joinParts_22 : decode cX2_joinParts 22 = .ok (.arraylength, 1) := by decide +kernel
theorem dX2_joinParts_23 : decode cX2_joinParts 23 = .ok (.if_icmp .lt 5, 3) := by decide +kernel
theorem dX2_joinParts_26 : decode cX2_joinParts 26 = .ok (.iconst 0, 1) := by decide +kernel
theorem dX2_joinParts_27 : decode cX2_joinParts 27 = .ok (.ireturn, 1) := by decide +kernel
theorem dX2_joinParts_28 : decode cX2_joinParts 28 = .ok (.aload_n 0, 1) := by decide +kernel
theorem dX2_joinParts_29 : decode cX2_joinParts 29 = .ok (.getfield 35, 3) := by decide +kernel
theorem dX2_joinParts_32 : decode cX2_joinParts 32 = .ok (.iload_n 1, 1) := by decide +kernel
theorem dX2_joinParts_33 : decode cX2_joinParts 33 = .ok (.iaload, 1) := by decide +kernel
theorem dX2_joinParts_34 : decode cX2_joinParts 34 = .ok (.istore_n 3, 1) := by decide +kernel
theorem dX2_joinParts_35 : decode cX2_joinParts 35 = .ok (.aload_n 0, 1) := by decide +kernel
theorem dX2_joinParts_36 : decode cX2_joinParts 36 = .ok (.getfield 35, 3) := by decide +kernel
theorem dX2_joinParts_39 : decode cX2_joinParts 39 = .ok (.iload_n 2, 1) := by decide +kernel
theorem dX2_joinParts_40 : decode cX2_joinParts 40 = .ok (.iaload, 1) := by decide +kernel
theorem dX2_joinParts_41 : decode cX2_joinParts 41 = .ok (.istore 4, 2) := by decide +kernel
theorem dX2_joinParts_43 : decode cX2_joinParts 43 = .ok (.iload_n 3, 1) := by decide +kernel
theorem dX2_joinParts_44 : decode cX2_joinParts 44 = .ok (.iload 4, 2) := by decide +kernel
theorem dX2_joinParts_46 : decode cX2_joinParts 46 = .ok (.if_icmp .ne 5, 3) := by decide +kernel
theorem dX2_joinParts_49 : decode cX2_joinParts 49 = .ok (.iconst 0, 1) := by decide +kernel
theorem dX2_joinParts_50 : decode cX2_joinParts 50 = .ok (.ireturn, 1) := by decide +kernel
theorem dX2_joinParts_51 : decode cX2_joinParts 51 = .ok (.iconst 0, 1) := by decide +kernel
theorem dX2_joinParts_52 : decode cX2_joinParts 52 = .ok (.istore 5, 2) := by decide +kernel
theorem dX2_joinParts_54 : decode cX2_joinParts 54 = .ok (.iload 5, 2) := by decide +kernel
theorem dX2_joinParts_56 : decode cX2_joinParts 56 = .ok (.aload_n 0, 1) := by decide +kernel
theorem dX2_joinParts_57 : decode cX2_joinParts 57 = .ok (.getfield 35, 3) := by decide +kernel
theorem dX2_joinParts_60 : decode cX2_joinParts 60 = .ok (.arraylength, 1) := by decide +kernel
theorem dX2_joinParts_61 : decode cX2_joinParts 61 = .ok (.if_icmp .ge 29, 3) := by decide +kernel
theorem dX2_joinParts_64 : decode cX2_joinParts 64 = .ok (.aload_n 0, 1) := by decide +kernel
theorem dX2_joinParts_65 : decode cX2_joinParts 65 = .ok (.getfield 35, 3) := by decide +kernel
theorem dX2_joinParts_68 : decode cX2_joinParts 68 = .ok (.iload 5, 2) := by decide +kernel
theorem dX2_joinParts_70 : decode cX2_joinParts 70 = .ok (.iaload, 1) := by decide +kernel
theorem dX2_joinParts_71 : decode cX2_joinParts 71 = .ok (.iload 4, 2) := by decide +kernel
theorem dX2_joinParts_73 : decode cX2_joinParts 73 = .ok (.if_icmp .ne 11, 3) := by decide +kernel
theorem dX2_joinParts_76 : decode cX2_joinParts 76 = .ok (.aload_n 0, 1) := by decide +kernel
theorem dX2_joinParts_77 : decode cX2_joinParts 77 = .ok (.getfield 35, 3) := by decide +kernel
theorem dX2_joinParts_80 : decode cX2_joinParts 80 = .ok (.iload 5, 2) := by decide +kernel
theorem dX2_joinParts_82 : decode cX2_joinParts 82 = .ok (.iload_n 3, 1) := by decide +kernel
theorem dX2_joinParts_83 : decode cX2_joinParts 83 = .ok (.iastore, 1) := by decide +kernel
theorem dX2_joinParts_84 : decode cX2_joinParts 84 = .ok (.iinc 5 1, 3) := by decide +kernel
theorem dX2_joinParts_87 : decode cX2_joinParts 87 = .ok (.goto (-33), 3) := by decide +kernel
theorem dX2_joinParts_90 : decode cX2_joinParts 90 = .ok (.iconst 1, 1) := by decide +kernel
theorem dX2_joinParts_91 : decode cX2_joinParts 91 = .ok (.ireturn, 1) := by decide +kernel
theorem dX2_feathers_0 : decode cX2_feathers 0 = .ok (.iconst 0, 1) := by decide +kernel
theorem dX2_feathers_1 : decode cX2_feathers 1 = .ok (.istore_n 1, 1) := by decide +kernel
theorem dX2_feathers_2 : decode cX2_feathers 2 = .ok (.iconst 0, 1) := by decide +kernel
theorem dX2_feathers_3 : decode cX2_feathers 3 = .ok (.istore_n 2, 1) := by decide +kernel
theorem dX2_feathers_4 : decode cX2_feathers 4 = .ok (.iload_n 2, 1) := by decide +kernel
theorem dX2_feathers_5 : decode cX2_feathers 5 = .ok (.aload_n 0, 1) := by decide +kernel
theorem dX2_feathers_6 : decode cX2_feathers 6 = .ok (.getfield 26, 3) := by decide +kernel
theorem dX2_feathers_9 : decode cX2_feathers 9 = .ok (.arraylength, 1) := by decide +kernel
theorem dX2_feathers_10 : decode cX2_feathers 10 = .ok (.if_icmp .ge 21, 3) := by decide +kernel
theorem dX2_feathers_13 : decode cX2_feathers 13 = .ok (.iload_n 1, 1) := by decide +kernel
theorem dX2_feathers_14 : decode cX2_feathers 14 = .ok (.aload_n 0, 1) := by decide +kernel
theorem dX2_feathers_15 : decode cX2_feathers 15 = .ok (.getfield 26, 3) := by decide +kernel
theorem dX2_feathers_18 : decode cX2_feathers 18 = .ok (.iload_n 2, 1) := by decide +kernel
theorem dX2_feathers_19 : decode cX2_feathers 19 = .ok (.aaload, 1) := by decide +kernel
theorem dX2_feathers_20 : decode cX2_feathers 20 = .ok (.getfield 54, 3) := by decide +kernel
theorem dX2_feathers_23 : decode cX2_feathers 23 = .ok (.iadd, 1) := by decide +kernel
theorem dX2_feathers_24 : decode cX2_feathers 24 = .ok (.istore_n 1, 1) := by decide +kernel
theorem dX2_feathers_25 : decode cX2_feathers 25 = .ok (.iinc 2 1, 3) := by decide +kernel
theorem dX2_feathers_28 : decode cX2_feathers 28 = .ok (.goto (-24), 3) := by decide +kernel
theorem dX2_feathers_31 : decode cX2_feathers 31 = .ok (.iload_n 1, 1) := by decide +kernel
theorem dX2_feathers_32 : decode cX2_feathers 32 = .ok (.ireturn, 1) := by decide +kernel
set_option maxRecDepth 20000 in
theorem ggX2_warmthInAll_X0_warmth : GoodIn wsX2_warmthInAll wsX0_warmth := goodIn_r _ [6, 7, 8, 9, 10, 11, 19, 20] (by decide +kernel) (by decide +kernel)
set_option maxRecDepth 20000 in
theorem gX2_warmthInAll_X0_warmth : GoodIn wsX2_warmthInAll (wsV RX2 57 RX0 yX0_warmth wsX0_warmth) := goodIn_app (goodIn_of _ (by decide +kernel)) ggX2_warmthInAll_X0_warmth
theorem dX2_warmthInAll_0 : decode cX2_warmthInAll 0 = .ok (.iconst 0, 1) := by decide +kernel
theorem dX2_warmthInAll_1 : decode cX2_warmthInAll 1 = .ok (.istore_n 1, 1) := by decide +kernel
theorem dX2_warmthInAll_2 : decode cX2_warmthInAll 2 = .ok (.iconst 0, 1) := by decide +kernel
theorem dX2_warmthInAll_3 : decode cX2_warmthInAll 3 = .ok (.istore_n 2, 1) := by decide +kernel
theorem dX2_warmthInAll_4 : decode cX2_warmthInAll 4 = .ok (.iload_n 2, 1) := by decide +kernel
theorem dX2_warmthInAll_5 : decode cX2_warmthInAll 5 = .ok (.aload_n 0, 1) := by decide +kernel
theorem dX2_warmthInAll_6 : decode cX2_warmthInAll 6 = .ok (.getfield 26, 3) := by decide +kernel
theorem dX2_warmthInAll_9 : decode cX2_warmthInAll 9 = .ok (.arraylength, 1) := by decide +kernel
theorem dX2_warmthInAll_10 : decode cX2_warmthInAll 10 = .ok (.if_icmp .ge 21, 3) := by decide +kernel
theorem dX2_warmthInAll_13 : decode cX2_warmthInAll 13 = .ok (.iload_n 1, 1) := by decide +kernel
theorem dX2_warmthInAll_14 : decode cX2_warmthInAll 14 = .ok (.aload_n 0, 1) := by decide +kernel
theorem dX2_warmthInAll_15 : decode cX2_warmthInAll 15 = .ok (.getfield 26, 3) := by decide +kernel
theorem dX2_warmthInAll_18 : decode cX2_warmthInAll 18 = .ok (.iload_n 2, 1) := by decide +kernel
theorem dX2_warmthInAll_19 : decode cX2_warmthInAll 19 = .ok (.aaload, 1) := by decide +kernel
theorem dX2_warmthInAll_20 : decode cX2_warmthInAll 20 = .ok (.invokevirtual 57, 3) := by decide +kernel
theorem dX2_warmthInAll_23 : decode cX2_warmthInAll 23 = .ok (.iadd, 1) := by decide +kernel
theorem dX2_warmthInAll_24 : decode cX2_warmthInAll 24 = .ok (.istore_n 1, 1) := by decide +kernel
theorem dX2_warmthInAll_25 : decode cX2_warmthInAll 25 = .ok (.iinc 2 1, 3) := by decide +kernel
theorem dX2_warmthInAll_28 : decode cX2_warmthInAll 28 = .ok (.goto (-24), 3) := by decide +kernel
theorem dX2_warmthInAll_31 : decode cX2_warmthInAll 31 = .ok (.iload_n 1, 1) := by decide +kernel
theorem dX2_warmthInAll_32 : decode cX2_warmthInAll 32 = .ok (.ireturn, 1) := by decide +kernel
set_option maxRecDepth 20000 in
theorem ggX2_warmthAt_X0_warmth : GoodIn wsX2_warmthAt wsX0_warmth := goodIn_r _ [6, 7, 8, 9, 10, 11, 19, 20] (by decide +kernel) (by decide +kernel)
set_option maxRecDepth 20000 in
theorem gX2_warmthAt_X0_warmth : GoodIn wsX2_warmthAt (wsV RX2 57 RX0 yX0_warmth wsX0_warmth) := goodIn_app (goodIn_of _ (by decide +kernel)) ggX2_warmthAt_X0_warmth
theorem dX2_warmthAt_0 : decode cX2_warmthAt 0 = .ok (.iload_n 1, 1) := by decide +kernel
theorem dX2_warmthAt_1 : decode cX2_warmthAt 1 = .ok (.ifCond .lt 24, 3) := by decide +kernel
theorem dX2_warmthAt_4 : decode cX2_warmthAt 4 = .ok (.iload_n 1, 1) := by decide +kernel
theorem dX2_warmthAt_5 : decode cX2_warmthAt 5 = .ok (.aload_n 0, 1) := by decide +kernel
theorem dX2_warmthAt_6 : decode cX2_warmthAt 6 = .ok (.getfield 26, 3) := by decide +kernel
theorem dX2_warmthAt_9 : decode cX2_warmthAt 9 = .ok (.arraylength, 1) := by decide +kernel
theorem dX2_warmthAt_10 : decode cX2_warmthAt 10 = .ok (.if_icmp .ge 15, 3) := by decide +kernel
theorem dX2_warmthAt_13 : decode cX2_warmthAt 13 = .ok (.aload_n 0, 1) := by decide +kernel
theorem dX2_warmthAt_14 : decode cX2_warmthAt 14 = .ok (.getfield 26, 3) := by decide +kernel
theorem dX2_warmthAt_17 : decode cX2_warmthAt 17 = .ok (.iload_n 1, 1) := by decide +kernel
theorem dX2_warmthAt_18 : decode cX2_warmthAt 18 = .ok (.aaload, 1) := by decide +kernel
theorem dX2_warmthAt_19 : decode cX2_warmthAt 19 = .ok (.invokevirtual 57, 3) := by decide +kernel
theorem dX2_warmthAt_22 : decode cX2_warmthAt 22 = .ok (.goto 4, 3) := by decide +kernel
theorem dX2_warmthAt_25 : decode cX2_warmthAt 25 = .ok (.iconst 0, 1) := by decide +kernel
theorem dX2_warmthAt_26 : decode cX2_warmthAt 26 = .ok (.ireturn, 1) := by decide +kernel
set_option maxRecDepth 20000 in
theorem ggX2_coldestSquare_X2_warmthAt : GoodIn wsX2_coldestSquare wsX2_warmthAt := goodIn_r _ [6, 7, 8, 9, 10, 11, 12, 13, 14, 15, 16, 17, 18, 19, 20, 21, 22, 23, 24, 25, 26] (by decide +kernel) (by decide +kernel)
set_option maxRecDepth 20000 in
theorem gX2_coldestSquare_X2_warmthAt : GoodIn wsX2_coldestSquare (wsV RX2 61 RX2 yX2_warmthAt wsX2_warmthAt) := goodIn_app (goodIn_of _ (by decide +kernel)) ggX2_coldestSquare_X2_warmthAt
theorem dX2_coldestSquare_0 : decode cX2_coldestSquare 0 = .ok (.iconst 0, 1) := by decide +kernel
theorem dX2_coldestSquare_1 : decode cX2_coldestSquare 1 = .ok (.istore_n 1, 1) := by decide +kernel
theorem dX2_coldestSquare_2 : decode cX2_coldestSquare 2 = .ok (.iconst 1, 1) := by decide +kernel
theorem dX2_coldestSquare_3 : decode cX2_coldestSquare 3 = .ok (.istore_n 2, 1) := by decide +kernel
theorem dX2_coldestSquare_4 : decode cX2_coldestSquare 4 = .ok (.iload_n 2, 1) := by decide +kernel
theorem dX2_coldestSquare_5 : decode cX2_coldestSquare 5 = .ok (.aload_n 0, 1) := by decide +kernel
theorem dX2_coldestSquare_6 : decode cX2_coldestSquare 6 = .ok (.getfield 21, 3) := by decide +kernel
theorem dX2_coldestSquare_9 : decode cX2_coldestSquare 9 = .ok (.if_icmp .ge 24, 3) := by decide +kernel
theorem dX2_coldestSquare_12 : decode cX2_coldestSquare 12 = .ok (.aload_n 0, 1) := by decide +kernel
theorem dX2_coldestSquare_13 : decode cX2_coldestSquare 13 = .ok (.iload_n 2, 1) := by decide +kernel
theorem dX2_coldestSquare_14 : decode cX2_coldestSquare 14 = .ok (.invokevirtual 61, 3) := by decide +kernel
theorem dX2_coldestSquare_17 : decode cX2_coldestSquare 17 = .ok (.aload_n 0, 1) := by decide +kernel
theorem dX2_coldestSquare_18 : decode cX2_coldestSquare 18 = .ok (.iload_n 1, 1) := by decide +kernel
theorem dX2_coldestSquare_19 : decode cX2_coldestSquare 19 = .ok (.invokevirtual 61, 3) := by decide +kernel
theorem dX2_coldestSquare_22 : decode cX2_coldestSquare 22 = .ok (.if_icmp .ge 5, 3) := by decide +kernel
theorem dX2_coldestSquare_25 : decode cX2_coldestSquare 25 = .ok (.iload_n 2, 1) := by decide +kernel
theorem dX2_coldestSquare_26 : decode cX2_coldestSquare 26 = .ok (.istore_n 1, 1) := by decide +kernel
theorem dX2_coldestSquare_27 : decode cX2_coldestSquare 27 = .ok (.iinc 2 1, 3) := by decide +kernel
theorem dX2_coldestSquare_30 : decode cX2_coldestSquare 30 = .ok (.goto (-26), 3) := by decide +kernel
theorem dX2_coldestSquare_33 : decode cX2_coldestSquare 33 = .ok (.iload_n 1, 1) := by decide +kernel
theorem dX2_coldestSquare_34 : decode cX2_coldestSquare 34 = .ok (.ireturn, 1) := by decide +kernel
set_option maxRecDepth 20000 in
theorem ggX2_coldestWarmth_X2_coldestSquare : GoodIn wsX2_coldestWarmth wsX2_coldestSquare := goodIn_r _ [5, 6, 7, 8, 9, 4, 10, 11, 12, 13, 14, 15, 16, 17, 18, 19, 20, 21, 22, 23, 24, 25, 26, 27, 28, 29, 30] (by decide +kernel) (by decide +kernel)
set_option maxRecDepth 20000 in
theorem gX2_coldestWarmth_X2_coldestSquare : GoodIn wsX2_coldestWarmth (wsV RX2 65 RX2 yX2_coldestSquare wsX2_coldestSquare) := goodIn_app (goodIn_of _ (by decide +kernel)) ggX2_coldestWarmth_X2_coldestSquare
set_option maxRecDepth 20000 in
theorem ggX2_coldestWarmth_X2_warmthAt : GoodIn wsX2_coldestWarmth wsX2_warmthAt := goodIn_r _ [10, 11, 12, 13, 14, 15, 16, 17, 18, 19, 20, 21, 22, 23, 24, 25, 26, 27, 28, 29, 30] (by decide +kernel) (by decide +kernel)
set_option maxRecDepth 20000 in
theorem gX2_coldestWarmth_X2_warmthAt : GoodIn wsX2_coldestWarmth (wsV RX2 61 RX2 yX2_warmthAt wsX2_warmthAt) := goodIn_app (goodIn_of _ (by decide +kernel)) ggX2_coldestWarmth_X2_warmthAt
theorem dX2_coldestWarmth_0 : decode cX2_coldestWarmth 0 = .ok (.aload_n 0, 1) := by decide +kernel
theorem dX2_coldestWarmth_1 : decode cX2_coldestWarmth 1 = .ok (.aload_n 0, 1) := by decide +kernel
theorem dX2_coldestWarmth_2 : decode cX2_coldestWarmth 2 = .ok (.invokevirtual 65, 3) := by decide +kernel
theorem dX2_coldestWarmth_5 : decode cX2_coldestWarmth 5 = .ok (.invokevirtual 61, 3) := by decide +kernel
theorem dX2_coldestWarmth_8 : decode cX2_coldestWarmth 8 = .ok (.ireturn, 1) := by decide +kernel
set_option maxRecDepth 20000 in
theorem ggX2_tells_X2_feathers : GoodIn wsX2_tells wsX2_feathers := goodIn_r _ [8, 9, 59, 60, 61, 62, 63, 64, 65, 66, 67] (by decide +kernel) (by decide +kernel)
set_option maxRecDepth 20000 in
theorem gX2_tells_X2_feathers : GoodIn wsX2_tells (wsV RX2 68 RX2 yX2_feathers wsX2_feathers) := goodIn_app (goodIn_of _ (by decide +kernel)) ggX2_tells_X2_feathers
set_option maxRecDepth 20000 in
theorem ggX2_tells_X2_warmthInAll : GoodIn wsX2_tells wsX2_warmthInAll := goodIn_r _ [13, 9, 14, 15, 16, 17, 18, 19, 20, 21, 22, 23, 59, 60, 61, 62, 63, 64, 65, 66, 67] (by decide +kernel) (by decide +kernel)
set_option maxRecDepth 20000 in
theorem gX2_tells_X2_warmthInAll : GoodIn wsX2_tells (wsV RX2 71 RX2 yX2_warmthInAll wsX2_warmthInAll) := goodIn_app (goodIn_of _ (by decide +kernel)) ggX2_tells_X2_warmthInAll
set_option maxRecDepth 20000 in
theorem ggX2_tells_X2_coldestWarmth : GoodIn wsX2_tells wsX2_coldestWarmth := goodIn_r _ [27, 28, 29, 30, 7, 31, 32, 33, 34, 35, 36, 9, 14, 15, 16, 17, 18, 19, 20, 21, 22, 23, 59, 60, 61, 62, 63, 64, 65, 66, 67] (by decide +kernel) (by decide +kernel)
set_option maxRecDepth 20000 in
theorem gX2_tells_X2_coldestWarmth : GoodIn wsX2_tells (wsV RX2 74 RX2 yX2_coldestWarmth wsX2_coldestWarmth) := goodIn_app (goodIn_of _ (by decide +kernel)) ggX2_tells_X2_coldestWarmth
set_option maxRecDepth 20000 in
theorem ggX2_tells_X2_coldestSquare : GoodIn wsX2_tells wsX2_coldestSquare := goodIn_r _ [31, 32, 33, 34, 35, 7, 36, 9, 14, 15, 16, 17, 18, 19, 20, 21, 22, 23, 59, 60, 61, 62, 63, 64, 65, 66, 67] (by decide +kernel) (by decide +kernel)
set_option maxRecDepth 20000 in
theorem gX2_tells_X2_coldestSquare : GoodIn wsX2_tells (wsV RX2 65 RX2 yX2_coldestSquare wsX2_coldestSquare) := goodIn_app (goodIn_of _ (by decide +kernel)) ggX2_tells_X2_coldestSquare
set_option maxRecDepth 20000 in
theorem ggX2_tells_X2_openPairs : GoodIn wsX2_tells wsX2_openPairs := goodIn_r _ [40, 32, 41, 42, 43, 7, 44, 45, 46, 47, 48, 49, 1, 59, 60, 61, 62, 63, 64, 65] (by decide +kernel) (by decide +kernel)
set_option maxRecDepth 20000 in
theorem gX2_tells_X2_openPairs : GoodIn wsX2_tells (wsV RX2 77 RX2 yX2_openPairs wsX2_openPairs) := goodIn_app (goodIn_of _ (by decide +kernel)) ggX2_tells_X2_openPairs
set_option maxRecDepth 20000 in
theorem ggX2_tells_X2_parts : GoodIn wsX2_tells wsX2_parts := goodIn_r _ [53, 54, 32, 41, 42, 43, 7, 44, 45, 46, 47, 48, 49, 1, 55, 56, 57, 58, 59, 60, 61, 62, 63, 64, 65] (by decide +kernel) (by decide +kernel)
set_option maxRecDepth 20000 in
theorem gX2_tells_X2_parts : GoodIn wsX2_tells (wsV RX2 80 RX2 yX2_parts wsX2_parts) := goodIn_app (goodIn_of _ (by decide +kernel)) ggX2_tells_X2_parts
theorem dX2_tells_0 : decode cX2_tells 0 = .ok (.iload_n 1, 1) := by decide +kernel
theorem dX2_tells_1 : decode cX2_tells 1 = .ok (.tableswitch 87 0 7 #[47, 52, 57, 62, 67, 72, 77, 82], 47) := by decide +kernel
theorem dX2_tells_48 : decode cX2_tells 48 = .ok (.aload_n 0, 1) := by decide +kernel
theorem dX2_tells_49 : decode cX2_tells 49 = .ok (.getfield 9, 3) := by decide +kernel
theorem dX2_tells_52 : decode cX2_tells 52 = .ok (.ireturn, 1) := by decide +kernel
theorem dX2_tells_53 : decode cX2_tells 53 = .ok (.aload_n 0, 1) := by decide +kernel
theorem dX2_tells_54 : decode cX2_tells 54 = .ok (.getfield 15, 3) := by decide +kernel
theorem dX2_tells_57 : decode cX2_tells 57 = .ok (.ireturn, 1) := by decide +kernel
theorem dX2_tells_58 : decode cX2_tells 58 = .ok (.aload_n 0, 1) := by decide +kernel
theorem dX2_tells_59 : decode cX2_tells 59 = .ok (.getfield 18, 3) := by decide +kernel
theorem dX2_tells_62 : decode cX2_tells 62 = .ok (.ireturn, 1) := by decide +kernel
theorem dX2_tells_63 : decode cX2_tells 63 = .ok (.aload_n 0, 1) := by decide +kernel
theorem dX2_tells_64 : decode cX2_tells 64 = .ok (.invokevirtual 68, 3) := by decide +kernel
theorem dX2_tells_67 : decode cX2_tells 67 = .ok (.ireturn, 1) := by decide +kernel
theorem dX2_tells_68 : decode cX2_tells 68 = .ok (.aload_n 0, 1) := by decide +kernel
theorem dX2_tells_69 : decode cX2_tells 69 = .ok (.invokevirtual 71, 3) := by decide +kernel
theorem dX2_tells_72 : decode cX2_tells 72 = .ok (.ireturn, 1) := by decide +kernel
theorem dX2_tells_73 : decode cX2_tells 73 = .ok (.aload_n 0, 1) := by decide +kernel
theorem dX2_tells_74 : decode cX2_tells 74 = .ok (.invokevirtual 74, 3) := by decide +kernel
theorem dX2_tells_77 : decode cX2_tells 77 = .ok (.ireturn, 1) := by decide +kernel
theorem dX2_tells_78 : decode cX2_tells 78 = .ok (.aload_n 0, 1) := by decide +kernel
theorem dX2_tells_79 : decode cX2_tells 79 = .ok (.invokevirtual 65, 3) := by decide +kernel
theorem dX2_tells_82 : decode cX2_tells 82 = .ok (.ireturn, 1) := by decide +kernel
theorem dX2_tells_83 : decode cX2_tells 83 = .ok (.aload_n 0, 1) := by decide +kernel
theorem dX2_tells_84 : decode cX2_tells 84 = .ok (.invokevirtual 77, 3) := by decide +kernel
theorem dX2_tells_87 : decode cX2_tells 87 = .ok (.ireturn, 1) := by decide +kernel
theorem dX2_tells_88 : decode cX2_tells 88 = .ok (.aload_n 0, 1) := by decide +kernel
theorem dX2_tells_89 : decode cX2_tells 89 = .ok (.invokevirtual 80, 3) := by decide +kernel
theorem dX2_tells_92 : decode cX2_tells 92 = .ok (.ireturn, 1) := by decide +kernel
set_option maxRecDepth 20000 in
theorem ggX2_squareTells_X0_of : GoodIn wsX2_squareTells wsX0_of := goodIn_r _ [6, 7, 35, 36] (by decide +kernel) (by decide +kernel)
set_option maxRecDepth 20000 in
theorem gX2_squareTells_X0_of : GoodIn wsX2_squareTells (wsV RX2 83 RX0 yX0_of wsX0_of) := goodIn_app (goodIn_of _ (by decide +kernel)) ggX2_squareTells_X0_of
set_option maxRecDepth 20000 in
theorem ggX2_squareTells_X0_warmth : GoodIn wsX2_squareTells wsX0_warmth := goodIn_r _ [11, 7, 12, 13, 14, 15, 35, 36] (by decide +kernel) (by decide +kernel)
set_option maxRecDepth 20000 in
theorem gX2_squareTells_X0_warmth : GoodIn wsX2_squareTells (wsV RX2 57 RX0 yX0_warmth wsX0_warmth) := goodIn_app (goodIn_of _ (by decide +kernel)) ggX2_squareTells_X0_warmth
set_option maxRecDepth 20000 in
theorem ggX2_squareTells_X2_isOpen : GoodIn wsX2_squareTells wsX2_isOpen := goodIn_r _ [20, 21, 22, 23, 24, 19, 25, 26, 27, 28, 29, 30, 31, 32, 33, 34] (by decide +kernel) (by decide +kernel)
set_option maxRecDepth 20000 in
theorem gX2_squareTells_X2_isOpen : GoodIn wsX2_squareTells (wsV RX2 47 RX2 yX2_isOpen wsX2_isOpen) := goodIn_app (goodIn_of _ (by decide +kernel)) ggX2_squareTells_X2_isOpen
theorem dX2_squareTells_0 : decode cX2_squareTells 0 = .ok (.iload_n 1, 1) := by decide +kernel
theorem dX2_squareTells_1 : decode cX2_squareTells 1 = .ok (.ifCond .lt 12, 3) := by decide +kernel
theorem dX2_squareTells_4 : decode cX2_squareTells 4 = .ok (.iload_n 1, 1) := by decide +kernel
theorem dX2_squareTells_5 : decode cX2_squareTells 5 = .ok (.aload_n 0, 1) := by decide +kernel
theorem dX2_squareTells_6 : decode cX2_squareTells 6 = .ok (.getfield 26, 3) := by decide +kernel
theorem dX2_squareTells_9 : decode cX2_squareTells 9 = .ok (.arraylength, 1) := by decide +kernel
theorem dX2_squareTells_10 : decode cX2_squareTells 10 = .ok (.if_icmp .lt 5, 3) := by decide +kernel
theorem dX2_squareTells_13 : decode cX2_squareTells 13 = .ok (.iconst 0, 1) := by decide +kernel
theorem dX2_squareTells_14 : decode cX2_squareTells 14 = .ok (.ireturn, 1) := by decide +kernel
theorem dX2_squareTells_15 : decode cX2_squareTells 15 = .ok (.iload_n 2, 1) := by decide +kernel
theorem dX2_squareTells_16 : decode cX2_squareTells 16 = .ok (.bipush 6, 2) := by decide +kernel
theorem dX2_squareTells_18 : decode cX2_squareTells 18 = .ok (.if_icmp .ge 14, 3) := by decide +kernel
theorem dX2_squareTells_21 : decode cX2_squareTells 21 = .ok (.aload_n 0, 1) := by decide +kernel
theorem dX2_squareTells_22 : decode cX2_squareTells 22 = .ok (.getfield 26, 3) := by decide +kernel
theorem dX2_squareTells_25 : decode cX2_squareTells 25 = .ok (.iload_n 1, 1) := by decide +kernel
theorem dX2_squareTells_26 : decode cX2_squareTells 26 = .ok (.aaload, 1) := by decide +kernel
theorem dX2_squareTells_27 : decode cX2_squareTells 27 = .ok (.iload_n 2, 1) := by decide +kernel
theorem dX2_squareTells_28 : decode cX2_squareTells 28 = .ok (.invokevirtual 83, 3) := by decide +kernel
theorem dX2_squareTells_31 : decode cX2_squareTells 31 = .ok (.ireturn, 1) := by decide +kernel
theorem dX2_squareTells_32 : decode cX2_squareTells 32 = .ok (.iload_n 2, 1) := by decide +kernel
theorem dX2_squareTells_33 : decode cX2_squareTells 33 = .ok (.tableswitch 62 6 8 #[27, 37, 47], 27) := by decide +kernel
theorem dX2_squareTells_60 : decode cX2_squareTells 60 = .ok (.aload_n 0, 1) := by decide +kernel
theorem dX2_squareTells_61 : decode cX2_squareTells 61 = .ok (.getfield 26, 3) := by decide +kernel
theorem dX2_squareTells_64 : decode cX2_squareTells 64 = .ok (.iload_n 1, 1) := by decide +kernel
theorem dX2_squareTells_65 : decode cX2_squareTells 65 = .ok (.aaload, 1) := by decide +kernel
theorem dX2_squareTells_66 : decode cX2_squareTells 66 = .ok (.getfield 54, 3) := by decide +kernel
theorem dX2_squareTells_69 : decode cX2_squareTells 69 = .ok (.ireturn, 1) := by decide +kernel
theorem dX2_squareTells_70 : decode cX2_squareTells 70 = .ok (.aload_n 0, 1) := by decide +kernel
theorem dX2_squareTells_71 : decode cX2_squareTells 71 = .ok (.getfield 26, 3) := by decide +kernel
theorem dX2_squareTells_74 : decode cX2_squareTells 74 = .ok (.iload_n 1, 1) := by decide +kernel
theorem dX2_squareTells_75 : decode cX2_squareTells 75 = .ok (.aaload, 1) := by decide +kernel
theorem dX2_squareTells_76 : decode cX2_squareTells 76 = .ok (.invokevirtual 57, 3) := by decide +kernel
theorem dX2_squareTells_79 : decode cX2_squareTells 79 = .ok (.ireturn, 1) := by decide +kernel
theorem dX2_squareTells_80 : decode cX2_squareTells 80 = .ok (.aload_n 0, 1) := by decide +kernel
theorem dX2_squareTells_81 : decode cX2_squareTells 81 = .ok (.iload_n 1, 1) := by decide +kernel
theorem dX2_squareTells_82 : decode cX2_squareTells 82 = .ok (.iconst 0, 1) := by decide +kernel
theorem dX2_squareTells_83 : decode cX2_squareTells 83 = .ok (.invokevirtual 47, 3) := by decide +kernel
theorem dX2_squareTells_86 : decode cX2_squareTells 86 = .ok (.ifCond .eq 7, 3) := by decide +kernel
theorem dX2_squareTells_89 : decode cX2_squareTells 89 = .ok (.iconst 1, 1) := by decide +kernel
theorem dX2_squareTells_90 : decode cX2_squareTells 90 = .ok (.goto 4, 3) := by decide +kernel
theorem dX2_squareTells_93 : decode cX2_squareTells 93 = .ok (.iconst 0, 1) := by decide +kernel
theorem dX2_squareTells_94 : decode cX2_squareTells 94 = .ok (.ireturn, 1) := by decide +kernel
theorem dX2_squareTells_95 : decode cX2_squareTells 95 = .ok (.aload_n 0, 1) := by decide +kernel
theorem dX2_squareTells_96 : decode cX2_squareTells 96 = .ok (.iload_n 1, 1) := by decide +kernel
theorem dX2_squareTells_97 : decode cX2_squareTells 97 = .ok (.iconst 1, 1) := by decide +kernel
theorem dX2_squareTells_98 : decode cX2_squareTells 98 = .ok (.invokevirtual 47, 3) := by decide +kernel
theorem dX2_squareTells_101 : decode cX2_squareTells 101 = .ok (.ifCond .eq 7, 3) := by decide +kernel
theorem dX2_squareTells_104 : decode cX2_squareTells 104 = .ok (.iconst 1, 1) := by decide +kernel
theorem dX2_squareTells_105 : decode cX2_squareTells 105 = .ok (.goto 4, 3) := by decide +kernel
theorem dX2_squareTells_108 : decode cX2_squareTells 108 = .ok (.iconst 0, 1) := by decide +kernel
theorem dX2_squareTells_109 : decode cX2_squareTells 109 = .ok (.ireturn, 1) := by decide +kernel
set_option maxRecDepth 20000 in
theorem ggX2_sleep_X2_prickInAll : GoodIn wsX2_sleep wsX2_prickInAll := goodIn_r _ [5, 6, 7, 8, 9, 10, 11, 12, 13, 14, 15, 16, 17, 18, 19, 20, 21, 22, 50, 51, 52, 53, 54, 55, 56, 57, 58] (by decide +kernel) (by decide +kernel)
set_option maxRecDepth 20000 in
theorem gX2_sleep_X2_prickInAll : GoodIn wsX2_sleep (wsV RX2 86 RX2 yX2_prickInAll wsX2_prickInAll) := goodIn_app (goodIn_of _ (by decide +kernel)) ggX2_sleep_X2_prickInAll
set_option maxRecDepth 20000 in
theorem ggX2_sleep_X2_shiftInAll : GoodIn wsX2_sleep wsX2_shiftInAll := goodIn_r _ [26, 27, 28, 29, 30, 4, 31, 32, 33, 34, 35, 36, 37, 38, 39, 40, 41, 6, 42, 43, 44, 11, 45, 46, 47, 48, 49, 13, 14, 15, 16, 17, 18, 19, 20, 21, 22, 50, 51, 52, 53, 54, 55, 56, 57, 58] (by decide +kernel) (by decide +kernel)
set_option maxRecDepth 20000 in
theorem gX2_sleep_X2_shiftInAll : GoodIn wsX2_sleep (wsV RX2 89 RX2 yX2_shiftInAll wsX2_shiftInAll) := goodIn_app (goodIn_of _ (by decide +kernel)) ggX2_sleep_X2_shiftInAll
theorem dX2_sleep_0 : decode cX2_sleep 0 = .ok (.iconst 0, 1) := by decide +kernel
theorem dX2_sleep_1 : decode cX2_sleep 1 = .ok (.istore_n 2, 1) := by decide +kernel
theorem dX2_sleep_2 : decode cX2_sleep 2 = .ok (.iconst 0, 1) := by decide +kernel
theorem dX2_sleep_3 : decode cX2_sleep 3 = .ok (.istore_n 3, 1) := by decide +kernel
theorem dX2_sleep_4 : decode cX2_sleep 4 = .ok (.iload_n 3, 1) := by decide +kernel
theorem dX2_sleep_5 : decode cX2_sleep 5 = .ok (.iload_n 1, 1) := by decide +kernel
theorem dX2_sleep_6 : decode cX2_sleep 6 = .ok (.if_icmp .ge 38, 3) := by decide +kernel
theorem dX2_sleep_9 : decode cX2_sleep 9 = .ok (.aload_n 0, 1) := by decide +kernel
theorem dX2_sleep_10 : decode cX2_sleep 10 = .ok (.invokevirtual 86, 3) := by decide +kernel
theorem dX2_sleep_13 : decode cX2_sleep 13 = .ok (.istore 4, 2) := by decide +kernel
theorem dX2_sleep_15 : decode cX2_sleep 15 = .ok (.aload_n 0, 1) := by decide +kernel
theorem dX2_sleep_16 : decode cX2_sleep 16 = .ok (.invokevirtual 89, 3) := by decide +kernel
theorem dX2_sleep_19 : decode cX2_sleep 19 = .ok (.istore 5, 2) := by decide +kernel
theorem dX2_sleep_21 : decode cX2_sleep 21 = .ok (.iload_n 2, 1) := by decide +kernel
theorem dX2_sleep_22 : decode cX2_sleep 22 = .ok (.iload 4, 2) := by decide +kernel
theorem dX2_sleep_24 : decode cX2_sleep 24 = .ok (.iadd, 1) := by decide +kernel
theorem dX2_sleep_25 : decode cX2_sleep 25 = .ok (.istore_n 2, 1) := by decide +kernel
theorem dX2_sleep_26 : decode cX2_sleep 26 = .ok (.iload 4, 2) := by decide +kernel
theorem dX2_sleep_28 : decode cX2_sleep 28 = .ok (.ifCond .ne 10, 3) := by decide +kernel
theorem dX2_sleep_31 : decode cX2_sleep 31 = .ok (.iload 5, 2) := by decide +kernel
theorem dX2_sleep_33 : decode cX2_sleep 33 = .ok (.ifCond .ne 5, 3) := by decide +kernel
theorem dX2_sleep_36 : decode cX2_sleep 36 = .ok (.iload_n 2, 1) := by decide +kernel
theorem dX2_sleep_37 : decode cX2_sleep 37 = .ok (.ireturn, 1) := by decide +kernel
theorem dX2_sleep_38 : decode cX2_sleep 38 = .ok (.iinc 3 1, 3) := by decide +kernel
theorem dX2_sleep_41 : decode cX2_sleep 41 = .ok (.goto (-37), 3) := by decide +kernel
theorem dX2_sleep_44 : decode cX2_sleep 44 = .ok (.iload_n 2, 1) := by decide +kernel
theorem dX2_sleep_45 : decode cX2_sleep 45 = .ok (.ireturn, 1) := by decide +kernel
set_option maxRecDepth 20000 in
theorem ggX2_prickInAll_X0_prick : GoodIn wsX2_prickInAll wsX0_prick := goodIn_r _ [7, 8, 9, 10, 6, 11, 12, 13, 14, 15, 16, 17, 25, 26] (by decide +kernel) (by decide +kernel)
set_option maxRecDepth 20000 in
theorem gX2_prickInAll_X0_prick : GoodIn wsX2_prickInAll (wsV RX2 92 RX0 yX0_prick wsX0_prick) := goodIn_app (goodIn_of _ (by decide +kernel)) ggX2_prickInAll_X0_prick
theorem dX2_prickInAll_0 : decode cX2_prickInAll 0 = .ok (.iconst 0, 1) := by decide +kernel
theorem dX2_prickInAll_1 : decode cX2_prickInAll 1 = .ok (.istore_n 1, 1) := by decide +kernel
theorem dX2_prickInAll_2 : decode cX2_prickInAll 2 = .ok (.iconst 0, 1) := by decide +kernel
theorem dX2_prickInAll_3 : decode cX2_prickInAll 3 = .ok (.istore_n 2, 1) := by decide +kernel
theorem dX2_prickInAll_4 : decode cX2_prickInAll 4 = .ok (.iload_n 2, 1) := by decide +kernel
theorem dX2_prickInAll_5 : decode cX2_prickInAll 5 = .ok (.aload_n 0, 1) := by decide +kernel
theorem dX2_prickInAll_6 : decode cX2_prickInAll 6 = .ok (.getfield 26, 3) := by decide +kernel
theorem dX2_prickInAll_9 : decode cX2_prickInAll 9 = .ok (.arraylength, 1) := by decide +kernel
theorem dX2_prickInAll_10 : decode cX2_prickInAll 10 = .ok (.if_icmp .ge 25, 3) := by decide +kernel
theorem dX2_prickInAll_13 : decode cX2_prickInAll 13 = .ok (.iload_n 1, 1) := by decide +kernel
theorem dX2_prickInAll_14 : decode cX2_prickInAll 14 = .ok (.aload_n 0, 1) := by decide +kernel
theorem dX2_prickInAll_15 : decode cX2_prickInAll 15 = .ok (.getfield 26, 3) := by decide +kernel
theorem dX2_prickInAll_18 : decode cX2_prickInAll 18 = .ok (.iload_n 2, 1) := by decide +kernel
theorem dX2_prickInAll_19 : decode cX2_prickInAll 19 = .ok (.aaload, 1) := by decide +kernel
theorem dX2_prickInAll_20 : decode cX2_prickInAll 20 = .ok (.aload_n 0, 1) := by decide +kernel
theorem dX2_prickInAll_21 : decode cX2_prickInAll 21 = .ok (.getfield 18, 3) := by decide +kernel
theorem dX2_prickInAll_24 : decode cX2_prickInAll 24 = .ok (.invokevirtual 92, 3) := by decide +kernel
theorem dX2_prickInAll_27 : decode cX2_prickInAll 27 = .ok (.iadd, 1) := by decide +kernel
theorem dX2_prickInAll_28 : decode cX2_prickInAll 28 = .ok (.istore_n 1, 1) := by decide +kernel
theorem dX2_prickInAll_29 : decode cX2_prickInAll 29 = .ok (.iinc 2 1, 3) := by decide +kernel
theorem dX2_prickInAll_32 : decode cX2_prickInAll 32 = .ok (.goto (-28), 3) := by decide +kernel
theorem dX2_prickInAll_35 : decode cX2_prickInAll 35 = .ok (.iload_n 1, 1) := by decide +kernel
theorem dX2_prickInAll_36 : decode cX2_prickInAll 36 = .ok (.ireturn, 1) := by decide +kernel
set_option maxRecDepth 20000 in
theorem ggX2_shiftInAll_X2_isOpen : GoodIn wsX2_shiftInAll wsX2_isOpen := goodIn_r _ [6, 7, 8, 9, 10, 5, 11, 1, 12, 37, 38, 39, 40, 41, 42, 43] (by decide +kernel) (by decide +kernel)
set_option maxRecDepth 20000 in
theorem gX2_shiftInAll_X2_isOpen : GoodIn wsX2_shiftInAll (wsV RX2 47 RX2 yX2_isOpen wsX2_isOpen) := goodIn_app (goodIn_of _ (by decide +kernel)) ggX2_shiftInAll_X2_isOpen
set_option maxRecDepth 20000 in
theorem ggX2_shiftInAll_X2_otherOfPair : GoodIn wsX2_shiftInAll wsX2_otherOfPair := goodIn_r _ [11, 1, 12, 37, 38, 39, 40, 41, 42, 43] (by decide +kernel) (by decide +kernel)
set_option maxRecDepth 20000 in
theorem gX2_shiftInAll_X2_otherOfPair : GoodIn wsX2_shiftInAll (wsV RX2 43 RX2 yX2_otherOfPair wsX2_otherOfPair) := goodIn_app (goodIn_of _ (by decide +kernel)) ggX2_shiftInAll_X2_otherOfPair
set_option maxRecDepth 20000 in
theorem ggX2_shiftInAll_X2_shiftBetween : GoodIn wsX2_shiftInAll wsX2_shiftBetween := goodIn_r _ [16, 17, 18, 19, 20, 21, 22, 23, 24, 25, 26, 27, 28, 29, 30, 31, 32, 33, 34, 35, 36, 37, 38, 39, 40, 41, 42, 43, 44, 45] (by decide +kernel) (by decide +kernel)
set_option maxRecDepth 20000 in
theorem gX2_shiftInAll_X2_shiftBetween : GoodIn wsX2_shiftInAll (wsV RX2 95 RX2 yX2_shiftBetween wsX2_shiftBetween) := goodIn_app (goodIn_of _ (by decide +kernel)) ggX2_shiftInAll_X2_shiftBetween
theorem dX2_shiftInAll_0 : decode cX2_shiftInAll 0 = .ok (.iconst 0, 1) := by decide +kernel
theorem dX2_shiftInAll_1 : decode cX2_shiftInAll 1 = .ok (.istore_n 1, 1) := by decide +kernel
theorem dX2_shiftInAll_2 : decode cX2_shiftInAll 2 = .ok (.iconst 0, 1) := by decide +kernel
theorem dX2_shiftInAll_3 : decode cX2_shiftInAll 3 = .ok (.istore_n 2, 1) := by decide +kernel
theorem dX2_shiftInAll_4 : decode cX2_shiftInAll 4 = .ok (.iload_n 2, 1) := by decide +kernel
theorem dX2_shiftInAll_5 : decode cX2_shiftInAll 5 = .ok (.aload_n 0, 1) := by decide +kernel
theorem dX2_shiftInAll_6 : decode cX2_shiftInAll 6 = .ok (.getfield 21, 3) := by decide +kernel
theorem dX2_shiftInAll_9 : decode cX2_shiftInAll 9 = .ok (.if_icmp .ge 45, 3) := by decide +kernel
theorem dX2_shiftInAll_12 : decode cX2_shiftInAll 12 = .ok (.iconst 0, 1) := by decide +kernel
theorem dX2_shiftInAll_13 : decode cX2_shiftInAll 13 = .ok (.istore_n 3, 1) := by decide +kernel
theorem dX2_shiftInAll_14 : decode cX2_shiftInAll 14 = .ok (.iload_n 3, 1) := by decide +kernel
theorem dX2_shiftInAll_15 : decode cX2_shiftInAll 15 = .ok (.iconst 2, 1) := by decide +kernel
theorem dX2_shiftInAll_16 : decode cX2_shiftInAll 16 = .ok (.if_icmp .ge 32, 3) := by decide +kernel
theorem dX2_shiftInAll_19 : decode cX2_shiftInAll 19 = .ok (.aload_n 0, 1) := by decide +kernel
theorem dX2_shiftInAll_20 : decode cX2_shiftInAll 20 = .ok (.iload_n 2, 1) := by decide +kernel
theorem dX2_shiftInAll_21 : decode cX2_shiftInAll 21 = .ok (.iload_n 3, 1) := by decide +kernel
theorem dX2_shiftInAll_22 : decode cX2_shiftInAll 22 = .ok (.invokevirtual 47, 3) := by decide +kernel
theorem dX2_shiftInAll_25 : decode cX2_shiftInAll 25 = .ok (.ifCond .eq 17, 3) := by decide +kernel
theorem dX2_shiftInAll_28 : decode cX2_shiftInAll 28 = .ok (.iload_n 1, 1) := by decide +kernel
theorem dX2_shiftInAll_29 : decode cX2_shiftInAll 29 = .ok (.aload_n 0, 1) := by decide +kernel
theorem dX2_shiftInAll_30 : decode cX2_shiftInAll 30 = .ok (.iload_n 2, 1) := by decide +kernel
theorem dX2_shiftInAll_31 : decode cX2_shiftInAll 31 = .ok (.aload_n 0, 1) := by decide +kernel
theorem dX2_shiftInAll_32 : decode cX2_shiftInAll 32 = .ok (.iload_n 2, 1) := by decide +kernel
theorem dX2_shiftInAll_33 : decode cX2_shiftInAll 33 = .ok (.iload_n 3, 1) := by decide +kernel
theorem dX2_shiftInAll_34 : decode cX2_shiftInAll 34 = .ok (.invokevirtual 43, 3) := by decide +kernel
theorem dX2_shiftInAll_37 : decode cX2_shiftInAll 37 = .ok (.invokevirtual 95, 3) := by decide +kernel
theorem dX2_shiftInAll_40 : decode cX2_shiftInAll 40 = .ok (.iadd, 1) := by decide +kernel
theorem dX2_shiftInAll_41 : decode cX2_shiftInAll 41 = .ok (.istore_n 1, 1) := by decide +kernel
theorem dX2_shiftInAll_42 : decode cX2_shiftInAll 42 = .ok (.iinc 3 1, 3) := by decide +kernel
theorem dX2_shiftInAll_45 : decode cX2_shiftInAll 45 = .ok (.goto (-31), 3) := by decide +kernel
theorem dX2_shiftInAll_48 : decode cX2_shiftInAll 48 = .ok (.iinc 2 1, 3) := by decide +kernel
theorem dX2_shiftInAll_51 : decode cX2_shiftInAll 51 = .ok (.goto (-47), 3) := by decide +kernel
theorem dX2_shiftInAll_54 : decode cX2_shiftInAll 54 = .ok (.iload_n 1, 1) := by decide +kernel
theorem dX2_shiftInAll_55 : decode cX2_shiftInAll 55 = .ok (.ireturn, 1) := by decide +kernel
set_option maxRecDepth 20000 in
theorem ggX2_shiftBetween_X0_moveTo : GoodIn wsX2_shiftBetween wsX0_moveTo := goodIn_r _ [6, 7, 8, 9, 10, 11, 12, 13, 5, 14, 15, 16, 17, 18, 19, 20, 28, 29] (by decide +kernel) (by decide +kernel)
set_option maxRecDepth 20000 in
theorem gX2_shiftBetween_X0_moveTo : GoodIn wsX2_shiftBetween (wsV RX2 98 RX0 yX0_moveTo wsX0_moveTo) := goodIn_app (goodIn_of _ (by decide +kernel)) ggX2_shiftBetween_X0_moveTo
theorem dX2_shiftBetween_0 : decode cX2_shiftBetween 0 = .ok (.iload_n 1, 1) := by decide +kernel
theorem dX2_shiftBetween_1 : decode cX2_shiftBetween 1 = .ok (.ifCond .lt 25, 3) := by decide +kernel
theorem dX2_shiftBetween_4 : decode cX2_shiftBetween 4 = .ok (.iload_n 1, 1) := by decide +kernel
theorem dX2_shiftBetween_5 : decode cX2_shiftBetween 5 = .ok (.aload_n 0, 1) := by decide +kernel
theorem dX2_shiftBetween_6 : decode cX2_shiftBetween 6 = .ok (.getfield 26, 3) := by decide +kernel
theorem dX2_shiftBetween_9 : decode cX2_shiftBetween 9 = .ok (.arraylength, 1) := by decide +kernel
theorem dX2_shiftBetween_10 : decode cX2_shiftBetween 10 = .ok (.if_icmp .ge 16, 3) := by decide +kernel
theorem dX2_shiftBetween_13 : decode cX2_shiftBetween 13 = .ok (.iload_n 2, 1) := by decide +kernel
theorem dX2_shiftBetween_14 : decode cX2_shiftBetween 14 = .ok (.ifCond .lt 12, 3) := by decide +kernel
theorem dX2_shiftBetween_17 : decode cX2_shiftBetween 17 = .ok (.iload_n 2, 1) := by decide +kernel
theorem dX2_shiftBetween_18 : decode cX2_shiftBetween 18 = .ok (.aload_n 0, 1) := by decide +kernel
theorem dX2_shiftBetween_19 : decode cX2_shiftBetween 19 = .ok (.getfield 26, 3) := by decide +kernel
theorem dX2_shiftBetween_22 : decode cX2_shiftBetween 22 = .ok (.arraylength, 1) := by decide +kernel
theorem dX2_shiftBetween_23 : decode cX2_shiftBetween 23 = .ok (.if_icmp .lt 5, 3) := by decide +kernel
theorem dX2_shiftBetween_26 : decode cX2_shiftBetween 26 = .ok (.iconst 0, 1) := by decide +kernel
theorem dX2_shiftBetween_27 : decode cX2_shiftBetween 27 = .ok (.ireturn, 1) := by decide +kernel
theorem dX2_shiftBetween_28 : decode cX2_shiftBetween 28 = .ok (.aload_n 0, 1) := by decide +kernel
theorem dX2_shiftBetween_29 : decode cX2_shiftBetween 29 = .ok (.getfield 26, 3) := by decide +kernel
theorem dX2_shiftBetween_32 : decode cX2_shiftBetween 32 = .ok (.iload_n 1, 1) := by decide +kernel
theorem dX2_shiftBetween_33 : decode cX2_shiftBetween 33 = .ok (.aaload, 1) := by decide +kernel
theorem dX2_shiftBetween_34 : decode cX2_shiftBetween 34 = .ok (.getfield 54, 3) := by decide +kernel
theorem dX2_shiftBetween_37 : decode cX2_shiftBetween 37 = .ok (.aload_n 0, 1) := by decide +kernel
theorem dX2_shiftBetween_38 : decode cX2_shiftBetween 38 = .ok (.getfield 26, 3) := by decide +kernel
theorem dX2_shiftBetween_41 : decode cX2_shiftBetween 41 = .ok (.iload_n 2, 1) := by decide +kernel
theorem dX2_shiftBetween_42 : decode cX2_shiftBetween 42 = .ok (.aaload, 1) := by decide +kernel
theorem dX2_shiftBetween_43 : decode cX2_shiftBetween 43 = .ok (.getfield 54, 3) := by decide +kernel
theorem dX2_shiftBetween_46 : decode cX2_shiftBetween 46 = .ok (.isub, 1) := by decide +kernel
theorem dX2_shiftBetween_47 : decode cX2_shiftBetween 47 = .ok (.istore_n 3, 1) := by decide +kernel
theorem dX2_shiftBetween_48 : decode cX2_shiftBetween 48 = .ok (.iload_n 3, 1) := by decide +kernel
theorem dX2_shiftBetween_49 : decode cX2_shiftBetween 49 = .ok (.ifCond .le 26, 3) := by decide +kernel
theorem dX2_shiftBetween_52 : decode cX2_shiftBetween 52 = .ok (.aload_n 0, 1) := by decide +kernel
theorem dX2_shiftBetween_53 : decode cX2_shiftBetween 53 = .ok (.getfield 26, 3) := by decide +kernel
theorem dX2_shiftBetween_56 : decode cX2_shiftBetween 56 = .ok (.iload_n 1, 1) := by decide +kernel
theorem dX2_shiftBetween_57 : decode cX2_shiftBetween 57 = .ok (.aaload, 1) := by decide +kernel
theorem dX2_shiftBetween_58 : decode cX2_shiftBetween 58 = .ok (.aload_n 0, 1) := by decide +kernel
theorem dX2_shiftBetween_59 : decode cX2_shiftBetween 59 = .ok (.getfield 26, 3) := by decide +kernel
theorem dX2_shiftBetween_62 : decode cX2_shiftBetween 62 = .ok (.iload_n 2, 1) := by decide +kernel
theorem dX2_shiftBetween_63 : decode cX2_shiftBetween 63 = .ok (.aaload, 1) := by decide +kernel
theorem dX2_shiftBetween_64 : decode cX2_shiftBetween 64 = .ok (.iload_n 3, 1) := by decide +kernel
theorem dX2_shiftBetween_65 : decode cX2_shiftBetween 65 = .ok (.bipush 8, 2) := by decide +kernel
theorem dX2_shiftBetween_67 : decode cX2_shiftBetween 67 = .ok (.idiv, 1) := by decide +kernel
theorem dX2_shiftBetween_68 : decode cX2_shiftBetween 68 = .ok (.iconst 2, 1) := by decide +kernel
theorem dX2_shiftBetween_69 : decode cX2_shiftBetween 69 = .ok (.invokevirtual 98, 3) := by decide +kernel
theorem dX2_shiftBetween_72 : decode cX2_shiftBetween 72 = .ok (.goto 24, 3) := by decide +kernel
theorem dX2_shiftBetween_75 : decode cX2_shiftBetween 75 = .ok (.aload_n 0, 1) := by decide +kernel
theorem dX2_shiftBetween_76 : decode cX2_shiftBetween 76 = .ok (.getfield 26, 3) := by decide +kernel
theorem dX2_shiftBetween_79 : decode cX2_shiftBetween 79 = .ok (.iload_n 2, 1) := by decide +kernel
theorem dX2_shiftBetween_80 : decode cX2_shiftBetween 80 = .ok (.aaload, 1) := by decide +kernel
theorem dX2_shiftBetween_81 : decode cX2_shiftBetween 81 = .ok (.aload_n 0, 1) := by decide +kernel
theorem dX2_shiftBetween_82 : decode cX2_shiftBetween 82 = .ok (.getfield 26, 3) := by decide +kernel
theorem dX2_shiftBetween_85 : decode cX2_shiftBetween 85 = .ok (.iload_n 1, 1) := by decide +kernel
theorem dX2_shiftBetween_86 : decode cX2_shiftBetween 86 = .ok (.aaload, 1) := by decide +kernel
theorem dX2_shiftBetween_87 : decode cX2_shiftBetween 87 = .ok (.iload_n 3, 1) := by decide +kernel
theorem dX2_shiftBetween_88 : decode cX2_shiftBetween 88 = .ok (.ineg, 1) := by decide +kernel
theorem dX2_shiftBetween_89 : decode cX2_shiftBetween 89 = .ok (.bipush 8, 2) := by decide +kernel
theorem dX2_shiftBetween_91 : decode cX2_shiftBetween 91 = .ok (.idiv, 1) := by decide +kernel
theorem dX2_shiftBetween_92 : decode cX2_shiftBetween 92 = .ok (.iconst 2, 1) := by decide +kernel
theorem dX2_shiftBetween_93 : decode cX2_shiftBetween 93 = .ok (.invokevirtual 98, 3) := by decide +kernel
theorem dX2_shiftBetween_96 : decode cX2_shiftBetween 96 = .ok (.ireturn, 1) := by decide +kernel
end
section
set_option maxRecDepth 20000 in
theorem ggX3_init_Jx4a65c_init_da8c8 : GoodIn wsX3_init wsJx4a65c_init_da8c8 := goodIn_r _ [20, 21, 22, 23, 24, 25, 26, 27, 28, 29, 30, 31, 32, 2, 3, 53, 54, 55] (by decide +kernel) (by decide +kernel)
set_option maxRecDepth 20000 in
theorem gX3_init_Jx4a65c_init_da8c8 : GoodIn wsX3_init (wsJx4a65c_init_da8c8) := ggX3_init_Jx4a65c_init_da8c8
set_option maxRecDepth 20000 in
theorem ggX3_init_X0_init : GoodIn wsX3_init wsX0_init := goodIn_r _ [35, 36, 2, 3, 37, 38, 64, 65] (by decide +kernel) (by decide +kernel)
set_option maxRecDepth 20000 in
theorem gX3_init_X0_init : GoodIn wsX3_init (wsX0_init) := ggX3_init_X0_init
set_option maxRecDepth 20000 in
theorem ggX3_init_X2_init : GoodIn wsX3_init wsX2_init := goodIn_r _ [41, 42, 2, 3, 43, 44, 45, 46, 47, 48, 11, 12, 49, 50, 37, 51, 52, 34, 35, 36, 38, 66, 67, 68, 69, 70, 71, 72, 64, 65] (by decide +kernel) (by decide +kernel)
set_option maxRecDepth 20000 in
theorem gX3_init_X2_init : GoodIn wsX3_init (wsX2_init) := ggX3_init_X2_init
theorem dX3_init_0 : decode cX3_init 0 = .ok (.aload_n 0, 1) := by decide +kernel
theorem dX3_init_1 : decode cX3_init 1 = .ok (.invokespecial 3, 3) := by decide +kernel
theorem dX3_init_4 : decode cX3_init 4 = .ok (.aload_n 0, 1) := by decide +kernel
theorem dX3_init_5 : decode cX3_init 5 = .ok (.new 9, 3) := by decide +kernel
theorem dX3_init_8 : decode cX3_init 8 = .ok (.dup, 1) := by decide +kernel
theorem dX3_init_9 : decode cX3_init 9 = .ok (.invokespecial 11, 3) := by decide +kernel
theorem dX3_init_12 : decode cX3_init 12 = .ok (.putfield 12, 3) := by decide +kernel
theorem dX3_init_15 : decode cX3_init 15 = .ok (.aload_n 0, 1) := by decide +kernel
theorem dX3_init_16 : decode cX3_init 16 = .ok (.new 9, 3) := by decide +kernel
theorem dX3_init_19 : decode cX3_init 19 = .ok (.dup, 1) := by decide +kernel
theorem dX3_init_20 : decode cX3_init 20 = .ok (.invokespecial 11, 3) := by decide +kernel
theorem dX3_init_23 : decode cX3_init 23 = .ok (.putfield 16, 3) := by decide +kernel
theorem dX3_init_26 : decode cX3_init 26 = .ok (.aload_n 0, 1) := by decide +kernel
theorem dX3_init_27 : decode cX3_init 27 = .ok (.iconst 5, 1) := by decide +kernel
theorem dX3_init_28 : decode cX3_init 28 = .ok (.anewarray 19, 3) := by decide +kernel
theorem dX3_init_31 : decode cX3_init 31 = .ok (.putfield 21, 3) := by decide +kernel
theorem dX3_init_34 : decode cX3_init 34 = .ok (.iconst 0, 1) := by decide +kernel
theorem dX3_init_35 : decode cX3_init 35 = .ok (.istore_n 1, 1) := by decide +kernel
theorem dX3_init_36 : decode cX3_init 36 = .ok (.iload_n 1, 1) := by decide +kernel
theorem dX3_init_37 : decode cX3_init 37 = .ok (.aload_n 0, 1) := by decide +kernel
theorem dX3_init_38 : decode cX3_init 38 = .ok (.getfield 21, 3) := by decide +kernel
theorem dX3_init_41 : decode cX3_init 41 = .ok (.arraylength, 1) := by decide +kernel
theorem dX3_init_42 : decode cX3_init 42 = .ok (.if_icmp .ge 22, 3) := by decide +kernel
theorem dX3_init_45 : decode cX3_init 45 = .ok (.aload_n 0, 1) := by decide +kernel
theorem dX3_init_46 : decode cX3_init 46 = .ok (.getfield 21, 3) := by decide +kernel
theorem dX3_init_49 : decode cX3_init 49 = .ok (.iload_n 1, 1) := by decide +kernel
theorem dX3_init_50 : decode cX3_init 50 = .ok (.new 19, 3) := by decide +kernel
theorem dX3_init_53 : decode cX3_init 53 = .ok (.dup, 1) := by decide +kernel
theorem dX3_init_54 : decode cX3_init 54 = .ok (.invokespecial 25, 3) := by decide +kernel
theorem dX3_init_57 : decode cX3_init 57 = .ok (.aastore, 1) := by decide +kernel
theorem dX3_init_58 : decode cX3_init 58 = .ok (.iinc 1 1, 3) := by decide +kernel
theorem dX3_init_61 : decode cX3_init 61 = .ok (.goto (-25), 3) := by decide +kernel
theorem dX3_init_64 : decode cX3_init 64 = .ok (.aload_n 0, 1) := by decide +kernel
theorem dX3_init_65 : decode cX3_init 65 = .ok (.new 26, 3) := by decide +kernel
theorem dX3_init_68 : decode cX3_init 68 = .ok (.dup, 1) := by decide +kernel
theorem dX3_init_69 : decode cX3_init 69 = .ok (.iconst 1, 1) := by decide +kernel
theorem dX3_init_70 : decode cX3_init 70 = .ok (.iconst 1, 1) := by decide +kernel
theorem dX3_init_71 : decode cX3_init 71 = .ok (.iconst 1, 1) := by decide +kernel
theorem dX3_init_72 : decode cX3_init 72 = .ok (.invokespecial 28, 3) := by decide +kernel
theorem dX3_init_75 : decode cX3_init 75 = .ok (.putfield 31, 3) := by decide +kernel
theorem dX3_init_78 : decode cX3_init 78 = .ok (.aload_n 0, 1) := by decide +kernel
theorem dX3_init_79 : decode cX3_init 79 = .ok (.bipush 10, 2) := by decide +kernel
theorem dX3_init_81 : decode cX3_init 81 = .ok (.putfield 35, 3) := by decide +kernel
theorem dX3_init_84 : decode cX3_init 84 = .ok (.return_, 1) := by decide +kernel
set_option maxRecDepth 20000 in
theorem ggX3_addSack_X3_needRange : GoodIn wsX3_addSack wsX3_needRange := goodIn_ca (goodIn_r _ [10, 11, 12] (by decide +kernel) (by decide +kernel)) (goodIn_sub (fun _ h => List.mem_cons_of_mem _ (List.mem_append_right _ h)) (by decide +kernel))
set_option maxRecDepth 20000 in
theorem gX3_addSack_X3_needRange : GoodIn wsX3_addSack (va_wsS RX3 39 yX3_needRange wsX3_needRange) := goodIn_app (goodIn_of _ (by decide +kernel)) ggX3_addSack_X3_needRange
set_option maxRecDepth 20000 in
theorem ggX3_addSack_Jx4a65c_size_8abf5 : GoodIn wsX3_addSack wsJx4a65c_size_8abf5 := goodIn_r _ [17, 18, 100, 101, 102] (by decide +kernel) (by decide +kernel)
set_option maxRecDepth 20000 in
theorem gX3_addSack_Jx4a65c_size_8abf5 : GoodIn wsX3_addSack (wsV RX3 42 RJx4a65c yJx4a65c_size_8abf5 wsJx4a65c_size_8abf5) := goodIn_app (goodIn_of _ (by decide +kernel)) ggX3_addSack_Jx4a65c_size_8abf5
set_option maxRecDepth 20000 in
theorem ggX3_addSack_X1_init : GoodIn wsX3_addSack wsX1_init := goodIn_r _ [21, 22, 23, 24, 25, 26, 27, 28, 29, 30, 31, 32, 33, 34, 35, 103, 104, 98, 99] (by decide +kernel) (by decide +kernel)
set_option maxRecDepth 20000 in
theorem gX3_addSack_X1_init : GoodIn wsX3_addSack (wsX1_init) := ggX3_addSack_X1_init
set_option maxRecDepth 20000 in
theorem ggX3_addSack_Jx4a65c_add_9ea2d : GoodIn wsX3_addSack wsJx4a65c_add_9ea2d := goodIn_r _ [39, 40, 41, 42, 18, 43, 44, 45, 16, 46, 47, 48, 49, 50, 51, 52, 53, 54, 55, 56, 57, 58, 59, 60, 61, 62, 63, 64, 65, 66, 67, 68, 69, 70, 71, 72, 73, 74, 75, 76, 77, 78, 79, 80, 81, 82, 83, 84, 85, 86, 87, 88, 89, 100, 101, 102] (by decide +kernel) (by decide +kernel)
set_option maxRecDepth 20000 in
theorem gX3_addSack_Jx4a65c_add_9ea2d : GoodIn wsX3_addSack (wsV RX3 58 RJx4a65c yJx4a65c_add_9ea2d wsJx4a65c_add_9ea2d) := goodIn_app (goodIn_of _ (by decide +kernel)) ggX3_addSack_Jx4a65c_add_9ea2d
theorem dX3_addSack_0 : decode cX3_addSack 0 = .ok (.iload_n 1, 1) := by decide +kernel
theorem dX3_addSack_1 : decode cX3_addSack 1 = .ok (.iconst 0, 1) := by decide +kernel
theorem dX3_addSack_2 : decode cX3_addSack 2 = .ok (.bipush 9, 2) := by decide +kernel
theorem dX3_addSack_4 : decode cX3_addSack 4 = .ok (.invokestatic 39, 3) := by decide +kernel
theorem dX3_addSack_7 : decode cX3_addSack 7 = .ok (.aload_n 0, 1) := by decide +kernel
theorem dX3_addSack_8 : decode cX3_addSack 8 = .ok (.getfield 12, 3) := by decide +kernel
theorem dX3_addSack_11 : decode cX3_addSack 11 = .ok (.invokevirtual 42, 3) := by decide +kernel
theorem dX3_addSack_14 : decode cX3_addSack 14 = .ok (.bipush 12, 2) := by decide +kernel
theorem dX3_addSack_16 : decode cX3_addSack 16 = .ok (.if_icmp .lt 13, 3) := by decide +kernel
theorem dX3_addSack_19 : decode cX3_addSack 19 = .ok (.new 46, 3) := by decide +kernel
theorem dX3_addSack_22 : decode cX3_addSack 22 = .ok (.dup, 1) := by decide +kernel
theorem dX3_addSack_23 : decode cX3_addSack 23 = .ok (.ldc 48, 2) := by decide +kernel
theorem dX3_addSack_25 : decode cX3_addSack 25 = .ok (.invokespecial 50, 3) := by decide +kernel
theorem dX3_addSack_28 : decode cX3_addSack 28 = .ok (.athrow, 1) := by decide +kernel
theorem dX3_addSack_29 : decode cX3_addSack 29 = .ok (.aload_n 0, 1) := by decide +kernel
theorem dX3_addSack_30 : decode cX3_addSack 30 = .ok (.getfield 12, 3) := by decide +kernel
theorem dX3_addSack_33 : decode cX3_addSack 33 = .ok (.new 53, 3) := by decide +kernel
theorem dX3_addSack_36 : decode cX3_addSack 36 = .ok (.dup, 1) := by decide +kernel
theorem dX3_addSack_37 : decode cX3_addSack 37 = .ok (.iload_n 1, 1) := by decide +kernel
theorem dX3_addSack_38 : decode cX3_addSack 38 = .ok (.invokespecial 55, 3) := by decide +kernel
theorem dX3_addSack_41 : decode cX3_addSack 41 = .ok (.invokevirtual 58, 3) := by decide +kernel
theorem dX3_addSack_44 : decode cX3_addSack 44 = .ok (.pop, 1) := by decide +kernel
theorem dX3_addSack_45 : decode cX3_addSack 45 = .ok (.aload_n 0, 1) := by decide +kernel
theorem dX3_addSack_46 : decode cX3_addSack 46 = .ok (.getfield 12, 3) := by decide +kernel
theorem dX3_addSack_49 : decode cX3_addSack 49 = .ok (.invokevirtual 42, 3) := by decide +kernel
theorem dX3_addSack_52 : decode cX3_addSack 52 = .ok (.iconst 1, 1) := by decide +kernel
theorem dX3_addSack_53 : decode cX3_addSack 53 = .ok (.isub, 1) := by decide +kernel
theorem dX3_addSack_54 : decode cX3_addSack 54 = .ok (.ireturn, 1) := by decide +kernel
set_option maxRecDepth 20000 in
theorem ggX3_put_X3_needSack : GoodIn wsX3_put wsX3_needSack := goodIn_ca (goodIn_r _ [7, 8, 9, 10, 11, 12, 13, 14, 15, 16, 17, 18, 19, 20, 21, 22, 23, 24, 25, 26, 27, 28, 29, 30, 31, 32, 33, 34, 56, 57, 58, 59, 60, 61, 62, 63, 64, 65, 66] (by decide +kernel) (by decide +kernel)) (goodIn_sub (fun _ h => List.mem_cons_of_mem _ (List.mem_append_left _ (List.mem_append_right _ h))) (by decide +kernel))
set_option maxRecDepth 20000 in
theorem gX3_put_X3_needSack : GoodIn wsX3_put (wsV RX3 62 RX3 yX3_needSack wsX3_needSack) := goodIn_app (goodIn_of _ (by decide +kernel)) ggX3_put_X3_needSack
set_option maxRecDepth 20000 in
theorem ggX3_put_X3_needIndex : GoodIn wsX3_put wsX3_needIndex := goodIn_ca (goodIn_r _ [37, 8, 9] (by decide +kernel) (by decide +kernel)) (goodIn_sub (fun _ h => List.mem_cons_of_mem _ (List.mem_append_left _ (List.mem_append_right _ h))) (by decide +kernel))
set_option maxRecDepth 20000 in
theorem gX3_put_X3_needIndex : GoodIn wsX3_put (va_wsS RX3 70 yX3_needIndex wsX3_needIndex) := goodIn_app (goodIn_of _ (by decide +kernel)) ggX3_put_X3_needIndex
set_option maxRecDepth 20000 in
theorem ggX3_put_X3_needRange : GoodIn wsX3_put wsX3_needRange := goodIn_ca (goodIn_r _ [40, 41, 42] (by decide +kernel) (by decide +kernel)) (goodIn_sub (fun _ h => List.mem_cons_of_mem _ (List.mem_append_right _ h)) (by decide +kernel))
set_option maxRecDepth 20000 in
theorem gX3_put_X3_needRange : GoodIn wsX3_put (va_wsS RX3 39 yX3_needRange wsX3_needRange) := goodIn_app (goodIn_of _ (by decide +kernel)) ggX3_put_X3_needRange
set_option maxRecDepth 20000 in
theorem ggX3_put_X0_of : GoodIn wsX3_put wsX0_of := goodIn_r _ [47, 48, 67, 68] (by decide +kernel) (by decide +kernel)
set_option maxRecDepth 20000 in
theorem gX3_put_X0_of : GoodIn wsX3_put (wsV RX3 74 RX0 yX0_of wsX0_of) := goodIn_app (goodIn_of _ (by decide +kernel)) ggX3_put_X0_of
set_option maxRecDepth 20000 in
theorem ggX3_put_X0_change : GoodIn wsX3_put wsX0_change := goodIn_r _ [52, 48, 53, 67, 68] (by decide +kernel) (by decide +kernel)
set_option maxRecDepth 20000 in
theorem gX3_put_X0_change : GoodIn wsX3_put (wsV RX3 80 RX0 yX0_change wsX0_change) := goodIn_app (goodIn_of _ (by decide +kernel)) ggX3_put_X0_change
theorem dX3_put_0 : decode cX3_put 0 = .ok (.aload_n 0, 1) := by decide +kernel
theorem dX3_put_1 : decode cX3_put 1 = .ok (.iload_n 1, 1) := by decide +kernel
theorem dX3_put_2 : decode cX3_put 2 = .ok (.invokevirtual 62, 3) := by decide +kernel
theorem dX3_put_5 : decode cX3_put 5 = .ok (.getfield 66, 3) := by decide +kernel
theorem dX3_put_8 : decode cX3_put 8 = .ok (.astore 4, 2) := by decide +kernel
theorem dX3_put_10 : decode cX3_put 10 = .ok (.iload_n 2, 1) := by decide +kernel
theorem dX3_put_11 : decode cX3_put 11 = .ok (.bipush 6, 2) := by decide +kernel
theorem dX3_put_13 : decode cX3_put 13 = .ok (.invokestatic 70, 3) := by decide +kernel
theorem dX3_put_16 : decode cX3_put 16 = .ok (.iload_n 3, 1) := by decide +kernel
theorem dX3_put_17 : decode cX3_put 17 = .ok (.iconst 1, 1) := by decide +kernel
theorem dX3_put_18 : decode cX3_put 18 = .ok (.sipush 500, 3) := by decide +kernel
theorem dX3_put_21 : decode cX3_put 21 = .ok (.invokestatic 39, 3) := by decide +kernel
theorem dX3_put_24 : decode cX3_put 24 = .ok (.aload 4, 2) := by decide +kernel
theorem dX3_put_26 : decode cX3_put 26 = .ok (.iload_n 2, 1) := by decide +kernel
theorem dX3_put_27 : decode cX3_put 27 = .ok (.invokevirtual 74, 3) := by decide +kernel
theorem dX3_put_30 : decode cX3_put 30 = .ok (.iload_n 3, 1) := by decide +kernel
theorem dX3_put_31 : decode cX3_put 31 = .ok (.iadd, 1) := by decide +kernel
theorem dX3_put_32 : decode cX3_put 32 = .ok (.sipush 500, 3) := by decide +kernel
theorem dX3_put_35 : decode cX3_put 35 = .ok (.if_icmp .le 13, 3) := by decide +kernel
theorem dX3_put_38 : decode cX3_put 38 = .ok (.new 46, 3) := by decide +kernel
theorem dX3_put_41 : decode cX3_put 41 = .ok (.dup, 1) := by decide +kernel
theorem dX3_put_42 : decode cX3_put 42 = .ok (.ldc 78, 2) := by decide +kernel
theorem dX3_put_44 : decode cX3_put 44 = .ok (.invokespecial 50, 3) := by decide +kernel
theorem dX3_put_47 : decode cX3_put 47 = .ok (.athrow, 1) := by decide +kernel
theorem dX3_put_48 : decode cX3_put 48 = .ok (.aload 4, 2) := by decide +kernel
theorem dX3_put_50 : decode cX3_put 50 = .ok (.iload_n 2, 1) := by decide +kernel
theorem dX3_put_51 : decode cX3_put 51 = .ok (.iload_n 3, 1) := by decide +kernel
theorem dX3_put_52 : decode cX3_put 52 = .ok (.invokevirtual 80, 3) := by decide +kernel
theorem dX3_put_55 : decode cX3_put 55 = .ok (.aload 4, 2) := by decide +kernel
theorem dX3_put_57 : decode cX3_put 57 = .ok (.iload_n 2, 1) := by decide +kernel
theorem dX3_put_58 : decode cX3_put 58 = .ok (.invokevirtual 74, 3) := by decide +kernel
theorem dX3_put_61 : decode cX3_put 61 = .ok (.ireturn, 1) := by decide +kernel
set_option maxRecDepth 20000 in
theorem ggX3_dry_X3_needSack : GoodIn wsX3_dry wsX3_needSack := goodIn_ca (goodIn_r _ [9, 10, 11, 12, 13, 14, 15, 16, 17, 18, 19, 20, 21, 22, 23, 24, 25, 26, 27, 28, 29, 30, 31, 32, 33, 34, 35, 36, 44, 45, 46, 47, 48, 49, 50, 51, 52, 53, 54] (by decide +kernel) (by decide +kernel)) (goodIn_sub (fun _ h => List.mem_cons_of_mem _ (List.mem_append_left _ (List.mem_append_right _ h))) (by decide +kernel))
set_option maxRecDepth 20000 in
theorem gX3_dry_X3_needSack : GoodIn wsX3_dry (wsV RX3 62 RX3 yX3_needSack wsX3_needSack) := goodIn_app (goodIn_of _ (by decide +kernel)) ggX3_dry_X3_needSack
set_option maxRecDepth 20000 in
theorem ggX3_dry_X3_needRange : GoodIn wsX3_dry wsX3_needRange := goodIn_ca (goodIn_r _ [39, 40, 41] (by decide +kernel) (by decide +kernel)) (goodIn_sub (fun _ h => List.mem_cons_of_mem _ (List.mem_append_right _ h)) (by decide +kernel))
set_option maxRecDepth 20000 in
theorem gX3_dry_X3_needRange : GoodIn wsX3_dry (va_wsS RX3 39 yX3_needRange wsX3_needRange) := goodIn_app (goodIn_of _ (by decide +kernel)) ggX3_dry_X3_needRange
theorem dX3_dry_0 : decode cX3_dry 0 = .ok (.aload_n 0, 1) := by decide +kernel
theorem dX3_dry_1 : decode cX3_dry 1 = .ok (.iload_n 1, 1) := by decide +kernel
theorem dX3_dry_2 : decode cX3_dry 2 = .ok (.invokevirtual 62, 3) := by decide +kernel
theorem dX3_dry_5 : decode cX3_dry 5 = .ok (.astore_n 3, 1) := by decide +kernel
theorem dX3_dry_6 : decode cX3_dry 6 = .ok (.iload_n 2, 1) := by decide +kernel
theorem dX3_dry_7 : decode cX3_dry 7 = .ok (.iconst 1, 1) := by decide +kernel
theorem dX3_dry_8 : decode cX3_dry 8 = .ok (.bipush 9, 2) := by decide +kernel
theorem dX3_dry_10 : decode cX3_dry 10 = .ok (.invokestatic 39, 3) := by decide +kernel
theorem dX3_dry_13 : decode cX3_dry 13 = .ok (.aload_n 3, 1) := by decide +kernel
theorem dX3_dry_14 : decode cX3_dry 14 = .ok (.iconst 0, 1) := by decide +kernel
theorem dX3_dry_15 : decode cX3_dry 15 = .ok (.aload_n 3, 1) := by decide +kernel
theorem dX3_dry_16 : decode cX3_dry 16 = .ok (.getfield 83, 3) := by decide +kernel
theorem dX3_dry_19 : decode cX3_dry 19 = .ok (.iload_n 2, 1) := by decide +kernel
theorem dX3_dry_20 : decode cX3_dry 20 = .ok (.isub, 1) := by decide +kernel
theorem dX3_dry_21 : decode cX3_dry 21 = .ok (.invokestatic 86, 3) := by decide +kernel
theorem dX3_dry_24 : decode cX3_dry 24 = .ok (.putfield 83, 3) := by decide +kernel
theorem dX3_dry_27 : decode cX3_dry 27 = .ok (.aload_n 3, 1) := by decide +kernel
theorem dX3_dry_28 : decode cX3_dry 28 = .ok (.getfield 83, 3) := by decide +kernel
theorem dX3_dry_31 : decode cX3_dry 31 = .ok (.ireturn, 1) := by decide +kernel
set_option maxRecDepth 20000 in
theorem ggX3_sack_X3_needSack : GoodIn wsX3_sack wsX3_needSack := goodIn_ca (goodIn_r _ [5, 6, 7, 8, 9, 10, 11, 12, 13, 14, 15, 16, 17, 18, 19, 20, 21, 22, 23, 24, 25, 26, 27, 28, 29, 30, 31, 32, 49, 50, 51, 52, 53, 54, 55, 56, 57, 58, 59] (by decide +kernel) (by decide +kernel)) (goodIn_sub (fun _ h => List.mem_cons_of_mem _ (List.mem_append_right _ h)) (by decide +kernel))
set_option maxRecDepth 20000 in
theorem gX3_sack_X3_needSack : GoodIn wsX3_sack (wsV RX3 62 RX3 yX3_needSack wsX3_needSack) := goodIn_app (goodIn_of _ (by decide +kernel)) ggX3_sack_X3_needSack
set_option maxRecDepth 20000 in
theorem ggX3_sack_X3_needIndex : GoodIn wsX3_sack wsX3_needIndex := goodIn_ca (goodIn_r _ [35, 6, 7] (by decide +kernel) (by decide +kernel)) (goodIn_sub (fun _ h => List.mem_cons_of_mem _ (List.mem_append_right _ h)) (by decide +kernel))
set_option maxRecDepth 20000 in
theorem gX3_sack_X3_needIndex : GoodIn wsX3_sack (va_wsS RX3 70 yX3_needIndex wsX3_needIndex) := goodIn_app (goodIn_of _ (by decide +kernel)) ggX3_sack_X3_needIndex
set_option maxRecDepth 20000 in
theorem ggX3_sack_X1_tells : GoodIn wsX3_sack wsX1_tells := goodIn_r _ [40, 41, 42, 43, 44, 45, 46, 47, 48, 60, 61, 62, 63] (by decide +kernel) (by decide +kernel)
set_option maxRecDepth 20000 in
theorem gX3_sack_X1_tells : GoodIn wsX3_sack (wsV RX3 92 RX1 yX1_tells wsX1_tells) := goodIn_app (goodIn_of _ (by decide +kernel)) ggX3_sack_X1_tells
theorem dX3_sack_0 : decode cX3_sack 0 = .ok (.aload_n 0, 1) := by decide +kernel
theorem dX3_sack_1 : decode cX3_sack 1 = .ok (.iload_n 1, 1) := by decide +kernel
theorem dX3_sack_2 : decode cX3_sack 2 = .ok (.invokevirtual 62, 3) := by decide +kernel
theorem dX3_sack_5 : decode cX3_sack 5 = .ok (.astore_n 3, 1) := by decide +kernel
theorem dX3_sack_6 : decode cX3_sack 6 = .ok (.iload_n 2, 1) := by decide +kernel
theorem dX3_sack_7 : decode cX3_sack 7 = .ok (.bipush 8, 2) := by decide +kernel
theorem dX3_sack_9 : decode cX3_sack 9 = .ok (.invokestatic 70, 3) := by decide +kernel
theorem dX3_sack_12 : decode cX3_sack 12 = .ok (.aload_n 3, 1) := by decide +kernel
theorem dX3_sack_13 : decode cX3_sack 13 = .ok (.iload_n 2, 1) := by decide +kernel
theorem dX3_sack_14 : decode cX3_sack 14 = .ok (.invokevirtual 92, 3) := by decide +kernel
theorem dX3_sack_17 : decode cX3_sack 17 = .ok (.ireturn, 1) := by decide +kernel
set_option maxRecDepth 20000 in
theorem ggX3_setWind_X3_needRange : GoodIn wsX3_setWind wsX3_needRange := goodIn_ca (goodIn_r _ [5, 6, 7] (by decide +kernel) (by decide +kernel)) (goodIn_sub (fun _ h => List.mem_cons_of_mem _ (List.mem_append_right _ h)) (by decide +kernel))
set_option maxRecDepth 20000 in
theorem gX3_setWind_X3_needRange : GoodIn wsX3_setWind (va_wsS RX3 39 yX3_needRange wsX3_needRange) := goodIn_app (goodIn_of _ (by decide +kernel)) ggX3_setWind_X3_needRange
theorem dX3_setWind_0 : decode cX3_setWind 0 = .ok (.iload_n 1, 1) := by decide +kernel
theorem dX3_setWind_1 : decode cX3_setWind 1 = .ok (.iconst 1, 1) := by decide +kernel
theorem dX3_setWind_2 : decode cX3_setWind 2 = .ok (.bipush 20, 2) := by decide +kernel
theorem dX3_setWind_4 : decode cX3_setWind 4 = .ok (.invokestatic 39, 3) := by decide +kernel
theorem dX3_setWind_7 : decode cX3_setWind 7 = .ok (.aload_n 0, 1) := by decide +kernel
theorem dX3_setWind_8 : decode cX3_setWind 8 = .ok (.getfield 35, 3) := by decide +kernel
theorem dX3_setWind_11 : decode cX3_setWind 11 = .ok (.istore_n 2, 1) := by decide +kernel
theorem dX3_setWind_12 : decode cX3_setWind 12 = .ok (.aload_n 0, 1) := by decide +kernel
theorem dX3_setWind_13 : decode cX3_setWind 13 = .ok (.iload_n 1, 1) := by decide +kernel
theorem dX3_setWind_14 : decode cX3_setWind 14 = .ok (.putfield 35, 3) := by decide +kernel
theorem dX3_setWind_17 : decode cX3_setWind 17 = .ok (.iload_n 2, 1) := by decide +kernel
theorem dX3_setWind_18 : decode cX3_setWind 18 = .ok (.ireturn, 1) := by decide +kernel
set_option maxRecDepth 20000 in
theorem ggX3_blow_X3_needSack : GoodIn wsX3_blow wsX3_needSack := goodIn_ca (goodIn_r _ [8, 9, 10, 11, 12, 13, 14, 15, 16, 17, 18, 19, 20, 21, 22, 23, 24, 25, 26, 27, 28, 29, 30, 31, 32, 33, 34, 35, 63, 64, 65, 66, 67, 68, 69, 70, 73, 74, 75] (by decide +kernel) (by decide +kernel)) (goodIn_sub (fun _ h => List.mem_cons_of_mem _ (List.mem_append_right _ h)) (by decide +kernel))
set_option maxRecDepth 20000 in
theorem gX3_blow_X3_needSack : GoodIn wsX3_blow (wsV RX3 62 RX3 yX3_needSack wsX3_needSack) := goodIn_app (goodIn_of _ (by decide +kernel)) ggX3_blow_X3_needSack
set_option maxRecDepth 20000 in
theorem ggX3_blow_X1_brings : GoodIn wsX3_blow wsX1_brings := goodIn_r _ [40, 41, 42, 43, 44, 45, 46, 47, 48, 49, 50, 39, 51, 52, 53, 54, 55, 56, 71, 72, 76, 77] (by decide +kernel) (by decide +kernel)
set_option maxRecDepth 20000 in
theorem gX3_blow_X1_brings : GoodIn wsX3_blow (wsV RX3 95 RX1 yX1_brings wsX1_brings) := goodIn_app (goodIn_of _ (by decide +kernel)) ggX3_blow_X1_brings
set_option maxRecDepth 20000 in
theorem ggX3_blow_X0_change : GoodIn wsX3_blow wsX0_change := goodIn_r _ [60, 47, 61, 76, 77] (by decide +kernel) (by decide +kernel)
set_option maxRecDepth 20000 in
theorem gX3_blow_X0_change : GoodIn wsX3_blow (wsV RX3 80 RX0 yX0_change wsX0_change) := goodIn_app (goodIn_of _ (by decide +kernel)) ggX3_blow_X0_change
set_option maxRecDepth 20000 in
theorem ggX3_blow_X0_of : GoodIn wsX3_blow wsX0_of := goodIn_r _ [46, 47, 76, 77] (by decide +kernel) (by decide +kernel)
set_option maxRecDepth 20000 in
theorem gX3_blow_X0_of : GoodIn wsX3_blow (wsV RX3 74 RX0 yX0_of wsX0_of) := goodIn_app (goodIn_of _ (by decide +kernel)) ggX3_blow_X0_of
theorem dX3_blow_0 : decode cX3_blow 0 = .ok (.aload_n 0, 1) := by decide +kernel
theorem dX3_blow_1 : decode cX3_blow 1 = .ok (.iload_n 1, 1) := by decide +kernel
theorem dX3_blow_2 : decode cX3_blow 2 = .ok (.invokevirtual 62, 3) := by decide +kernel
theorem dX3_blow_5 : decode cX3_blow 5 = .ok (.astore_n 2, 1) := by decide +kernel
theorem dX3_blow_6 : decode cX3_blow 6 = .ok (.iconst 0, 1) := by decide +kernel
theorem dX3_blow_7 : decode cX3_blow 7 = .ok (.istore_n 3, 1) := by decide +kernel
theorem dX3_blow_8 : decode cX3_blow 8 = .ok (.iconst 0, 1) := by decide +kernel
theorem dX3_blow_9 : decode cX3_blow 9 = .ok (.istore 4, 2) := by decide +kernel
theorem dX3_blow_11 : decode cX3_blow 11 = .ok (.iload 4, 2) := by decide +kernel
theorem dX3_blow_13 : decode cX3_blow 13 = .ok (.bipush 6, 2) := by decide +kernel
theorem dX3_blow_15 : decode cX3_blow 15 = .ok (.if_icmp .ge 115, 3) := by decide +kernel
theorem dX3_blow_18 : decode cX3_blow 18 = .ok (.iconst 0, 1) := by decide +kernel
theorem dX3_blow_19 : decode cX3_blow 19 = .ok (.istore 5, 2) := by decide +kernel
theorem dX3_blow_21 : decode cX3_blow 21 = .ok (.iload 5, 2) := by decide +kernel
theorem dX3_blow_23 : decode cX3_blow 23 = .ok (.aload_n 0, 1) := by decide +kernel
theorem dX3_blow_24 : decode cX3_blow 24 = .ok (.getfield 21, 3) := by decide +kernel
theorem dX3_blow_27 : decode cX3_blow 27 = .ok (.arraylength, 1) := by decide +kernel
theorem dX3_blow_28 : decode cX3_blow 28 = .ok (.if_icmp .ge 42, 3) := by decide +kernel
theorem dX3_blow_31 : decode cX3_blow 31 = .ok (.aload_n 2, 1) := by decide +kernel
theorem dX3_blow_32 : decode cX3_blow 32 = .ok (.iload 4, 2) := by decide +kernel
theorem dX3_blow_34 : decode cX3_blow 34 = .ok (.aload_n 0, 1) := by decide +kernel
theorem dX3_blow_35 : decode cX3_blow 35 = .ok (.getfield 35, 3) := by decide +kernel
theorem dX3_blow_38 : decode cX3_blow 38 = .ok (.iload 5, 2) := by decide +kernel
theorem dX3_blow_40 : decode cX3_blow 40 = .ok (.invokevirtual 95, 3) := by decide +kernel
theorem dX3_blow_43 : decode cX3_blow 43 = .ok (.istore 6, 2) := by decide +kernel
theorem dX3_blow_45 : decode cX3_blow 45 = .ok (.aload_n 0, 1) := by decide +kernel
theorem dX3_blow_46 : decode cX3_blow 46 = .ok (.getfield 21, 3) := by decide +kernel
theorem dX3_blow_49 : decode cX3_blow 49 = .ok (.iload 5, 2) := by decide +kernel
theorem dX3_blow_51 : decode cX3_blow 51 = .ok (.aaload, 1) := by decide +kernel
theorem dX3_blow_52 : decode cX3_blow 52 = .ok (.iload 4, 2) := by decide +kernel
theorem dX3_blow_54 : decode cX3_blow 54 = .ok (.iload 6, 2) := by decide +kernel
theorem dX3_blow_56 : decode cX3_blow 56 = .ok (.invokevirtual 80, 3) := by decide +kernel
theorem dX3_blow_59 : decode cX3_blow 59 = .ok (.iload_n 3, 1) := by decide +kernel
theorem dX3_blow_60 : decode cX3_blow 60 = .ok (.iload 6, 2) := by decide +kernel
theorem dX3_blow_62 : decode cX3_blow 62 = .ok (.iadd, 1) := by decide +kernel
theorem dX3_blow_63 : decode cX3_blow 63 = .ok (.istore_n 3, 1) := by decide +kernel
theorem dX3_blow_64 : decode cX3_blow 64 = .ok (.iinc 5 1, 3) := by decide +kernel
theorem dX3_blow_67 : decode cX3_blow 67 = .ok (.goto (-46), 3) := by decide +kernel
theorem dX3_blow_70 : decode cX3_blow 70 = .ok (.aload_n 0, 1) := by decide +kernel
theorem dX3_blow_71 : decode cX3_blow 71 = .ok (.dup, 1) := by decide +kernel
theorem dX3_blow_72 : decode cX3_blow 72 = .ok (.getfield 99, 3) := by decide +kernel
theorem dX3_blow_75 : decode cX3_blow 75 = .ok (.aload_n 2, 1) := by decide +kernel
theorem dX3_blow_76 : decode cX3_blow 76 = .ok (.iload 4, 2) := by decide +kernel
theorem dX3_blow_78 : decode cX3_blow 78 = .ok (.aload_n 0, 1) := by decide +kernel
theorem dX3_blow_79 : decode cX3_blow 79 = .ok (.getfield 35, 3) := by decide +kernel
theorem dX3_blow_82 : decode cX3_blow 82 = .ok (.iconst 5, 1) := by decide +kernel
theorem dX3_blow_83 : decode cX3_blow 83 = .ok (.invokevirtual 95, 3) := by decide +kernel
theorem dX3_blow_86 : decode cX3_blow 86 = .ok (.iadd, 1) := by decide +kernel
theorem dX3_blow_87 : decode cX3_blow 87 = .ok (.putfield 99, 3) := by decide +kernel
theorem dX3_blow_90 : decode cX3_blow 90 = .ok (.aload_n 2, 1) := by decide +kernel
theorem dX3_blow_91 : decode cX3_blow 91 = .ok (.iload 4, 2) := by decide +kernel
theorem dX3_blow_93 : decode cX3_blow 93 = .ok (.aload_n 0, 1) := by decide +kernel
theorem dX3_blow_94 : decode cX3_blow 94 = .ok (.getfield 35, 3) := by decide +kernel
theorem dX3_blow_97 : decode cX3_blow 97 = .ok (.iconst (-1), 1) := by decide +kernel
theorem dX3_blow_98 : decode cX3_blow 98 = .ok (.invokevirtual 95, 3) := by decide +kernel
theorem dX3_blow_101 : decode cX3_blow 101 = .ok (.istore 5, 2) := by decide +kernel
theorem dX3_blow_103 : decode cX3_blow 103 = .ok (.aload_n 2, 1) := by decide +kernel
theorem dX3_blow_104 : decode cX3_blow 104 = .ok (.getfield 66, 3) := by decide +kernel
theorem dX3_blow_107 : decode cX3_blow 107 = .ok (.iload 4, 2) := by decide +kernel
theorem dX3_blow_109 : decode cX3_blow 109 = .ok (.iload 5, 2) := by decide +kernel
theorem dX3_blow_111 : decode cX3_blow 111 = .ok (.aload_n 2, 1) := by decide +kernel
theorem dX3_blow_112 : decode cX3_blow 112 = .ok (.getfield 66, 3) := by decide +kernel
theorem dX3_blow_115 : decode cX3_blow 115 = .ok (.iload 4, 2) := by decide +kernel
theorem dX3_blow_117 : decode cX3_blow 117 = .ok (.invokevirtual 74, 3) := by decide +kernel
theorem dX3_blow_120 : decode cX3_blow 120 = .ok (.isub, 1) := by decide +kernel
theorem dX3_blow_121 : decode cX3_blow 121 = .ok (.invokevirtual 80, 3) := by decide +kernel
theorem dX3_blow_124 : decode cX3_blow 124 = .ok (.iinc 4 1, 3) := by decide +kernel
theorem dX3_blow_127 : decode cX3_blow 127 = .ok (.goto (-116), 3) := by decide +kernel
theorem dX3_blow_130 : decode cX3_blow 130 = .ok (.iload_n 3, 1) := by decide +kernel
theorem dX3_blow_131 : decode cX3_blow 131 = .ok (.ireturn, 1) := by decide +kernel
set_option maxRecDepth 20000 in
theorem ggX3_sweep_X3_needChamber : GoodIn wsX3_sweep wsX3_needChamber := goodIn_ca (goodIn_r _ [9, 10, 11, 12, 55, 56, 57, 58, 59, 60, 61, 62] (by decide +kernel) (by decide +kernel)) (goodIn_sub (fun _ h => List.mem_cons_of_mem _ (List.mem_append_right _ h)) (by decide +kernel))
set_option maxRecDepth 20000 in
theorem gX3_sweep_X3_needChamber : GoodIn wsX3_sweep (wsV RX3 102 RX3 yX3_needChamber wsX3_needChamber) := goodIn_app (goodIn_of _ (by decide +kernel)) ggX3_sweep_X3_needChamber
set_option maxRecDepth 20000 in
theorem ggX3_sweep_X3_needSack : GoodIn wsX3_sweep wsX3_needSack := goodIn_ca (goodIn_r _ [16, 10, 11, 17, 18, 19, 20, 21, 22, 23, 24, 25, 26, 27, 28, 29, 30, 31, 32, 33, 34, 35, 36, 37, 38, 39, 40, 41, 55, 56, 57, 58, 59, 60, 61, 62, 63, 64, 65] (by decide +kernel) (by decide +kernel)) (goodIn_sub (fun _ h => List.mem_cons_of_mem _ (List.mem_append_right _ h)) (by decide +kernel))
set_option maxRecDepth 20000 in
theorem gX3_sweep_X3_needSack : GoodIn wsX3_sweep (wsV RX3 62 RX3 yX3_needSack wsX3_needSack) := goodIn_app (goodIn_of _ (by decide +kernel)) ggX3_sweep_X3_needSack
set_option maxRecDepth 20000 in
theorem ggX3_sweep_X0_of : GoodIn wsX3_sweep wsX0_of := goodIn_r _ [46, 47, 66, 67] (by decide +kernel) (by decide +kernel)
set_option maxRecDepth 20000 in
theorem gX3_sweep_X0_of : GoodIn wsX3_sweep (wsV RX3 74 RX0 yX0_of wsX0_of) := goodIn_app (goodIn_of _ (by decide +kernel)) ggX3_sweep_X0_of
set_option maxRecDepth 20000 in
theorem ggX3_sweep_X0_change : GoodIn wsX3_sweep wsX0_change := goodIn_r _ [51, 47, 52, 66, 67] (by decide +kernel) (by decide +kernel)
set_option maxRecDepth 20000 in
theorem gX3_sweep_X0_change : GoodIn wsX3_sweep (wsV RX3 80 RX0 yX0_change wsX0_change) := goodIn_app (goodIn_of _ (by decide +kernel)) ggX3_sweep_X0_change
theorem dX3_sweep_0 : decode cX3_sweep 0 = .ok (.aload_n 0, 1) := by decide +kernel
theorem dX3_sweep_1 : decode cX3_sweep 1 = .ok (.iload_n 1, 1) := by decide +kernel
theorem dX3_sweep_2 : decode cX3_sweep 2 = .ok (.invokevirtual 102, 3) := by decide +kernel
theorem dX3_sweep_5 : decode cX3_sweep 5 = .ok (.astore_n 3, 1) := by decide +kernel
theorem dX3_sweep_6 : decode cX3_sweep 6 = .ok (.aload_n 0, 1) := by decide +kernel
theorem dX3_sweep_7 : decode cX3_sweep 7 = .ok (.iload_n 2, 1) := by decide +kernel
theorem dX3_sweep_8 : decode cX3_sweep 8 = .ok (.invokevirtual 62, 3) := by decide +kernel
theorem dX3_sweep_11 : decode cX3_sweep 11 = .ok (.getfield 66, 3) := by decide +kernel
theorem dX3_sweep_14 : decode cX3_sweep 14 = .ok (.astore 4, 2) := by decide +kernel
theorem dX3_sweep_16 : decode cX3_sweep 16 = .ok (.iconst 0, 1) := by decide +kernel
theorem dX3_sweep_17 : decode cX3_sweep 17 = .ok (.istore 5, 2) := by decide +kernel
theorem dX3_sweep_19 : decode cX3_sweep 19 = .ok (.iconst 0, 1) := by decide +kernel
theorem dX3_sweep_20 : decode cX3_sweep 20 = .ok (.istore 6, 2) := by decide +kernel
theorem dX3_sweep_22 : decode cX3_sweep 22 = .ok (.iload 6, 2) := by decide +kernel
theorem dX3_sweep_24 : decode cX3_sweep 24 = .ok (.bipush 6, 2) := by decide +kernel
theorem dX3_sweep_26 : decode cX3_sweep 26 = .ok (.if_icmp .ge 56, 3) := by decide +kernel
theorem dX3_sweep_29 : decode cX3_sweep 29 = .ok (.aload_n 3, 1) := by decide +kernel
theorem dX3_sweep_30 : decode cX3_sweep 30 = .ok (.iload 6, 2) := by decide +kernel
theorem dX3_sweep_32 : decode cX3_sweep 32 = .ok (.invokevirtual 74, 3) := by decide +kernel
theorem dX3_sweep_35 : decode cX3_sweep 35 = .ok (.sipush 500, 3) := by decide +kernel
theorem dX3_sweep_38 : decode cX3_sweep 38 = .ok (.aload 4, 2) := by decide +kernel
theorem dX3_sweep_40 : decode cX3_sweep 40 = .ok (.iload 6, 2) := by decide +kernel
theorem dX3_sweep_42 : decode cX3_sweep 42 = .ok (.invokevirtual 74, 3) := by decide +kernel
theorem dX3_sweep_45 : decode cX3_sweep 45 = .ok (.isub, 1) := by decide +kernel
theorem dX3_sweep_46 : decode cX3_sweep 46 = .ok (.invokestatic 106, 3) := by decide +kernel
theorem dX3_sweep_49 : decode cX3_sweep 49 = .ok (.istore 7, 2) := by decide +kernel
theorem dX3_sweep_51 : decode cX3_sweep 51 = .ok (.aload_n 3, 1) := by decide +kernel
theorem dX3_sweep_52 : decode cX3_sweep 52 = .ok (.iload 6, 2) := by decide +kernel
theorem dX3_sweep_54 : decode cX3_sweep 54 = .ok (.iload 7, 2) := by decide +kernel
theorem dX3_sweep_56 : decode cX3_sweep 56 = .ok (.ineg, 1) := by decide +kernel
theorem dX3_sweep_57 : decode cX3_sweep 57 = .ok (.invokevirtual 80, 3) := by decide +kernel
theorem dX3_sweep_60 : decode cX3_sweep 60 = .ok (.aload 4, 2) := by decide +kernel
theorem dX3_sweep_62 : decode cX3_sweep 62 = .ok (.iload 6, 2) := by decide +kernel
theorem dX3_sweep_64 : decode cX3_sweep 64 = .ok (.iload 7, 2) := by decide +kernel
theorem dX3_sweep_66 : decode cX3_sweep 66 = .ok (.invokevirtual 80, 3) := by decide +kernel
theorem dX3_sweep_69 : decode cX3_sweep 69 = .ok (.iload 5, 2) := by decide +kernel
theorem dX3_sweep_71 : decode cX3_sweep 71 = .ok (.iload 7, 2) := by decide +kernel
theorem dX3_sweep_73 : decode cX3_sweep 73 = .ok (.iadd, 1) := by decide +kernel
theorem dX3_sweep_74 : decode cX3_sweep 74 = .ok (.istore 5, 2) := by decide +kernel
theorem dX3_sweep_76 : decode cX3_sweep 76 = .ok (.iinc 6 1, 3) := by decide +kernel
theorem dX3_sweep_79 : decode cX3_sweep 79 = .ok (.goto (-57), 3) := by decide +kernel
theorem dX3_sweep_82 : decode cX3_sweep 82 = .ok (.iload 5, 2) := by decide +kernel
theorem dX3_sweep_84 : decode cX3_sweep 84 = .ok (.ireturn, 1) := by decide +kernel
set_option maxRecDepth 20000 in
theorem ggX3_addTick_X3_needRange : GoodIn wsX3_addTick wsX3_needRange := goodIn_ca (goodIn_r _ [10, 11, 12] (by decide +kernel) (by decide +kernel)) (goodIn_sub (fun _ h => List.mem_cons_of_mem _ (List.mem_append_right _ h)) (by decide +kernel))
set_option maxRecDepth 20000 in
theorem gX3_addTick_X3_needRange : GoodIn wsX3_addTick (va_wsS RX3 39 yX3_needRange wsX3_needRange) := goodIn_app (goodIn_of _ (by decide +kernel)) ggX3_addTick_X3_needRange
set_option maxRecDepth 20000 in
theorem ggX3_addTick_Jx4a65c_size_8abf5 : GoodIn wsX3_addTick wsJx4a65c_size_8abf5 := goodIn_r _ [17, 18, 111, 112, 113] (by decide +kernel) (by decide +kernel)
set_option maxRecDepth 20000 in
theorem gX3_addTick_Jx4a65c_size_8abf5 : GoodIn wsX3_addTick (wsV RX3 42 RJx4a65c yJx4a65c_size_8abf5 wsJx4a65c_size_8abf5) := goodIn_app (goodIn_of _ (by decide +kernel)) ggX3_addTick_Jx4a65c_size_8abf5
set_option maxRecDepth 20000 in
theorem ggX3_addTick_X2_init : GoodIn wsX3_addTick wsX2_init := goodIn_r _ [21, 22, 23, 24, 25, 26, 27, 28, 29, 30, 31, 32, 33, 34, 35, 36, 37, 38, 39, 40, 41, 104, 105, 106, 107, 108, 109, 110, 114, 115] (by decide +kernel) (by decide +kernel)
set_option maxRecDepth 20000 in
theorem gX3_addTick_X2_init : GoodIn wsX3_addTick (wsX2_init) := ggX3_addTick_X2_init
set_option maxRecDepth 20000 in
theorem ggX3_addTick_Jx4a65c_add_9ea2d : GoodIn wsX3_addTick wsJx4a65c_add_9ea2d := goodIn_r _ [45, 46, 47, 48, 18, 49, 50, 51, 16, 52, 53, 54, 55, 56, 57, 58, 59, 60, 61, 62, 63, 64, 65, 66, 67, 68, 69, 70, 71, 72, 73, 74, 75, 76, 77, 78, 79, 80, 81, 82, 83, 84, 85, 86, 87, 88, 89, 90, 91, 92, 93, 94, 95, 111, 112, 113] (by decide +kernel) (by decide +kernel)
set_option maxRecDepth 20000 in
theorem gX3_addTick_Jx4a65c_add_9ea2d : GoodIn wsX3_addTick (wsV RX3 58 RJx4a65c yJx4a65c_add_9ea2d wsJx4a65c_add_9ea2d) := goodIn_app (goodIn_of _ (by decide +kernel)) ggX3_addTick_Jx4a65c_add_9ea2d
theorem dX3_addTick_0 : decode cX3_addTick 0 = .ok (.iload_n 1, 1) := by decide +kernel
theorem dX3_addTick_1 : decode cX3_addTick 1 = .ok (.iconst 1, 1) := by decide +kernel
theorem dX3_addTick_2 : decode cX3_addTick 2 = .ok (.bipush 6, 2) := by decide +kernel
theorem dX3_addTick_4 : decode cX3_addTick 4 = .ok (.invokestatic 39, 3) := by decide +kernel
theorem dX3_addTick_7 : decode cX3_addTick 7 = .ok (.iload_n 2, 1) := by decide +kernel
theorem dX3_addTick_8 : decode cX3_addTick 8 = .ok (.iconst 1, 1) := by decide +kernel
theorem dX3_addTick_9 : decode cX3_addTick 9 = .ok (.bipush 6, 2) := by decide +kernel
theorem dX3_addTick_11 : decode cX3_addTick 11 = .ok (.invokestatic 39, 3) := by decide +kernel
theorem dX3_addTick_14 : decode cX3_addTick 14 = .ok (.iload_n 3, 1) := by decide +kernel
theorem dX3_addTick_15 : decode cX3_addTick 15 = .ok (.iconst 1, 1) := by decide +kernel
theorem dX3_addTick_16 : decode cX3_addTick 16 = .ok (.bipush 9, 2) := by decide +kernel
theorem dX3_addTick_18 : decode cX3_addTick 18 = .ok (.invokestatic 39, 3) := by decide +kernel
theorem dX3_addTick_21 : decode cX3_addTick 21 = .ok (.aload_n 0, 1) := by decide +kernel
theorem dX3_addTick_22 : decode cX3_addTick 22 = .ok (.getfield 16, 3) := by decide +kernel
theorem dX3_addTick_25 : decode cX3_addTick 25 = .ok (.invokevirtual 42, 3) := by decide +kernel
theorem dX3_addTick_28 : decode cX3_addTick 28 = .ok (.bipush 6, 2) := by decide +kernel
theorem dX3_addTick_30 : decode cX3_addTick 30 = .ok (.if_icmp .lt 13, 3) := by decide +kernel
theorem dX3_addTick_33 : decode cX3_addTick 33 = .ok (.new 46, 3) := by decide +kernel
theorem dX3_addTick_36 : decode cX3_addTick 36 = .ok (.dup, 1) := by decide +kernel
theorem dX3_addTick_37 : decode cX3_addTick 37 = .ok (.ldc 116, 2) := by decide +kernel
theorem dX3_addTick_39 : decode cX3_addTick 39 = .ok (.invokespecial 50, 3) := by decide +kernel
theorem dX3_addTick_42 : decode cX3_addTick 42 = .ok (.athrow, 1) := by decide +kernel
theorem dX3_addTick_43 : decode cX3_addTick 43 = .ok (.aload_n 0, 1) := by decide +kernel
theorem dX3_addTick_44 : decode cX3_addTick 44 = .ok (.getfield 16, 3) := by decide +kernel
theorem dX3_addTick_47 : decode cX3_addTick 47 = .ok (.new 26, 3) := by decide +kernel
theorem dX3_addTick_50 : decode cX3_addTick 50 = .ok (.dup, 1) := by decide +kernel
theorem dX3_addTick_51 : decode cX3_addTick 51 = .ok (.iload_n 1, 1) := by decide +kernel
theorem dX3_addTick_52 : decode cX3_addTick 52 = .ok (.iload_n 2, 1) := by decide +kernel
theorem dX3_addTick_53 : decode cX3_addTick 53 = .ok (.iload_n 3, 1) := by decide +kernel
theorem dX3_addTick_54 : decode cX3_addTick 54 = .ok (.invokespecial 28, 3) := by decide +kernel
theorem dX3_addTick_57 : decode cX3_addTick 57 = .ok (.invokevirtual 58, 3) := by decide +kernel
theorem dX3_addTick_60 : decode cX3_addTick 60 = .ok (.pop, 1) := by decide +kernel
theorem dX3_addTick_61 : decode cX3_addTick 61 = .ok (.aload_n 0, 1) := by decide +kernel
theorem dX3_addTick_62 : decode cX3_addTick 62 = .ok (.getfield 16, 3) := by decide +kernel
theorem dX3_addTick_65 : decode cX3_addTick 65 = .ok (.invokevirtual 42, 3) := by decide +kernel
theorem dX3_addTick_68 : decode cX3_addTick 68 = .ok (.iconst 1, 1) := by decide +kernel
theorem dX3_addTick_69 : decode cX3_addTick 69 = .ok (.isub, 1) := by decide +kernel
theorem dX3_addTick_70 : decode cX3_addTick 70 = .ok (.ireturn, 1) := by decide +kernel
set_option maxRecDepth 20000 in
theorem ggX3_sew_X3_needTick : GoodIn wsX3_sew wsX3_needTick := goodIn_ca (goodIn_r _ [7, 8, 9, 10, 11, 12, 13, 14, 15, 16, 17, 18, 19, 20, 21, 22, 23, 24, 25, 26, 27, 28, 29, 30, 31, 32, 33, 34, 66, 67, 68, 69, 70, 71, 72, 73, 74, 75, 76] (by decide +kernel) (by decide +kernel)) (goodIn_sub (fun _ h => List.mem_cons_of_mem _ (List.mem_append_right _ h)) (by decide +kernel))
set_option maxRecDepth 20000 in
theorem gX3_sew_X3_needTick : GoodIn wsX3_sew (wsV RX3 118 RX3 yX3_needTick wsX3_needTick) := goodIn_app (goodIn_of _ (by decide +kernel)) ggX3_sew_X3_needTick
set_option maxRecDepth 20000 in
theorem ggX3_sew_X3_needIndex : GoodIn wsX3_sew wsX3_needIndex := goodIn_ca (goodIn_r _ [37, 8, 9] (by decide +kernel) (by decide +kernel)) (goodIn_sub (fun _ h => List.mem_cons_of_mem _ (List.mem_append_right _ h)) (by decide +kernel))
set_option maxRecDepth 20000 in
theorem gX3_sew_X3_needIndex : GoodIn wsX3_sew (va_wsS RX3 70 yX3_needIndex wsX3_needIndex) := goodIn_app (goodIn_of _ (by decide +kernel)) ggX3_sew_X3_needIndex
set_option maxRecDepth 20000 in
theorem ggX3_sew_X2_otherOfPair : GoodIn wsX3_sew wsX2_otherOfPair := goodIn_r _ [42, 43, 44, 59, 60, 61, 62, 63, 64, 65] (by decide +kernel) (by decide +kernel)
set_option maxRecDepth 20000 in
theorem gX3_sew_X2_otherOfPair : GoodIn wsX3_sew (wsV RX3 125 RX2 yX2_otherOfPair wsX2_otherOfPair) := goodIn_app (goodIn_of _ (by decide +kernel)) ggX3_sew_X2_otherOfPair
set_option maxRecDepth 20000 in
theorem ggX3_sew_X2_setSeam : GoodIn wsX3_sew wsX2_setSeam := goodIn_r _ [48, 49, 59, 60, 61, 62, 63, 64, 65] (by decide +kernel) (by decide +kernel)
set_option maxRecDepth 20000 in
theorem gX3_sew_X2_setSeam : GoodIn wsX3_sew (wsV RX3 133 RX2 yX2_setSeam wsX2_setSeam) := goodIn_app (goodIn_of _ (by decide +kernel)) ggX3_sew_X2_setSeam
set_option maxRecDepth 20000 in
theorem ggX3_sew_X2_openPairs : GoodIn wsX3_sew wsX2_openPairs := goodIn_r _ [53, 43, 54, 55, 56, 41, 57, 49, 58, 39, 40, 42, 44, 59, 60, 61, 62, 63, 64, 65] (by decide +kernel) (by decide +kernel)
set_option maxRecDepth 20000 in
theorem gX3_sew_X2_openPairs : GoodIn wsX3_sew (wsV RX3 137 RX2 yX2_openPairs wsX2_openPairs) := goodIn_app (goodIn_of _ (by decide +kernel)) ggX3_sew_X2_openPairs
theorem dX3_sew_0 : decode cX3_sew 0 = .ok (.aload_n 0, 1) := by decide +kernel
theorem dX3_sew_1 : decode cX3_sew 1 = .ok (.iload_n 1, 1) := by decide +kernel
theorem dX3_sew_2 : decode cX3_sew 2 = .ok (.invokevirtual 118, 3) := by decide +kernel
theorem dX3_sew_5 : decode cX3_sew 5 = .ok (.astore 5, 2) := by decide +kernel
theorem dX3_sew_7 : decode cX3_sew 7 = .ok (.iload_n 2, 1) := by decide +kernel
theorem dX3_sew_8 : decode cX3_sew 8 = .ok (.aload 5, 2) := by decide +kernel
theorem dX3_sew_10 : decode cX3_sew 10 = .ok (.getfield 122, 3) := by decide +kernel
theorem dX3_sew_13 : decode cX3_sew 13 = .ok (.invokestatic 70, 3) := by decide +kernel
theorem dX3_sew_16 : decode cX3_sew 16 = .ok (.aload 5, 2) := by decide +kernel
theorem dX3_sew_18 : decode cX3_sew 18 = .ok (.iload_n 2, 1) := by decide +kernel
theorem dX3_sew_19 : decode cX3_sew 19 = .ok (.iload_n 3, 1) := by decide +kernel
theorem dX3_sew_20 : decode cX3_sew 20 = .ok (.invokevirtual 125, 3) := by decide +kernel
theorem dX3_sew_23 : decode cX3_sew 23 = .ok (.ifCond .ge 13, 3) := by decide +kernel
theorem dX3_sew_26 : decode cX3_sew 26 = .ok (.new 128, 3) := by decide +kernel
theorem dX3_sew_29 : decode cX3_sew 29 = .ok (.dup, 1) := by decide +kernel
theorem dX3_sew_30 : decode cX3_sew 30 = .ok (.ldc 130, 2) := by decide +kernel
theorem dX3_sew_32 : decode cX3_sew 32 = .ok (.invokespecial 132, 3) := by decide +kernel
theorem dX3_sew_35 : decode cX3_sew 35 = .ok (.athrow, 1) := by decide +kernel
theorem dX3_sew_36 : decode cX3_sew 36 = .ok (.aload 5, 2) := by decide +kernel
theorem dX3_sew_38 : decode cX3_sew 38 = .ok (.iload_n 2, 1) := by decide +kernel
theorem dX3_sew_39 : decode cX3_sew 39 = .ok (.iload_n 3, 1) := by decide +kernel
theorem dX3_sew_40 : decode cX3_sew 40 = .ok (.iload 4, 2) := by decide +kernel
theorem dX3_sew_42 : decode cX3_sew 42 = .ok (.invokevirtual 133, 3) := by decide +kernel
theorem dX3_sew_45 : decode cX3_sew 45 = .ok (.aload 5, 2) := by decide +kernel
theorem dX3_sew_47 : decode cX3_sew 47 = .ok (.invokevirtual 137, 3) := by decide +kernel
theorem dX3_sew_50 : decode cX3_sew 50 = .ok (.ireturn, 1) := by decide +kernel
set_option maxRecDepth 20000 in
theorem ggX3_fill_X3_needTick : GoodIn wsX3_fill wsX3_needTick := goodIn_ca (goodIn_r _ [5, 6, 7, 8, 9, 10, 11, 12, 13, 14, 15, 16, 17, 18, 19, 20, 21, 22, 23, 24, 25, 26, 27, 28, 29, 30, 31, 32, 69, 70, 71, 72, 73, 74, 75, 76, 77, 78, 79] (by decide +kernel) (by decide +kernel)) (goodIn_sub (fun _ h => List.mem_cons_of_mem _ (List.mem_append_left _ (List.mem_append_right _ h))) (by decide +kernel))
set_option maxRecDepth 20000 in
theorem gX3_fill_X3_needTick : GoodIn wsX3_fill (wsV RX3 118 RX3 yX3_needTick wsX3_needTick) := goodIn_app (goodIn_of _ (by decide +kernel)) ggX3_fill_X3_needTick
set_option maxRecDepth 20000 in
theorem ggX3_fill_X3_needSquare : GoodIn wsX3_fill wsX3_needSquare := goodIn_ca (goodIn_r _ [35, 6, 7, 80, 81, 82, 83, 84, 85, 86] (by decide +kernel) (by decide +kernel)) (goodIn_sub (fun _ h => List.mem_cons_of_mem _ (List.mem_append_left _ (List.mem_append_right _ h))) (by decide +kernel))
set_option maxRecDepth 20000 in
theorem gX3_fill_X3_needSquare : GoodIn wsX3_fill (va_wsS RX3 140 yX3_needSquare wsX3_needSquare) := goodIn_app (goodIn_of _ (by decide +kernel)) ggX3_fill_X3_needSquare
set_option maxRecDepth 20000 in
theorem ggX3_fill_X3_needChamber : GoodIn wsX3_fill wsX3_needChamber := goodIn_ca (goodIn_r _ [39, 6, 7, 40, 69, 70, 71, 72, 73, 74, 75, 76] (by decide +kernel) (by decide +kernel)) (goodIn_sub (fun _ h => List.mem_cons_of_mem _ (List.mem_append_left _ (List.mem_append_right _ h))) (by decide +kernel))
set_option maxRecDepth 20000 in
theorem gX3_fill_X3_needChamber : GoodIn wsX3_fill (wsV RX3 102 RX3 yX3_needChamber wsX3_needChamber) := goodIn_app (goodIn_of _ (by decide +kernel)) ggX3_fill_X3_needChamber
set_option maxRecDepth 20000 in
theorem ggX3_fill_X3_needRange : GoodIn wsX3_fill wsX3_needRange := goodIn_ca (goodIn_r _ [43, 44, 45] (by decide +kernel) (by decide +kernel)) (goodIn_sub (fun _ h => List.mem_cons_of_mem _ (List.mem_append_right _ h)) (by decide +kernel))
set_option maxRecDepth 20000 in
theorem gX3_fill_X3_needRange : GoodIn wsX3_fill (va_wsS RX3 39 yX3_needRange wsX3_needRange) := goodIn_app (goodIn_of _ (by decide +kernel)) ggX3_fill_X3_needRange
set_option maxRecDepth 20000 in
theorem ggX3_fill_X3_moveByHand : GoodIn wsX3_fill wsX3_moveByHand := goodIn_r _ [48, 49, 50, 51, 52, 53, 54, 55, 56, 57, 58, 59, 60, 61, 62, 63, 64, 65, 66, 67, 68, 87, 88] (by decide +kernel) (by decide +kernel)
set_option maxRecDepth 20000 in
theorem gX3_fill_X3_moveByHand : GoodIn wsX3_fill (va_wsS RX3 144 yX3_moveByHand wsX3_moveByHand) := goodIn_app (goodIn_of _ (by decide +kernel)) ggX3_fill_X3_moveByHand
theorem dX3_fill_0 : decode cX3_fill 0 = .ok (.aload_n 0, 1) := by decide +kernel
theorem dX3_fill_1 : decode cX3_fill 1 = .ok (.iload_n 1, 1) := by decide +kernel
theorem dX3_fill_2 : decode cX3_fill 2 = .ok (.invokevirtual 118, 3) := by decide +kernel
theorem dX3_fill_5 : decode cX3_fill 5 = .ok (.iload_n 2, 1) := by decide +kernel
theorem dX3_fill_6 : decode cX3_fill 6 = .ok (.invokestatic 140, 3) := by decide +kernel
theorem dX3_fill_9 : decode cX3_fill 9 = .ok (.astore 5, 2) := by decide +kernel
theorem dX3_fill_11 : decode cX3_fill 11 = .ok (.aload_n 0, 1) := by decide +kernel
theorem dX3_fill_12 : decode cX3_fill 12 = .ok (.iload_n 3, 1) := by decide +kernel
theorem dX3_fill_13 : decode cX3_fill 13 = .ok (.invokevirtual 102, 3) := by decide +kernel
theorem dX3_fill_16 : decode cX3_fill 16 = .ok (.astore 6, 2) := by decide +kernel
theorem dX3_fill_18 : decode cX3_fill 18 = .ok (.iload 4, 2) := by decide +kernel
theorem dX3_fill_20 : decode cX3_fill 20 = .ok (.iconst 1, 1) := by decide +kernel
theorem dX3_fill_21 : decode cX3_fill 21 = .ok (.sipush 300, 3) := by decide +kernel
theorem dX3_fill_24 : decode cX3_fill 24 = .ok (.invokestatic 39, 3) := by decide +kernel
theorem dX3_fill_27 : decode cX3_fill 27 = .ok (.aload 6, 2) := by decide +kernel
theorem dX3_fill_29 : decode cX3_fill 29 = .ok (.aload 5, 2) := by decide +kernel
theorem dX3_fill_31 : decode cX3_fill 31 = .ok (.iload 4, 2) := by decide +kernel
theorem dX3_fill_33 : decode cX3_fill 33 = .ok (.invokestatic 144, 3) := by decide +kernel
theorem dX3_fill_36 : decode cX3_fill 36 = .ok (.ireturn, 1) := by decide +kernel
set_option maxRecDepth 20000 in
theorem ggX3_shift_X3_needTick : GoodIn wsX3_shift wsX3_needTick := goodIn_ca (goodIn_r _ [7, 8, 9, 10, 11, 12, 13, 14, 15, 16, 17, 18, 19, 20, 21, 22, 23, 24, 25, 26, 27, 28, 29, 30, 31, 32, 33, 34, 64, 65, 66, 67, 68, 69, 70, 71, 72, 73, 74] (by decide +kernel) (by decide +kernel)) (goodIn_sub (fun _ h => List.mem_cons_of_mem _ (List.mem_append_right _ h)) (by decide +kernel))
set_option maxRecDepth 20000 in
theorem gX3_shift_X3_needTick : GoodIn wsX3_shift (wsV RX3 118 RX3 yX3_needTick wsX3_needTick) := goodIn_app (goodIn_of _ (by decide +kernel)) ggX3_shift_X3_needTick
set_option maxRecDepth 20000 in
theorem ggX3_shift_X3_needSquare : GoodIn wsX3_shift wsX3_needSquare := goodIn_ca (goodIn_r _ [37, 8, 9, 75, 76, 77, 78, 79, 80, 81] (by decide +kernel) (by decide +kernel)) (goodIn_sub (fun _ h => List.mem_cons_of_mem _ (List.mem_append_right _ h)) (by decide +kernel))
set_option maxRecDepth 20000 in
theorem gX3_shift_X3_needSquare : GoodIn wsX3_shift (va_wsS RX3 140 yX3_needSquare wsX3_needSquare) := goodIn_app (goodIn_of _ (by decide +kernel)) ggX3_shift_X3_needSquare
set_option maxRecDepth 20000 in
theorem ggX3_shift_X3_needRange : GoodIn wsX3_shift wsX3_needRange := goodIn_ca (goodIn_r _ [40, 1, 2] (by decide +kernel) (by decide +kernel)) (goodIn_sub (fun _ h => List.mem_cons_of_mem _ (List.mem_append_left _ (List.mem_append_right _ h))) (by decide +kernel))
set_option maxRecDepth 20000 in
theorem gX3_shift_X3_needRange : GoodIn wsX3_shift (va_wsS RX3 39 yX3_needRange wsX3_needRange) := goodIn_app (goodIn_of _ (by decide +kernel)) ggX3_shift_X3_needRange
set_option maxRecDepth 20000 in
theorem ggX3_shift_X3_moveByHand : GoodIn wsX3_shift wsX3_moveByHand := goodIn_r _ [43, 44, 45, 46, 47, 48, 49, 50, 51, 52, 53, 54, 55, 56, 57, 58, 59, 60, 61, 62, 63, 82, 83] (by decide +kernel) (by decide +kernel)
set_option maxRecDepth 20000 in
theorem gX3_shift_X3_moveByHand : GoodIn wsX3_shift (va_wsS RX3 144 yX3_moveByHand wsX3_moveByHand) := goodIn_app (goodIn_of _ (by decide +kernel)) ggX3_shift_X3_moveByHand
theorem dX3_shift_0 : decode cX3_shift 0 = .ok (.aload_n 0, 1) := by decide +kernel
theorem dX3_shift_1 : decode cX3_shift 1 = .ok (.iload_n 1, 1) := by decide +kernel
theorem dX3_shift_2 : decode cX3_shift 2 = .ok (.invokevirtual 118, 3) := by decide +kernel
theorem dX3_shift_5 : decode cX3_shift 5 = .ok (.astore 5, 2) := by decide +kernel
theorem dX3_shift_7 : decode cX3_shift 7 = .ok (.aload 5, 2) := by decide +kernel
theorem dX3_shift_9 : decode cX3_shift 9 = .ok (.iload_n 2, 1) := by decide +kernel
theorem dX3_shift_10 : decode cX3_shift 10 = .ok (.invokestatic 140, 3) := by decide +kernel
theorem dX3_shift_13 : decode cX3_shift 13 = .ok (.astore 6, 2) := by decide +kernel
theorem dX3_shift_15 : decode cX3_shift 15 = .ok (.aload 5, 2) := by decide +kernel
theorem dX3_shift_17 : decode cX3_shift 17 = .ok (.iload_n 3, 1) := by decide +kernel
theorem dX3_shift_18 : decode cX3_shift 18 = .ok (.invokestatic 140, 3) := by decide +kernel
theorem dX3_shift_21 : decode cX3_shift 21 = .ok (.astore 7, 2) := by decide +kernel
theorem dX3_shift_23 : decode cX3_shift 23 = .ok (.iload_n 2, 1) := by decide +kernel
theorem dX3_shift_24 : decode cX3_shift 24 = .ok (.iload_n 3, 1) := by decide +kernel
theorem dX3_shift_25 : decode cX3_shift 25 = .ok (.if_icmp .ne 13, 3) := by decide +kernel
theorem dX3_shift_28 : decode cX3_shift 28 = .ok (.new 128, 3) := by decide +kernel
theorem dX3_shift_31 : decode cX3_shift 31 = .ok (.dup, 1) := by decide +kernel
theorem dX3_shift_32 : decode cX3_shift 32 = .ok (.ldc 148, 2) := by decide +kernel
theorem dX3_shift_34 : decode cX3_shift 34 = .ok (.invokespecial 132, 3) := by decide +kernel
theorem dX3_shift_37 : decode cX3_shift 37 = .ok (.athrow, 1) := by decide +kernel
theorem dX3_shift_38 : decode cX3_shift 38 = .ok (.iload 4, 2) := by decide +kernel
theorem dX3_shift_40 : decode cX3_shift 40 = .ok (.iconst 1, 1) := by decide +kernel
theorem dX3_shift_41 : decode cX3_shift 41 = .ok (.sipush 300, 3) := by decide +kernel
theorem dX3_shift_44 : decode cX3_shift 44 = .ok (.invokestatic 39, 3) := by decide +kernel
theorem dX3_shift_47 : decode cX3_shift 47 = .ok (.aload 6, 2) := by decide +kernel
theorem dX3_shift_49 : decode cX3_shift 49 = .ok (.aload 7, 2) := by decide +kernel
theorem dX3_shift_51 : decode cX3_shift 51 = .ok (.iload 4, 2) := by decide +kernel
theorem dX3_shift_53 : decode cX3_shift 53 = .ok (.invokestatic 144, 3) := by decide +kernel
theorem dX3_shift_56 : decode cX3_shift 56 = .ok (.ireturn, 1) := by decide +kernel
set_option maxRecDepth 20000 in
theorem ggX3_square_X3_needTick : GoodIn wsX3_square wsX3_needTick := goodIn_ca (goodIn_r _ [5, 6, 7, 8, 9, 10, 11, 12, 13, 14, 15, 16, 17, 18, 19, 20, 21, 22, 23, 24, 25, 26, 27, 28, 29, 30, 31, 32, 74, 75, 76, 77, 78, 79, 80, 81, 82, 83, 84] (by decide +kernel) (by decide +kernel)) (goodIn_sub (fun _ h => List.mem_cons_of_mem _ (List.mem_append_right _ h)) (by decide +kernel))
set_option maxRecDepth 20000 in
theorem gX3_square_X3_needTick : GoodIn wsX3_square (wsV RX3 118 RX3 yX3_needTick wsX3_needTick) := goodIn_app (goodIn_of _ (by decide +kernel)) ggX3_square_X3_needTick
set_option maxRecDepth 20000 in
theorem ggX3_square_X3_needIndex : GoodIn wsX3_square wsX3_needIndex := goodIn_ca (goodIn_r _ [35, 6, 7] (by decide +kernel) (by decide +kernel)) (goodIn_sub (fun _ h => List.mem_cons_of_mem _ (List.mem_append_right _ h)) (by decide +kernel))
set_option maxRecDepth 20000 in
theorem gX3_square_X3_needIndex : GoodIn wsX3_square (va_wsS RX3 70 yX3_needIndex wsX3_needIndex) := goodIn_app (goodIn_of _ (by decide +kernel)) ggX3_square_X3_needIndex
set_option maxRecDepth 20000 in
theorem ggX3_square_X2_squareTells : GoodIn wsX3_square wsX2_squareTells := goodIn_r _ [40, 41, 42, 43, 44, 45, 46, 47, 48, 49, 50, 51, 52, 53, 54, 55, 56, 57, 58, 39, 59, 60, 61, 62, 63, 64, 65, 66, 67, 68, 69, 70, 71, 72, 73, 85, 86] (by decide +kernel) (by decide +kernel)
set_option maxRecDepth 20000 in
theorem gX3_square_X2_squareTells : GoodIn wsX3_square (wsV RX3 150 RX2 yX2_squareTells wsX2_squareTells) := goodIn_app (goodIn_of _ (by decide +kernel)) ggX3_square_X2_squareTells
theorem dX3_square_0 : decode cX3_square 0 = .ok (.aload_n 0, 1) := by decide +kernel
theorem dX3_square_1 : decode cX3_square 1 = .ok (.iload_n 1, 1) := by decide +kernel
theorem dX3_square_2 : decode cX3_square 2 = .ok (.invokevirtual 118, 3) := by decide +kernel
theorem dX3_square_5 : decode cX3_square 5 = .ok (.astore 4, 2) := by decide +kernel
theorem dX3_square_7 : decode cX3_square 7 = .ok (.iload_n 2, 1) := by decide +kernel
theorem dX3_square_8 : decode cX3_square 8 = .ok (.aload 4, 2) := by decide +kernel
theorem dX3_square_10 : decode cX3_square 10 = .ok (.getfield 122, 3) := by decide +kernel
theorem dX3_square_13 : decode cX3_square 13 = .ok (.invokestatic 70, 3) := by decide +kernel
theorem dX3_square_16 : decode cX3_square 16 = .ok (.iload_n 3, 1) := by decide +kernel
theorem dX3_square_17 : decode cX3_square 17 = .ok (.bipush 10, 2) := by decide +kernel
theorem dX3_square_19 : decode cX3_square 19 = .ok (.invokestatic 70, 3) := by decide +kernel
theorem dX3_square_22 : decode cX3_square 22 = .ok (.aload 4, 2) := by decide +kernel
theorem dX3_square_24 : decode cX3_square 24 = .ok (.iload_n 2, 1) := by decide +kernel
theorem dX3_square_25 : decode cX3_square 25 = .ok (.iload_n 3, 1) := by decide +kernel
theorem dX3_square_26 : decode cX3_square 26 = .ok (.invokevirtual 150, 3) := by decide +kernel
theorem dX3_square_29 : decode cX3_square 29 = .ok (.ireturn, 1) := by decide +kernel
set_option maxRecDepth 20000 in
theorem ggX3_tick_X3_needTick : GoodIn wsX3_tick wsX3_needTick := goodIn_ca (goodIn_r _ [5, 6, 7, 8, 9, 10, 11, 12, 13, 14, 15, 16, 17, 18, 19, 20, 21, 22, 23, 24, 25, 26, 27, 28, 29, 30, 31, 32, 98, 99, 100, 101, 102, 103, 104, 105, 106, 107, 108] (by decide +kernel) (by decide +kernel)) (goodIn_sub (fun _ h => List.mem_cons_of_mem _ (List.mem_append_right _ h)) (by decide +kernel))
set_option maxRecDepth 20000 in
theorem gX3_tick_X3_needTick : GoodIn wsX3_tick (wsV RX3 118 RX3 yX3_needTick wsX3_needTick) := goodIn_app (goodIn_of _ (by decide +kernel)) ggX3_tick_X3_needTick
set_option maxRecDepth 20000 in
theorem ggX3_tick_X3_needIndex : GoodIn wsX3_tick wsX3_needIndex := goodIn_ca (goodIn_r _ [35, 6, 7] (by decide +kernel) (by decide +kernel)) (goodIn_sub (fun _ h => List.mem_cons_of_mem _ (List.mem_append_right _ h)) (by decide +kernel))
set_option maxRecDepth 20000 in
theorem gX3_tick_X3_needIndex : GoodIn wsX3_tick (va_wsS RX3 70 yX3_needIndex wsX3_needIndex) := goodIn_app (goodIn_of _ (by decide +kernel)) ggX3_tick_X3_needIndex
set_option maxRecDepth 20000 in
theorem ggX3_tick_X2_tells : GoodIn wsX3_tick wsX2_tells := goodIn_r _ [40, 41, 42, 43, 44, 45, 46, 39, 47, 48, 49, 50, 51, 52, 53, 54, 55, 56, 57, 58, 59, 60, 61, 62, 63, 64, 65, 66, 67, 68, 69, 70, 71, 72, 73, 74, 75, 76, 77, 78, 79, 80, 81, 82, 83, 84, 85, 86, 87, 88, 89, 90, 91, 92, 93, 94, 95, 96, 97, 109, 110, 111, 112, 113, 114, 115, 116, 117] (by decide +kernel) (by decide +kernel)
set_option maxRecDepth 20000 in
theorem gX3_tick_X2_tells : GoodIn wsX3_tick (wsV RX3 153 RX2 yX2_tells wsX2_tells) := goodIn_app (goodIn_of _ (by decide +kernel)) ggX3_tick_X2_tells
theorem dX3_tick_0 : decode cX3_tick 0 = .ok (.aload_n 0, 1) := by decide +kernel
theorem dX3_tick_1 : decode cX3_tick 1 = .ok (.iload_n 1, 1) := by decide +kernel
theorem dX3_tick_2 : decode cX3_tick 2 = .ok (.invokevirtual 118, 3) := by decide +kernel
theorem dX3_tick_5 : decode cX3_tick 5 = .ok (.astore_n 3, 1) := by decide +kernel
theorem dX3_tick_6 : decode cX3_tick 6 = .ok (.iload_n 2, 1) := by decide +kernel
theorem dX3_tick_7 : decode cX3_tick 7 = .ok (.bipush 9, 2) := by decide +kernel
theorem dX3_tick_9 : decode cX3_tick 9 = .ok (.invokestatic 70, 3) := by decide +kernel
theorem dX3_tick_12 : decode cX3_tick 12 = .ok (.aload_n 3, 1) := by decide +kernel
theorem dX3_tick_13 : decode cX3_tick 13 = .ok (.iload_n 2, 1) := by decide +kernel
theorem dX3_tick_14 : decode cX3_tick 14 = .ok (.invokevirtual 153, 3) := by decide +kernel
theorem dX3_tick_17 : decode cX3_tick 17 = .ok (.ireturn, 1) := by decide +kernel
set_option maxRecDepth 20000 in
theorem ggX3_pass_X3_needRange : GoodIn wsX3_pass wsX3_needRange := goodIn_ca (goodIn_r _ [8, 9, 10] (by decide +kernel) (by decide +kernel)) (goodIn_sub (fun _ h => List.mem_cons_of_mem _ (List.mem_append_right _ h)) (by decide +kernel))
set_option maxRecDepth 20000 in
theorem gX3_pass_X3_needRange : GoodIn wsX3_pass (va_wsS RX3 39 yX3_needRange wsX3_needRange) := goodIn_app (goodIn_of _ (by decide +kernel)) ggX3_pass_X3_needRange
set_option maxRecDepth 20000 in
theorem ggX3_pass_Jx4a65c_size_8abf5 : GoodIn wsX3_pass wsJx4a65c_size_8abf5 := goodIn_r _ [15, 16, 95, 96, 97] (by decide +kernel) (by decide +kernel)
set_option maxRecDepth 20000 in
theorem gX3_pass_Jx4a65c_size_8abf5 : GoodIn wsX3_pass (wsV RX3 42 RJx4a65c yJx4a65c_size_8abf5 wsJx4a65c_size_8abf5) := goodIn_app (goodIn_of _ (by decide +kernel)) ggX3_pass_Jx4a65c_size_8abf5
set_option maxRecDepth 20000 in
theorem ggX3_pass_Jx4a65c_get_915e3 : GoodIn wsX3_pass wsJx4a65c_get_915e3 := goodIn_r _ [20, 16, 21, 22, 23, 24, 25, 26, 27, 28, 29, 30, 31, 14, 32, 33, 95, 96, 97] (by decide +kernel) (by decide +kernel)
set_option maxRecDepth 20000 in
theorem gX3_pass_Jx4a65c_get_915e3 : GoodIn wsX3_pass (wsV RX3 154 RJx4a65c yJx4a65c_get_915e3 wsJx4a65c_get_915e3) := goodIn_app (goodIn_of _ (by decide +kernel)) ggX3_pass_Jx4a65c_get_915e3
set_option maxRecDepth 20000 in
theorem ggX3_pass_X2_sleep : GoodIn wsX3_pass wsX2_sleep := goodIn_r _ [38, 39, 40, 41, 37, 42, 43, 44, 45, 46, 47, 48, 49, 50, 51, 52, 53, 54, 55, 56, 57, 58, 59, 60, 61, 62, 63, 64, 65, 66, 67, 68, 69, 70, 71, 72, 73, 74, 75, 76, 77, 78, 79, 80, 81, 82, 83, 84, 85, 86, 98, 99, 100, 101, 102, 103, 104, 105, 106] (by decide +kernel) (by decide +kernel)
set_option maxRecDepth 20000 in
theorem gX3_pass_X2_sleep : GoodIn wsX3_pass (wsV RX3 158 RX2 yX2_sleep wsX2_sleep) := goodIn_app (goodIn_of _ (by decide +kernel)) ggX3_pass_X2_sleep
theorem dX3_pass_0 : decode cX3_pass 0 = .ok (.iload_n 1, 1) := by decide +kernel
theorem dX3_pass_1 : decode cX3_pass 1 = .ok (.iconst 1, 1) := by decide +kernel
theorem dX3_pass_2 : decode cX3_pass 2 = .ok (.sipush 200, 3) := by decide +kernel
theorem dX3_pass_5 : decode cX3_pass 5 = .ok (.invokestatic 39, 3) := by decide +kernel
theorem dX3_pass_8 : decode cX3_pass 8 = .ok (.iconst 0, 1) := by decide +kernel
theorem dX3_pass_9 : decode cX3_pass 9 = .ok (.istore_n 2, 1) := by decide +kernel
theorem dX3_pass_10 : decode cX3_pass 10 = .ok (.iconst 0, 1) := by decide +kernel
theorem dX3_pass_11 : decode cX3_pass 11 = .ok (.istore_n 3, 1) := by decide +kernel
theorem dX3_pass_12 : decode cX3_pass 12 = .ok (.iload_n 3, 1) := by decide +kernel
theorem dX3_pass_13 : decode cX3_pass 13 = .ok (.aload_n 0, 1) := by decide +kernel
theorem dX3_pass_14 : decode cX3_pass 14 = .ok (.getfield 16, 3) := by decide +kernel
theorem dX3_pass_17 : decode cX3_pass 17 = .ok (.invokevirtual 42, 3) := by decide +kernel
theorem dX3_pass_20 : decode cX3_pass 20 = .ok (.if_icmp .ge 27, 3) := by decide +kernel
theorem dX3_pass_23 : decode cX3_pass 23 = .ok (.iload_n 2, 1) := by decide +kernel
theorem dX3_pass_24 : decode cX3_pass 24 = .ok (.aload_n 0, 1) := by decide +kernel
theorem dX3_pass_25 : decode cX3_pass 25 = .ok (.getfield 16, 3) := by decide +kernel
theorem dX3_pass_28 : decode cX3_pass 28 = .ok (.iload_n 3, 1) := by decide +kernel
theorem dX3_pass_29 : decode cX3_pass 29 = .ok (.invokevirtual 154, 3) := by decide +kernel
theorem dX3_pass_32 : decode cX3_pass 32 = .ok (.checkcast 26, 3) := by decide +kernel
theorem dX3_pass_35 : decode cX3_pass 35 = .ok (.iload_n 1, 1) := by decide +kernel
theorem dX3_pass_36 : decode cX3_pass 36 = .ok (.invokevirtual 158, 3) := by decide +kernel
theorem dX3_pass_39 : decode cX3_pass 39 = .ok (.iadd, 1) := by decide +kernel
theorem dX3_pass_40 : decode cX3_pass 40 = .ok (.istore_n 2, 1) := by decide +kernel
theorem dX3_pass_41 : decode cX3_pass 41 = .ok (.iinc 3 1, 3) := by decide +kernel
theorem dX3_pass_44 : decode cX3_pass 44 = .ok (.goto (-32), 3) := by decide +kernel
theorem dX3_pass_47 : decode cX3_pass 47 = .ok (.aload_n 0, 1) := by decide +kernel
theorem dX3_pass_48 : decode cX3_pass 48 = .ok (.dup, 1) := by decide +kernel
theorem dX3_pass_49 : decode cX3_pass 49 = .ok (.getfield 161, 3) := by decide +kernel
theorem dX3_pass_52 : decode cX3_pass 52 = .ok (.iload_n 1, 1) := by decide +kernel
theorem dX3_pass_53 : decode cX3_pass 53 = .ok (.iadd, 1) := by decide +kernel
theorem dX3_pass_54 : decode cX3_pass 54 = .ok (.putfield 161, 3) := by decide +kernel
theorem dX3_pass_57 : decode cX3_pass 57 = .ok (.aload_n 0, 1) := by decide +kernel
theorem dX3_pass_58 : decode cX3_pass 58 = .ok (.dup, 1) := by decide +kernel
theorem dX3_pass_59 : decode cX3_pass 59 = .ok (.getfield 164, 3) := by decide +kernel
theorem dX3_pass_62 : decode cX3_pass 62 = .ok (.iload_n 2, 1) := by decide +kernel
theorem dX3_pass_63 : decode cX3_pass 63 = .ok (.iadd, 1) := by decide +kernel
theorem dX3_pass_64 : decode cX3_pass 64 = .ok (.putfield 164, 3) := by decide +kernel
theorem dX3_pass_67 : decode cX3_pass 67 = .ok (.iload_n 2, 1) := by decide +kernel
theorem dX3_pass_68 : decode cX3_pass 68 = .ok (.ireturn, 1) := by decide +kernel
set_option maxRecDepth 20000 in
theorem ggX3_count_X3_needIndex : GoodIn wsX3_count wsX3_needIndex := goodIn_ca (goodIn_r _ [4, 5, 6] (by decide +kernel) (by decide +kernel)) (goodIn_sub (fun _ h => List.mem_cons_of_mem _ (List.mem_append_right _ h)) (by decide +kernel))
set_option maxRecDepth 20000 in
theorem gX3_count_X3_needIndex : GoodIn wsX3_count (va_wsS RX3 70 yX3_needIndex wsX3_needIndex) := goodIn_app (goodIn_of _ (by decide +kernel)) ggX3_count_X3_needIndex
set_option maxRecDepth 20000 in
theorem ggX3_count_X3_countTells : GoodIn wsX3_count wsX3_countTells := goodIn_r _ [10, 11, 12, 13, 14, 15, 16, 17, 18, 19, 20, 21, 22, 23, 24, 25, 3, 26, 27, 28, 29, 30, 31, 32, 33, 34, 35, 36, 37, 38, 39, 40, 41, 42, 43, 44, 45, 46, 47, 48, 49, 50, 51, 52, 53, 54, 55, 56, 57, 58, 59, 60, 61, 62, 63, 64, 65, 66, 67, 68, 69, 70, 71, 72, 73, 74, 75, 76, 77, 78, 79, 80, 81, 82] (by decide +kernel) (by decide +kernel)
set_option maxRecDepth 20000 in
theorem gX3_count_X3_countTells : GoodIn wsX3_count (wsV RX3 167 RX3 yX3_countTells wsX3_countTells) := goodIn_app (goodIn_of _ (by decide +kernel)) ggX3_count_X3_countTells
theorem dX3_count_0 : decode cX3_count 0 = .ok (.iload_n 1, 1) := by decide +kernel
theorem dX3_count_1 : decode cX3_count 1 = .ok (.bipush 9, 2) := by decide +kernel
theorem dX3_count_3 : decode cX3_count 3 = .ok (.invokestatic 70, 3) := by decide +kernel
theorem dX3_count_6 : decode cX3_count 6 = .ok (.aload_n 0, 1) := by decide +kernel
theorem dX3_count_7 : decode cX3_count 7 = .ok (.iload_n 1, 1) := by decide +kernel
theorem dX3_count_8 : decode cX3_count 8 = .ok (.invokevirtual 167, 3) := by decide +kernel
theorem dX3_count_11 : decode cX3_count 11 = .ok (.ireturn, 1) := by decide +kernel
set_option maxRecDepth 20000 in
theorem ggX3_foresee_X3_needTick : GoodIn wsX3_foresee wsX3_needTick := goodIn_ca (goodIn_r _ [6, 7, 8, 9, 10, 11, 12, 13, 14, 15, 16, 17, 18, 19, 20, 21, 22, 23, 24, 25, 26, 27, 28, 29, 30, 31, 32, 33, 125, 126, 127, 128, 129, 130, 131, 132, 133, 134, 135] (by decide +kernel) (by decide +kernel)) (goodIn_sub (fun _ h => List.mem_cons_of_mem _ (List.mem_append_left _ (List.mem_append_right _ h))) (by decide +kernel))
set_option maxRecDepth 20000 in
theorem gX3_foresee_X3_needTick : GoodIn wsX3_foresee (wsV RX3 118 RX3 yX3_needTick wsX3_needTick) := goodIn_app (goodIn_of _ (by decide +kernel)) ggX3_foresee_X3_needTick
set_option maxRecDepth 20000 in
theorem ggX3_foresee_X3_needIndex : GoodIn wsX3_foresee wsX3_needIndex := goodIn_ca (goodIn_r _ [36, 7, 8] (by decide +kernel) (by decide +kernel)) (goodIn_sub (fun _ h => List.mem_cons_of_mem _ (List.mem_append_left _ (List.mem_append_right _ h))) (by decide +kernel))
set_option maxRecDepth 20000 in
theorem gX3_foresee_X3_needIndex : GoodIn wsX3_foresee (va_wsS RX3 70 yX3_needIndex wsX3_needIndex) := goodIn_app (goodIn_of _ (by decide +kernel)) ggX3_foresee_X3_needIndex
set_option maxRecDepth 20000 in
theorem ggX3_foresee_X3_needRange : GoodIn wsX3_foresee wsX3_needRange := goodIn_ca (goodIn_r _ [39, 40, 41] (by decide +kernel) (by decide +kernel)) (goodIn_sub (fun _ h => List.mem_cons_of_mem _ (List.mem_append_right _ h)) (by decide +kernel))
set_option maxRecDepth 20000 in
theorem gX3_foresee_X3_needRange : GoodIn wsX3_foresee (va_wsS RX3 39 yX3_needRange wsX3_needRange) := goodIn_app (goodIn_of _ (by decide +kernel)) ggX3_foresee_X3_needRange
set_option maxRecDepth 20000 in
theorem ggX3_foresee_X2_become : GoodIn wsX3_foresee wsX2_become := goodIn_r _ [46, 47, 48, 49, 50, 51, 52, 53, 54, 55, 56, 57, 58, 59, 60, 61, 62, 63, 64, 65, 66, 67, 136, 137, 138, 139, 140, 141, 142, 143, 144] (by decide +kernel) (by decide +kernel)
set_option maxRecDepth 20000 in
theorem gX3_foresee_X2_become : GoodIn wsX3_foresee (wsV RX3 170 RX2 yX2_become wsX2_become) := goodIn_app (goodIn_of _ (by decide +kernel)) ggX3_foresee_X2_become
set_option maxRecDepth 20000 in
theorem ggX3_foresee_X2_sleep : GoodIn wsX3_foresee wsX2_sleep := goodIn_r _ [71, 72, 73, 74, 45, 75, 51, 49, 76, 77, 78, 56, 79, 58, 59, 60, 61, 62, 63, 64, 65, 66, 67, 80, 81, 82, 83, 50, 84, 85, 86, 87, 52, 88, 89, 90, 91, 47, 92, 93, 94, 95, 96, 97, 98, 99, 100, 101, 102, 103, 136, 137, 138, 139, 140, 141, 142, 143, 144] (by decide +kernel) (by decide +kernel)
set_option maxRecDepth 20000 in
theorem gX3_foresee_X2_sleep : GoodIn wsX3_foresee (wsV RX3 158 RX2 yX2_sleep wsX2_sleep) := goodIn_app (goodIn_of _ (by decide +kernel)) ggX3_foresee_X2_sleep
set_option maxRecDepth 20000 in
theorem ggX3_foresee_X2_feathers : GoodIn wsX3_foresee wsX2_feathers := goodIn_r _ [107, 51, 136, 137, 138, 139, 140, 141, 142, 143, 144] (by decide +kernel) (by decide +kernel)
set_option maxRecDepth 20000 in
theorem gX3_foresee_X2_feathers : GoodIn wsX3_foresee (wsV RX3 174 RX2 yX2_feathers wsX2_feathers) := goodIn_app (goodIn_of _ (by decide +kernel)) ggX3_foresee_X2_feathers
set_option maxRecDepth 20000 in
theorem ggX3_foresee_X2_coldestWarmth : GoodIn wsX3_foresee wsX2_coldestWarmth := goodIn_r _ [111, 112, 113, 114, 45, 115, 50, 116, 117, 118, 119, 51, 120, 121, 122, 56, 123, 62, 100, 101, 102, 103, 136, 137, 138, 139, 140, 141, 142, 143, 144] (by decide +kernel) (by decide +kernel)
set_option maxRecDepth 20000 in
theorem gX3_foresee_X2_coldestWarmth : GoodIn wsX3_foresee (wsV RX3 177 RX2 yX2_coldestWarmth wsX2_coldestWarmth) := goodIn_app (goodIn_of _ (by decide +kernel)) ggX3_foresee_X2_coldestWarmth
set_option maxRecDepth 20000 in
theorem ggX3_foresee_X2_coldestSquare : GoodIn wsX3_foresee wsX2_coldestSquare := goodIn_r _ [115, 50, 116, 117, 118, 45, 119, 51, 120, 121, 122, 56, 123, 62, 100, 101, 102, 103, 136, 137, 138, 139, 140, 141, 142, 143, 144] (by decide +kernel) (by decide +kernel)
set_option maxRecDepth 20000 in
theorem gX3_foresee_X2_coldestSquare : GoodIn wsX3_foresee (wsV RX3 180 RX2 yX2_coldestSquare wsX2_coldestSquare) := goodIn_app (goodIn_of _ (by decide +kernel)) ggX3_foresee_X2_coldestSquare
theorem dX3_foresee_0 : decode cX3_foresee 0 = .ok (.aload_n 0, 1) := by decide +kernel
theorem dX3_foresee_1 : decode cX3_foresee 1 = .ok (.iload_n 1, 1) := by decide +kernel
theorem dX3_foresee_2 : decode cX3_foresee 2 = .ok (.invokevirtual 118, 3) := by decide +kernel
theorem dX3_foresee_5 : decode cX3_foresee 5 = .ok (.astore 4, 2) := by decide +kernel
theorem dX3_foresee_7 : decode cX3_foresee 7 = .ok (.iload_n 3, 1) := by decide +kernel
theorem dX3_foresee_8 : decode cX3_foresee 8 = .ok (.iconst 3, 1) := by decide +kernel
theorem dX3_foresee_9 : decode cX3_foresee 9 = .ok (.invokestatic 70, 3) := by decide +kernel
theorem dX3_foresee_12 : decode cX3_foresee 12 = .ok (.iload_n 2, 1) := by decide +kernel
theorem dX3_foresee_13 : decode cX3_foresee 13 = .ok (.iconst 1, 1) := by decide +kernel
theorem dX3_foresee_14 : decode cX3_foresee 14 = .ok (.sipush 200, 3) := by decide +kernel
theorem dX3_foresee_17 : decode cX3_foresee 17 = .ok (.invokestatic 39, 3) := by decide +kernel
theorem dX3_foresee_20 : decode cX3_foresee 20 = .ok (.aload_n 0, 1) := by decide +kernel
theorem dX3_foresee_21 : decode cX3_foresee 21 = .ok (.getfield 31, 3) := by decide +kernel
theorem dX3_foresee_24 : decode cX3_foresee 24 = .ok (.aload 4, 2) := by decide +kernel
theorem dX3_foresee_26 : decode cX3_foresee 26 = .ok (.invokevirtual 170, 3) := by decide +kernel
theorem dX3_foresee_29 : decode cX3_foresee 29 = .ok (.aload_n 0, 1) := by decide +kernel
theorem dX3_foresee_30 : decode cX3_foresee 30 = .ok (.getfield 31, 3) := by decide +kernel
theorem dX3_foresee_33 : decode cX3_foresee 33 = .ok (.iload_n 2, 1) := by decide +kernel
theorem dX3_foresee_34 : decode cX3_foresee 34 = .ok (.invokevirtual 158, 3) := by decide +kernel
theorem dX3_foresee_37 : decode cX3_foresee 37 = .ok (.pop, 1) := by decide +kernel
theorem dX3_foresee_38 : decode cX3_foresee 38 = .ok (.iload_n 3, 1) := by decide +kernel
theorem dX3_foresee_39 : decode cX3_foresee 39 = .ok (.lookupswitch 41 #[(0, 25), (1, 33)], 25) := by decide +kernel
theorem dX3_foresee_64 : decode cX3_foresee 64 = .ok (.aload_n 0, 1) := by decide +kernel
theorem dX3_foresee_65 : decode cX3_foresee 65 = .ok (.getfield 31, 3) := by decide +kernel
theorem dX3_foresee_68 : decode cX3_foresee 68 = .ok (.invokevirtual 174, 3) := by decide +kernel
theorem dX3_foresee_71 : decode cX3_foresee 71 = .ok (.ireturn, 1) := by decide +kernel
theorem dX3_foresee_72 : decode cX3_foresee 72 = .ok (.aload_n 0, 1) := by decide +kernel
theorem dX3_foresee_73 : decode cX3_foresee 73 = .ok (.getfield 31, 3) := by decide +kernel
theorem dX3_foresee_76 : decode cX3_foresee 76 = .ok (.invokevirtual 177, 3) := by decide +kernel
theorem dX3_foresee_79 : decode cX3_foresee 79 = .ok (.ireturn, 1) := by decide +kernel
theorem dX3_foresee_80 : decode cX3_foresee 80 = .ok (.aload_n 0, 1) := by decide +kernel
theorem dX3_foresee_81 : decode cX3_foresee 81 = .ok (.getfield 31, 3) := by decide +kernel
theorem dX3_foresee_84 : decode cX3_foresee 84 = .ok (.invokevirtual 180, 3) := by decide +kernel
theorem dX3_foresee_87 : decode cX3_foresee 87 = .ok (.ireturn, 1) := by decide +kernel
set_option maxRecDepth 20000 in
theorem ggX3_lasts_X3_needTick : GoodIn wsX3_lasts wsX3_needTick := goodIn_ca (goodIn_r _ [6, 7, 8, 9, 10, 11, 12, 13, 14, 15, 16, 17, 18, 19, 20, 21, 22, 23, 24, 25, 26, 27, 28, 29, 30, 31, 32, 33, 117, 118, 119, 120, 121, 122, 123, 124, 125, 126, 127] (by decide +kernel) (by decide +kernel)) (goodIn_sub (fun _ h => List.mem_cons_of_mem _ (List.mem_append_left _ (List.mem_append_right _ h))) (by decide +kernel))
set_option maxRecDepth 20000 in
theorem gX3_lasts_X3_needTick : GoodIn wsX3_lasts (wsV RX3 118 RX3 yX3_needTick wsX3_needTick) := goodIn_app (goodIn_of _ (by decide +kernel)) ggX3_lasts_X3_needTick
set_option maxRecDepth 20000 in
theorem ggX3_lasts_X3_needRange : GoodIn wsX3_lasts wsX3_needRange := goodIn_ca (goodIn_r _ [36, 37, 38] (by decide +kernel) (by decide +kernel)) (goodIn_sub (fun _ h => List.mem_cons_of_mem _ (List.mem_append_right _ h)) (by decide +kernel))
set_option maxRecDepth 20000 in
theorem gX3_lasts_X3_needRange : GoodIn wsX3_lasts (va_wsS RX3 39 yX3_needRange wsX3_needRange) := goodIn_app (goodIn_of _ (by decide +kernel)) ggX3_lasts_X3_needRange
set_option maxRecDepth 20000 in
theorem ggX3_lasts_X2_become : GoodIn wsX3_lasts wsX2_become := goodIn_r _ [43, 44, 45, 46, 47, 48, 49, 50, 51, 52, 53, 54, 55, 56, 57, 58, 59, 60, 61, 62, 63, 64, 128, 129, 130, 131, 132, 133, 134, 135, 136] (by decide +kernel) (by decide +kernel)
set_option maxRecDepth 20000 in
theorem gX3_lasts_X2_become : GoodIn wsX3_lasts (wsV RX3 170 RX2 yX2_become wsX2_become) := goodIn_app (goodIn_of _ (by decide +kernel)) ggX3_lasts_X2_become
set_option maxRecDepth 20000 in
theorem ggX3_lasts_X2_coldestWarmth : GoodIn wsX3_lasts wsX2_coldestWarmth := goodIn_r _ [68, 69, 70, 71, 42, 72, 47, 73, 74, 75, 76, 48, 77, 78, 79, 53, 80, 59, 81, 82, 83, 84, 128, 129, 130, 131, 132, 133, 134, 135, 136] (by decide +kernel) (by decide +kernel)
set_option maxRecDepth 20000 in
theorem gX3_lasts_X2_coldestWarmth : GoodIn wsX3_lasts (wsV RX3 177 RX2 yX2_coldestWarmth wsX2_coldestWarmth) := goodIn_app (goodIn_of _ (by decide +kernel)) ggX3_lasts_X2_coldestWarmth
set_option maxRecDepth 20000 in
theorem ggX3_lasts_X2_sleep : GoodIn wsX3_lasts wsX2_sleep := goodIn_r _ [88, 89, 90, 91, 42, 92, 48, 46, 93, 94, 95, 53, 96, 55, 56, 57, 58, 59, 60, 61, 62, 63, 64, 97, 98, 99, 100, 47, 101, 102, 103, 104, 49, 105, 106, 107, 108, 44, 109, 110, 111, 112, 113, 114, 115, 116, 81, 82, 83, 84, 128, 129, 130, 131, 132, 133, 134, 135, 136] (by decide +kernel) (by decide +kernel)
set_option maxRecDepth 20000 in
theorem gX3_lasts_X2_sleep : GoodIn wsX3_lasts (wsV RX3 158 RX2 yX2_sleep wsX2_sleep) := goodIn_app (goodIn_of _ (by decide +kernel)) ggX3_lasts_X2_sleep
theorem dX3_lasts_0 : decode cX3_lasts 0 = .ok (.aload_n 0, 1) := by decide +kernel
theorem dX3_lasts_1 : decode cX3_lasts 1 = .ok (.iload_n 1, 1) := by decide +kernel
theorem dX3_lasts_2 : decode cX3_lasts 2 = .ok (.invokevirtual 118, 3) := by decide +kernel
theorem dX3_lasts_5 : decode cX3_lasts 5 = .ok (.astore_n 3, 1) := by decide +kernel
theorem dX3_lasts_6 : decode cX3_lasts 6 = .ok (.iload_n 2, 1) := by decide +kernel
theorem dX3_lasts_7 : decode cX3_lasts 7 = .ok (.iconst 0, 1) := by decide +kernel
theorem dX3_lasts_8 : decode cX3_lasts 8 = .ok (.sipush 900, 3) := by decide +kernel
theorem dX3_lasts_11 : decode cX3_lasts 11 = .ok (.invokestatic 39, 3) := by decide +kernel
theorem dX3_lasts_14 : decode cX3_lasts 14 = .ok (.aload_n 0, 1) := by decide +kernel
theorem dX3_lasts_15 : decode cX3_lasts 15 = .ok (.getfield 31, 3) := by decide +kernel
theorem dX3_lasts_18 : decode cX3_lasts 18 = .ok (.aload_n 3, 1) := by decide +kernel
theorem dX3_lasts_19 : decode cX3_lasts 19 = .ok (.invokevirtual 170, 3) := by decide +kernel
theorem dX3_lasts_22 : decode cX3_lasts 22 = .ok (.iconst 0, 1) := by decide +kernel
theorem dX3_lasts_23 : decode cX3_lasts 23 = .ok (.istore 4, 2) := by decide +kernel
theorem dX3_lasts_25 : decode cX3_lasts 25 = .ok (.iload 4, 2) := by decide +kernel
theorem dX3_lasts_27 : decode cX3_lasts 27 = .ok (.sipush 200, 3) := by decide +kernel
theorem dX3_lasts_30 : decode cX3_lasts 30 = .ok (.if_icmp .gt 32, 3) := by decide +kernel
theorem dX3_lasts_33 : decode cX3_lasts 33 = .ok (.aload_n 0, 1) := by decide +kernel
theorem dX3_lasts_34 : decode cX3_lasts 34 = .ok (.getfield 31, 3) := by decide +kernel
theorem dX3_lasts_37 : decode cX3_lasts 37 = .ok (.invokevirtual 177, 3) := by decide +kernel
theorem dX3_lasts_40 : decode cX3_lasts 40 = .ok (.iload_n 2, 1) := by decide +kernel
theorem dX3_lasts_41 : decode cX3_lasts 41 = .ok (.if_icmp .ge 6, 3) := by decide +kernel
theorem dX3_lasts_44 : decode cX3_lasts 44 = .ok (.iload 4, 2) := by decide +kernel
theorem dX3_lasts_46 : decode cX3_lasts 46 = .ok (.ireturn, 1) := by decide +kernel
theorem dX3_lasts_47 : decode cX3_lasts 47 = .ok (.aload_n 0, 1) := by decide +kernel
theorem dX3_lasts_48 : decode cX3_lasts 48 = .ok (.getfield 31, 3) := by decide +kernel
theorem dX3_lasts_51 : decode cX3_lasts 51 = .ok (.iconst 1, 1) := by decide +kernel
theorem dX3_lasts_52 : decode cX3_lasts 52 = .ok (.invokevirtual 158, 3) := by decide +kernel
theorem dX3_lasts_55 : decode cX3_lasts 55 = .ok (.pop, 1) := by decide +kernel
theorem dX3_lasts_56 : decode cX3_lasts 56 = .ok (.iinc 4 1, 3) := by decide +kernel
theorem dX3_lasts_59 : decode cX3_lasts 59 = .ok (.goto (-34), 3) := by decide +kernel
theorem dX3_lasts_62 : decode cX3_lasts 62 = .ok (.iconst (-1), 1) := by decide +kernel
theorem dX3_lasts_63 : decode cX3_lasts 63 = .ok (.ireturn, 1) := by decide +kernel
theorem dX3_needRange_0 : decode cX3_needRange 0 = .ok (.iload_n 0, 1) := by decide +kernel
theorem dX3_needRange_1 : decode cX3_needRange 1 = .ok (.iload_n 1, 1) := by decide +kernel
theorem dX3_needRange_2 : decode cX3_needRange 2 = .ok (.if_icmp .lt 8, 3) := by decide +kernel
theorem dX3_needRange_5 : decode cX3_needRange 5 = .ok (.iload_n 0, 1) := by decide +kernel
theorem dX3_needRange_6 : decode cX3_needRange 6 = .ok (.iload_n 2, 1) := by decide +kernel
theorem dX3_needRange_7 : decode cX3_needRange 7 = .ok (.if_icmp .le 13, 3) := by decide +kernel
theorem dX3_needRange_10 : decode cX3_needRange 10 = .ok (.new 128, 3) := by decide +kernel
theorem dX3_needRange_13 : decode cX3_needRange 13 = .ok (.dup, 1) := by decide +kernel
theorem dX3_needRange_14 : decode cX3_needRange 14 = .ok (.ldc 208, 2) := by decide +kernel
theorem dX3_needRange_16 : decode cX3_needRange 16 = .ok (.invokespecial 132, 3) := by decide +kernel
theorem dX3_needRange_19 : decode cX3_needRange 19 = .ok (.athrow, 1) := by decide +kernel
theorem dX3_needRange_20 : decode cX3_needRange 20 = .ok (.return_, 1) := by decide +kernel
theorem dX3_needIndex_0 : decode cX3_needIndex 0 = .ok (.iload_n 0, 1) := by decide +kernel
theorem dX3_needIndex_1 : decode cX3_needIndex 1 = .ok (.ifCond .lt 8, 3) := by decide +kernel
theorem dX3_needIndex_4 : decode cX3_needIndex 4 = .ok (.iload_n 0, 1) := by decide +kernel
theorem dX3_needIndex_5 : decode cX3_needIndex 5 = .ok (.iload_n 1, 1) := by decide +kernel
theorem dX3_needIndex_6 : decode cX3_needIndex 6 = .ok (.if_icmp .lt 13, 3) := by decide +kernel
theorem dX3_needIndex_9 : decode cX3_needIndex 9 = .ok (.new 210, 3) := by decide +kernel
theorem dX3_needIndex_12 : decode cX3_needIndex 12 = .ok (.dup, 1) := by decide +kernel
theorem dX3_needIndex_13 : decode cX3_needIndex 13 = .ok (.ldc 212, 2) := by decide +kernel
theorem dX3_needIndex_15 : decode cX3_needIndex 15 = .ok (.invokespecial 214, 3) := by decide +kernel
theorem dX3_needIndex_18 : decode cX3_needIndex 18 = .ok (.athrow, 1) := by decide +kernel
theorem dX3_needIndex_19 : decode cX3_needIndex 19 = .ok (.return_, 1) := by decide +kernel
set_option maxRecDepth 20000 in
theorem ggX3_needSack_Jx4a65c_size_8abf5 : GoodIn wsX3_needSack wsJx4a65c_size_8abf5 := goodIn_r _ [9, 10, 36, 37, 38] (by decide +kernel) (by decide +kernel)
set_option maxRecDepth 20000 in
theorem gX3_needSack_Jx4a65c_size_8abf5 : GoodIn wsX3_needSack (wsV RX3 42 RJx4a65c yJx4a65c_size_8abf5 wsJx4a65c_size_8abf5) := goodIn_app (goodIn_of _ (by decide +kernel)) ggX3_needSack_Jx4a65c_size_8abf5
set_option maxRecDepth 20000 in
theorem ggX3_needSack_Jx4a65c_get_915e3 : GoodIn wsX3_needSack wsJx4a65c_get_915e3 := goodIn_r _ [14, 10, 15, 16, 17, 18, 19, 20, 21, 22, 23, 24, 25, 8, 26, 27, 36, 37, 38] (by decide +kernel) (by decide +kernel)
set_option maxRecDepth 20000 in
theorem gX3_needSack_Jx4a65c_get_915e3 : GoodIn wsX3_needSack (wsV RX3 154 RJx4a65c yJx4a65c_get_915e3 wsJx4a65c_get_915e3) := goodIn_app (goodIn_of _ (by decide +kernel)) ggX3_needSack_Jx4a65c_get_915e3
theorem dX3_needSack_0 : decode cX3_needSack 0 = .ok (.iload_n 1, 1) := by decide +kernel
theorem dX3_needSack_1 : decode cX3_needSack 1 = .ok (.ifCond .lt 14, 3) := by decide +kernel
theorem dX3_needSack_4 : decode cX3_needSack 4 = .ok (.iload_n 1, 1) := by decide +kernel
theorem dX3_needSack_5 : decode cX3_needSack 5 = .ok (.aload_n 0, 1) := by decide +kernel
theorem dX3_needSack_6 : decode cX3_needSack 6 = .ok (.getfield 12, 3) := by decide +kernel
theorem dX3_needSack_9 : decode cX3_needSack 9 = .ok (.invokevirtual 42, 3) := by decide +kernel
theorem dX3_needSack_12 : decode cX3_needSack 12 = .ok (.if_icmp .lt 13, 3) := by decide +kernel
theorem dX3_needSack_15 : decode cX3_needSack 15 = .ok (.new 210, 3) := by decide +kernel
theorem dX3_needSack_18 : decode cX3_needSack 18 = .ok (.dup, 1) := by decide +kernel
theorem dX3_needSack_19 : decode cX3_needSack 19 = .ok (.ldc 215, 2) := by decide +kernel
theorem dX3_needSack_21 : decode cX3_needSack 21 = .ok (.invokespecial 214, 3) := by decide +kernel
theorem dX3_needSack_24 : decode cX3_needSack 24 = .ok (.athrow, 1) := by decide +kernel
theorem dX3_needSack_25 : decode cX3_needSack 25 = .ok (.aload_n 0, 1) := by decide +kernel
theorem dX3_needSack_26 : decode cX3_needSack 26 = .ok (.getfield 12, 3) := by decide +kernel
theorem dX3_needSack_29 : decode cX3_needSack 29 = .ok (.iload_n 1, 1) := by decide +kernel
theorem dX3_needSack_30 : decode cX3_needSack 30 = .ok (.invokevirtual 154, 3) := by decide +kernel
theorem dX3_needSack_33 : decode cX3_needSack 33 = .ok (.checkcast 53, 3) := by decide +kernel
theorem dX3_needSack_36 : decode cX3_needSack 36 = .ok (.areturn, 1) := by decide +kernel
theorem dX3_needChamber_0 : decode cX3_needChamber 0 = .ok (.iload_n 1, 1) := by decide +kernel
theorem dX3_needChamber_1 : decode cX3_needChamber 1 = .ok (.ifCond .lt 12, 3) := by decide +kernel
theorem dX3_needChamber_4 : decode cX3_needChamber 4 = .ok (.iload_n 1, 1) := by decide +kernel
theorem dX3_needChamber_5 : decode cX3_needChamber 5 = .ok (.aload_n 0, 1) := by decide +kernel
theorem dX3_needChamber_6 : decode cX3_needChamber 6 = .ok (.getfield 21, 3) := by decide +kernel
theorem dX3_needChamber_9 : decode cX3_needChamber 9 = .ok (.arraylength, 1) := by decide +kernel
theorem dX3_needChamber_10 : decode cX3_needChamber 10 = .ok (.if_icmp .lt 13, 3) := by decide +kernel
theorem dX3_needChamber_13 : decode cX3_needChamber 13 = .ok (.new 210, 3) := by decide +kernel
theorem dX3_needChamber_16 : decode cX3_needChamber 16 = .ok (.dup, 1) := by decide +kernel
theorem dX3_needChamber_17 : decode cX3_needChamber 17 = .ok (.ldc 217, 2) := by decide +kernel
theorem dX3_needChamber_19 : decode cX3_needChamber 19 = .ok (.invokespecial 214, 3) := by decide +kernel
theorem dX3_needChamber_22 : decode cX3_needChamber 22 = .ok (.athrow, 1) := by decide +kernel
theorem dX3_needChamber_23 : decode cX3_needChamber 23 = .ok (.aload_n 0, 1) := by decide +kernel
theorem dX3_needChamber_24 : decode cX3_needChamber 24 = .ok (.getfield 21, 3) := by decide +kernel
theorem dX3_needChamber_27 : decode cX3_needChamber 27 = .ok (.iload_n 1, 1) := by decide +kernel
theorem dX3_needChamber_28 : decode cX3_needChamber 28 = .ok (.aaload, 1) := by decide +kernel
theorem dX3_needChamber_29 : decode cX3_needChamber 29 = .ok (.areturn, 1) := by decide +kernel
set_option maxRecDepth 20000 in
theorem ggX3_needTick_Jx4a65c_size_8abf5 : GoodIn wsX3_needTick wsJx4a65c_size_8abf5 := goodIn_r _ [9, 10, 36, 37, 38] (by decide +kernel) (by decide +kernel)
set_option maxRecDepth 20000 in
theorem gX3_needTick_Jx4a65c_size_8abf5 : GoodIn wsX3_needTick (wsV RX3 42 RJx4a65c yJx4a65c_size_8abf5 wsJx4a65c_size_8abf5) := goodIn_app (goodIn_of _ (by decide +kernel)) ggX3_needTick_Jx4a65c_size_8abf5
set_option maxRecDepth 20000 in
theorem ggX3_needTick_Jx4a65c_get_915e3 : GoodIn wsX3_needTick wsJx4a65c_get_915e3 := goodIn_r _ [14, 10, 15, 16, 17, 18, 19, 20, 21, 22, 23, 24, 25, 8, 26, 27, 36, 37, 38] (by decide +kernel) (by decide +kernel)
set_option maxRecDepth 20000 in
theorem gX3_needTick_Jx4a65c_get_915e3 : GoodIn wsX3_needTick (wsV RX3 154 RJx4a65c yJx4a65c_get_915e3 wsJx4a65c_get_915e3) := goodIn_app (goodIn_of _ (by decide +kernel)) ggX3_needTick_Jx4a65c_get_915e3
theorem dX3_needTick_0 : decode cX3_needTick 0 = .ok (.iload_n 1, 1) := by decide +kernel
theorem dX3_needTick_1 : decode cX3_needTick 1 = .ok (.ifCond .lt 14, 3) := by decide +kernel
theorem dX3_needTick_4 : decode cX3_needTick 4 = .ok (.iload_n 1, 1) := by decide +kernel
theorem dX3_needTick_5 : decode cX3_needTick 5 = .ok (.aload_n 0, 1) := by decide +kernel
theorem dX3_needTick_6 : decode cX3_needTick 6 = .ok (.getfield 16, 3) := by decide +kernel
theorem dX3_needTick_9 : decode cX3_needTick 9 = .ok (.invokevirtual 42, 3) := by decide +kernel
theorem dX3_needTick_12 : decode cX3_needTick 12 = .ok (.if_icmp .lt 13, 3) := by decide +kernel
theorem dX3_needTick_15 : decode cX3_needTick 15 = .ok (.new 210, 3) := by decide +kernel
theorem dX3_needTick_18 : decode cX3_needTick 18 = .ok (.dup, 1) := by decide +kernel
theorem dX3_needTick_19 : decode cX3_needTick 19 = .ok (.ldc 219, 2) := by decide +kernel
theorem dX3_needTick_21 : decode cX3_needTick 21 = .ok (.invokespecial 214, 3) := by decide +kernel
theorem dX3_needTick_24 : decode cX3_needTick 24 = .ok (.athrow, 1) := by decide +kernel
theorem dX3_needTick_25 : decode cX3_needTick 25 = .ok (.aload_n 0, 1) := by decide +kernel
theorem dX3_needTick_26 : decode cX3_needTick 26 = .ok (.getfield 16, 3) := by decide +kernel
theorem dX3_needTick_29 : decode cX3_needTick 29 = .ok (.iload_n 1, 1) := by decide +kernel
theorem dX3_needTick_30 : decode cX3_needTick 30 = .ok (.invokevirtual 154, 3) := by decide +kernel
theorem dX3_needTick_33 : decode cX3_needTick 33 = .ok (.checkcast 26, 3) := by decide +kernel
theorem dX3_needTick_36 : decode cX3_needTick 36 = .ok (.areturn, 1) := by decide +kernel
theorem dX3_needSquare_0 : decode cX3_needSquare 0 = .ok (.iload_n 1, 1) := by decide +kernel
theorem dX3_needSquare_1 : decode cX3_needSquare 1 = .ok (.ifCond .lt 20, 3) := by decide +kernel
theorem dX3_needSquare_4 : decode cX3_needSquare 4 = .ok (.iload_n 1, 1) := by decide +kernel
theorem dX3_needSquare_5 : decode cX3_needSquare 5 = .ok (.aload_n 0, 1) := by decide +kernel
theorem dX3_needSquare_6 : decode cX3_needSquare 6 = .ok (.getfield 122, 3) := by decide +kernel
theorem dX3_needSquare_9 : decode cX3_needSquare 9 = .ok (.if_icmp .ge 12, 3) := by decide +kernel
theorem dX3_needSquare_12 : decode cX3_needSquare 12 = .ok (.iload_n 1, 1) := by decide +kernel
theorem dX3_needSquare_13 : decode cX3_needSquare 13 = .ok (.aload_n 0, 1) := by decide +kernel
theorem dX3_needSquare_14 : decode cX3_needSquare 14 = .ok (.getfield 221, 3) := by decide +kernel
theorem dX3_needSquare_17 : decode cX3_needSquare 17 = .ok (.arraylength, 1) := by decide +kernel
theorem dX3_needSquare_18 : decode cX3_needSquare 18 = .ok (.if_icmp .lt 13, 3) := by decide +kernel
theorem dX3_needSquare_21 : decode cX3_needSquare 21 = .ok (.new 210, 3) := by decide +kernel
theorem dX3_needSquare_24 : decode cX3_needSquare 24 = .ok (.dup, 1) := by decide +kernel
theorem dX3_needSquare_25 : decode cX3_needSquare 25 = .ok (.ldc 224, 2) := by decide +kernel
theorem dX3_needSquare_27 : decode cX3_needSquare 27 = .ok (.invokespecial 214, 3) := by decide +kernel
theorem dX3_needSquare_30 : decode cX3_needSquare 30 = .ok (.athrow, 1) := by decide +kernel
theorem dX3_needSquare_31 : decode cX3_needSquare 31 = .ok (.aload_n 0, 1) := by decide +kernel
theorem dX3_needSquare_32 : decode cX3_needSquare 32 = .ok (.getfield 221, 3) := by decide +kernel
theorem dX3_needSquare_35 : decode cX3_needSquare 35 = .ok (.iload_n 1, 1) := by decide +kernel
theorem dX3_needSquare_36 : decode cX3_needSquare 36 = .ok (.aaload, 1) := by decide +kernel
theorem dX3_needSquare_37 : decode cX3_needSquare 37 = .ok (.areturn, 1) := by decide +kernel
set_option maxRecDepth 20000 in
theorem ggX3_moveByHand_X0_moveTo : GoodIn wsX3_moveByHand wsX0_moveTo := goodIn_r _ [9, 10, 2, 3, 4, 11, 12, 13, 8, 14, 15, 16, 17, 18, 19, 20, 21, 22] (by decide +kernel) (by decide +kernel)
set_option maxRecDepth 20000 in
theorem gX3_moveByHand_X0_moveTo : GoodIn wsX3_moveByHand (wsV RX3 229 RX0 yX0_moveTo wsX0_moveTo) := goodIn_app (goodIn_of _ (by decide +kernel)) ggX3_moveByHand_X0_moveTo
theorem dX3_moveByHand_0 : decode cX3_moveByHand 0 = .ok (.aload_n 0, 1) := by decide +kernel
theorem dX3_moveByHand_1 : decode cX3_moveByHand 1 = .ok (.aload_n 1, 1) := by decide +kernel
theorem dX3_moveByHand_2 : decode cX3_moveByHand 2 = .ok (.iload_n 2, 1) := by decide +kernel
theorem dX3_moveByHand_3 : decode cX3_moveByHand 3 = .ok (.sipush 300, 3) := by decide +kernel
theorem dX3_moveByHand_6 : decode cX3_moveByHand 6 = .ok (.aload_n 1, 1) := by decide +kernel
theorem dX3_moveByHand_7 : decode cX3_moveByHand 7 = .ok (.getfield 226, 3) := by decide +kernel
theorem dX3_moveByHand_10 : decode cX3_moveByHand 10 = .ok (.isub, 1) := by decide +kernel
theorem dX3_moveByHand_11 : decode cX3_moveByHand 11 = .ok (.invokestatic 106, 3) := by decide +kernel
theorem dX3_moveByHand_14 : decode cX3_moveByHand 14 = .ok (.bipush 6, 2) := by decide +kernel
theorem dX3_moveByHand_16 : decode cX3_moveByHand 16 = .ok (.invokevirtual 229, 3) := by decide +kernel
theorem dX3_moveByHand_19 : decode cX3_moveByHand 19 = .ok (.ireturn, 1) := by decide +kernel
set_option maxRecDepth 20000 in
theorem ggX3_countTells_Jx4a65c_size_8abf5 : GoodIn wsX3_countTells wsJx4a65c_size_8abf5 := goodIn_r _ [11, 12, 60, 61, 62] (by decide +kernel) (by decide +kernel)
set_option maxRecDepth 20000 in
theorem gX3_countTells_Jx4a65c_size_8abf5 : GoodIn wsX3_countTells (wsV RX3 42 RJx4a65c yJx4a65c_size_8abf5 wsJx4a65c_size_8abf5) := goodIn_app (goodIn_of _ (by decide +kernel)) ggX3_countTells_Jx4a65c_size_8abf5
set_option maxRecDepth 20000 in
theorem ggX3_countTells_X3_inSacks : GoodIn wsX3_countTells wsX3_inSacks := goodIn_r _ [17, 2, 18, 7, 8, 9, 10, 11, 12, 19, 20, 21, 22, 23, 24, 25, 26, 27, 28, 29, 30, 31, 32, 33, 34, 35, 52, 53, 54, 55, 56, 57, 58, 59, 63, 64, 65, 66, 60, 61, 62] (by decide +kernel) (by decide +kernel)
set_option maxRecDepth 20000 in
theorem gX3_countTells_X3_inSacks : GoodIn wsX3_countTells (wsV RX3 194 RX3 yX3_inSacks wsX3_inSacks) := goodIn_app (goodIn_of _ (by decide +kernel)) ggX3_countTells_X3_inSacks
set_option maxRecDepth 20000 in
theorem ggX3_countTells_X3_inChambers : GoodIn wsX3_countTells wsX3_inChambers := goodIn_r _ [39, 40, 52, 53, 54, 55, 56, 57, 58, 59, 65, 66] (by decide +kernel) (by decide +kernel)
set_option maxRecDepth 20000 in
theorem gX3_countTells_X3_inChambers : GoodIn wsX3_countTells (wsV RX3 197 RX3 yX3_inChambers wsX3_inChambers) := goodIn_app (goodIn_of _ (by decide +kernel)) ggX3_countTells_X3_inChambers
set_option maxRecDepth 20000 in
theorem ggX3_countTells_X3_inTicks : GoodIn wsX3_countTells wsX3_inTicks := goodIn_r _ [44, 3, 45, 7, 8, 9, 10, 11, 12, 19, 20, 21, 22, 23, 24, 25, 26, 27, 28, 29, 30, 31, 32, 33, 34, 35, 46, 47, 48, 49, 50, 51, 52, 53, 54, 55, 56, 57, 58, 59, 60, 61, 62, 67, 68, 69, 70, 71, 72, 73, 65, 66] (by decide +kernel) (by decide +kernel)
set_option maxRecDepth 20000 in
theorem gX3_countTells_X3_inTicks : GoodIn wsX3_countTells (wsV RX3 191 RX3 yX3_inTicks wsX3_inTicks) := goodIn_app (goodIn_of _ (by decide +kernel)) ggX3_countTells_X3_inTicks
theorem dX3_countTells_0 : decode cX3_countTells 0 = .ok (.iload_n 1, 1) := by decide +kernel
theorem dX3_countTells_1 : decode cX3_countTells 1 = .ok (.tableswitch 93 0 7 #[47, 52, 60, 68, 73, 78, 83, 88], 47) := by decide +kernel
theorem dX3_countTells_48 : decode cX3_countTells 48 = .ok (.aload_n 0, 1) := by decide +kernel
theorem dX3_countTells_49 : decode cX3_countTells 49 = .ok (.getfield 161, 3) := by decide +kernel
theorem dX3_countTells_52 : decode cX3_countTells 52 = .ok (.ireturn, 1) := by decide +kernel
theorem dX3_countTells_53 : decode cX3_countTells 53 = .ok (.aload_n 0, 1) := by decide +kernel
theorem dX3_countTells_54 : decode cX3_countTells 54 = .ok (.getfield 12, 3) := by decide +kernel
theorem dX3_countTells_57 : decode cX3_countTells 57 = .ok (.invokevirtual 42, 3) := by decide +kernel
theorem dX3_countTells_60 : decode cX3_countTells 60 = .ok (.ireturn, 1) := by decide +kernel
theorem dX3_countTells_61 : decode cX3_countTells 61 = .ok (.aload_n 0, 1) := by decide +kernel
theorem dX3_countTells_62 : decode cX3_countTells 62 = .ok (.getfield 16, 3) := by decide +kernel
theorem dX3_countTells_65 : decode cX3_countTells 65 = .ok (.invokevirtual 42, 3) := by decide +kernel
theorem dX3_countTells_68 : decode cX3_countTells 68 = .ok (.ireturn, 1) := by decide +kernel
theorem dX3_countTells_69 : decode cX3_countTells 69 = .ok (.aload_n 0, 1) := by decide +kernel
theorem dX3_countTells_70 : decode cX3_countTells 70 = .ok (.invokevirtual 194, 3) := by decide +kernel
theorem dX3_countTells_73 : decode cX3_countTells 73 = .ok (.ireturn, 1) := by decide +kernel
theorem dX3_countTells_74 : decode cX3_countTells 74 = .ok (.aload_n 0, 1) := by decide +kernel
theorem dX3_countTells_75 : decode cX3_countTells 75 = .ok (.invokevirtual 197, 3) := by decide +kernel
theorem dX3_countTells_78 : decode cX3_countTells 78 = .ok (.ireturn, 1) := by decide +kernel
theorem dX3_countTells_79 : decode cX3_countTells 79 = .ok (.aload_n 0, 1) := by decide +kernel
theorem dX3_countTells_80 : decode cX3_countTells 80 = .ok (.invokevirtual 191, 3) := by decide +kernel
theorem dX3_countTells_83 : decode cX3_countTells 83 = .ok (.ireturn, 1) := by decide +kernel
theorem dX3_countTells_84 : decode cX3_countTells 84 = .ok (.aload_n 0, 1) := by decide +kernel
theorem dX3_countTells_85 : decode cX3_countTells 85 = .ok (.getfield 99, 3) := by decide +kernel
theorem dX3_countTells_88 : decode cX3_countTells 88 = .ok (.ireturn, 1) := by decide +kernel
theorem dX3_countTells_89 : decode cX3_countTells 89 = .ok (.aload_n 0, 1) := by decide +kernel
theorem dX3_countTells_90 : decode cX3_countTells 90 = .ok (.getfield 164, 3) := by decide +kernel
theorem dX3_countTells_93 : decode cX3_countTells 93 = .ok (.ireturn, 1) := by decide +kernel
theorem dX3_countTells_94 : decode cX3_countTells 94 = .ok (.aload_n 0, 1) := by decide +kernel
theorem dX3_countTells_95 : decode cX3_countTells 95 = .ok (.getfield 35, 3) := by decide +kernel
theorem dX3_countTells_98 : decode cX3_countTells 98 = .ok (.ireturn, 1) := by decide +kernel
set_option maxRecDepth 20000 in
theorem ggX3_inSacks_Jx4a65c_size_8abf5 : GoodIn wsX3_inSacks wsJx4a65c_size_8abf5 := goodIn_r _ [7, 8, 38, 39, 40] (by decide +kernel) (by decide +kernel)
set_option maxRecDepth 20000 in
theorem gX3_inSacks_Jx4a65c_size_8abf5 : GoodIn wsX3_inSacks (wsV RX3 42 RJx4a65c yJx4a65c_size_8abf5 wsJx4a65c_size_8abf5) := goodIn_app (goodIn_of _ (by decide +kernel)) ggX3_inSacks_Jx4a65c_size_8abf5
set_option maxRecDepth 20000 in
theorem ggX3_inSacks_Jx4a65c_get_915e3 : GoodIn wsX3_inSacks wsJx4a65c_get_915e3 := goodIn_r _ [12, 8, 13, 14, 15, 16, 17, 18, 19, 20, 21, 22, 23, 6, 24, 25, 38, 39, 40] (by decide +kernel) (by decide +kernel)
set_option maxRecDepth 20000 in
theorem gX3_inSacks_Jx4a65c_get_915e3 : GoodIn wsX3_inSacks (wsV RX3 154 RJx4a65c yJx4a65c_get_915e3 wsJx4a65c_get_915e3) := goodIn_app (goodIn_of _ (by decide +kernel)) ggX3_inSacks_Jx4a65c_get_915e3
theorem dX3_inSacks_0 : decode cX3_inSacks 0 = .ok (.iconst 0, 1) := by decide +kernel
theorem dX3_inSacks_1 : decode cX3_inSacks 1 = .ok (.istore_n 1, 1) := by decide +kernel
theorem dX3_inSacks_2 : decode cX3_inSacks 2 = .ok (.iconst 0, 1) := by decide +kernel
theorem dX3_inSacks_3 : decode cX3_inSacks 3 = .ok (.istore_n 2, 1) := by decide +kernel
theorem dX3_inSacks_4 : decode cX3_inSacks 4 = .ok (.iload_n 2, 1) := by decide +kernel
theorem dX3_inSacks_5 : decode cX3_inSacks 5 = .ok (.aload_n 0, 1) := by decide +kernel
theorem dX3_inSacks_6 : decode cX3_inSacks 6 = .ok (.getfield 12, 3) := by decide +kernel
theorem dX3_inSacks_9 : decode cX3_inSacks 9 = .ok (.invokevirtual 42, 3) := by decide +kernel
theorem dX3_inSacks_12 : decode cX3_inSacks 12 = .ok (.if_icmp .ge 29, 3) := by decide +kernel
theorem dX3_inSacks_15 : decode cX3_inSacks 15 = .ok (.iload_n 1, 1) := by decide +kernel
theorem dX3_inSacks_16 : decode cX3_inSacks 16 = .ok (.aload_n 0, 1) := by decide +kernel
theorem dX3_inSacks_17 : decode cX3_inSacks 17 = .ok (.getfield 12, 3) := by decide +kernel
theorem dX3_inSacks_20 : decode cX3_inSacks 20 = .ok (.iload_n 2, 1) := by decide +kernel
theorem dX3_inSacks_21 : decode cX3_inSacks 21 = .ok (.invokevirtual 154, 3) := by decide +kernel
theorem dX3_inSacks_24 : decode cX3_inSacks 24 = .ok (.checkcast 53, 3) := by decide +kernel
theorem dX3_inSacks_27 : decode cX3_inSacks 27 = .ok (.getfield 66, 3) := by decide +kernel
theorem dX3_inSacks_30 : decode cX3_inSacks 30 = .ok (.getfield 226, 3) := by decide +kernel
theorem dX3_inSacks_33 : decode cX3_inSacks 33 = .ok (.iadd, 1) := by decide +kernel
theorem dX3_inSacks_34 : decode cX3_inSacks 34 = .ok (.istore_n 1, 1) := by decide +kernel
theorem dX3_inSacks_35 : decode cX3_inSacks 35 = .ok (.iinc 2 1, 3) := by decide +kernel
theorem dX3_inSacks_38 : decode cX3_inSacks 38 = .ok (.goto (-34), 3) := by decide +kernel
theorem dX3_inSacks_41 : decode cX3_inSacks 41 = .ok (.iload_n 1, 1) := by decide +kernel
theorem dX3_inSacks_42 : decode cX3_inSacks 42 = .ok (.ireturn, 1) := by decide +kernel
theorem dX3_inChambers_0 : decode cX3_inChambers 0 = .ok (.iconst 0, 1) := by decide +kernel
theorem dX3_inChambers_1 : decode cX3_inChambers 1 = .ok (.istore_n 1, 1) := by decide +kernel
theorem dX3_inChambers_2 : decode cX3_inChambers 2 = .ok (.iconst 0, 1) := by decide +kernel
theorem dX3_inChambers_3 : decode cX3_inChambers 3 = .ok (.istore_n 2, 1) := by decide +kernel
theorem dX3_inChambers_4 : decode cX3_inChambers 4 = .ok (.iload_n 2, 1) := by decide +kernel
theorem dX3_inChambers_5 : decode cX3_inChambers 5 = .ok (.aload_n 0, 1) := by decide +kernel
theorem dX3_inChambers_6 : decode cX3_inChambers 6 = .ok (.getfield 21, 3) := by decide +kernel
theorem dX3_inChambers_9 : decode cX3_inChambers 9 = .ok (.arraylength, 1) := by decide +kernel
theorem dX3_inChambers_10 : decode cX3_inChambers 10 = .ok (.if_icmp .ge 21, 3) := by decide +kernel
theorem dX3_inChambers_13 : decode cX3_inChambers 13 = .ok (.iload_n 1, 1) := by decide +kernel
theorem dX3_inChambers_14 : decode cX3_inChambers 14 = .ok (.aload_n 0, 1) := by decide +kernel
theorem dX3_inChambers_15 : decode cX3_inChambers 15 = .ok (.getfield 21, 3) := by decide +kernel
theorem dX3_inChambers_18 : decode cX3_inChambers 18 = .ok (.iload_n 2, 1) := by decide +kernel
theorem dX3_inChambers_19 : decode cX3_inChambers 19 = .ok (.aaload, 1) := by decide +kernel
theorem dX3_inChambers_20 : decode cX3_inChambers 20 = .ok (.getfield 226, 3) := by decide +kernel
theorem dX3_inChambers_23 : decode cX3_inChambers 23 = .ok (.iadd, 1) := by decide +kernel
theorem dX3_inChambers_24 : decode cX3_inChambers 24 = .ok (.istore_n 1, 1) := by decide +kernel
theorem dX3_inChambers_25 : decode cX3_inChambers 25 = .ok (.iinc 2 1, 3) := by decide +kernel
theorem dX3_inChambers_28 : decode cX3_inChambers 28 = .ok (.goto (-24), 3) := by decide +kernel
theorem dX3_inChambers_31 : decode cX3_inChambers 31 = .ok (.iload_n 1, 1) := by decide +kernel
theorem dX3_inChambers_32 : decode cX3_inChambers 32 = .ok (.ireturn, 1) := by decide +kernel
set_option maxRecDepth 20000 in
theorem ggX3_inTicks_Jx4a65c_size_8abf5 : GoodIn wsX3_inTicks wsJx4a65c_size_8abf5 := goodIn_r _ [7, 8, 40, 41, 42] (by decide +kernel) (by decide +kernel)
set_option maxRecDepth 20000 in
theorem gX3_inTicks_Jx4a65c_size_8abf5 : GoodIn wsX3_inTicks (wsV RX3 42 RJx4a65c yJx4a65c_size_8abf5 wsJx4a65c_size_8abf5) := goodIn_app (goodIn_of _ (by decide +kernel)) ggX3_inTicks_Jx4a65c_size_8abf5
set_option maxRecDepth 20000 in
theorem ggX3_inTicks_Jx4a65c_get_915e3 : GoodIn wsX3_inTicks wsJx4a65c_get_915e3 := goodIn_r _ [12, 8, 13, 14, 15, 16, 17, 18, 19, 20, 21, 22, 23, 6, 24, 25, 40, 41, 42] (by decide +kernel) (by decide +kernel)
set_option maxRecDepth 20000 in
theorem gX3_inTicks_Jx4a65c_get_915e3 : GoodIn wsX3_inTicks (wsV RX3 154 RJx4a65c yJx4a65c_get_915e3 wsJx4a65c_get_915e3) := goodIn_app (goodIn_of _ (by decide +kernel)) ggX3_inTicks_Jx4a65c_get_915e3
set_option maxRecDepth 20000 in
theorem ggX3_inTicks_X2_feathers : GoodIn wsX3_inTicks wsX2_feathers := goodIn_r _ [30, 31, 43, 44, 45, 46, 47, 48, 49, 50, 51] (by decide +kernel) (by decide +kernel)
set_option maxRecDepth 20000 in
theorem gX3_inTicks_X2_feathers : GoodIn wsX3_inTicks (wsV RX3 174 RX2 yX2_feathers wsX2_feathers) := goodIn_app (goodIn_of _ (by decide +kernel)) ggX3_inTicks_X2_feathers
theorem dX3_inTicks_0 : decode cX3_inTicks 0 = .ok (.iconst 0, 1) := by decide +kernel
theorem dX3_inTicks_1 : decode cX3_inTicks 1 = .ok (.istore_n 1, 1) := by decide +kernel
theorem dX3_inTicks_2 : decode cX3_inTicks 2 = .ok (.iconst 0, 1) := by decide +kernel
theorem dX3_inTicks_3 : decode cX3_inTicks 3 = .ok (.istore_n 2, 1) := by decide +kernel
theorem dX3_inTicks_4 : decode cX3_inTicks 4 = .ok (.iload_n 2, 1) := by decide +kernel
theorem dX3_inTicks_5 : decode cX3_inTicks 5 = .ok (.aload_n 0, 1) := by decide +kernel
theorem dX3_inTicks_6 : decode cX3_inTicks 6 = .ok (.getfield 16, 3) := by decide +kernel
theorem dX3_inTicks_9 : decode cX3_inTicks 9 = .ok (.invokevirtual 42, 3) := by decide +kernel
theorem dX3_inTicks_12 : decode cX3_inTicks 12 = .ok (.if_icmp .ge 26, 3) := by decide +kernel
theorem dX3_inTicks_15 : decode cX3_inTicks 15 = .ok (.iload_n 1, 1) := by decide +kernel
theorem dX3_inTicks_16 : decode cX3_inTicks 16 = .ok (.aload_n 0, 1) := by decide +kernel
theorem dX3_inTicks_17 : decode cX3_inTicks 17 = .ok (.getfield 16, 3) := by decide +kernel
theorem dX3_inTicks_20 : decode cX3_inTicks 20 = .ok (.iload_n 2, 1) := by decide +kernel
theorem dX3_inTicks_21 : decode cX3_inTicks 21 = .ok (.invokevirtual 154, 3) := by decide +kernel
theorem dX3_inTicks_24 : decode cX3_inTicks 24 = .ok (.checkcast 26, 3) := by decide +kernel
theorem dX3_inTicks_27 : decode cX3_inTicks 27 = .ok (.invokevirtual 174, 3) := by decide +kernel
theorem dX3_inTicks_30 : decode cX3_inTicks 30 = .ok (.iadd, 1) := by decide +kernel
theorem dX3_inTicks_31 : decode cX3_inTicks 31 = .ok (.istore_n 1, 1) := by decide +kernel
theorem dX3_inTicks_32 : decode cX3_inTicks 32 = .ok (.iinc 2 1, 3) := by decide +kernel
theorem dX3_inTicks_35 : decode cX3_inTicks 35 = .ok (.goto (-31), 3) := by decide +kernel
theorem dX3_inTicks_38 : decode cX3_inTicks 38 = .ok (.iload_n 1, 1) := by decide +kernel
theorem dX3_inTicks_39 : decode cX3_inTicks 39 = .ok (.ireturn, 1) := by decide +kernel
end
section
theorem dX4_init_0 : decode cX4_init 0 = .ok (.aload_n 0, 1) := by decide +kernel
theorem dX4_init_1 : decode cX4_init 1 = .ok (.invokespecial 1, 3) := by decide +kernel
theorem dX4_init_4 : decode cX4_init 4 = .ok (.aload_n 0, 1) := by decide +kernel
theorem dX4_init_5 : decode cX4_init 5 = .ok (.iconst 0, 1) := by decide +kernel
theorem dX4_init_6 : decode cX4_init 6 = .ok (.anewarray 7, 3) := by decide +kernel
theorem dX4_init_9 : decode cX4_init 9 = .ok (.putfield 9, 3) := by decide +kernel
theorem dX4_init_12 : decode cX4_init 12 = .ok (.aload_n 0, 1) := by decide +kernel
theorem dX4_init_13 : decode cX4_init 13 = .ok (.bipush 12, 2) := by decide +kernel
theorem dX4_init_15 : decode cX4_init 15 = .ok (.newarray .int, 2) := by decide +kernel
theorem dX4_init_17 : decode cX4_init 17 = .ok (.putfield 15, 3) := by decide +kernel
theorem dX4_init_20 : decode cX4_init 20 = .ok (.aload_n 0, 1) := by decide +kernel
theorem dX4_init_21 : decode cX4_init 21 = .ok (.bipush 10, 2) := by decide +kernel
theorem dX4_init_23 : decode cX4_init 23 = .ok (.putfield 18, 3) := by decide +kernel
theorem dX4_init_26 : decode cX4_init 26 = .ok (.aload_n 0, 1) := by decide +kernel
theorem dX4_init_27 : decode cX4_init 27 = .ok (.iconst 5, 1) := by decide +kernel
theorem dX4_init_28 : decode cX4_init 28 = .ok (.bipush 6, 2) := by decide +kernel
theorem dX4_init_30 : decode cX4_init 30 = .ok (.multianewarray 22 2, 4) := by decide +kernel
theorem dX4_init_34 : decode cX4_init 34 = .ok (.putfield 23, 3) := by decide +kernel
theorem dX4_init_37 : decode cX4_init 37 = .ok (.aload_n 0, 1) := by decide +kernel
theorem dX4_init_38 : decode cX4_init 38 = .ok (.iconst 0, 1) := by decide +kernel
theorem dX4_init_39 : decode cX4_init 39 = .ok (.anewarray 26, 3) := by decide +kernel
theorem dX4_init_42 : decode cX4_init 42 = .ok (.putfield 28, 3) := by decide +kernel
theorem dX4_init_45 : decode cX4_init 45 = .ok (.return_, 1) := by decide +kernel
theorem dX4_sack_0 : decode cX4_sack 0 = .ok (.aload_n 0, 1) := by decide +kernel
theorem dX4_sack_1 : decode cX4_sack 1 = .ok (.getfield 9, 3) := by decide +kernel
theorem dX4_sack_4 : decode cX4_sack 4 = .ok (.arraylength, 1) := by decide +kernel
theorem dX4_sack_5 : decode cX4_sack 5 = .ok (.iconst 1, 1) := by decide +kernel
theorem dX4_sack_6 : decode cX4_sack 6 = .ok (.iadd, 1) := by decide +kernel
theorem dX4_sack_7 : decode cX4_sack 7 = .ok (.anewarray 7, 3) := by decide +kernel
theorem dX4_sack_10 : decode cX4_sack 10 = .ok (.astore_n 2, 1) := by decide +kernel
theorem dX4_sack_11 : decode cX4_sack 11 = .ok (.iconst 0, 1) := by decide +kernel
theorem dX4_sack_12 : decode cX4_sack 12 = .ok (.istore_n 3, 1) := by decide +kernel
theorem dX4_sack_13 : decode cX4_sack 13 = .ok (.iload_n 3, 1) := by decide +kernel
theorem dX4_sack_14 : decode cX4_sack 14 = .ok (.aload_n 0, 1) := by decide +kernel
theorem dX4_sack_15 : decode cX4_sack 15 = .ok (.getfield 9, 3) := by decide +kernel
theorem dX4_sack_18 : decode cX4_sack 18 = .ok (.arraylength, 1) := by decide +kernel
theorem dX4_sack_19 : decode cX4_sack 19 = .ok (.if_icmp .ge 18, 3) := by decide +kernel
theorem dX4_sack_22 : decode cX4_sack 22 = .ok (.aload_n 2, 1) := by decide +kernel
theorem dX4_sack_23 : decode cX4_sack 23 = .ok (.iload_n 3, 1) := by decide +kernel
theorem dX4_sack_24 : decode cX4_sack 24 = .ok (.aload_n 0, 1) := by decide +kernel
theorem dX4_sack_25 : decode cX4_sack 25 = .ok (.getfield 9, 3) := by decide +kernel
theorem dX4_sack_28 : decode cX4_sack 28 = .ok (.iload_n 3, 1) := by decide +kernel
theorem dX4_sack_29 : decode cX4_sack 29 = .ok (.aaload, 1) := by decide +kernel
theorem dX4_sack_30 : decode cX4_sack 30 = .ok (.aastore, 1) := by decide +kernel
theorem dX4_sack_31 : decode cX4_sack 31 = .ok (.iinc 3 1, 3) := by decide +kernel
theorem dX4_sack_34 : decode cX4_sack 34 = .ok (.goto (-21), 3) := by decide +kernel
theorem dX4_sack_37 : decode cX4_sack 37 = .ok (.aload_n 2, 1) := by decide +kernel
theorem dX4_sack_38 : decode cX4_sack 38 = .ok (.aload_n 0, 1) := by decide +kernel
theorem dX4_sack_39 : decode cX4_sack 39 = .ok (.getfield 9, 3) := by decide +kernel
theorem dX4_sack_42 : decode cX4_sack 42 = .ok (.arraylength, 1) := by decide +kernel
theorem dX4_sack_43 : decode cX4_sack 43 = .ok (.bipush 6, 2) := by decide +kernel
theorem dX4_sack_45 : decode cX4_sack 45 = .ok (.newarray .int, 2) := by decide +kernel
theorem dX4_sack_47 : decode cX4_sack 47 = .ok (.aastore, 1) := by decide +kernel
theorem dX4_sack_48 : decode cX4_sack 48 = .ok (.aload_n 0, 1) := by decide +kernel
theorem dX4_sack_49 : decode cX4_sack 49 = .ok (.getfield 15, 3) := by decide +kernel
theorem dX4_sack_52 : decode cX4_sack 52 = .ok (.aload_n 0, 1) := by decide +kernel
theorem dX4_sack_53 : decode cX4_sack 53 = .ok (.getfield 9, 3) := by decide +kernel
theorem dX4_sack_56 : decode cX4_sack 56 = .ok (.arraylength, 1) := by decide +kernel
theorem dX4_sack_57 : decode cX4_sack 57 = .ok (.iload_n 1, 1) := by decide +kernel
theorem dX4_sack_58 : decode cX4_sack 58 = .ok (.iastore, 1) := by decide +kernel
theorem dX4_sack_59 : decode cX4_sack 59 = .ok (.aload_n 0, 1) := by decide +kernel
theorem dX4_sack_60 : decode cX4_sack 60 = .ok (.aload_n 2, 1) := by decide +kernel
theorem dX4_sack_61 : decode cX4_sack 61 = .ok (.putfield 9, 3) := by decide +kernel
theorem dX4_sack_64 : decode cX4_sack 64 = .ok (.return_, 1) := by decide +kernel
set_option maxRecDepth 20000 in
theorem ggX4_tick_X5_init : GoodIn wsX4_tick wsX5_init := goodIn_r _ [7, 8, 9, 10, 11, 12, 13, 14, 15, 16, 17, 18, 19, 28, 29, 30, 31, 32] (by decide +kernel) (by decide +kernel)
set_option maxRecDepth 20000 in
theorem gX4_tick_X5_init : GoodIn wsX4_tick (wsX5_init) := ggX4_tick_X5_init
theorem dX4_tick_0 : decode cX4_tick 0 = .ok (.aload_n 0, 1) := by decide +kernel
theorem dX4_tick_1 : decode cX4_tick 1 = .ok (.getfield 28, 3) := by decide +kernel
theorem dX4_tick_4 : decode cX4_tick 4 = .ok (.arraylength, 1) := by decide +kernel
theorem dX4_tick_5 : decode cX4_tick 5 = .ok (.iconst 1, 1) := by decide +kernel
theorem dX4_tick_6 : decode cX4_tick 6 = .ok (.iadd, 1) := by decide +kernel
theorem dX4_tick_7 : decode cX4_tick 7 = .ok (.anewarray 26, 3) := by decide +kernel
theorem dX4_tick_10 : decode cX4_tick 10 = .ok (.astore 4, 2) := by decide +kernel
theorem dX4_tick_12 : decode cX4_tick 12 = .ok (.iconst 0, 1) := by decide +kernel
theorem dX4_tick_13 : decode cX4_tick 13 = .ok (.istore 5, 2) := by decide +kernel
theorem dX4_tick_15 : decode cX4_tick 15 = .ok (.iload 5, 2) := by decide +kernel
theorem dX4_tick_17 : decode cX4_tick 17 = .ok (.aload_n 0, 1) := by decide +kernel
theorem dX4_tick_18 : decode cX4_tick 18 = .ok (.getfield 28, 3) := by decide +kernel
theorem dX4_tick_21 : decode cX4_tick 21 = .ok (.arraylength, 1) := by decide +kernel
theorem dX4_tick_22 : decode cX4_tick 22 = .ok (.if_icmp .ge 21, 3) := by decide +kernel
theorem dX4_tick_25 : decode cX4_tick 25 = .ok (.aload 4, 2) := by decide +kernel
theorem dX4_tick_27 : decode cX4_tick 27 = .ok (.iload 5, 2) := by decide +kernel
theorem dX4_tick_29 : decode cX4_tick 29 = .ok (.aload_n 0, 1) := by decide +kernel
theorem dX4_tick_30 : decode cX4_tick 30 = .ok (.getfield 28, 3) := by decide +kernel
theorem dX4_tick_33 : decode cX4_tick 33 = .ok (.iload 5, 2) := by decide +kernel
theorem dX4_tick_35 : decode cX4_tick 35 = .ok (.aaload, 1) := by decide +kernel
theorem dX4_tick_36 : decode cX4_tick 36 = .ok (.aastore, 1) := by decide +kernel
theorem dX4_tick_37 : decode cX4_tick 37 = .ok (.iinc 5 1, 3) := by decide +kernel
theorem dX4_tick_40 : decode cX4_tick 40 = .ok (.goto (-25), 3) := by decide +kernel
theorem dX4_tick_43 : decode cX4_tick 43 = .ok (.aload 4, 2) := by decide +kernel
theorem dX4_tick_45 : decode cX4_tick 45 = .ok (.aload_n 0, 1) := by decide +kernel
theorem dX4_tick_46 : decode cX4_tick 46 = .ok (.getfield 28, 3) := by decide +kernel
theorem dX4_tick_49 : decode cX4_tick 49 = .ok (.arraylength, 1) := by decide +kernel
theorem dX4_tick_50 : decode cX4_tick 50 = .ok (.new 26, 3) := by decide +kernel
theorem dX4_tick_53 : decode cX4_tick 53 = .ok (.dup, 1) := by decide +kernel
theorem dX4_tick_54 : decode cX4_tick 54 = .ok (.iload_n 1, 1) := by decide +kernel
theorem dX4_tick_55 : decode cX4_tick 55 = .ok (.iload_n 2, 1) := by decide +kernel
theorem dX4_tick_56 : decode cX4_tick 56 = .ok (.iload_n 3, 1) := by decide +kernel
theorem dX4_tick_57 : decode cX4_tick 57 = .ok (.invokespecial 32, 3) := by decide +kernel
theorem dX4_tick_60 : decode cX4_tick 60 = .ok (.aastore, 1) := by decide +kernel
theorem dX4_tick_61 : decode cX4_tick 61 = .ok (.aload_n 0, 1) := by decide +kernel
theorem dX4_tick_62 : decode cX4_tick 62 = .ok (.aload 4, 2) := by decide +kernel
theorem dX4_tick_64 : decode cX4_tick 64 = .ok (.putfield 28, 3) := by decide +kernel
theorem dX4_tick_67 : decode cX4_tick 67 = .ok (.return_, 1) := by decide +kernel
theorem dX4_blown_0 : decode cX4_blown 0 = .ok (.bipush 7, 2) := by decide +kernel
theorem dX4_blown_2 : decode cX4_blown 2 = .ok (.bipush 6, 2) := by decide +kernel
theorem dX4_blown_4 : decode cX4_blown 4 = .ok (.multianewarray 22 2, 4) := by decide +kernel
theorem dX4_blown_8 : decode cX4_blown 8 = .ok (.astore_n 3, 1) := by decide +kernel
theorem dX4_blown_9 : decode cX4_blown 9 = .ok (.iconst 0, 1) := by decide +kernel
theorem dX4_blown_10 : decode cX4_blown 10 = .ok (.istore 4, 2) := by decide +kernel
theorem dX4_blown_12 : decode cX4_blown 12 = .ok (.iload 4, 2) := by decide +kernel
theorem dX4_blown_14 : decode cX4_blown 14 = .ok (.bipush 6, 2) := by decide +kernel
theorem dX4_blown_16 : decode cX4_blown 16 = .ok (.if_icmp .ge 126, 3) := by decide +kernel
theorem dX4_blown_19 : decode cX4_blown 19 = .ok (.aload_n 0, 1) := by decide +kernel
theorem dX4_blown_20 : decode cX4_blown 20 = .ok (.getfield 9, 3) := by decide +kernel
theorem dX4_blown_23 : decode cX4_blown 23 = .ok (.iload_n 1, 1) := by decide +kernel
theorem dX4_blown_24 : decode cX4_blown 24 = .ok (.aaload, 1) := by decide +kernel
theorem dX4_blown_25 : decode cX4_blown 25 = .ok (.iload 4, 2) := by decide +kernel
theorem dX4_blown_27 : decode cX4_blown 27 = .ok (.iaload, 1) := by decide +kernel
theorem dX4_blown_28 : decode cX4_blown 28 = .ok (.istore 5, 2) := by decide +kernel
theorem dX4_blown_30 : decode cX4_blown 30 = .ok (.iconst 4, 1) := by decide +kernel
theorem dX4_blown_31 : decode cX4_blown 31 = .ok (.bipush 12, 2) := by decide +kernel
theorem dX4_blown_33 : decode cX4_blown 33 = .ok (.iload_n 2, 1) := by decide +kernel
theorem dX4_blown_34 : decode cX4_blown 34 = .ok (.imul, 1) := by decide +kernel
theorem dX4_blown_35 : decode cX4_blown 35 = .ok (.iload 4, 2) := by decide +kernel
theorem dX4_blown_37 : decode cX4_blown 37 = .ok (.iconst 1, 1) := by decide +kernel
theorem dX4_blown_38 : decode cX4_blown 38 = .ok (.iadd, 1) := by decide +kernel
theorem dX4_blown_39 : decode cX4_blown 39 = .ok (.aload_n 0, 1) := by decide +kernel
theorem dX4_blown_40 : decode cX4_blown 40 = .ok (.getfield 15, 3) := by decide +kernel
theorem dX4_blown_43 : decode cX4_blown 43 = .ok (.iload_n 1, 1) := by decide +kernel
theorem dX4_blown_44 : decode cX4_blown 44 = .ok (.iaload, 1) := by decide +kernel
theorem dX4_blown_45 : decode cX4_blown 45 = .ok (.iconst 4, 1) := by decide +kernel
theorem dX4_blown_46 : decode cX4_blown 46 = .ok (.iadd, 1) := by decide +kernel
theorem dX4_blown_47 : decode cX4_blown 47 = .ok (.imul, 1) := by decide +kernel
theorem dX4_blown_48 : decode cX4_blown 48 = .ok (.idiv, 1) := by decide +kernel
theorem dX4_blown_49 : decode cX4_blown 49 = .ok (.invokestatic 35, 3) := by decide +kernel
theorem dX4_blown_52 : decode cX4_blown 52 = .ok (.istore 6, 2) := by decide +kernel
theorem dX4_blown_54 : decode cX4_blown 54 = .ok (.aload_n 3, 1) := by decide +kernel
theorem dX4_blown_55 : decode cX4_blown 55 = .ok (.iload 6, 2) := by decide +kernel
theorem dX4_blown_57 : decode cX4_blown 57 = .ok (.aaload, 1) := by decide +kernel
theorem dX4_blown_58 : decode cX4_blown 58 = .ok (.iload 4, 2) := by decide +kernel
theorem dX4_blown_60 : decode cX4_blown 60 = .ok (.dup2, 1) := by decide +kernel
theorem dX4_blown_61 : decode cX4_blown 61 = .ok (.iaload, 1) := by decide +kernel
theorem dX4_blown_62 : decode cX4_blown 62 = .ok (.bipush 6, 2) := by decide +kernel
theorem dX4_blown_64 : decode cX4_blown 64 = .ok (.iload 5, 2) := by decide +kernel
theorem dX4_blown_66 : decode cX4_blown 66 = .ok (.imul, 1) := by decide +kernel
theorem dX4_blown_67 : decode cX4_blown 67 = .ok (.bipush 10, 2) := by decide +kernel
theorem dX4_blown_69 : decode cX4_blown 69 = .ok (.idiv, 1) := by decide +kernel
theorem dX4_blown_70 : decode cX4_blown 70 = .ok (.iadd, 1) := by decide +kernel
theorem dX4_blown_71 : decode cX4_blown 71 = .ok (.iastore, 1) := by decide +kernel
theorem dX4_blown_72 : decode cX4_blown 72 = .ok (.aload_n 3, 1) := by decide +kernel
theorem dX4_blown_73 : decode cX4_blown 73 = .ok (.iload 6, 2) := by decide +kernel
theorem dX4_blown_75 : decode cX4_blown 75 = .ok (.iconst 4, 1) := by decide +kernel
theorem dX4_blown_76 : decode cX4_blown 76 = .ok (.if_icmp .ne 8, 3) := by decide +kernel
theorem dX4_blown_79 : decode cX4_blown 79 = .ok (.bipush 6, 2) := by decide +kernel
theorem dX4_blown_81 : decode cX4_blown 81 = .ok (.goto 7, 3) := by decide +kernel
theorem dX4_blown_84 : decode cX4_blown 84 = .ok (.iload 6, 2) := by decide +kernel
theorem dX4_blown_86 : decode cX4_blown 86 = .ok (.iconst 1, 1) := by decide +kernel
theorem dX4_blown_87 : decode cX4_blown 87 = .ok (.iadd, 1) := by decide +kernel
theorem dX4_blown_88 : decode cX4_blown 88 = .ok (.aaload, 1) := by decide +kernel
theorem dX4_blown_89 : decode cX4_blown 89 = .ok (.iload 4, 2) := by decide +kernel
theorem dX4_blown_91 : decode cX4_blown 91 = .ok (.dup2, 1) := by decide +kernel
theorem dX4_blown_92 : decode cX4_blown 92 = .ok (.iaload, 1) := by decide +kernel
theorem dX4_blown_93 : decode cX4_blown 93 = .ok (.iload 5, 2) := by decide +kernel
theorem dX4_blown_95 : decode cX4_blown 95 = .ok (.iconst 4, 1) := by decide +kernel
theorem dX4_blown_96 : decode cX4_blown 96 = .ok (.idiv, 1) := by decide +kernel
theorem dX4_blown_97 : decode cX4_blown 97 = .ok (.iadd, 1) := by decide +kernel
theorem dX4_blown_98 : decode cX4_blown 98 = .ok (.iastore, 1) := by decide +kernel
theorem dX4_blown_99 : decode cX4_blown 99 = .ok (.aload_n 3, 1) := by decide +kernel
theorem dX4_blown_100 : decode cX4_blown 100 = .ok (.iload 6, 2) := by decide +kernel
theorem dX4_blown_102 : decode cX4_blown 102 = .ok (.ifCond .ne 7, 3) := by decide +kernel
theorem dX4_blown_105 : decode cX4_blown 105 = .ok (.iconst 5, 1) := by decide +kernel
theorem dX4_blown_106 : decode cX4_blown 106 = .ok (.goto 7, 3) := by decide +kernel
theorem dX4_blown_109 : decode cX4_blown 109 = .ok (.iload 6, 2) := by decide +kernel
theorem dX4_blown_111 : decode cX4_blown 111 = .ok (.iconst 1, 1) := by decide +kernel
theorem dX4_blown_112 : decode cX4_blown 112 = .ok (.isub, 1) := by decide +kernel
theorem dX4_blown_113 : decode cX4_blown 113 = .ok (.aaload, 1) := by decide +kernel
theorem dX4_blown_114 : decode cX4_blown 114 = .ok (.iload 4, 2) := by decide +kernel
theorem dX4_blown_116 : decode cX4_blown 116 = .ok (.dup2, 1) := by decide +kernel
theorem dX4_blown_117 : decode cX4_blown 117 = .ok (.iaload, 1) := by decide +kernel
theorem dX4_blown_118 : decode cX4_blown 118 = .ok (.iload 5, 2) := by decide +kernel
theorem dX4_blown_120 : decode cX4_blown 120 = .ok (.bipush 6, 2) := by decide +kernel
theorem dX4_blown_122 : decode cX4_blown 122 = .ok (.iload 5, 2) := by decide +kernel
theorem dX4_blown_124 : decode cX4_blown 124 = .ok (.imul, 1) := by decide +kernel
theorem dX4_blown_125 : decode cX4_blown 125 = .ok (.bipush 10, 2) := by decide +kernel
theorem dX4_blown_127 : decode cX4_blown 127 = .ok (.idiv, 1) := by decide +kernel
theorem dX4_blown_128 : decode cX4_blown 128 = .ok (.isub, 1) := by decide +kernel
theorem dX4_blown_129 : decode cX4_blown 129 = .ok (.iload 5, 2) := by decide +kernel
theorem dX4_blown_131 : decode cX4_blown 131 = .ok (.iconst 4, 1) := by decide +kernel
theorem dX4_blown_132 : decode cX4_blown 132 = .ok (.idiv, 1) := by decide +kernel
theorem dX4_blown_133 : decode cX4_blown 133 = .ok (.isub, 1) := by decide +kernel
theorem dX4_blown_134 : decode cX4_blown 134 = .ok (.iadd, 1) := by decide +kernel
theorem dX4_blown_135 : decode cX4_blown 135 = .ok (.iastore, 1) := by decide +kernel
theorem dX4_blown_136 : decode cX4_blown 136 = .ok (.iinc 4 1, 3) := by decide +kernel
theorem dX4_blown_139 : decode cX4_blown 139 = .ok (.goto (-127), 3) := by decide +kernel
theorem dX4_blown_142 : decode cX4_blown 142 = .ok (.aload_n 3, 1) := by decide +kernel
theorem dX4_blown_143 : decode cX4_blown 143 = .ok (.areturn, 1) := by decide +kernel
set_option maxRecDepth 20000 in
theorem ggX4_blow_X4_blown : GoodIn wsX4_blow wsX4_blown := goodIn_r _ [9, 10, 11, 3, 12, 13, 14, 15, 16, 21, 22, 23, 24, 25, 26, 27, 28] (by decide +kernel) (by decide +kernel)
set_option maxRecDepth 20000 in
theorem gX4_blow_X4_blown : GoodIn wsX4_blow (wsV RX4 41 RX4 yX4_blown wsX4_blown) := goodIn_app (goodIn_of _ (by decide +kernel)) ggX4_blow_X4_blown
set_option maxRecDepth 20000 in
theorem ggX4_blow_X5_all : GoodIn wsX4_blow wsX5_all := goodIn_r _ [20] (by decide +kernel) (by decide +kernel)
set_option maxRecDepth 20000 in
theorem gX4_blow_X5_all : GoodIn wsX4_blow (va_wsS RX4 48 yX5_all wsX5_all) := goodIn_app (goodIn_of _ (by decide +kernel)) ggX4_blow_X5_all
theorem dX4_blow_0 : decode cX4_blow 0 = .ok (.aload_n 0, 1) := by decide +kernel
theorem dX4_blow_1 : decode cX4_blow 1 = .ok (.iload_n 1, 1) := by decide +kernel
theorem dX4_blow_2 : decode cX4_blow 2 = .ok (.aload_n 0, 1) := by decide +kernel
theorem dX4_blow_3 : decode cX4_blow 3 = .ok (.getfield 18, 3) := by decide +kernel
theorem dX4_blow_6 : decode cX4_blow 6 = .ok (.invokevirtual 41, 3) := by decide +kernel
theorem dX4_blow_9 : decode cX4_blow 9 = .ok (.astore_n 2, 1) := by decide +kernel
theorem dX4_blow_10 : decode cX4_blow 10 = .ok (.iconst 0, 1) := by decide +kernel
theorem dX4_blow_11 : decode cX4_blow 11 = .ok (.istore_n 3, 1) := by decide +kernel
theorem dX4_blow_12 : decode cX4_blow 12 = .ok (.iconst 0, 1) := by decide +kernel
theorem dX4_blow_13 : decode cX4_blow 13 = .ok (.istore 4, 2) := by decide +kernel
theorem dX4_blow_15 : decode cX4_blow 15 = .ok (.iload 4, 2) := by decide +kernel
theorem dX4_blow_17 : decode cX4_blow 17 = .ok (.iconst 5, 1) := by decide +kernel
theorem dX4_blow_18 : decode cX4_blow 18 = .ok (.if_icmp .ge 55, 3) := by decide +kernel
theorem dX4_blow_21 : decode cX4_blow 21 = .ok (.iconst 0, 1) := by decide +kernel
theorem dX4_blow_22 : decode cX4_blow 22 = .ok (.istore 5, 2) := by decide +kernel
theorem dX4_blow_24 : decode cX4_blow 24 = .ok (.iload 5, 2) := by decide +kernel
theorem dX4_blow_26 : decode cX4_blow 26 = .ok (.bipush 6, 2) := by decide +kernel
theorem dX4_blow_28 : decode cX4_blow 28 = .ok (.if_icmp .ge 39, 3) := by decide +kernel
theorem dX4_blow_31 : decode cX4_blow 31 = .ok (.aload_n 0, 1) := by decide +kernel
theorem dX4_blow_32 : decode cX4_blow 32 = .ok (.getfield 23, 3) := by decide +kernel
theorem dX4_blow_35 : decode cX4_blow 35 = .ok (.iload 4, 2) := by decide +kernel
theorem dX4_blow_37 : decode cX4_blow 37 = .ok (.aaload, 1) := by decide +kernel
theorem dX4_blow_38 : decode cX4_blow 38 = .ok (.iload 5, 2) := by decide +kernel
theorem dX4_blow_40 : decode cX4_blow 40 = .ok (.dup2, 1) := by decide +kernel
theorem dX4_blow_41 : decode cX4_blow 41 = .ok (.iaload, 1) := by decide +kernel
theorem dX4_blow_42 : decode cX4_blow 42 = .ok (.aload_n 2, 1) := by decide +kernel
theorem dX4_blow_43 : decode cX4_blow 43 = .ok (.iload 4, 2) := by decide +kernel
theorem dX4_blow_45 : decode cX4_blow 45 = .ok (.aaload, 1) := by decide +kernel
theorem dX4_blow_46 : decode cX4_blow 46 = .ok (.iload 5, 2) := by decide +kernel
theorem dX4_blow_48 : decode cX4_blow 48 = .ok (.iaload, 1) := by decide +kernel
theorem dX4_blow_49 : decode cX4_blow 49 = .ok (.iadd, 1) := by decide +kernel
theorem dX4_blow_50 : decode cX4_blow 50 = .ok (.iastore, 1) := by decide +kernel
theorem dX4_blow_51 : decode cX4_blow 51 = .ok (.iload_n 3, 1) := by decide +kernel
theorem dX4_blow_52 : decode cX4_blow 52 = .ok (.aload_n 2, 1) := by decide +kernel
theorem dX4_blow_53 : decode cX4_blow 53 = .ok (.iload 4, 2) := by decide +kernel
theorem dX4_blow_55 : decode cX4_blow 55 = .ok (.aaload, 1) := by decide +kernel
theorem dX4_blow_56 : decode cX4_blow 56 = .ok (.iload 5, 2) := by decide +kernel
theorem dX4_blow_58 : decode cX4_blow 58 = .ok (.iaload, 1) := by decide +kernel
theorem dX4_blow_59 : decode cX4_blow 59 = .ok (.iadd, 1) := by decide +kernel
theorem dX4_blow_60 : decode cX4_blow 60 = .ok (.istore_n 3, 1) := by decide +kernel
theorem dX4_blow_61 : decode cX4_blow 61 = .ok (.iinc 5 1, 3) := by decide +kernel
theorem dX4_blow_64 : decode cX4_blow 64 = .ok (.goto (-40), 3) := by decide +kernel
theorem dX4_blow_67 : decode cX4_blow 67 = .ok (.iinc 4 1, 3) := by decide +kernel
theorem dX4_blow_70 : decode cX4_blow 70 = .ok (.goto (-55), 3) := by decide +kernel
theorem dX4_blow_73 : decode cX4_blow 73 = .ok (.aload_n 0, 1) := by decide +kernel
theorem dX4_blow_74 : decode cX4_blow 74 = .ok (.getfield 9, 3) := by decide +kernel
theorem dX4_blow_77 : decode cX4_blow 77 = .ok (.iload_n 1, 1) := by decide +kernel
theorem dX4_blow_78 : decode cX4_blow 78 = .ok (.aload_n 2, 1) := by decide +kernel
theorem dX4_blow_79 : decode cX4_blow 79 = .ok (.iconst 5, 1) := by decide +kernel
theorem dX4_blow_80 : decode cX4_blow 80 = .ok (.aaload, 1) := by decide +kernel
theorem dX4_blow_81 : decode cX4_blow 81 = .ok (.aastore, 1) := by decide +kernel
theorem dX4_blow_82 : decode cX4_blow 82 = .ok (.aload_n 0, 1) := by decide +kernel
theorem dX4_blow_83 : decode cX4_blow 83 = .ok (.dup, 1) := by decide +kernel
theorem dX4_blow_84 : decode cX4_blow 84 = .ok (.getfield 45, 3) := by decide +kernel
theorem dX4_blow_87 : decode cX4_blow 87 = .ok (.aload_n 2, 1) := by decide +kernel
theorem dX4_blow_88 : decode cX4_blow 88 = .ok (.bipush 6, 2) := by decide +kernel
theorem dX4_blow_90 : decode cX4_blow 90 = .ok (.aaload, 1) := by decide +kernel
theorem dX4_blow_91 : decode cX4_blow 91 = .ok (.invokestatic 48, 3) := by decide +kernel
theorem dX4_blow_94 : decode cX4_blow 94 = .ok (.iadd, 1) := by decide +kernel
theorem dX4_blow_95 : decode cX4_blow 95 = .ok (.putfield 45, 3) := by decide +kernel
theorem dX4_blow_98 : decode cX4_blow 98 = .ok (.iload_n 3, 1) := by decide +kernel
theorem dX4_blow_99 : decode cX4_blow 99 = .ok (.ireturn, 1) := by decide +kernel
set_option maxRecDepth 20000 in
theorem ggX4_take_X5_all : GoodIn wsX4_take wsX5_all := goodIn_r _ [8] (by decide +kernel) (by decide +kernel)
set_option maxRecDepth 20000 in
theorem gX4_take_X5_all : GoodIn wsX4_take (va_wsS RX4 48 yX5_all wsX5_all) := goodIn_app (goodIn_of _ (by decide +kernel)) ggX4_take_X5_all
theorem dX4_take_0 : decode cX4_take 0 = .ok (.iload_n 2, 1) := by decide +kernel
theorem dX4_take_1 : decode cX4_take 1 = .ok (.aload_n 0, 1) := by decide +kernel
theorem dX4_take_2 : decode cX4_take 2 = .ok (.invokestatic 48, 3) := by decide +kernel
theorem dX4_take_5 : decode cX4_take 5 = .ok (.sipush 300, 3) := by decide +kernel
theorem dX4_take_8 : decode cX4_take 8 = .ok (.aload_n 1, 1) := by decide +kernel
theorem dX4_take_9 : decode cX4_take 9 = .ok (.invokestatic 48, 3) := by decide +kernel
theorem dX4_take_12 : decode cX4_take 12 = .ok (.isub, 1) := by decide +kernel
theorem dX4_take_13 : decode cX4_take 13 = .ok (.invokestatic 35, 3) := by decide +kernel
theorem dX4_take_16 : decode cX4_take 16 = .ok (.invokestatic 35, 3) := by decide +kernel
theorem dX4_take_19 : decode cX4_take 19 = .ok (.istore_n 3, 1) := by decide +kernel
theorem dX4_take_20 : decode cX4_take 20 = .ok (.iload_n 3, 1) := by decide +kernel
theorem dX4_take_21 : decode cX4_take 21 = .ok (.istore 4, 2) := by decide +kernel
theorem dX4_take_23 : decode cX4_take 23 = .ok (.iconst 0, 1) := by decide +kernel
theorem dX4_take_24 : decode cX4_take 24 = .ok (.istore 5, 2) := by decide +kernel
theorem dX4_take_26 : decode cX4_take 26 = .ok (.iload 5, 2) := by decide +kernel
theorem dX4_take_28 : decode cX4_take 28 = .ok (.bipush 6, 2) := by decide +kernel
theorem dX4_take_30 : decode cX4_take 30 = .ok (.if_icmp .ge 45, 3) := by decide +kernel
theorem dX4_take_33 : decode cX4_take 33 = .ok (.iload 4, 2) := by decide +kernel
theorem dX4_take_35 : decode cX4_take 35 = .ok (.aload_n 0, 1) := by decide +kernel
theorem dX4_take_36 : decode cX4_take 36 = .ok (.iload 5, 2) := by decide +kernel
theorem dX4_take_38 : decode cX4_take 38 = .ok (.iaload, 1) := by decide +kernel
theorem dX4_take_39 : decode cX4_take 39 = .ok (.invokestatic 35, 3) := by decide +kernel
theorem dX4_take_42 : decode cX4_take 42 = .ok (.istore 6, 2) := by decide +kernel
theorem dX4_take_44 : decode cX4_take 44 = .ok (.aload_n 0, 1) := by decide +kernel
theorem dX4_take_45 : decode cX4_take 45 = .ok (.iload 5, 2) := by decide +kernel
theorem dX4_take_47 : decode cX4_take 47 = .ok (.dup2, 1) := by decide +kernel
theorem dX4_take_48 : decode cX4_take 48 = .ok (.iaload, 1) := by decide +kernel
theorem dX4_take_49 : decode cX4_take 49 = .ok (.iload 6, 2) := by decide +kernel
theorem dX4_take_51 : decode cX4_take 51 = .ok (.isub, 1) := by decide +kernel
theorem dX4_take_52 : decode cX4_take 52 = .ok (.iastore, 1) := by decide +kernel
theorem dX4_take_53 : decode cX4_take 53 = .ok (.aload_n 1, 1) := by decide +kernel
theorem dX4_take_54 : decode cX4_take 54 = .ok (.iload 5, 2) := by decide +kernel
theorem dX4_take_56 : decode cX4_take 56 = .ok (.dup2, 1) := by decide +kernel
theorem dX4_take_57 : decode cX4_take 57 = .ok (.iaload, 1) := by decide +kernel
theorem dX4_take_58 : decode cX4_take 58 = .ok (.iload 6, 2) := by decide +kernel
theorem dX4_take_60 : decode cX4_take 60 = .ok (.iadd, 1) := by decide +kernel
theorem dX4_take_61 : decode cX4_take 61 = .ok (.iastore, 1) := by decide +kernel
theorem dX4_take_62 : decode cX4_take 62 = .ok (.iload 4, 2) := by decide +kernel
theorem dX4_take_64 : decode cX4_take 64 = .ok (.iload 6, 2) := by decide +kernel
theorem dX4_take_66 : decode cX4_take 66 = .ok (.isub, 1) := by decide +kernel
theorem dX4_take_67 : decode cX4_take 67 = .ok (.istore 4, 2) := by decide +kernel
theorem dX4_take_69 : decode cX4_take 69 = .ok (.iinc 5 1, 3) := by decide +kernel
theorem dX4_take_72 : decode cX4_take 72 = .ok (.goto (-46), 3) := by decide +kernel
theorem dX4_take_75 : decode cX4_take 75 = .ok (.iload_n 3, 1) := by decide +kernel
theorem dX4_take_76 : decode cX4_take 76 = .ok (.ireturn, 1) := by decide +kernel
set_option maxRecDepth 20000 in
theorem ggX4_pass_X5_night : GoodIn wsX4_pass wsX5_night := goodIn_r _ [8, 9, 10, 11, 12, 13, 14, 15, 16, 17, 7, 18, 19, 20, 21, 22, 23, 24, 25, 26, 27, 28, 29, 30, 31, 32, 41, 42, 43, 44, 45] (by decide +kernel) (by decide +kernel)
set_option maxRecDepth 20000 in
theorem gX4_pass_X5_night : GoodIn wsX4_pass (wsV RX4 52 RX5 yX5_night wsX5_night) := goodIn_app (goodIn_of _ (by decide +kernel)) ggX4_pass_X5_night
theorem dX4_pass_0 : decode cX4_pass 0 = .ok (.iconst 0, 1) := by decide +kernel
theorem dX4_pass_1 : decode cX4_pass 1 = .ok (.istore_n 1, 1) := by decide +kernel
theorem dX4_pass_2 : decode cX4_pass 2 = .ok (.aload_n 0, 1) := by decide +kernel
theorem dX4_pass_3 : decode cX4_pass 3 = .ok (.getfield 28, 3) := by decide +kernel
theorem dX4_pass_6 : decode cX4_pass 6 = .ok (.astore_n 2, 1) := by decide +kernel
theorem dX4_pass_7 : decode cX4_pass 7 = .ok (.aload_n 2, 1) := by decide +kernel
theorem dX4_pass_8 : decode cX4_pass 8 = .ok (.arraylength, 1) := by decide +kernel
theorem dX4_pass_9 : decode cX4_pass 9 = .ok (.istore_n 3, 1) := by decide +kernel
theorem dX4_pass_10 : decode cX4_pass 10 = .ok (.iconst 0, 1) := by decide +kernel
theorem dX4_pass_11 : decode cX4_pass 11 = .ok (.istore 4, 2) := by decide +kernel
theorem dX4_pass_13 : decode cX4_pass 13 = .ok (.iload 4, 2) := by decide +kernel
theorem dX4_pass_15 : decode cX4_pass 15 = .ok (.iload_n 3, 1) := by decide +kernel
theorem dX4_pass_16 : decode cX4_pass 16 = .ok (.if_icmp .ge 23, 3) := by decide +kernel
theorem dX4_pass_19 : decode cX4_pass 19 = .ok (.aload_n 2, 1) := by decide +kernel
theorem dX4_pass_20 : decode cX4_pass 20 = .ok (.iload 4, 2) := by decide +kernel
theorem dX4_pass_22 : decode cX4_pass 22 = .ok (.aaload, 1) := by decide +kernel
theorem dX4_pass_23 : decode cX4_pass 23 = .ok (.astore 5, 2) := by decide +kernel
theorem dX4_pass_25 : decode cX4_pass 25 = .ok (.iload_n 1, 1) := by decide +kernel
theorem dX4_pass_26 : decode cX4_pass 26 = .ok (.aload 5, 2) := by decide +kernel
theorem dX4_pass_28 : decode cX4_pass 28 = .ok (.invokevirtual 52, 3) := by decide +kernel
theorem dX4_pass_31 : decode cX4_pass 31 = .ok (.iadd, 1) := by decide +kernel
theorem dX4_pass_32 : decode cX4_pass 32 = .ok (.istore_n 1, 1) := by decide +kernel
theorem dX4_pass_33 : decode cX4_pass 33 = .ok (.iinc 4 1, 3) := by decide +kernel
theorem dX4_pass_36 : decode cX4_pass 36 = .ok (.goto (-23), 3) := by decide +kernel
theorem dX4_pass_39 : decode cX4_pass 39 = .ok (.aload_n 0, 1) := by decide +kernel
theorem dX4_pass_40 : decode cX4_pass 40 = .ok (.dup, 1) := by decide +kernel
theorem dX4_pass_41 : decode cX4_pass 41 = .ok (.getfield 56, 3) := by decide +kernel
theorem dX4_pass_44 : decode cX4_pass 44 = .ok (.iconst 1, 1) := by decide +kernel
theorem dX4_pass_45 : decode cX4_pass 45 = .ok (.iadd, 1) := by decide +kernel
theorem dX4_pass_46 : decode cX4_pass 46 = .ok (.putfield 56, 3) := by decide +kernel
theorem dX4_pass_49 : decode cX4_pass 49 = .ok (.aload_n 0, 1) := by decide +kernel
theorem dX4_pass_50 : decode cX4_pass 50 = .ok (.dup, 1) := by decide +kernel
theorem dX4_pass_51 : decode cX4_pass 51 = .ok (.getfield 59, 3) := by decide +kernel
theorem dX4_pass_54 : decode cX4_pass 54 = .ok (.iload_n 1, 1) := by decide +kernel
theorem dX4_pass_55 : decode cX4_pass 55 = .ok (.iadd, 1) := by decide +kernel
theorem dX4_pass_56 : decode cX4_pass 56 = .ok (.putfield 59, 3) := by decide +kernel
theorem dX4_pass_59 : decode cX4_pass 59 = .ok (.iload_n 1, 1) := by decide +kernel
theorem dX4_pass_60 : decode cX4_pass 60 = .ok (.ireturn, 1) := by decide +kernel
theorem dX5_init_0 : decode cX5_init 0 = .ok (.aload_n 0, 1) := by decide +kernel
theorem dX5_init_1 : decode cX5_init 1 = .ok (.invokespecial 1, 3) := by decide +kernel
theorem dX5_init_4 : decode cX5_init 4 = .ok (.aload_n 0, 1) := by decide +kernel
theorem dX5_init_5 : decode cX5_init 5 = .ok (.iload_n 1, 1) := by decide +kernel
theorem dX5_init_6 : decode cX5_init 6 = .ok (.putfield 7, 3) := by decide +kernel
theorem dX5_init_9 : decode cX5_init 9 = .ok (.aload_n 0, 1) := by decide +kernel
theorem dX5_init_10 : decode cX5_init 10 = .ok (.iload_n 2, 1) := by decide +kernel
theorem dX5_init_11 : decode cX5_init 11 = .ok (.putfield 13, 3) := by decide +kernel
theorem dX5_init_14 : decode cX5_init 14 = .ok (.aload_n 0, 1) := by decide +kernel
theorem dX5_init_15 : decode cX5_init 15 = .ok (.iload_n 3, 1) := by decide +kernel
theorem dX5_init_16 : decode cX5_init 16 = .ok (.putfield 16, 3) := by decide +kernel
theorem dX5_init_19 : decode cX5_init 19 = .ok (.aload_n 0, 1) := by decide +kernel
theorem dX5_init_20 : decode cX5_init 20 = .ok (.iload_n 1, 1) := by decide +kernel
theorem dX5_init_21 : decode cX5_init 21 = .ok (.iload_n 2, 1) := by decide +kernel
theorem dX5_init_22 : decode cX5_init 22 = .ok (.imul, 1) := by decide +kernel
theorem dX5_init_23 : decode cX5_init 23 = .ok (.bipush 6, 2) := by decide +kernel
theorem dX5_init_25 : decode cX5_init 25 = .ok (.multianewarray 19 2, 4) := by decide +kernel
theorem dX5_init_29 : decode cX5_init 29 = .ok (.putfield 21, 3) := by decide +kernel
theorem dX5_init_32 : decode cX5_init 32 = .ok (.aload_n 0, 1) := by decide +kernel
theorem dX5_init_33 : decode cX5_init 33 = .ok (.iload_n 1, 1) := by decide +kernel
theorem dX5_init_34 : decode cX5_init 34 = .ok (.iload_n 2, 1) := by decide +kernel
theorem dX5_init_35 : decode cX5_init 35 = .ok (.imul, 1) := by decide +kernel
theorem dX5_init_36 : decode cX5_init 36 = .ok (.iconst 2, 1) := by decide +kernel
theorem dX5_init_37 : decode cX5_init 37 = .ok (.multianewarray 24 2, 4) := by decide +kernel
theorem dX5_init_41 : decode cX5_init 41 = .ok (.putfield 26, 3) := by decide +kernel
theorem dX5_init_44 : decode cX5_init 44 = .ok (.return_, 1) := by decide +kernel
theorem dX5_has_0 : decode cX5_has 0 = .ok (.iload_n 2, 1) := by decide +kernel
theorem dX5_has_1 : decode cX5_has 1 = .ok (.ifCond .ne 26, 3) := by decide +kernel
theorem dX5_has_4 : decode cX5_has 4 = .ok (.iload_n 1, 1) := by decide +kernel
theorem dX5_has_5 : decode cX5_has 5 = .ok (.aload_n 0, 1) := by decide +kernel
theorem dX5_has_6 : decode cX5_has 6 = .ok (.getfield 7, 3) := by decide +kernel
theorem dX5_has_9 : decode cX5_has 9 = .ok (.irem, 1) := by decide +kernel
theorem dX5_has_10 : decode cX5_has 10 = .ok (.iconst 1, 1) := by decide +kernel
theorem dX5_has_11 : decode cX5_has 11 = .ok (.iadd, 1) := by decide +kernel
theorem dX5_has_12 : decode cX5_has 12 = .ok (.aload_n 0, 1) := by decide +kernel
theorem dX5_has_13 : decode cX5_has 13 = .ok (.getfield 7, 3) := by decide +kernel
theorem dX5_has_16 : decode cX5_has 16 = .ok (.if_icmp .ge 7, 3) := by decide +kernel
theorem dX5_has_19 : decode cX5_has 19 = .ok (.iconst 1, 1) := by decide +kernel
theorem dX5_has_20 : decode cX5_has 20 = .ok (.goto 27, 3) := by decide +kernel
theorem dX5_has_23 : decode cX5_has 23 = .ok (.iconst 0, 1) := by decide +kernel
theorem dX5_has_24 : decode cX5_has 24 = .ok (.goto 23, 3) := by decide +kernel
theorem dX5_has_27 : decode cX5_has 27 = .ok (.iload_n 1, 1) := by decide +kernel
theorem dX5_has_28 : decode cX5_has 28 = .ok (.aload_n 0, 1) := by decide +kernel
theorem dX5_has_29 : decode cX5_has 29 = .ok (.getfield 7, 3) := by decide +kernel
theorem dX5_has_32 : decode cX5_has 32 = .ok (.idiv, 1) := by decide +kernel
theorem dX5_has_33 : decode cX5_has 33 = .ok (.iconst 1, 1) := by decide +kernel
theorem dX5_has_34 : decode cX5_has 34 = .ok (.iadd, 1) := by decide +kernel
theorem dX5_has_35 : decode cX5_has 35 = .ok (.aload_n 0, 1) := by decide +kernel
theorem dX5_has_36 : decode cX5_has 36 = .ok (.getfield 13, 3) := by decide +kernel
theorem dX5_has_39 : decode cX5_has 39 = .ok (.if_icmp .ge 7, 3) := by decide +kernel
theorem dX5_has_42 : decode cX5_has 42 = .ok (.iconst 1, 1) := by decide +kernel
theorem dX5_has_43 : decode cX5_has 43 = .ok (.goto 4, 3) := by decide +kernel
theorem dX5_has_46 : decode cX5_has 46 = .ok (.iconst 0, 1) := by decide +kernel
theorem dX5_has_47 : decode cX5_has 47 = .ok (.ireturn, 1) := by decide +kernel
theorem dX5_to_0 : decode cX5_to 0 = .ok (.iload_n 2, 1) := by decide +kernel
theorem dX5_to_1 : decode cX5_to 1 = .ok (.ifCond .ne 9, 3) := by decide +kernel
theorem dX5_to_4 : decode cX5_to 4 = .ok (.iload_n 1, 1) := by decide +kernel
theorem dX5_to_5 : decode cX5_to 5 = .ok (.iconst 1, 1) := by decide +kernel
theorem dX5_to_6 : decode cX5_to 6 = .ok (.iadd, 1) := by decide +kernel
theorem dX5_to_7 : decode cX5_to 7 = .ok (.goto 9, 3) := by decide +kernel
theorem dX5_to_10 : decode cX5_to 10 = .ok (.iload_n 1, 1) := by decide +kernel
theorem dX5_to_11 : decode cX5_to 11 = .ok (.aload_n 0, 1) := by decide +kernel
theorem dX5_to_12 : decode cX5_to 12 = .ok (.getfield 7, 3) := by decide +kernel
theorem dX5_to_15 : decode cX5_to 15 = .ok (.iadd, 1) := by decide +kernel
theorem dX5_to_16 : decode cX5_to 16 = .ok (.ireturn, 1) := by decide +kernel
set_option maxRecDepth 20000 in
theorem ggX5_isOpen_X5_has : GoodIn wsX5_isOpen wsX5_has := goodIn_r _ [6, 7, 8, 9, 10, 11, 12, 13] (by decide +kernel) (by decide +kernel)
set_option maxRecDepth 20000 in
theorem gX5_isOpen_X5_has : GoodIn wsX5_isOpen (wsV RX5 41 RX5 yX5_has wsX5_has) := goodIn_app (goodIn_of _ (by decide +kernel)) ggX5_isOpen_X5_has
theorem dX5_isOpen_0 : decode cX5_isOpen 0 = .ok (.aload_n 0, 1) := by decide +kernel
theorem dX5_isOpen_1 : decode cX5_isOpen 1 = .ok (.iload_n 1, 1) := by decide +kernel
theorem dX5_isOpen_2 : decode cX5_isOpen 2 = .ok (.iload_n 2, 1) := by decide +kernel
theorem dX5_isOpen_3 : decode cX5_isOpen 3 = .ok (.invokevirtual 41, 3) := by decide +kernel
theorem dX5_isOpen_6 : decode cX5_isOpen 6 = .ok (.ifCond .eq 18, 3) := by decide +kernel
theorem dX5_isOpen_9 : decode cX5_isOpen 9 = .ok (.aload_n 0, 1) := by decide +kernel
theorem dX5_isOpen_10 : decode cX5_isOpen 10 = .ok (.getfield 26, 3) := by decide +kernel
theorem dX5_isOpen_13 : decode cX5_isOpen 13 = .ok (.iload_n 1, 1) := by decide +kernel
theorem dX5_isOpen_14 : decode cX5_isOpen 14 = .ok (.aaload, 1) := by decide +kernel
theorem dX5_isOpen_15 : decode cX5_isOpen 15 = .ok (.iload_n 2, 1) := by decide +kernel
theorem dX5_isOpen_16 : decode cX5_isOpen 16 = .ok (.baload, 1) := by decide +kernel
theorem dX5_isOpen_17 : decode cX5_isOpen 17 = .ok (.ifCond .ne 7, 3) := by decide +kernel
theorem dX5_isOpen_20 : decode cX5_isOpen 20 = .ok (.iconst 1, 1) := by decide +kernel
theorem dX5_isOpen_21 : decode cX5_isOpen 21 = .ok (.goto 4, 3) := by decide +kernel
theorem dX5_isOpen_24 : decode cX5_isOpen 24 = .ok (.iconst 0, 1) := by decide +kernel
theorem dX5_isOpen_25 : decode cX5_isOpen 25 = .ok (.ireturn, 1) := by decide +kernel
set_option maxRecDepth 20000 in
theorem ggX5_open_X5_isOpen : GoodIn wsX5_open wsX5_isOpen := goodIn_r _ [6, 7, 8, 9, 10, 5, 11, 12, 13, 14, 15, 16, 17, 18] (by decide +kernel) (by decide +kernel)
set_option maxRecDepth 20000 in
theorem gX5_open_X5_isOpen : GoodIn wsX5_open (wsV RX5 45 RX5 yX5_isOpen wsX5_isOpen) := goodIn_app (goodIn_of _ (by decide +kernel)) ggX5_open_X5_isOpen
theorem dX5_open_0 : decode cX5_open 0 = .ok (.iconst 0, 1) := by decide +kernel
theorem dX5_open_1 : decode cX5_open 1 = .ok (.istore_n 1, 1) := by decide +kernel
theorem dX5_open_2 : decode cX5_open 2 = .ok (.iconst 0, 1) := by decide +kernel
theorem dX5_open_3 : decode cX5_open 3 = .ok (.istore_n 2, 1) := by decide +kernel
theorem dX5_open_4 : decode cX5_open 4 = .ok (.iload_n 2, 1) := by decide +kernel
theorem dX5_open_5 : decode cX5_open 5 = .ok (.aload_n 0, 1) := by decide +kernel
theorem dX5_open_6 : decode cX5_open 6 = .ok (.getfield 21, 3) := by decide +kernel
theorem dX5_open_9 : decode cX5_open 9 = .ok (.arraylength, 1) := by decide +kernel
theorem dX5_open_10 : decode cX5_open 10 = .ok (.if_icmp .ge 39, 3) := by decide +kernel
theorem dX5_open_13 : decode cX5_open 13 = .ok (.iconst 0, 1) := by decide +kernel
theorem dX5_open_14 : decode cX5_open 14 = .ok (.istore_n 3, 1) := by decide +kernel
theorem dX5_open_15 : decode cX5_open 15 = .ok (.iload_n 3, 1) := by decide +kernel
theorem dX5_open_16 : decode cX5_open 16 = .ok (.iconst 2, 1) := by decide +kernel
theorem dX5_open_17 : decode cX5_open 17 = .ok (.if_icmp .ge 26, 3) := by decide +kernel
theorem dX5_open_20 : decode cX5_open 20 = .ok (.iload_n 1, 1) := by decide +kernel
theorem dX5_open_21 : decode cX5_open 21 = .ok (.aload_n 0, 1) := by decide +kernel
theorem dX5_open_22 : decode cX5_open 22 = .ok (.iload_n 2, 1) := by decide +kernel
theorem dX5_open_23 : decode cX5_open 23 = .ok (.iload_n 3, 1) := by decide +kernel
theorem dX5_open_24 : decode cX5_open 24 = .ok (.invokevirtual 45, 3) := by decide +kernel
theorem dX5_open_27 : decode cX5_open 27 = .ok (.ifCond .eq 7, 3) := by decide +kernel
theorem dX5_open_30 : decode cX5_open 30 = .ok (.iconst 1, 1) := by decide +kernel
theorem dX5_open_31 : decode cX5_open 31 = .ok (.goto 4, 3) := by decide +kernel
theorem dX5_open_34 : decode cX5_open 34 = .ok (.iconst 0, 1) := by decide +kernel
theorem dX5_open_35 : decode cX5_open 35 = .ok (.iadd, 1) := by decide +kernel
theorem dX5_open_36 : decode cX5_open 36 = .ok (.istore_n 1, 1) := by decide +kernel
theorem dX5_open_37 : decode cX5_open 37 = .ok (.iinc 3 1, 3) := by decide +kernel
theorem dX5_open_40 : decode cX5_open 40 = .ok (.goto (-25), 3) := by decide +kernel
theorem dX5_open_43 : decode cX5_open 43 = .ok (.iinc 2 1, 3) := by decide +kernel
theorem dX5_open_46 : decode cX5_open 46 = .ok (.goto (-42), 3) := by decide +kernel
theorem dX5_open_49 : decode cX5_open 49 = .ok (.iload_n 1, 1) := by decide +kernel
theorem dX5_open_50 : decode cX5_open 50 = .ok (.ireturn, 1) := by decide +kernel
theorem dX5_all_0 : decode cX5_all 0 = .ok (.iconst 0, 1) := by decide +kernel
theorem dX5_all_1 : decode cX5_all 1 = .ok (.istore_n 1, 1) := by decide +kernel
theorem dX5_all_2 : decode cX5_all 2 = .ok (.aload_n 0, 1) := by decide +kernel
theorem dX5_all_3 : decode cX5_all 3 = .ok (.astore_n 2, 1) := by decide +kernel
theorem dX5_all_4 : decode cX5_all 4 = .ok (.aload_n 2, 1) := by decide +kernel
theorem dX5_all_5 : decode cX5_all 5 = .ok (.arraylength, 1) := by decide +kernel
theorem dX5_all_6 : decode cX5_all 6 = .ok (.istore_n 3, 1) := by decide +kernel
theorem dX5_all_7 : decode cX5_all 7 = .ok (.iconst 0, 1) := by decide +kernel
theorem dX5_all_8 : decode cX5_all 8 = .ok (.istore 4, 2) := by decide +kernel
theorem dX5_all_10 : decode cX5_all 10 = .ok (.iload 4, 2) := by decide +kernel
theorem dX5_all_12 : decode cX5_all 12 = .ok (.iload_n 3, 1) := by decide +kernel
theorem dX5_all_13 : decode cX5_all 13 = .ok (.if_icmp .ge 20, 3) := by decide +kernel
theorem dX5_all_16 : decode cX5_all 16 = .ok (.aload_n 2, 1) := by decide +kernel
theorem dX5_all_17 : decode cX5_all 17 = .ok (.iload 4, 2) := by decide +kernel
theorem dX5_all_19 : decode cX5_all 19 = .ok (.iaload, 1) := by decide +kernel
theorem dX5_all_20 : decode cX5_all 20 = .ok (.istore 5, 2) := by decide +kernel
theorem dX5_all_22 : decode cX5_all 22 = .ok (.iload_n 1, 1) := by decide +kernel
theorem dX5_all_23 : decode cX5_all 23 = .ok (.iload 5, 2) := by decide +kernel
theorem dX5_all_25 : decode cX5_all 25 = .ok (.iadd, 1) := by decide +kernel
theorem dX5_all_26 : decode cX5_all 26 = .ok (.istore_n 1, 1) := by decide +kernel
theorem dX5_all_27 : decode cX5_all 27 = .ok (.iinc 4 1, 3) := by decide +kernel
theorem dX5_all_30 : decode cX5_all 30 = .ok (.goto (-20), 3) := by decide +kernel
theorem dX5_all_33 : decode cX5_all 33 = .ok (.iload_n 1, 1) := by decide +kernel
theorem dX5_all_34 : decode cX5_all 34 = .ok (.ireturn, 1) := by decide +kernel
set_option maxRecDepth 20000 in
theorem ggX5_night_X5_isOpen : GoodIn wsX5_night wsX5_isOpen := goodIn_r _ [11, 12, 13, 14, 15, 10, 16, 17, 18, 26, 27, 28, 29, 30] (by decide +kernel) (by decide +kernel)
set_option maxRecDepth 20000 in
theorem gX5_night_X5_isOpen : GoodIn wsX5_night (wsV RX5 45 RX5 yX5_isOpen wsX5_isOpen) := goodIn_app (goodIn_of _ (by decide +kernel)) ggX5_night_X5_isOpen
set_option maxRecDepth 20000 in
theorem ggX5_night_X5_to : GoodIn wsX5_night wsX5_to := goodIn_r _ [22, 17, 26, 27, 28, 29, 30] (by decide +kernel) (by decide +kernel)
set_option maxRecDepth 20000 in
theorem gX5_night_X5_to : GoodIn wsX5_night (wsV RX5 52 RX5 yX5_to wsX5_to) := goodIn_app (goodIn_of _ (by decide +kernel)) ggX5_night_X5_to
set_option maxRecDepth 20000 in
theorem ggX5_night_X5_all : GoodIn wsX5_night wsX5_all := goodIn_r _ [25] (by decide +kernel) (by decide +kernel)
set_option maxRecDepth 20000 in
theorem gX5_night_X5_all : GoodIn wsX5_night (va_wsS RX5 60 yX5_all wsX5_all) := goodIn_app (goodIn_of _ (by decide +kernel)) ggX5_night_X5_all
theorem dX5_night_0 : decode cX5_night 0 = .ok (.iconst 0, 1) := by decide +kernel
theorem dX5_night_1 : decode cX5_night 1 = .ok (.istore_n 1, 1) := by decide +kernel
theorem dX5_night_2 : decode cX5_night 2 = .ok (.aload_n 0, 1) := by decide +kernel
theorem dX5_night_3 : decode cX5_night 3 = .ok (.getfield 21, 3) := by decide +kernel
theorem dX5_night_6 : decode cX5_night 6 = .ok (.astore_n 2, 1) := by decide +kernel
theorem dX5_night_7 : decode cX5_night 7 = .ok (.aload_n 2, 1) := by decide +kernel
theorem dX5_night_8 : decode cX5_night 8 = .ok (.arraylength, 1) := by decide +kernel
theorem dX5_night_9 : decode cX5_night 9 = .ok (.istore_n 3, 1) := by decide +kernel
theorem dX5_night_10 : decode cX5_night 10 = .ok (.iconst 0, 1) := by decide +kernel
theorem dX5_night_11 : decode cX5_night 11 = .ok (.istore 4, 2) := by decide +kernel
theorem dX5_night_13 : decode cX5_night 13 = .ok (.iload 4, 2) := by decide +kernel
theorem dX5_night_15 : decode cX5_night 15 = .ok (.iload_n 3, 1) := by decide +kernel
theorem dX5_night_16 : decode cX5_night 16 = .ok (.if_icmp .ge 82, 3) := by decide +kernel
theorem dX5_night_19 : decode cX5_night 19 = .ok (.aload_n 2, 1) := by decide +kernel
theorem dX5_night_20 : decode cX5_night 20 = .ok (.iload 4, 2) := by decide +kernel
theorem dX5_night_22 : decode cX5_night 22 = .ok (.aaload, 1) := by decide +kernel
theorem dX5_night_23 : decode cX5_night 23 = .ok (.astore 5, 2) := by decide +kernel
theorem dX5_night_25 : decode cX5_night 25 = .ok (.iconst 1, 1) := by decide +kernel
theorem dX5_night_26 : decode cX5_night 26 = .ok (.istore 6, 2) := by decide +kernel
theorem dX5_night_28 : decode cX5_night 28 = .ok (.iload 6, 2) := by decide +kernel
theorem dX5_night_30 : decode cX5_night 30 = .ok (.bipush 6, 2) := by decide +kernel
theorem dX5_night_32 : decode cX5_night 32 = .ok (.if_icmp .ge 60, 3) := by decide +kernel
theorem dX5_night_35 : decode cX5_night 35 = .ok (.iload 6, 2) := by decide +kernel
theorem dX5_night_37 : decode cX5_night 37 = .ok (.iload 6, 2) := by decide +kernel
theorem dX5_night_39 : decode cX5_night 39 = .ok (.iadd, 1) := by decide +kernel
theorem dX5_night_40 : decode cX5_night 40 = .ok (.aload_n 0, 1) := by decide +kernel
theorem dX5_night_41 : decode cX5_night 41 = .ok (.getfield 16, 3) := by decide +kernel
theorem dX5_night_44 : decode cX5_night 44 = .ok (.if_icmp .gt 6, 3) := by decide +kernel
theorem dX5_night_47 : decode cX5_night 47 = .ok (.goto 39, 3) := by decide +kernel
theorem dX5_night_50 : decode cX5_night 50 = .ok (.aload 5, 2) := by decide +kernel
theorem dX5_night_52 : decode cX5_night 52 = .ok (.iload 6, 2) := by decide +kernel
theorem dX5_night_54 : decode cX5_night 54 = .ok (.iaload, 1) := by decide +kernel
theorem dX5_night_55 : decode cX5_night 55 = .ok (.iload 6, 2) := by decide +kernel
theorem dX5_night_57 : decode cX5_night 57 = .ok (.iload 6, 2) := by decide +kernel
theorem dX5_night_59 : decode cX5_night 59 = .ok (.iadd, 1) := by decide +kernel
theorem dX5_night_60 : decode cX5_night 60 = .ok (.aload_n 0, 1) := by decide +kernel
theorem dX5_night_61 : decode cX5_night 61 = .ok (.getfield 16, 3) := by decide +kernel
theorem dX5_night_64 : decode cX5_night 64 = .ok (.isub, 1) := by decide +kernel
theorem dX5_night_65 : decode cX5_night 65 = .ok (.imul, 1) := by decide +kernel
theorem dX5_night_66 : decode cX5_night 66 = .ok (.bipush 30, 2) := by decide +kernel
theorem dX5_night_68 : decode cX5_night 68 = .ok (.idiv, 1) := by decide +kernel
theorem dX5_night_69 : decode cX5_night 69 = .ok (.istore 7, 2) := by decide +kernel
theorem dX5_night_71 : decode cX5_night 71 = .ok (.aload 5, 2) := by decide +kernel
theorem dX5_night_73 : decode cX5_night 73 = .ok (.iload 6, 2) := by decide +kernel
theorem dX5_night_75 : decode cX5_night 75 = .ok (.dup2, 1) := by decide +kernel
theorem dX5_night_76 : decode cX5_night 76 = .ok (.iaload, 1) := by decide +kernel
theorem dX5_night_77 : decode cX5_night 77 = .ok (.iload 7, 2) := by decide +kernel
theorem dX5_night_79 : decode cX5_night 79 = .ok (.isub, 1) := by decide +kernel
theorem dX5_night_80 : decode cX5_night 80 = .ok (.iastore, 1) := by decide +kernel
theorem dX5_night_81 : decode cX5_night 81 = .ok (.iload_n 1, 1) := by decide +kernel
theorem dX5_night_82 : decode cX5_night 82 = .ok (.iload 7, 2) := by decide +kernel
theorem dX5_night_84 : decode cX5_night 84 = .ok (.iadd, 1) := by decide +kernel
theorem dX5_night_85 : decode cX5_night 85 = .ok (.istore_n 1, 1) := by decide +kernel
theorem dX5_night_86 : decode cX5_night 86 = .ok (.iinc 6 1, 3) := by decide +kernel
theorem dX5_night_89 : decode cX5_night 89 = .ok (.goto (-61), 3) := by decide +kernel
theorem dX5_night_92 : decode cX5_night 92 = .ok (.iinc 4 1, 3) := by decide +kernel
theorem dX5_night_95 : decode cX5_night 95 = .ok (.goto (-82), 3) := by decide +kernel
theorem dX5_night_98 : decode cX5_night 98 = .ok (.iconst 0, 1) := by decide +kernel
theorem dX5_night_99 : decode cX5_night 99 = .ok (.istore_n 2, 1) := by decide +kernel
theorem dX5_night_100 : decode cX5_night 100 = .ok (.iload_n 2, 1) := by decide +kernel
theorem dX5_night_101 : decode cX5_night 101 = .ok (.aload_n 0, 1) := by decide +kernel
theorem dX5_night_102 : decode cX5_night 102 = .ok (.getfield 21, 3) := by decide +kernel
theorem dX5_night_105 : decode cX5_night 105 = .ok (.arraylength, 1) := by decide +kernel
theorem dX5_night_106 : decode cX5_night 106 = .ok (.if_icmp .ge 157, 3) := by decide +kernel
theorem dX5_night_109 : decode cX5_night 109 = .ok (.iconst 0, 1) := by decide +kernel
theorem dX5_night_110 : decode cX5_night 110 = .ok (.istore_n 3, 1) := by decide +kernel
theorem dX5_night_111 : decode cX5_night 111 = .ok (.iload_n 3, 1) := by decide +kernel
theorem dX5_night_112 : decode cX5_night 112 = .ok (.iconst 2, 1) := by decide +kernel
theorem dX5_night_113 : decode cX5_night 113 = .ok (.if_icmp .ge 144, 3) := by decide +kernel
theorem dX5_night_116 : decode cX5_night 116 = .ok (.aload_n 0, 1) := by decide +kernel
theorem dX5_night_117 : decode cX5_night 117 = .ok (.iload_n 2, 1) := by decide +kernel
theorem dX5_night_118 : decode cX5_night 118 = .ok (.iload_n 3, 1) := by decide +kernel
theorem dX5_night_119 : decode cX5_night 119 = .ok (.invokevirtual 45, 3) := by decide +kernel
theorem dX5_night_122 : decode cX5_night 122 = .ok (.ifCond .ne 6, 3) := by decide +kernel
theorem dX5_night_125 : decode cX5_night 125 = .ok (.goto 126, 3) := by decide +kernel
theorem dX5_night_128 : decode cX5_night 128 = .ok (.aload_n 0, 1) := by decide +kernel
theorem dX5_night_129 : decode cX5_night 129 = .ok (.getfield 21, 3) := by decide +kernel
theorem dX5_night_132 : decode cX5_night 132 = .ok (.iload_n 2, 1) := by decide +kernel
theorem dX5_night_133 : decode cX5_night 133 = .ok (.aaload, 1) := by decide +kernel
theorem dX5_night_134 : decode cX5_night 134 = .ok (.astore 4, 2) := by decide +kernel
theorem dX5_night_136 : decode cX5_night 136 = .ok (.aload_n 0, 1) := by decide +kernel
theorem dX5_night_137 : decode cX5_night 137 = .ok (.getfield 21, 3) := by decide +kernel
theorem dX5_night_140 : decode cX5_night 140 = .ok (.aload_n 0, 1) := by decide +kernel
theorem dX5_night_141 : decode cX5_night 141 = .ok (.iload_n 2, 1) := by decide +kernel
theorem dX5_night_142 : decode cX5_night 142 = .ok (.iload_n 3, 1) := by decide +kernel
theorem dX5_night_143 : decode cX5_night 143 = .ok (.invokevirtual 52, 3) := by decide +kernel
theorem dX5_night_146 : decode cX5_night 146 = .ok (.aaload, 1) := by decide +kernel
theorem dX5_night_147 : decode cX5_night 147 = .ok (.astore 5, 2) := by decide +kernel
theorem dX5_night_149 : decode cX5_night 149 = .ok (.aload 4, 2) := by decide +kernel
theorem dX5_night_151 : decode cX5_night 151 = .ok (.invokestatic 60, 3) := by decide +kernel
theorem dX5_night_154 : decode cX5_night 154 = .ok (.aload 5, 2) := by decide +kernel
theorem dX5_night_156 : decode cX5_night 156 = .ok (.invokestatic 60, 3) := by decide +kernel
theorem dX5_night_159 : decode cX5_night 159 = .ok (.if_icmp .ge 15, 3) := by decide +kernel
theorem dX5_night_162 : decode cX5_night 162 = .ok (.aload 4, 2) := by decide +kernel
theorem dX5_night_164 : decode cX5_night 164 = .ok (.astore 6, 2) := by decide +kernel
theorem dX5_night_166 : decode cX5_night 166 = .ok (.aload 5, 2) := by decide +kernel
theorem dX5_night_168 : decode cX5_night 168 = .ok (.astore 4, 2) := by decide +kernel
theorem dX5_night_170 : decode cX5_night 170 = .ok (.aload 6, 2) := by decide +kernel
theorem dX5_night_172 : decode cX5_night 172 = .ok (.astore 5, 2) := by decide +kernel
theorem dX5_night_174 : decode cX5_night 174 = .ok (.aload 4, 2) := by decide +kernel
theorem dX5_night_176 : decode cX5_night 176 = .ok (.invokestatic 60, 3) := by decide +kernel
theorem dX5_night_179 : decode cX5_night 179 = .ok (.aload 5, 2) := by decide +kernel
theorem dX5_night_181 : decode cX5_night 181 = .ok (.invokestatic 60, 3) := by decide +kernel
theorem dX5_night_184 : decode cX5_night 184 = .ok (.isub, 1) := by decide +kernel
theorem dX5_night_185 : decode cX5_night 185 = .ok (.bipush 8, 2) := by decide +kernel
theorem dX5_night_187 : decode cX5_night 187 = .ok (.idiv, 1) := by decide +kernel
theorem dX5_night_188 : decode cX5_night 188 = .ok (.istore 6, 2) := by decide +kernel
theorem dX5_night_190 : decode cX5_night 190 = .ok (.iload 6, 2) := by decide +kernel
theorem dX5_night_192 : decode cX5_night 192 = .ok (.aload 4, 2) := by decide +kernel
theorem dX5_night_194 : decode cX5_night 194 = .ok (.iconst 0, 1) := by decide +kernel
theorem dX5_night_195 : decode cX5_night 195 = .ok (.iaload, 1) := by decide +kernel
theorem dX5_night_196 : decode cX5_night 196 = .ok (.invokestatic 63, 3) := by decide +kernel
theorem dX5_night_199 : decode cX5_night 199 = .ok (.istore 7, 2) := by decide +kernel
theorem dX5_night_201 : decode cX5_night 201 = .ok (.iload 6, 2) := by decide +kernel
theorem dX5_night_203 : decode cX5_night 203 = .ok (.iload 7, 2) := by decide +kernel
theorem dX5_night_205 : decode cX5_night 205 = .ok (.isub, 1) := by decide +kernel
theorem dX5_night_206 : decode cX5_night 206 = .ok (.aload 4, 2) := by decide +kernel
theorem dX5_night_208 : decode cX5_night 208 = .ok (.iconst 1, 1) := by decide +kernel
theorem dX5_night_209 : decode cX5_night 209 = .ok (.iaload, 1) := by decide +kernel
theorem dX5_night_210 : decode cX5_night 210 = .ok (.invokestatic 63, 3) := by decide +kernel
theorem dX5_night_213 : decode cX5_night 213 = .ok (.istore 8, 2) := by decide +kernel
theorem dX5_night_215 : decode cX5_night 215 = .ok (.aload 4, 2) := by decide +kernel
theorem dX5_night_217 : decode cX5_night 217 = .ok (.iconst 0, 1) := by decide +kernel
theorem dX5_night_218 : decode cX5_night 218 = .ok (.dup2, 1) := by decide +kernel
theorem dX5_night_219 : decode cX5_night 219 = .ok (.iaload, 1) := by decide +kernel
theorem dX5_night_220 : decode cX5_night 220 = .ok (.iload 7, 2) := by decide +kernel
theorem dX5_night_222 : decode cX5_night 222 = .ok (.isub, 1) := by decide +kernel
theorem dX5_night_223 : decode cX5_night 223 = .ok (.iastore, 1) := by decide +kernel
theorem dX5_night_224 : decode cX5_night 224 = .ok (.aload 5, 2) := by decide +kernel
theorem dX5_night_226 : decode cX5_night 226 = .ok (.iconst 0, 1) := by decide +kernel
theorem dX5_night_227 : decode cX5_night 227 = .ok (.dup2, 1) := by decide +kernel
theorem dX5_night_228 : decode cX5_night 228 = .ok (.iaload, 1) := by decide +kernel
theorem dX5_night_229 : decode cX5_night 229 = .ok (.iload 7, 2) := by decide +kernel
theorem dX5_night_231 : decode cX5_night 231 = .ok (.iadd, 1) := by decide +kernel
theorem dX5_night_232 : decode cX5_night 232 = .ok (.iastore, 1) := by decide +kernel
theorem dX5_night_233 : decode cX5_night 233 = .ok (.aload 4, 2) := by decide +kernel
theorem dX5_night_235 : decode cX5_night 235 = .ok (.iconst 1, 1) := by decide +kernel
theorem dX5_night_236 : decode cX5_night 236 = .ok (.dup2, 1) := by decide +kernel
theorem dX5_night_237 : decode cX5_night 237 = .ok (.iaload, 1) := by decide +kernel
theorem dX5_night_238 : decode cX5_night 238 = .ok (.iload 8, 2) := by decide +kernel
theorem dX5_night_240 : decode cX5_night 240 = .ok (.isub, 1) := by decide +kernel
theorem dX5_night_241 : decode cX5_night 241 = .ok (.iastore, 1) := by decide +kernel
theorem dX5_night_242 : decode cX5_night 242 = .ok (.aload 5, 2) := by decide +kernel
theorem dX5_night_244 : decode cX5_night 244 = .ok (.iconst 1, 1) := by decide +kernel
theorem dX5_night_245 : decode cX5_night 245 = .ok (.dup2, 1) := by decide +kernel
theorem dX5_night_246 : decode cX5_night 246 = .ok (.iaload, 1) := by decide +kernel
theorem dX5_night_247 : decode cX5_night 247 = .ok (.iload 8, 2) := by decide +kernel
theorem dX5_night_249 : decode cX5_night 249 = .ok (.iadd, 1) := by decide +kernel
theorem dX5_night_250 : decode cX5_night 250 = .ok (.iastore, 1) := by decide +kernel
theorem dX5_night_251 : decode cX5_night 251 = .ok (.iinc 3 1, 3) := by decide +kernel
theorem dX5_night_254 : decode cX5_night 254 = .ok (.goto (-143), 3) := by decide +kernel
theorem dX5_night_257 : decode cX5_night 257 = .ok (.iinc 2 1, 3) := by decide +kernel
theorem dX5_night_260 : decode cX5_night 260 = .ok (.goto (-160), 3) := by decide +kernel
theorem dX5_night_263 : decode cX5_night 263 = .ok (.iload_n 1, 1) := by decide +kernel
theorem dX5_night_264 : decode cX5_night 264 = .ok (.ireturn, 1) := by decide +kernel
end
section
theorem dJ9_max_7cf53_0 : decode cJ9_max_7cf53 0 = .ok (.iload_n 0, 1) := by decide +kernel
theorem dJ9_max_7cf53_1 : decode cJ9_max_7cf53 1 = .ok (.iload_n 1, 1) := by decide +kernel
theorem dJ9_max_7cf53_2 : decode cJ9_max_7cf53 2 = .ok (.if_icmp .lt 7, 3) := by decide +kernel
theorem dJ9_max_7cf53_5 : decode cJ9_max_7cf53 5 = .ok (.iload_n 0, 1) := by decide +kernel
theorem dJ9_max_7cf53_6 : decode cJ9_max_7cf53 6 = .ok (.goto 4, 3) := by decide +kernel
theorem dJ9_max_7cf53_9 : decode cJ9_max_7cf53 9 = .ok (.iload_n 1, 1) := by decide +kernel
theorem dJ9_max_7cf53_10 : decode cJ9_max_7cf53 10 = .ok (.ireturn, 1) := by decide +kernel
theorem dJ9_min_7cf53_0 : decode cJ9_min_7cf53 0 = .ok (.iload_n 0, 1) := by decide +kernel
theorem dJ9_min_7cf53_1 : decode cJ9_min_7cf53 1 = .ok (.iload_n 1, 1) := by decide +kernel
theorem dJ9_min_7cf53_2 : decode cJ9_min_7cf53 2 = .ok (.if_icmp .gt 7, 3) := by decide +kernel
theorem dJ9_min_7cf53_5 : decode cJ9_min_7cf53 5 = .ok (.iload_n 0, 1) := by decide +kernel
theorem dJ9_min_7cf53_6 : decode cJ9_min_7cf53 6 = .ok (.goto 4, 3) := by decide +kernel
theorem dJ9_min_7cf53_9 : decode cJ9_min_7cf53 9 = .ok (.iload_n 1, 1) := by decide +kernel
theorem dJ9_min_7cf53_10 : decode cJ9_min_7cf53 10 = .ok (.ireturn, 1) := by decide +kernel
theorem dJxa1e45_init_da8c8_0 : decode cJxa1e45_init_da8c8 0 = .ok (.aload_n 0, 1) := by decide +kernel
theorem dJxa1e45_init_da8c8_1 : decode cJxa1e45_init_da8c8 1 = .ok (.invokespecial 1, 3) := by decide +kernel
theorem dJxa1e45_init_da8c8_4 : decode cJxa1e45_init_da8c8 4 = .ok (.return_, 1) := by decide +kernel
set_option maxRecDepth 20000 in
theorem ggJxc12de_init_da8c8_Jxa1e45_init_da8c8 : GoodIn wsJxc12de_init_da8c8 wsJxa1e45_init_da8c8 := goodIn_r _ [5, 6, 7, 8] (by decide +kernel) (by decide +kernel)
set_option maxRecDepth 20000 in
theorem gJxc12de_init_da8c8_Jxa1e45_init_da8c8 : GoodIn wsJxc12de_init_da8c8 (wsJxa1e45_init_da8c8) := ggJxc12de_init_da8c8_Jxa1e45_init_da8c8
theorem dJxc12de_init_da8c8_0 : decode cJxc12de_init_da8c8 0 = .ok (.aload_n 0, 1) := by decide +kernel
theorem dJxc12de_init_da8c8_1 : decode cJxc12de_init_da8c8 1 = .ok (.invokespecial 1, 3) := by decide +kernel
theorem dJxc12de_init_da8c8_4 : decode cJxc12de_init_da8c8 4 = .ok (.aload_n 0, 1) := by decide +kernel
theorem dJxc12de_init_da8c8_5 : decode cJxc12de_init_da8c8 5 = .ok (.iconst 0, 1) := by decide +kernel
theorem dJxc12de_init_da8c8_6 : decode cJxc12de_init_da8c8 6 = .ok (.putfield 7, 3) := by decide +kernel
theorem dJxc12de_init_da8c8_9 : decode cJxc12de_init_da8c8 9 = .ok (.return_, 1) := by decide +kernel
set_option maxRecDepth 20000 in
theorem ggJx4a65c_init_da8c8_Jxc12de_init_da8c8 : GoodIn wsJx4a65c_init_da8c8 wsJxc12de_init_da8c8 := goodIn_r _ [6, 7, 8, 9, 10, 11, 12, 13, 14, 15, 16, 17] (by decide +kernel) (by decide +kernel)
set_option maxRecDepth 20000 in
theorem gJx4a65c_init_da8c8_Jxc12de_init_da8c8 : GoodIn wsJx4a65c_init_da8c8 (wsJxc12de_init_da8c8) := ggJx4a65c_init_da8c8_Jxc12de_init_da8c8
theorem dJx4a65c_init_da8c8_0 : decode cJx4a65c_init_da8c8 0 = .ok (.aload_n 0, 1) := by decide +kernel
theorem dJx4a65c_init_da8c8_1 : decode cJx4a65c_init_da8c8 1 = .ok (.invokespecial 1, 3) := by decide +kernel
theorem dJx4a65c_init_da8c8_4 : decode cJx4a65c_init_da8c8 4 = .ok (.aload_n 0, 1) := by decide +kernel
theorem dJx4a65c_init_da8c8_5 : decode cJx4a65c_init_da8c8 5 = .ok (.getstatic 39, 3) := by decide +kernel
theorem dJx4a65c_init_da8c8_8 : decode cJx4a65c_init_da8c8 8 = .ok (.putfield 9, 3) := by decide +kernel
theorem dJx4a65c_init_da8c8_11 : decode cJx4a65c_init_da8c8 11 = .ok (.return_, 1) := by decide +kernel
set_option maxRecDepth 20000 in
theorem ggJx4a65c_grow_92f84_J8_newLength_cabcc : GoodIn wsJx4a65c_grow_92f84 wsJ8_newLength_cabcc := goodIn_r _ [11, 12, 4, 5, 6, 13, 14, 15, 10, 16] (by decide +kernel) (by decide +kernel)
set_option maxRecDepth 20000 in
theorem gJx4a65c_grow_92f84_J8_newLength_cabcc : GoodIn wsJx4a65c_grow_92f84 (va_wsS RJx4a65c 73 yJ8_newLength_cabcc wsJ8_newLength_cabcc) := goodIn_app (goodIn_of _ (by decide +kernel)) ggJx4a65c_grow_92f84_J8_newLength_cabcc
set_option maxRecDepth 20000 in
theorem ggJx4a65c_grow_92f84_J7_copyOf_1904c : GoodIn wsJx4a65c_grow_92f84 wsJ7_copyOf_1904c := goodIn_r _ [20, 21, 22, 23, 24, 25, 26, 19, 27, 28, 29, 30, 31, 5, 32, 33, 34, 35, 36] (by decide +kernel) (by decide +kernel)
set_option maxRecDepth 20000 in
theorem gJx4a65c_grow_92f84_J7_copyOf_1904c : GoodIn wsJx4a65c_grow_92f84 (va_wsS RJx4a65c 66 yJ7_copyOf_1904c wsJ7_copyOf_1904c) := goodIn_app (goodIn_of _ (by decide +kernel)) ggJx4a65c_grow_92f84_J7_copyOf_1904c
theorem dJx4a65c_grow_92f84_0 : decode cJx4a65c_grow_92f84 0 = .ok (.aload_n 0, 1) := by decide +kernel
theorem dJx4a65c_grow_92f84_1 : decode cJx4a65c_grow_92f84 1 = .ok (.getfield 9, 3) := by decide +kernel
theorem dJx4a65c_grow_92f84_4 : decode cJx4a65c_grow_92f84 4 = .ok (.arraylength, 1) := by decide +kernel
theorem dJx4a65c_grow_92f84_5 : decode cJx4a65c_grow_92f84 5 = .ok (.istore_n 2, 1) := by decide +kernel
theorem dJx4a65c_grow_92f84_6 : decode cJx4a65c_grow_92f84 6 = .ok (.iload_n 2, 1) := by decide +kernel
theorem dJx4a65c_grow_92f84_7 : decode cJx4a65c_grow_92f84 7 = .ok (.ifCond .gt 13, 3) := by decide +kernel
theorem dJx4a65c_grow_92f84_10 : decode cJx4a65c_grow_92f84 10 = .ok (.aload_n 0, 1) := by decide +kernel
theorem dJx4a65c_grow_92f84_11 : decode cJx4a65c_grow_92f84 11 = .ok (.getfield 9, 3) := by decide +kernel
theorem dJx4a65c_grow_92f84_14 : decode cJx4a65c_grow_92f84 14 = .ok (.getstatic 39, 3) := by decide +kernel
theorem dJx4a65c_grow_92f84_17 : decode cJx4a65c_grow_92f84 17 = .ok (.if_acmp .eq 28, 3) := by decide +kernel
theorem dJx4a65c_grow_92f84_20 : decode cJx4a65c_grow_92f84 20 = .ok (.iload_n 2, 1) := by decide +kernel
theorem dJx4a65c_grow_92f84_21 : decode cJx4a65c_grow_92f84 21 = .ok (.iload_n 1, 1) := by decide +kernel
theorem dJx4a65c_grow_92f84_22 : decode cJx4a65c_grow_92f84 22 = .ok (.iload_n 2, 1) := by decide +kernel
theorem dJx4a65c_grow_92f84_23 : decode cJx4a65c_grow_92f84 23 = .ok (.isub, 1) := by decide +kernel
theorem dJx4a65c_grow_92f84_24 : decode cJx4a65c_grow_92f84 24 = .ok (.iload_n 2, 1) := by decide +kernel
theorem dJx4a65c_grow_92f84_25 : decode cJx4a65c_grow_92f84 25 = .ok (.iconst 1, 1) := by decide +kernel
theorem dJx4a65c_grow_92f84_26 : decode cJx4a65c_grow_92f84 26 = .ok (.ishr, 1) := by decide +kernel
theorem dJx4a65c_grow_92f84_27 : decode cJx4a65c_grow_92f84 27 = .ok (.invokestatic 73, 3) := by decide +kernel
theorem dJx4a65c_grow_92f84_30 : decode cJx4a65c_grow_92f84 30 = .ok (.istore_n 3, 1) := by decide +kernel
theorem dJx4a65c_grow_92f84_31 : decode cJx4a65c_grow_92f84 31 = .ok (.aload_n 0, 1) := by decide +kernel
theorem dJx4a65c_grow_92f84_32 : decode cJx4a65c_grow_92f84 32 = .ok (.aload_n 0, 1) := by decide +kernel
theorem dJx4a65c_grow_92f84_33 : decode cJx4a65c_grow_92f84 33 = .ok (.getfield 9, 3) := by decide +kernel
theorem dJx4a65c_grow_92f84_36 : decode cJx4a65c_grow_92f84 36 = .ok (.iload_n 3, 1) := by decide +kernel
theorem dJx4a65c_grow_92f84_37 : decode cJx4a65c_grow_92f84 37 = .ok (.invokestatic 66, 3) := by decide +kernel
theorem dJx4a65c_grow_92f84_40 : decode cJx4a65c_grow_92f84 40 = .ok (.dup_x1, 1) := by decide +kernel
theorem dJx4a65c_grow_92f84_41 : decode cJx4a65c_grow_92f84 41 = .ok (.putfield 9, 3) := by decide +kernel
theorem dJx4a65c_grow_92f84_44 : decode cJx4a65c_grow_92f84 44 = .ok (.areturn, 1) := by decide +kernel
theorem dJx4a65c_grow_92f84_45 : decode cJx4a65c_grow_92f84 45 = .ok (.aload_n 0, 1) := by decide +kernel
theorem dJx4a65c_grow_92f84_46 : decode cJx4a65c_grow_92f84 46 = .ok (.bipush 10, 2) := by decide +kernel
theorem dJx4a65c_grow_92f84_48 : decode cJx4a65c_grow_92f84 48 = .ok (.iload_n 1, 1) := by decide +kernel
theorem dJx4a65c_grow_92f84_49 : decode cJx4a65c_grow_92f84 49 = .ok (.invokestatic 79, 3) := by decide +kernel
theorem dJx4a65c_grow_92f84_52 : decode cJx4a65c_grow_92f84 52 = .ok (.anewarray 7, 3) := by decide +kernel
theorem dJx4a65c_grow_92f84_55 : decode cJx4a65c_grow_92f84 55 = .ok (.dup_x1, 1) := by decide +kernel
theorem dJx4a65c_grow_92f84_56 : decode cJx4a65c_grow_92f84 56 = .ok (.putfield 9, 3) := by decide +kernel
theorem dJx4a65c_grow_92f84_59 : decode cJx4a65c_grow_92f84 59 = .ok (.areturn, 1) := by decide +kernel
set_option maxRecDepth 20000 in
theorem ggJx4a65c_grow_d5877_Jx4a65c_grow_92f84 : GoodIn wsJx4a65c_grow_d5877 wsJx4a65c_grow_92f84 := goodIn_r _ [6, 7, 8, 9, 10, 11, 12, 13, 14, 15, 16, 17, 18, 19, 20, 21, 22, 23, 24, 25, 26, 27, 28, 29, 30, 31, 32, 33, 34, 35, 36, 37, 38, 39, 40, 41, 42, 43, 44, 45] (by decide +kernel) (by decide +kernel)
set_option maxRecDepth 20000 in
theorem gJx4a65c_grow_d5877_Jx4a65c_grow_92f84 : GoodIn wsJx4a65c_grow_d5877 (wsV RJx4a65c 69 RJx4a65c yJx4a65c_grow_92f84 wsJx4a65c_grow_92f84) := goodIn_app (goodIn_of _ (by decide +kernel)) ggJx4a65c_grow_d5877_Jx4a65c_grow_92f84
theorem dJx4a65c_grow_d5877_0 : decode cJx4a65c_grow_d5877 0 = .ok (.aload_n 0, 1) := by decide +kernel
theorem dJx4a65c_grow_d5877_1 : decode cJx4a65c_grow_d5877 1 = .ok (.aload_n 0, 1) := by decide +kernel
theorem dJx4a65c_grow_d5877_2 : decode cJx4a65c_grow_d5877 2 = .ok (.getfield 48, 3) := by decide +kernel
theorem dJx4a65c_grow_d5877_5 : decode cJx4a65c_grow_d5877 5 = .ok (.iconst 1, 1) := by decide +kernel
theorem dJx4a65c_grow_d5877_6 : decode cJx4a65c_grow_d5877 6 = .ok (.iadd, 1) := by decide +kernel
theorem dJx4a65c_grow_d5877_7 : decode cJx4a65c_grow_d5877 7 = .ok (.invokevirtual 69, 3) := by decide +kernel
theorem dJx4a65c_grow_d5877_10 : decode cJx4a65c_grow_d5877 10 = .ok (.areturn, 1) := by decide +kernel
theorem dJx4a65c_size_8abf5_0 : decode cJx4a65c_size_8abf5 0 = .ok (.aload_n 0, 1) := by decide +kernel
theorem dJx4a65c_size_8abf5_1 : decode cJx4a65c_size_8abf5 1 = .ok (.getfield 48, 3) := by decide +kernel
theorem dJx4a65c_size_8abf5_4 : decode cJx4a65c_size_8abf5 4 = .ok (.ireturn, 1) := by decide +kernel
theorem dJx4a65c_elementData_915e3_0 : decode cJx4a65c_elementData_915e3 0 = .ok (.aload_n 0, 1) := by decide +kernel
theorem dJx4a65c_elementData_915e3_1 : decode cJx4a65c_elementData_915e3 1 = .ok (.getfield 9, 3) := by decide +kernel
theorem dJx4a65c_elementData_915e3_4 : decode cJx4a65c_elementData_915e3 4 = .ok (.iload_n 1, 1) := by decide +kernel
theorem dJx4a65c_elementData_915e3_5 : decode cJx4a65c_elementData_915e3 5 = .ok (.aaload, 1) := by decide +kernel
theorem dJx4a65c_elementData_915e3_6 : decode cJx4a65c_elementData_915e3 6 = .ok (.areturn, 1) := by decide +kernel
set_option maxRecDepth 20000 in
theorem ggJx4a65c_get_915e3_J15_checkIndex_7cf53 : GoodIn wsJx4a65c_get_915e3 wsJ15_checkIndex_7cf53 := goodIn_r _ [5, 6, 7, 8, 9] (by decide +kernel) (by decide +kernel)
set_option maxRecDepth 20000 in
theorem gJx4a65c_get_915e3_J15_checkIndex_7cf53 : GoodIn wsJx4a65c_get_915e3 (va_wsS RJx4a65c 118 yJ15_checkIndex_7cf53 wsJ15_checkIndex_7cf53) := goodIn_app (goodIn_of _ (by decide +kernel)) ggJx4a65c_get_915e3_J15_checkIndex_7cf53
set_option maxRecDepth 20000 in
theorem ggJx4a65c_get_915e3_Jx4a65c_elementData_915e3 : GoodIn wsJx4a65c_get_915e3 wsJx4a65c_elementData_915e3 := goodIn_r _ [14, 15, 16, 17, 18] (by decide +kernel) (by decide +kernel)
set_option maxRecDepth 20000 in
theorem gJx4a65c_get_915e3_Jx4a65c_elementData_915e3 : GoodIn wsJx4a65c_get_915e3 (wsV RJx4a65c 123 RJx4a65c yJx4a65c_elementData_915e3 wsJx4a65c_elementData_915e3) := goodIn_app (goodIn_of _ (by decide +kernel)) ggJx4a65c_get_915e3_Jx4a65c_elementData_915e3
theorem dJx4a65c_get_915e3_0 : decode cJx4a65c_get_915e3 0 = .ok (.iload_n 1, 1) := by decide +kernel
theorem dJx4a65c_get_915e3_1 : decode cJx4a65c_get_915e3 1 = .ok (.aload_n 0, 1) := by decide +kernel
theorem dJx4a65c_get_915e3_2 : decode cJx4a65c_get_915e3 2 = .ok (.getfield 48, 3) := by decide +kernel
theorem dJx4a65c_get_915e3_5 : decode cJx4a65c_get_915e3 5 = .ok (.invokestatic 118, 3) := by decide +kernel
theorem dJx4a65c_get_915e3_8 : decode cJx4a65c_get_915e3 8 = .ok (.pop, 1) := by decide +kernel
theorem dJx4a65c_get_915e3_9 : decode cJx4a65c_get_915e3 9 = .ok (.aload_n 0, 1) := by decide +kernel
theorem dJx4a65c_get_915e3_10 : decode cJx4a65c_get_915e3 10 = .ok (.iload_n 1, 1) := by decide +kernel
theorem dJx4a65c_get_915e3_11 : decode cJx4a65c_get_915e3 11 = .ok (.invokevirtual 123, 3) := by decide +kernel
theorem dJx4a65c_get_915e3_14 : decode cJx4a65c_get_915e3 14 = .ok (.areturn, 1) := by decide +kernel
set_option maxRecDepth 20000 in
theorem ggJx4a65c_add_72be8_Jx4a65c_grow_d5877 : GoodIn wsJx4a65c_add_72be8 wsJx4a65c_grow_d5877 := goodIn_r _ [6, 1, 7, 8, 9, 5, 10, 11, 12, 13, 14, 15, 16, 17, 18, 19, 20, 21, 22, 23, 24, 25, 26, 27, 28, 29, 30, 31, 32, 33, 34, 35, 36, 37, 38, 39, 40, 41, 42, 43, 44, 45, 46, 47, 48, 49] (by decide +kernel) (by decide +kernel)
set_option maxRecDepth 20000 in
theorem gJx4a65c_add_72be8_Jx4a65c_grow_d5877 : GoodIn wsJx4a65c_add_72be8 (wsV RJx4a65c 129 RJx4a65c yJx4a65c_grow_d5877 wsJx4a65c_grow_d5877) := goodIn_app (goodIn_of _ (by decide +kernel)) ggJx4a65c_add_72be8_Jx4a65c_grow_d5877
theorem dJx4a65c_add_72be8_0 : decode cJx4a65c_add_72be8 0 = .ok (.iload_n 3, 1) := by decide +kernel
theorem dJx4a65c_add_72be8_1 : decode cJx4a65c_add_72be8 1 = .ok (.aload_n 2, 1) := by decide +kernel
theorem dJx4a65c_add_72be8_2 : decode cJx4a65c_add_72be8 2 = .ok (.arraylength, 1) := by decide +kernel
theorem dJx4a65c_add_72be8_3 : decode cJx4a65c_add_72be8 3 = .ok (.if_icmp .ne 8, 3) := by decide +kernel
theorem dJx4a65c_add_72be8_6 : decode cJx4a65c_add_72be8 6 = .ok (.aload_n 0, 1) := by decide +kernel
theorem dJx4a65c_add_72be8_7 : decode cJx4a65c_add_72be8 7 = .ok (.invokevirtual 129, 3) := by decide +kernel
theorem dJx4a65c_add_72be8_10 : decode cJx4a65c_add_72be8 10 = .ok (.astore_n 2, 1) := by decide +kernel
theorem dJx4a65c_add_72be8_11 : decode cJx4a65c_add_72be8 11 = .ok (.aload_n 2, 1) := by decide +kernel
theorem dJx4a65c_add_72be8_12 : decode cJx4a65c_add_72be8 12 = .ok (.iload_n 3, 1) := by decide +kernel
theorem dJx4a65c_add_72be8_13 : decode cJx4a65c_add_72be8 13 = .ok (.aload_n 1, 1) := by decide +kernel
theorem dJx4a65c_add_72be8_14 : decode cJx4a65c_add_72be8 14 = .ok (.aastore, 1) := by decide +kernel
theorem dJx4a65c_add_72be8_15 : decode cJx4a65c_add_72be8 15 = .ok (.aload_n 0, 1) := by decide +kernel
theorem dJx4a65c_add_72be8_16 : decode cJx4a65c_add_72be8 16 = .ok (.iload_n 3, 1) := by decide +kernel
theorem dJx4a65c_add_72be8_17 : decode cJx4a65c_add_72be8 17 = .ok (.iconst 1, 1) := by decide +kernel
theorem dJx4a65c_add_72be8_18 : decode cJx4a65c_add_72be8 18 = .ok (.iadd, 1) := by decide +kernel
theorem dJx4a65c_add_72be8_19 : decode cJx4a65c_add_72be8 19 = .ok (.putfield 48, 3) := by decide +kernel
theorem dJx4a65c_add_72be8_22 : decode cJx4a65c_add_72be8 22 = .ok (.return_, 1) := by decide +kernel
set_option maxRecDepth 20000 in
theorem ggJx4a65c_add_9ea2d_Jx4a65c_add_72be8 : GoodIn wsJx4a65c_add_9ea2d wsJx4a65c_add_72be8 := goodIn_r _ [9, 4, 10, 11, 12, 8, 13, 14, 15, 16, 17, 3, 18, 19, 20, 21, 22, 23, 24, 25, 26, 27, 28, 29, 30, 31, 32, 33, 34, 35, 36, 37, 38, 39, 40, 41, 42, 43, 44, 45, 46, 47, 48, 49, 50, 51, 52, 53, 54, 55] (by decide +kernel) (by decide +kernel)
set_option maxRecDepth 20000 in
theorem gJx4a65c_add_9ea2d_Jx4a65c_add_72be8 : GoodIn wsJx4a65c_add_9ea2d (wsV RJx4a65c 131 RJx4a65c yJx4a65c_add_72be8 wsJx4a65c_add_72be8) := goodIn_app (goodIn_of _ (by decide +kernel)) ggJx4a65c_add_9ea2d_Jx4a65c_add_72be8
theorem dJx4a65c_add_9ea2d_0 : decode cJx4a65c_add_9ea2d 0 = .ok (.aload_n 0, 1) := by decide +kernel
theorem dJx4a65c_add_9ea2d_1 : decode cJx4a65c_add_9ea2d 1 = .ok (.dup, 1) := by decide +kernel
theorem dJx4a65c_add_9ea2d_2 : decode cJx4a65c_add_9ea2d 2 = .ok (.getfield 63, 3) := by decide +kernel
theorem dJx4a65c_add_9ea2d_5 : decode cJx4a65c_add_9ea2d 5 = .ok (.iconst 1, 1) := by decide +kernel
theorem dJx4a65c_add_9ea2d_6 : decode cJx4a65c_add_9ea2d 6 = .ok (.iadd, 1) := by decide +kernel
theorem dJx4a65c_add_9ea2d_7 : decode cJx4a65c_add_9ea2d 7 = .ok (.putfield 63, 3) := by decide +kernel
theorem dJx4a65c_add_9ea2d_10 : decode cJx4a65c_add_9ea2d 10 = .ok (.aload_n 0, 1) := by decide +kernel
theorem dJx4a65c_add_9ea2d_11 : decode cJx4a65c_add_9ea2d 11 = .ok (.aload_n 1, 1) := by decide +kernel
theorem dJx4a65c_add_9ea2d_12 : decode cJx4a65c_add_9ea2d 12 = .ok (.aload_n 0, 1) := by decide +kernel
theorem dJx4a65c_add_9ea2d_13 : decode cJx4a65c_add_9ea2d 13 = .ok (.getfield 9, 3) := by decide +kernel
theorem dJx4a65c_add_9ea2d_16 : decode cJx4a65c_add_9ea2d 16 = .ok (.aload_n 0, 1) := by decide +kernel
theorem dJx4a65c_add_9ea2d_17 : decode cJx4a65c_add_9ea2d 17 = .ok (.getfield 48, 3) := by decide +kernel
theorem dJx4a65c_add_9ea2d_20 : decode cJx4a65c_add_9ea2d 20 = .ok (.invokevirtual 131, 3) := by decide +kernel
theorem dJx4a65c_add_9ea2d_23 : decode cJx4a65c_add_9ea2d 23 = .ok (.iconst 1, 1) := by decide +kernel
theorem dJx4a65c_add_9ea2d_24 : decode cJx4a65c_add_9ea2d 24 = .ok (.ireturn, 1) := by decide +kernel
set_option maxRecDepth 20000 in
theorem ggJ7_copyOf_1904c_J7_copyOf_6403c : GoodIn wsJ7_copyOf_1904c wsJ7_copyOf_6403c := goodIn_r _ [8, 9, 10, 11, 12, 13, 14, 15, 16, 17, 18] (by decide +kernel) (by decide +kernel)
set_option maxRecDepth 20000 in
theorem gJ7_copyOf_1904c_J7_copyOf_6403c : GoodIn wsJ7_copyOf_1904c (va_wsS RJ7 300 yJ7_copyOf_6403c wsJ7_copyOf_6403c) := goodIn_app (goodIn_of _ (by decide +kernel)) ggJ7_copyOf_1904c_J7_copyOf_6403c
theorem dJ7_copyOf_1904c_0 : decode cJ7_copyOf_1904c 0 = .ok (.aload_n 0, 1) := by decide +kernel
theorem dJ7_copyOf_1904c_1 : decode cJ7_copyOf_1904c 1 = .ok (.iload_n 1, 1) := by decide +kernel
theorem dJ7_copyOf_1904c_2 : decode cJ7_copyOf_1904c 2 = .ok (.aload_n 0, 1) := by decide +kernel
theorem dJ7_copyOf_1904c_3 : decode cJ7_copyOf_1904c 3 = .ok (.invokevirtual 86, 3) := by decide +kernel
theorem dJ7_copyOf_1904c_6 : decode cJ7_copyOf_1904c 6 = .ok (.invokestatic 300, 3) := by decide +kernel
theorem dJ7_copyOf_1904c_9 : decode cJ7_copyOf_1904c 9 = .ok (.areturn, 1) := by decide +kernel
theorem dJ7_copyOf_6403c_0 : decode cJ7_copyOf_6403c 0 = .ok (.aload_n 2, 1) := by decide +kernel
theorem dJ7_copyOf_6403c_1 : decode cJ7_copyOf_6403c 1 = .ok (.ldc 110, 2) := by decide +kernel
theorem dJ7_copyOf_6403c_3 : decode cJ7_copyOf_6403c 3 = .ok (.if_acmp .ne 10, 3) := by decide +kernel
theorem dJ7_copyOf_6403c_6 : decode cJ7_copyOf_6403c 6 = .ok (.iload_n 1, 1) := by decide +kernel
theorem dJ7_copyOf_6403c_7 : decode cJ7_copyOf_6403c 7 = .ok (.anewarray 2, 3) := by decide +kernel
theorem dJ7_copyOf_6403c_10 : decode cJ7_copyOf_6403c 10 = .ok (.goto 14, 3) := by decide +kernel
theorem dJ7_copyOf_6403c_13 : decode cJ7_copyOf_6403c 13 = .ok (.aload_n 2, 1) := by decide +kernel
theorem dJ7_copyOf_6403c_14 : decode cJ7_copyOf_6403c 14 = .ok (.invokevirtual 90, 3) := by decide +kernel
theorem dJ7_copyOf_6403c_17 : decode cJ7_copyOf_6403c 17 = .ok (.iload_n 1, 1) := by decide +kernel
theorem dJ7_copyOf_6403c_18 : decode cJ7_copyOf_6403c 18 = .ok (.invokestatic 95, 3) := by decide +kernel
theorem dJ7_copyOf_6403c_21 : decode cJ7_copyOf_6403c 21 = .ok (.checkcast 110, 3) := by decide +kernel
theorem dJ7_copyOf_6403c_24 : decode cJ7_copyOf_6403c 24 = .ok (.astore_n 3, 1) := by decide +kernel
theorem dJ7_copyOf_6403c_25 : decode cJ7_copyOf_6403c 25 = .ok (.aload_n 0, 1) := by decide +kernel
theorem dJ7_copyOf_6403c_26 : decode cJ7_copyOf_6403c 26 = .ok (.iconst 0, 1) := by decide +kernel
theorem dJ7_copyOf_6403c_27 : decode cJ7_copyOf_6403c 27 = .ok (.aload_n 3, 1) := by decide +kernel
theorem dJ7_copyOf_6403c_28 : decode cJ7_copyOf_6403c 28 = .ok (.iconst 0, 1) := by decide +kernel
theorem dJ7_copyOf_6403c_29 : decode cJ7_copyOf_6403c 29 = .ok (.aload_n 0, 1) := by decide +kernel
theorem dJ7_copyOf_6403c_30 : decode cJ7_copyOf_6403c 30 = .ok (.arraylength, 1) := by decide +kernel
theorem dJ7_copyOf_6403c_31 : decode cJ7_copyOf_6403c 31 = .ok (.iload_n 1, 1) := by decide +kernel
theorem dJ7_copyOf_6403c_32 : decode cJ7_copyOf_6403c 32 = .ok (.invokestatic 304, 3) := by decide +kernel
theorem dJ7_copyOf_6403c_35 : decode cJ7_copyOf_6403c 35 = .ok (.invokestatic 150, 3) := by decide +kernel
theorem dJ7_copyOf_6403c_38 : decode cJ7_copyOf_6403c 38 = .ok (.aload_n 3, 1) := by decide +kernel
theorem dJ7_copyOf_6403c_39 : decode cJ7_copyOf_6403c 39 = .ok (.areturn, 1) := by decide +kernel
set_option maxRecDepth 20000 in
theorem ggJ15_checkIndex_7cf53_J3_checkIndex_8e157 : GoodIn wsJ15_checkIndex_7cf53 wsJ3_checkIndex_8e157 := goodIn_r _ [4] (by decide +kernel) (by decide +kernel)
set_option maxRecDepth 20000 in
theorem gJ15_checkIndex_7cf53_J3_checkIndex_8e157 : GoodIn wsJ15_checkIndex_7cf53 (va_wsS RJ15 105 yJ3_checkIndex_8e157 wsJ3_checkIndex_8e157) := goodIn_app (goodIn_of _ (by decide +kernel)) ggJ15_checkIndex_7cf53_J3_checkIndex_8e157
theorem dJ15_checkIndex_7cf53_0 : decode cJ15_checkIndex_7cf53 0 = .ok (.iload_n 0, 1) := by decide +kernel
theorem dJ15_checkIndex_7cf53_1 : decode cJ15_checkIndex_7cf53 1 = .ok (.iload_n 1, 1) := by decide +kernel
theorem dJ15_checkIndex_7cf53_2 : decode cJ15_checkIndex_7cf53 2 = .ok (.aconst_null, 1) := by decide +kernel
theorem dJ15_checkIndex_7cf53_3 : decode cJ15_checkIndex_7cf53 3 = .ok (.invokestatic 105, 3) := by decide +kernel
theorem dJ15_checkIndex_7cf53_6 : decode cJ15_checkIndex_7cf53 6 = .ok (.ireturn, 1) := by decide +kernel
set_option maxRecDepth 20000 in
theorem ggJ8_newLength_cabcc_J8_hugeLength_7cf53 : GoodIn wsJ8_newLength_cabcc wsJ8_hugeLength_7cf53 := goodIn_r _ [9, 5] (by decide +kernel) (by decide +kernel)
set_option maxRecDepth 20000 in
theorem gJ8_newLength_cabcc_J8_hugeLength_7cf53 : GoodIn wsJ8_newLength_cabcc (va_wsS RJ8 201 yJ8_hugeLength_7cf53 wsJ8_hugeLength_7cf53) := goodIn_app (goodIn_of _ (by decide +kernel)) ggJ8_newLength_cabcc_J8_hugeLength_7cf53
theorem dJ8_newLength_cabcc_0 : decode cJ8_newLength_cabcc 0 = .ok (.iload_n 0, 1) := by decide +kernel
theorem dJ8_newLength_cabcc_1 : decode cJ8_newLength_cabcc 1 = .ok (.iload_n 1, 1) := by decide +kernel
theorem dJ8_newLength_cabcc_2 : decode cJ8_newLength_cabcc 2 = .ok (.iload_n 2, 1) := by decide +kernel
theorem dJ8_newLength_cabcc_3 : decode cJ8_newLength_cabcc 3 = .ok (.invokestatic 194, 3) := by decide +kernel
theorem dJ8_newLength_cabcc_6 : decode cJ8_newLength_cabcc 6 = .ok (.iadd, 1) := by decide +kernel
theorem dJ8_newLength_cabcc_7 : decode cJ8_newLength_cabcc 7 = .ok (.istore_n 3, 1) := by decide +kernel
theorem dJ8_newLength_cabcc_8 : decode cJ8_newLength_cabcc 8 = .ok (.iconst 0, 1) := by decide +kernel
theorem dJ8_newLength_cabcc_9 : decode cJ8_newLength_cabcc 9 = .ok (.iload_n 3, 1) := by decide +kernel
theorem dJ8_newLength_cabcc_10 : decode cJ8_newLength_cabcc 10 = .ok (.if_icmp .ge 11, 3) := by decide +kernel
theorem dJ8_newLength_cabcc_13 : decode cJ8_newLength_cabcc 13 = .ok (.iload_n 3, 1) := by decide +kernel
theorem dJ8_newLength_cabcc_14 : decode cJ8_newLength_cabcc 14 = .ok (.ldc 200, 2) := by decide +kernel
theorem dJ8_newLength_cabcc_16 : decode cJ8_newLength_cabcc 16 = .ok (.if_icmp .gt 5, 3) := by decide +kernel
theorem dJ8_newLength_cabcc_19 : decode cJ8_newLength_cabcc 19 = .ok (.iload_n 3, 1) := by decide +kernel
theorem dJ8_newLength_cabcc_20 : decode cJ8_newLength_cabcc 20 = .ok (.ireturn, 1) := by decide +kernel
theorem dJ8_newLength_cabcc_21 : decode cJ8_newLength_cabcc 21 = .ok (.iload_n 0, 1) := by decide +kernel
theorem dJ8_newLength_cabcc_22 : decode cJ8_newLength_cabcc 22 = .ok (.iload_n 1, 1) := by decide +kernel
theorem dJ8_newLength_cabcc_23 : decode cJ8_newLength_cabcc 23 = .ok (.invokestatic 201, 3) := by decide +kernel
theorem dJ8_newLength_cabcc_26 : decode cJ8_newLength_cabcc 26 = .ok (.ireturn, 1) := by decide +kernel
theorem dJ8_hugeLength_7cf53_0 : decode cJ8_hugeLength_7cf53 0 = .ok (.iload_n 0, 1) := by decide +kernel
theorem dJ8_hugeLength_7cf53_1 : decode cJ8_hugeLength_7cf53 1 = .ok (.iload_n 1, 1) := by decide +kernel
theorem dJ8_hugeLength_7cf53_2 : decode cJ8_hugeLength_7cf53 2 = .ok (.iadd, 1) := by decide +kernel
theorem dJ8_hugeLength_7cf53_3 : decode cJ8_hugeLength_7cf53 3 = .ok (.istore_n 2, 1) := by decide +kernel
theorem dJ8_hugeLength_7cf53_4 : decode cJ8_hugeLength_7cf53 4 = .ok (.iload_n 2, 1) := by decide +kernel
theorem dJ8_hugeLength_7cf53_5 : decode cJ8_hugeLength_7cf53 5 = .ok (.ifCond .ge 44, 3) := by decide +kernel
theorem dJ8_hugeLength_7cf53_8 : decode cJ8_hugeLength_7cf53 8 = .ok (.new 204, 3) := by decide +kernel
theorem dJ8_hugeLength_7cf53_11 : decode cJ8_hugeLength_7cf53 11 = .ok (.dup, 1) := by decide +kernel
theorem dJ8_hugeLength_7cf53_12 : decode cJ8_hugeLength_7cf53 12 = .ok (.new 89, 3) := by decide +kernel
theorem dJ8_hugeLength_7cf53_15 : decode cJ8_hugeLength_7cf53 15 = .ok (.dup, 1) := by decide +kernel
theorem dJ8_hugeLength_7cf53_16 : decode cJ8_hugeLength_7cf53 16 = .ok (.invokespecial 91, 3) := by decide +kernel
theorem dJ8_hugeLength_7cf53_19 : decode cJ8_hugeLength_7cf53 19 = .ok (.ldc 206, 2) := by decide +kernel
theorem dJ8_hugeLength_7cf53_21 : decode cJ8_hugeLength_7cf53 21 = .ok (.invokevirtual 94, 3) := by decide +kernel
theorem dJ8_hugeLength_7cf53_24 : decode cJ8_hugeLength_7cf53 24 = .ok (.iload_n 0, 1) := by decide +kernel
theorem dJ8_hugeLength_7cf53_25 : decode cJ8_hugeLength_7cf53 25 = .ok (.invokevirtual 98, 3) := by decide +kernel
theorem dJ8_hugeLength_7cf53_28 : decode cJ8_hugeLength_7cf53 28 = .ok (.ldc 208, 2) := by decide +kernel
theorem dJ8_hugeLength_7cf53_30 : decode cJ8_hugeLength_7cf53 30 = .ok (.invokevirtual 94, 3) := by decide +kernel
theorem dJ8_hugeLength_7cf53_33 : decode cJ8_hugeLength_7cf53 33 = .ok (.iload_n 1, 1) := by decide +kernel
theorem dJ8_hugeLength_7cf53_34 : decode cJ8_hugeLength_7cf53 34 = .ok (.invokevirtual 98, 3) := by decide +kernel
theorem dJ8_hugeLength_7cf53_37 : decode cJ8_hugeLength_7cf53 37 = .ok (.ldc 210, 2) := by decide +kernel
theorem dJ8_hugeLength_7cf53_39 : decode cJ8_hugeLength_7cf53 39 = .ok (.invokevirtual 94, 3) := by decide +kernel
theorem dJ8_hugeLength_7cf53_42 : decode cJ8_hugeLength_7cf53 42 = .ok (.invokevirtual 101, 3) := by decide +kernel
theorem dJ8_hugeLength_7cf53_45 : decode cJ8_hugeLength_7cf53 45 = .ok (.invokespecial 212, 3) := by decide +kernel
theorem dJ8_hugeLength_7cf53_48 : decode cJ8_hugeLength_7cf53 48 = .ok (.athrow, 1) := by decide +kernel
theorem dJ8_hugeLength_7cf53_49 : decode cJ8_hugeLength_7cf53 49 = .ok (.iload_n 2, 1) := by decide +kernel
theorem dJ8_hugeLength_7cf53_50 : decode cJ8_hugeLength_7cf53 50 = .ok (.ldc 200, 2) := by decide +kernel
theorem dJ8_hugeLength_7cf53_52 : decode cJ8_hugeLength_7cf53 52 = .ok (.if_icmp .gt 6, 3) := by decide +kernel
theorem dJ8_hugeLength_7cf53_55 : decode cJ8_hugeLength_7cf53 55 = .ok (.ldc 200, 2) := by decide +kernel
theorem dJ8_hugeLength_7cf53_57 : decode cJ8_hugeLength_7cf53 57 = .ok (.ireturn, 1) := by decide +kernel
theorem dJ8_hugeLength_7cf53_58 : decode cJ8_hugeLength_7cf53 58 = .ok (.iload_n 2, 1) := by decide +kernel
theorem dJ8_hugeLength_7cf53_59 : decode cJ8_hugeLength_7cf53 59 = .ok (.ireturn, 1) := by decide +kernel
theorem dJ3_checkIndex_8e157_0 : decode cJ3_checkIndex_8e157 0 = .ok (.iload_n 0, 1) := by decide +kernel
theorem dJ3_checkIndex_8e157_1 : decode cJ3_checkIndex_8e157 1 = .ok (.ifCond .lt 8, 3) := by decide +kernel
theorem dJ3_checkIndex_8e157_4 : decode cJ3_checkIndex_8e157 4 = .ok (.iload_n 0, 1) := by decide +kernel
theorem dJ3_checkIndex_8e157_5 : decode cJ3_checkIndex_8e157 5 = .ok (.iload_n 1, 1) := by decide +kernel
theorem dJ3_checkIndex_8e157_6 : decode cJ3_checkIndex_8e157 6 = .ok (.if_icmp .lt 10, 3) := by decide +kernel
theorem dJ3_checkIndex_8e157_9 : decode cJ3_checkIndex_8e157 9 = .ok (.aload_n 2, 1) := by decide +kernel
theorem dJ3_checkIndex_8e157_10 : decode cJ3_checkIndex_8e157 10 = .ok (.iload_n 0, 1) := by decide +kernel
theorem dJ3_checkIndex_8e157_11 : decode cJ3_checkIndex_8e157 11 = .ok (.iload_n 1, 1) := by decide +kernel
theorem dJ3_checkIndex_8e157_12 : decode cJ3_checkIndex_8e157 12 = .ok (.invokestatic 95, 3) := by decide +kernel
theorem dJ3_checkIndex_8e157_15 : decode cJ3_checkIndex_8e157 15 = .ok (.athrow, 1) := by decide +kernel
theorem dJ3_checkIndex_8e157_16 : decode cJ3_checkIndex_8e157 16 = .ok (.iload_n 0, 1) := by decide +kernel
theorem dJ3_checkIndex_8e157_17 : decode cJ3_checkIndex_8e157 17 = .ok (.ireturn, 1) := by decide +kernel
end
section
theorem dL_below_0 : decode cL_below 0 = .ok (.iload_n 0, 1) := by decide +kernel
theorem dL_below_1 : decode cL_below 1 = .ok (.ldc 7, 2) := by decide +kernel
theorem dL_below_3 : decode cL_below 3 = .ok (.iand, 1) := by decide +kernel
theorem dL_below_4 : decode cL_below 4 = .ok (.iload_n 1, 1) := by decide +kernel
theorem dL_below_5 : decode cL_below 5 = .ok (.irem, 1) := by decide +kernel
theorem dL_below_6 : decode cL_below 6 = .ok (.ireturn, 1) := by decide +kernel
theorem dL_cell_0 : decode cL_cell 0 = .ok (.iload_n 1, 1) := by decide +kernel
theorem dL_cell_1 : decode cL_cell 1 = .ok (.aload_n 0, 1) := by decide +kernel
theorem dL_cell_2 : decode cL_cell 2 = .ok (.arraylength, 1) := by decide +kernel
theorem dL_cell_3 : decode cL_cell 3 = .ok (.if_icmp .ge 9, 3) := by decide +kernel
theorem dL_cell_6 : decode cL_cell 6 = .ok (.aload_n 0, 1) := by decide +kernel
theorem dL_cell_7 : decode cL_cell 7 = .ok (.iload_n 1, 1) := by decide +kernel
theorem dL_cell_8 : decode cL_cell 8 = .ok (.iaload, 1) := by decide +kernel
theorem dL_cell_9 : decode cL_cell 9 = .ok (.goto 9, 3) := by decide +kernel
theorem dL_cell_12 : decode cL_cell 12 = .ok (.ldc 8, 2) := by decide +kernel
theorem dL_cell_14 : decode cL_cell 14 = .ok (.iload_n 1, 1) := by decide +kernel
theorem dL_cell_15 : decode cL_cell 15 = .ok (.iconst 3, 1) := by decide +kernel
theorem dL_cell_16 : decode cL_cell 16 = .ok (.iadd, 1) := by decide +kernel
theorem dL_cell_17 : decode cL_cell 17 = .ok (.imul, 1) := by decide +kernel
theorem dL_cell_18 : decode cL_cell 18 = .ok (.ireturn, 1) := by decide +kernel
set_option maxRecDepth 20000 in
theorem ggL_build_X4_init : GoodIn wsL_build wsX4_init := goodIn_r _ [6, 7, 8, 9, 10, 11, 12, 13, 14, 15, 16, 17, 18, 200, 201, 202, 203, 204, 205, 206, 207] (by decide +kernel) (by decide +kernel)
set_option maxRecDepth 20000 in
theorem gL_build_X4_init_n11 : GoodIn wsL_build (wsX4_init) := ggL_build_X4_init
set_option maxRecDepth 20000 in
theorem ggL_build_L_cell : GoodIn wsL_build wsL_cell := goodIn_r _ [22, 23] (by decide +kernel) (by decide +kernel)
set_option maxRecDepth 20000 in
theorem gL_build_L_cell : GoodIn wsL_build (va_wsS RL 12 yL_cell wsL_cell) := goodIn_app (goodIn_of _ (by decide +kernel)) ggL_build_L_cell
set_option maxRecDepth 20000 in
theorem ggL_build_L_below : GoodIn wsL_build wsL_below := goodIn_r _ [26, 27] (by decide +kernel) (by decide +kernel)
set_option maxRecDepth 20000 in
theorem gL_build_L_below : GoodIn wsL_build (va_wsS RL 18 yL_below wsL_below) := goodIn_app (goodIn_of _ (by decide +kernel)) ggL_build_L_below
set_option maxRecDepth 20000 in
theorem ggL_build_X3_addSack : GoodIn wsL_build wsX3_addSack := goodIn_ca (goodIn_ca (goodIn_r _ [32, 33, 34, 35, 36, 37, 38, 39, 40, 31, 41, 42, 43, 44, 45, 46, 47, 48, 49, 50, 51, 52, 53, 8, 9, 54, 55, 56, 57, 58, 59, 60, 61, 62, 12, 63, 64, 65, 66, 67, 68, 69, 70, 71, 72, 73, 74, 75, 76, 77, 78, 79, 80, 81, 82, 83, 84, 85, 86, 87, 88, 89, 90, 91, 92, 93, 94, 95, 96, 97, 98, 99, 100, 101, 102, 103, 104, 105, 106, 107, 108, 109, 110, 111, 112, 113, 114, 115, 116, 117, 208, 209, 210, 211, 212, 213, 214, 215, 216, 217, 218, 219, 220, 221, 222] (by decide +kernel) (by decide +kernel)) (goodIn_sub (fun _ h => List.mem_cons_of_mem _ (List.mem_append_left _ (List.mem_append_left _ (List.mem_append_right _ h)))) (by decide +kernel))) (goodIn_sub (fun _ h => List.mem_cons_of_mem _ (List.mem_append_left _ (List.mem_append_right _ h))) (by decide +kernel))
set_option maxRecDepth 20000 in
theorem gL_build_X3_addSack : GoodIn wsL_build (wsV RL 22 RX3 yX3_addSack wsX3_addSack) := goodIn_app (goodIn_of _ (by decide +kernel)) ggL_build_X3_addSack
set_option maxRecDepth 20000 in
theorem ggL_build_X4_sack : GoodIn wsL_build wsX4_sack := goodIn_r _ [121, 11, 10, 12, 13, 200, 201, 202, 203, 204, 205, 206, 207] (by decide +kernel) (by decide +kernel)
set_option maxRecDepth 20000 in
theorem gL_build_X4_sack : GoodIn wsL_build (wsV RL 28 RX4 yX4_sack wsX4_sack) := goodIn_app (goodIn_of _ (by decide +kernel)) ggL_build_X4_sack
set_option maxRecDepth 20000 in
theorem ggL_build_X3_put : GoodIn wsL_build wsX3_put := goodIn_ca (goodIn_ca (goodIn_ca (goodIn_r _ [125, 33, 34, 126, 127, 128, 31, 129, 130, 131, 35, 132, 44, 45, 46, 47, 48, 49, 133, 134, 135, 136, 137, 138, 139, 140, 141, 142, 143, 144, 145, 146, 147, 148, 70, 149, 150, 151, 39, 40, 41, 42, 43, 152, 153, 154, 56, 155, 63, 156, 157, 158, 159, 160, 216, 217, 208, 209, 210, 211, 212, 213, 214, 215, 218, 219, 220, 221, 222] (by decide +kernel) (by decide +kernel)) (goodIn_sub (fun _ h => List.mem_cons_of_mem _ (List.mem_append_left _ (List.mem_append_left _ (List.mem_append_right _ h)))) (by decide +kernel))) (goodIn_sub (fun _ h => List.mem_cons_of_mem _ (List.mem_append_right _ h)) (by decide +kernel))) (goodIn_sub (fun _ h => List.mem_cons_of_mem _ (List.mem_append_left _ (List.mem_append_right _ h))) (by decide +kernel))
set_option maxRecDepth 20000 in
theorem gL_build_X3_put : GoodIn wsL_build (wsV RL 36 RX3 yX3_put wsX3_put) := goodIn_app (goodIn_of _ (by decide +kernel)) ggL_build_X3_put
set_option maxRecDepth 20000 in
theorem ggL_build_X3_addTick : GoodIn wsL_build wsX3_addTick := goodIn_ca (goodIn_ca (goodIn_r _ [164, 33, 34, 165, 166, 167, 168, 39, 40, 31, 41, 42, 43, 44, 45, 46, 47, 48, 49, 169, 170, 171, 172, 8, 9, 173, 174, 175, 176, 177, 178, 55, 56, 179, 180, 12, 181, 182, 60, 61, 62, 63, 64, 65, 66, 67, 68, 69, 70, 71, 72, 73, 74, 75, 76, 77, 78, 79, 80, 81, 82, 83, 84, 85, 86, 87, 88, 89, 90, 91, 92, 93, 94, 95, 96, 97, 98, 99, 100, 101, 102, 103, 104, 105, 106, 107, 108, 109, 110, 111, 112, 113, 114, 115, 116, 117, 208, 209, 210, 211, 212, 213, 214, 215, 223, 224, 225, 226, 227, 228, 229, 218, 219, 220, 221, 222] (by decide +kernel) (by decide +kernel)) (goodIn_sub (fun _ h => List.mem_cons_of_mem _ (List.mem_append_left _ (List.mem_append_left _ (List.mem_append_right _ h)))) (by decide +kernel))) (goodIn_sub (fun _ h => List.mem_cons_of_mem _ (List.mem_append_left _ (List.mem_append_right _ h))) (by decide +kernel))
set_option maxRecDepth 20000 in
theorem gL_build_X3_addTick : GoodIn wsL_build (wsV RL 40 RX3 yX3_addTick wsX3_addTick) := goodIn_app (goodIn_of _ (by decide +kernel)) ggL_build_X3_addTick
set_option maxRecDepth 20000 in
theorem ggL_build_X4_tick : GoodIn wsL_build wsX4_tick := goodIn_r _ [186, 18, 17, 187, 188, 189, 190, 191, 192, 8, 9, 193, 194, 195, 196, 12, 197, 198, 179, 199, 200, 201, 202, 203, 204, 205, 206, 207, 230, 231, 232, 233, 234] (by decide +kernel) (by decide +kernel)
set_option maxRecDepth 20000 in
theorem gL_build_X4_tick : GoodIn wsL_build (wsV RL 43 RX4 yX4_tick wsX4_tick) := goodIn_app (goodIn_of _ (by decide +kernel)) ggL_build_X4_tick
theorem dL_build_0 : decode cL_build 0 = .ok (.new 9, 3) := by decide +kernel
theorem dL_build_3 : decode cL_build 3 = .ok (.dup, 1) := by decide +kernel
theorem dL_build_4 : decode cL_build 4 = .ok (.invokespecial 11, 3) := by decide +kernel
theorem dL_build_7 : decode cL_build 7 = .ok (.astore_n 2, 1) := by decide +kernel
theorem dL_build_8 : decode cL_build 8 = .ok (.iconst 1, 1) := by decide +kernel
theorem dL_build_9 : decode cL_build 9 = .ok (.aload_n 1, 1) := by decide +kernel
theorem dL_build_10 : decode cL_build 10 = .ok (.iconst 0, 1) := by decide +kernel
theorem dL_build_11 : decode cL_build 11 = .ok (.invokestatic 12, 3) := by decide +kernel
theorem dL_build_14 : decode cL_build 14 = .ok (.iconst 4, 1) := by decide +kernel
theorem dL_build_15 : decode cL_build 15 = .ok (.invokestatic 18, 3) := by decide +kernel
theorem dL_build_18 : decode cL_build 18 = .ok (.iadd, 1) := by decide +kernel
theorem dL_build_19 : decode cL_build 19 = .ok (.istore_n 3, 1) := by decide +kernel
theorem dL_build_20 : decode cL_build 20 = .ok (.iconst 0, 1) := by decide +kernel
theorem dL_build_21 : decode cL_build 21 = .ok (.istore 4, 2) := by decide +kernel
theorem dL_build_23 : decode cL_build 23 = .ok (.iload 4, 2) := by decide +kernel
theorem dL_build_25 : decode cL_build 25 = .ok (.iload_n 3, 1) := by decide +kernel
theorem dL_build_26 : decode cL_build 26 = .ok (.if_icmp .ge 119, 3) := by decide +kernel
theorem dL_build_29 : decode cL_build 29 = .ok (.aload_n 1, 1) := by decide +kernel
theorem dL_build_30 : decode cL_build 30 = .ok (.iconst 1, 1) := by decide +kernel
theorem dL_build_31 : decode cL_build 31 = .ok (.invokestatic 12, 3) := by decide +kernel
theorem dL_build_34 : decode cL_build 34 = .ok (.iconst 3, 1) := by decide +kernel
theorem dL_build_35 : decode cL_build 35 = .ok (.iload 4, 2) := by decide +kernel
theorem dL_build_37 : decode cL_build 37 = .ok (.imul, 1) := by decide +kernel
theorem dL_build_38 : decode cL_build 38 = .ok (.ishr, 1) := by decide +kernel
theorem dL_build_39 : decode cL_build 39 = .ok (.bipush 10, 2) := by decide +kernel
theorem dL_build_41 : decode cL_build 41 = .ok (.invokestatic 18, 3) := by decide +kernel
theorem dL_build_44 : decode cL_build 44 = .ok (.istore 5, 2) := by decide +kernel
theorem dL_build_46 : decode cL_build 46 = .ok (.aload_n 0, 1) := by decide +kernel
theorem dL_build_47 : decode cL_build 47 = .ok (.iload 5, 2) := by decide +kernel
theorem dL_build_49 : decode cL_build 49 = .ok (.invokevirtual 22, 3) := by decide +kernel
theorem dL_build_52 : decode cL_build 52 = .ok (.iload 4, 2) := by decide +kernel
theorem dL_build_54 : decode cL_build 54 = .ok (.if_icmp .eq 5, 3) := by decide +kernel
theorem dL_build_57 : decode cL_build 57 = .ok (.aconst_null, 1) := by decide +kernel
theorem dL_build_58 : decode cL_build 58 = .ok (.areturn, 1) := by decide +kernel
theorem dL_build_59 : decode cL_build 59 = .ok (.aload_n 2, 1) := by decide +kernel
theorem dL_build_60 : decode cL_build 60 = .ok (.iload 5, 2) := by decide +kernel
theorem dL_build_62 : decode cL_build 62 = .ok (.invokevirtual 28, 3) := by decide +kernel
theorem dL_build_65 : decode cL_build 65 = .ok (.iconst 0, 1) := by decide +kernel
theorem dL_build_66 : decode cL_build 66 = .ok (.istore 6, 2) := by decide +kernel
theorem dL_build_68 : decode cL_build 68 = .ok (.iload 6, 2) := by decide +kernel
theorem dL_build_70 : decode cL_build 70 = .ok (.bipush 6, 2) := by decide +kernel
theorem dL_build_72 : decode cL_build 72 = .ok (.if_icmp .ge 67, 3) := by decide +kernel
theorem dL_build_75 : decode cL_build 75 = .ok (.aload_n 1, 1) := by decide +kernel
theorem dL_build_76 : decode cL_build 76 = .ok (.iconst 2, 1) := by decide +kernel
theorem dL_build_77 : decode cL_build 77 = .ok (.iload 4, 2) := by decide +kernel
theorem dL_build_79 : decode cL_build 79 = .ok (.iadd, 1) := by decide +kernel
theorem dL_build_80 : decode cL_build 80 = .ok (.invokestatic 12, 3) := by decide +kernel
theorem dL_build_83 : decode cL_build 83 = .ok (.iconst 2, 1) := by decide +kernel
theorem dL_build_84 : decode cL_build 84 = .ok (.iload 6, 2) := by decide +kernel
theorem dL_build_86 : decode cL_build 86 = .ok (.imul, 1) := by decide +kernel
theorem dL_build_87 : decode cL_build 87 = .ok (.ishr, 1) := by decide +kernel
theorem dL_build_88 : decode cL_build 88 = .ok (.sipush 501, 3) := by decide +kernel
theorem dL_build_91 : decode cL_build 91 = .ok (.invokestatic 18, 3) := by decide +kernel
theorem dL_build_94 : decode cL_build 94 = .ok (.istore 7, 2) := by decide +kernel
theorem dL_build_96 : decode cL_build 96 = .ok (.iload 7, 2) := by decide +kernel
theorem dL_build_98 : decode cL_build 98 = .ok (.ifCond .ne 6, 3) := by decide +kernel
theorem dL_build_101 : decode cL_build 101 = .ok (.goto 32, 3) := by decide +kernel
theorem dL_build_104 : decode cL_build 104 = .ok (.aload_n 2, 1) := by decide +kernel
theorem dL_build_105 : decode cL_build 105 = .ok (.getfield 32, 3) := by decide +kernel
theorem dL_build_108 : decode cL_build 108 = .ok (.iload 4, 2) := by decide +kernel
theorem dL_build_110 : decode cL_build 110 = .ok (.aaload, 1) := by decide +kernel
theorem dL_build_111 : decode cL_build 111 = .ok (.iload 6, 2) := by decide +kernel
theorem dL_build_113 : decode cL_build 113 = .ok (.iload 7, 2) := by decide +kernel
theorem dL_build_115 : decode cL_build 115 = .ok (.iastore, 1) := by decide +kernel
theorem dL_build_116 : decode cL_build 116 = .ok (.aload_n 0, 1) := by decide +kernel
theorem dL_build_117 : decode cL_build 117 = .ok (.iload 4, 2) := by decide +kernel
theorem dL_build_119 : decode cL_build 119 = .ok (.iload 6, 2) := by decide +kernel
theorem dL_build_121 : decode cL_build 121 = .ok (.iload 7, 2) := by decide +kernel
theorem dL_build_123 : decode cL_build 123 = .ok (.invokevirtual 36, 3) := by decide +kernel
theorem dL_build_126 : decode cL_build 126 = .ok (.iload 7, 2) := by decide +kernel
theorem dL_build_128 : decode cL_build 128 = .ok (.if_icmp .eq 5, 3) := by decide +kernel
theorem dL_build_131 : decode cL_build 131 = .ok (.aconst_null, 1) := by decide +kernel
theorem dL_build_132 : decode cL_build 132 = .ok (.areturn, 1) := by decide +kernel
theorem dL_build_133 : decode cL_build 133 = .ok (.iinc 6 1, 3) := by decide +kernel
theorem dL_build_136 : decode cL_build 136 = .ok (.goto (-68), 3) := by decide +kernel
theorem dL_build_139 : decode cL_build 139 = .ok (.iinc 4 1, 3) := by decide +kernel
theorem dL_build_142 : decode cL_build 142 = .ok (.goto (-119), 3) := by decide +kernel
theorem dL_build_145 : decode cL_build 145 = .ok (.iconst 1, 1) := by decide +kernel
theorem dL_build_146 : decode cL_build 146 = .ok (.aload_n 1, 1) := by decide +kernel
theorem dL_build_147 : decode cL_build 147 = .ok (.bipush 6, 2) := by decide +kernel
theorem dL_build_149 : decode cL_build 149 = .ok (.invokestatic 12, 3) := by decide +kernel
theorem dL_build_152 : decode cL_build 152 = .ok (.iconst 3, 1) := by decide +kernel
theorem dL_build_153 : decode cL_build 153 = .ok (.invokestatic 18, 3) := by decide +kernel
theorem dL_build_156 : decode cL_build 156 = .ok (.iadd, 1) := by decide +kernel
theorem dL_build_157 : decode cL_build 157 = .ok (.istore 4, 2) := by decide +kernel
theorem dL_build_159 : decode cL_build 159 = .ok (.iconst 0, 1) := by decide +kernel
theorem dL_build_160 : decode cL_build 160 = .ok (.istore 5, 2) := by decide +kernel
theorem dL_build_162 : decode cL_build 162 = .ok (.iload 5, 2) := by decide +kernel
theorem dL_build_164 : decode cL_build 164 = .ok (.iload 4, 2) := by decide +kernel
theorem dL_build_166 : decode cL_build 166 = .ok (.if_icmp .ge 84, 3) := by decide +kernel
theorem dL_build_169 : decode cL_build 169 = .ok (.aload_n 1, 1) := by decide +kernel
theorem dL_build_170 : decode cL_build 170 = .ok (.bipush 7, 2) := by decide +kernel
theorem dL_build_172 : decode cL_build 172 = .ok (.invokestatic 12, 3) := by decide +kernel
theorem dL_build_175 : decode cL_build 175 = .ok (.iconst 4, 1) := by decide +kernel
theorem dL_build_176 : decode cL_build 176 = .ok (.iload 5, 2) := by decide +kernel
theorem dL_build_178 : decode cL_build 178 = .ok (.imul, 1) := by decide +kernel
theorem dL_build_179 : decode cL_build 179 = .ok (.ishr, 1) := by decide +kernel
theorem dL_build_180 : decode cL_build 180 = .ok (.istore 6, 2) := by decide +kernel
theorem dL_build_182 : decode cL_build 182 = .ok (.iconst 1, 1) := by decide +kernel
theorem dL_build_183 : decode cL_build 183 = .ok (.iload 6, 2) := by decide +kernel
theorem dL_build_185 : decode cL_build 185 = .ok (.iconst 4, 1) := by decide +kernel
theorem dL_build_186 : decode cL_build 186 = .ok (.invokestatic 18, 3) := by decide +kernel
theorem dL_build_189 : decode cL_build 189 = .ok (.iadd, 1) := by decide +kernel
theorem dL_build_190 : decode cL_build 190 = .ok (.istore 7, 2) := by decide +kernel
theorem dL_build_192 : decode cL_build 192 = .ok (.iconst 1, 1) := by decide +kernel
theorem dL_build_193 : decode cL_build 193 = .ok (.iload 6, 2) := by decide +kernel
theorem dL_build_195 : decode cL_build 195 = .ok (.iconst 2, 1) := by decide +kernel
theorem dL_build_196 : decode cL_build 196 = .ok (.ishr, 1) := by decide +kernel
theorem dL_build_197 : decode cL_build 197 = .ok (.iconst 4, 1) := by decide +kernel
theorem dL_build_198 : decode cL_build 198 = .ok (.invokestatic 18, 3) := by decide +kernel
theorem dL_build_201 : decode cL_build 201 = .ok (.iadd, 1) := by decide +kernel
theorem dL_build_202 : decode cL_build 202 = .ok (.istore 8, 2) := by decide +kernel
theorem dL_build_204 : decode cL_build 204 = .ok (.iconst 1, 1) := by decide +kernel
theorem dL_build_205 : decode cL_build 205 = .ok (.iload 6, 2) := by decide +kernel
theorem dL_build_207 : decode cL_build 207 = .ok (.iconst 3, 1) := by decide +kernel
theorem dL_build_208 : decode cL_build 208 = .ok (.ishr, 1) := by decide +kernel
theorem dL_build_209 : decode cL_build 209 = .ok (.bipush 9, 2) := by decide +kernel
theorem dL_build_211 : decode cL_build 211 = .ok (.invokestatic 18, 3) := by decide +kernel
theorem dL_build_214 : decode cL_build 214 = .ok (.iadd, 1) := by decide +kernel
theorem dL_build_215 : decode cL_build 215 = .ok (.istore 9, 2) := by decide +kernel
theorem dL_build_217 : decode cL_build 217 = .ok (.aload_n 0, 1) := by decide +kernel
theorem dL_build_218 : decode cL_build 218 = .ok (.iload 7, 2) := by decide +kernel
theorem dL_build_220 : decode cL_build 220 = .ok (.iload 8, 2) := by decide +kernel
theorem dL_build_222 : decode cL_build 222 = .ok (.iload 9, 2) := by decide +kernel
theorem dL_build_224 : decode cL_build 224 = .ok (.invokevirtual 40, 3) := by decide +kernel
theorem dL_build_227 : decode cL_build 227 = .ok (.iload 5, 2) := by decide +kernel
theorem dL_build_229 : decode cL_build 229 = .ok (.if_icmp .eq 5, 3) := by decide +kernel
theorem dL_build_232 : decode cL_build 232 = .ok (.aconst_null, 1) := by decide +kernel
theorem dL_build_233 : decode cL_build 233 = .ok (.areturn, 1) := by decide +kernel
theorem dL_build_234 : decode cL_build 234 = .ok (.aload_n 2, 1) := by decide +kernel
theorem dL_build_235 : decode cL_build 235 = .ok (.iload 7, 2) := by decide +kernel
theorem dL_build_237 : decode cL_build 237 = .ok (.iload 8, 2) := by decide +kernel
theorem dL_build_239 : decode cL_build 239 = .ok (.iload 9, 2) := by decide +kernel
theorem dL_build_241 : decode cL_build 241 = .ok (.invokevirtual 43, 3) := by decide +kernel
theorem dL_build_244 : decode cL_build 244 = .ok (.iinc 5 1, 3) := by decide +kernel
theorem dL_build_247 : decode cL_build 247 = .ok (.goto (-85), 3) := by decide +kernel
theorem dL_build_250 : decode cL_build 250 = .ok (.aload_n 2, 1) := by decide +kernel
theorem dL_build_251 : decode cL_build 251 = .ok (.areturn, 1) := by decide +kernel
set_option maxRecDepth 20000 in
theorem ggL_act_L_below : GoodIn wsL_act wsL_below := goodIn_r _ [18, 19] (by decide +kernel) (by decide +kernel)
set_option maxRecDepth 20000 in
theorem gL_act_L_below : GoodIn wsL_act (va_wsS RL 18 yL_below wsL_below) := goodIn_app (goodIn_of _ (by decide +kernel)) ggL_act_L_below
set_option maxRecDepth 20000 in
theorem ggL_act_X3_blow : GoodIn wsL_act wsX3_blow := goodIn_ca (goodIn_r _ [24, 25, 26, 27, 28, 29, 30, 23, 31, 32, 33, 34, 35, 36, 37, 38, 39, 40, 41, 42, 43, 44, 45, 46, 47, 48, 49, 50, 51, 52, 53, 54, 55, 56, 57, 58, 59, 60, 61, 62, 63, 64, 65, 66, 67, 68, 69, 70, 71, 72, 73, 74, 75, 76, 6, 7, 8, 77, 78, 79, 80, 81, 82, 222, 223, 224, 225, 226, 227, 228, 229, 230, 231, 232, 233, 234, 235, 236] (by decide +kernel) (by decide +kernel)) (goodIn_sub (fun _ h => List.mem_cons_of_mem _ (List.mem_append_left _ (List.mem_append_left _ (List.mem_append_right _ h)))) (by decide +kernel))
set_option maxRecDepth 20000 in
theorem gL_act_X3_blow : GoodIn wsL_act (wsV RL 56 RX3 yX3_blow wsX3_blow) := goodIn_app (goodIn_of _ (by decide +kernel)) ggL_act_X3_blow
set_option maxRecDepth 20000 in
theorem ggL_act_X4_blow : GoodIn wsL_act wsX4_blow := goodIn_r _ [87, 88, 89, 90, 91, 92, 93, 94, 86, 95, 96, 97, 98, 99, 6, 7, 8, 100, 101, 102, 103, 209, 210, 211, 212, 213, 214, 215, 216] (by decide +kernel) (by decide +kernel)
set_option maxRecDepth 20000 in
theorem gL_act_X4_blow : GoodIn wsL_act (wsV RL 59 RX4 yX4_blow wsX4_blow) := goodIn_app (goodIn_of _ (by decide +kernel)) ggL_act_X4_blow
set_option maxRecDepth 20000 in
theorem ggL_act_X3_sweep : GoodIn wsL_act wsX3_sweep := goodIn_ca (goodIn_r _ [107, 108, 6, 7, 8, 109, 110, 111, 23, 112, 32, 33, 25, 28, 29, 30, 31, 34, 35, 36, 37, 38, 39, 40, 41, 42, 43, 44, 45, 46, 47, 48, 49, 50, 51, 52, 53, 54, 55, 56, 57, 58, 82, 66, 67, 68, 69, 70, 77, 78, 79, 80, 81, 230, 231, 222, 223, 224, 225, 226, 227, 228, 229, 232, 233, 234, 235, 236] (by decide +kernel) (by decide +kernel)) (goodIn_sub (fun _ h => List.mem_cons_of_mem _ (List.mem_append_left _ (List.mem_append_left _ (List.mem_append_right _ h)))) (by decide +kernel))
set_option maxRecDepth 20000 in
theorem gL_act_X3_sweep : GoodIn wsL_act (wsV RL 68 RX3 yX3_sweep wsX3_sweep) := goodIn_app (goodIn_of _ (by decide +kernel)) ggL_act_X3_sweep
set_option maxRecDepth 20000 in
theorem ggL_act_X3_setWind : GoodIn wsL_act wsX3_setWind := goodIn_ca (goodIn_r _ [116, 26, 117, 118, 23, 119, 120, 121, 222, 223, 224, 225, 226, 227, 228, 229] (by decide +kernel) (by decide +kernel)) (goodIn_sub (fun _ h => List.mem_cons_of_mem _ (List.mem_append_left _ (List.mem_append_right _ h))) (by decide +kernel))
set_option maxRecDepth 20000 in
theorem gL_act_X3_setWind : GoodIn wsL_act (wsV RL 75 RX3 yX3_setWind wsX3_setWind) := goodIn_app (goodIn_of _ (by decide +kernel)) ggL_act_X3_setWind
set_option maxRecDepth 20000 in
theorem ggL_act_X3_dry : GoodIn wsL_act wsX3_dry := goodIn_ca (goodIn_ca (goodIn_r _ [125, 126, 12, 7, 13, 28, 29, 30, 23, 31, 32, 33, 34, 35, 36, 37, 38, 39, 40, 41, 42, 43, 44, 45, 46, 47, 48, 49, 50, 51, 52, 53, 54, 55, 56, 57, 58, 117, 118, 119, 120, 121, 230, 231, 222, 223, 224, 225, 226, 227, 228, 229, 232, 233, 234] (by decide +kernel) (by decide +kernel)) (goodIn_sub (fun _ h => List.mem_cons_of_mem _ (List.mem_append_left _ (List.mem_append_left _ (List.mem_append_right _ h)))) (by decide +kernel))) (goodIn_sub (fun _ h => List.mem_cons_of_mem _ (List.mem_append_left _ (List.mem_append_right _ h))) (by decide +kernel))
set_option maxRecDepth 20000 in
theorem gL_act_X3_dry : GoodIn wsL_act (wsV RL 85 RX3 yX3_dry wsX3_dry) := goodIn_app (goodIn_of _ (by decide +kernel)) ggL_act_X3_dry
set_option maxRecDepth 20000 in
theorem ggL_act_X3_put : GoodIn wsL_act wsX3_put := goodIn_ca (goodIn_ca (goodIn_ca (goodIn_r _ [130, 131, 132, 28, 29, 30, 23, 31, 32, 33, 34, 35, 36, 37, 38, 39, 40, 41, 42, 43, 44, 45, 46, 47, 48, 49, 50, 51, 52, 53, 54, 55, 56, 57, 58, 133, 134, 135, 117, 118, 119, 120, 121, 82, 66, 67, 68, 69, 70, 77, 78, 79, 80, 81, 230, 231, 222, 223, 224, 225, 226, 227, 228, 229, 232, 233, 234, 235, 236] (by decide +kernel) (by decide +kernel)) (goodIn_sub (fun _ h => List.mem_cons_of_mem _ (List.mem_append_right _ h)) (by decide +kernel))) (goodIn_sub (fun _ h => List.mem_cons_of_mem _ (List.mem_append_left _ (List.mem_append_left _ (List.mem_append_right _ h)))) (by decide +kernel))) (goodIn_sub (fun _ h => List.mem_cons_of_mem _ (List.mem_append_left _ (List.mem_append_right _ h))) (by decide +kernel))
set_option maxRecDepth 20000 in
theorem gL_act_X3_put : GoodIn wsL_act (wsV RL 36 RX3 yX3_put wsX3_put) := goodIn_app (goodIn_of _ (by decide +kernel)) ggL_act_X3_put
set_option maxRecDepth 20000 in
theorem ggL_act_X5_has : GoodIn wsL_act wsX5_has := goodIn_r _ [139, 140, 141, 217, 218, 219, 220, 221] (by decide +kernel) (by decide +kernel)
set_option maxRecDepth 20000 in
theorem gL_act_X5_has : GoodIn wsL_act (wsV RL 88 RX5 yX5_has wsX5_has) := goodIn_app (goodIn_of _ (by decide +kernel)) ggL_act_X5_has
set_option maxRecDepth 20000 in
theorem ggL_act_X3_sew : GoodIn wsL_act wsX3_sew := goodIn_ca (goodIn_ca (goodIn_r _ [145, 120, 121, 146, 147, 148, 23, 149, 32, 33, 150, 151, 36, 37, 38, 39, 40, 41, 42, 43, 44, 45, 46, 47, 48, 49, 50, 51, 52, 53, 54, 55, 56, 57, 58, 133, 134, 135, 152, 153, 154, 155, 156, 157, 158, 159, 160, 161, 162, 163, 164, 165, 166, 167, 168, 169, 170, 171, 172, 237, 238, 239, 240, 241, 242, 243, 222, 223, 224, 225, 226, 227, 228, 229, 232, 233, 234] (by decide +kernel) (by decide +kernel)) (goodIn_sub (fun _ h => List.mem_cons_of_mem _ (List.mem_append_left _ (List.mem_append_right _ h))) (by decide +kernel))) (goodIn_sub (fun _ h => List.mem_cons_of_mem _ (List.mem_append_left _ (List.mem_append_left _ (List.mem_append_right _ h)))) (by decide +kernel))
set_option maxRecDepth 20000 in
theorem gL_act_X3_sew : GoodIn wsL_act (wsV RL 96 RX3 yX3_sew wsX3_sew) := goodIn_app (goodIn_of _ (by decide +kernel)) ggL_act_X3_sew
set_option maxRecDepth 20000 in
theorem ggL_act_X5_open : GoodIn wsL_act wsX5_open := goodIn_r _ [176, 177, 178, 179, 180, 102, 181, 182, 183, 137, 138, 139, 140, 141, 217, 218, 219, 220, 221] (by decide +kernel) (by decide +kernel)
set_option maxRecDepth 20000 in
theorem gL_act_X5_open : GoodIn wsL_act (wsV RL 100 RX5 yX5_open wsX5_open) := goodIn_app (goodIn_of _ (by decide +kernel)) ggL_act_X5_open
set_option maxRecDepth 20000 in
theorem ggL_act_X3_shift : GoodIn wsL_act wsX3_shift := goodIn_ca (goodIn_ca (goodIn_r _ [187, 120, 121, 146, 147, 148, 23, 149, 32, 33, 150, 151, 36, 37, 38, 39, 40, 41, 42, 43, 44, 45, 46, 47, 48, 49, 50, 51, 52, 53, 54, 55, 56, 57, 58, 188, 189, 190, 117, 118, 119, 191, 192, 193, 108, 6, 7, 8, 194, 195, 196, 68, 197, 198, 199, 66, 67, 69, 70, 200, 78, 79, 80, 81, 222, 223, 224, 225, 226, 227, 228, 229, 232, 233, 234, 237, 238, 239, 240, 241, 242, 243, 235, 236] (by decide +kernel) (by decide +kernel)) (goodIn_sub (fun _ h => List.mem_cons_of_mem _ (List.mem_append_left _ (List.mem_append_right _ h))) (by decide +kernel))) (goodIn_sub (fun _ h => List.mem_cons_of_mem _ (List.mem_append_left _ (List.mem_append_left _ (List.mem_append_right _ h)))) (by decide +kernel))
set_option maxRecDepth 20000 in
theorem gL_act_X3_shift : GoodIn wsL_act (wsV RL 104 RX3 yX3_shift wsX3_shift) := goodIn_app (goodIn_of _ (by decide +kernel)) ggL_act_X3_shift
set_option maxRecDepth 20000 in
theorem ggL_act_X4_take : GoodIn wsL_act wsX4_take := goodIn_r _ [203, 99, 6, 7, 8, 100, 101, 102, 103] (by decide +kernel) (by decide +kernel)
set_option maxRecDepth 20000 in
theorem gL_act_X4_take : GoodIn wsL_act (va_wsS RL 108 yX4_take wsX4_take) := goodIn_app (goodIn_of _ (by decide +kernel)) ggL_act_X4_take
set_option maxRecDepth 20000 in
theorem ggL_act_X5_all : GoodIn wsL_act wsX5_all := goodIn_r _ [103] (by decide +kernel) (by decide +kernel)
set_option maxRecDepth 20000 in
theorem gL_act_X5_all : GoodIn wsL_act (va_wsS RL 112 yX5_all wsX5_all) := goodIn_app (goodIn_of _ (by decide +kernel)) ggL_act_X5_all
set_option maxRecDepth 20000 in
theorem ggL_act_X3_fill : GoodIn wsL_act wsX3_fill := goodIn_ca (goodIn_ca (goodIn_r _ [208, 146, 147, 148, 23, 149, 32, 33, 150, 151, 36, 37, 38, 39, 40, 41, 42, 43, 44, 45, 46, 47, 48, 49, 50, 51, 52, 53, 54, 55, 56, 57, 58, 188, 189, 190, 109, 110, 111, 112, 25, 117, 118, 119, 120, 121, 191, 192, 193, 108, 6, 7, 8, 194, 195, 196, 68, 197, 198, 199, 66, 67, 69, 70, 200, 78, 79, 80, 81, 222, 223, 224, 225, 226, 227, 228, 229, 232, 233, 234, 237, 238, 239, 240, 241, 242, 243, 235, 236] (by decide +kernel) (by decide +kernel)) (goodIn_sub (fun _ h => List.mem_cons_of_mem _ (List.mem_append_left _ (List.mem_append_left _ (List.mem_append_right _ h)))) (by decide +kernel))) (goodIn_sub (fun _ h => List.mem_cons_of_mem _ (List.mem_append_left _ (List.mem_append_right _ h))) (by decide +kernel))
set_option maxRecDepth 20000 in
theorem gL_act_X3_fill : GoodIn wsL_act (wsV RL 116 RX3 yX3_fill wsX3_fill) := goodIn_app (goodIn_of _ (by decide +kernel)) ggL_act_X3_fill
theorem dL_act_0 : decode cL_act 0 = .ok (.iload_n 2, 1) := by decide +kernel
theorem dL_act_1 : decode cL_act 1 = .ok (.aload_n 1, 1) := by decide +kernel
theorem dL_act_2 : decode cL_act 2 = .ok (.getfield 32, 3) := by decide +kernel
theorem dL_act_5 : decode cL_act 5 = .ok (.arraylength, 1) := by decide +kernel
theorem dL_act_6 : decode cL_act 6 = .ok (.invokestatic 18, 3) := by decide +kernel
theorem dL_act_9 : decode cL_act 9 = .ok (.istore_n 3, 1) := by decide +kernel
theorem dL_act_10 : decode cL_act 10 = .ok (.iload_n 2, 1) := by decide +kernel
theorem dL_act_11 : decode cL_act 11 = .ok (.iconst 3, 1) := by decide +kernel
theorem dL_act_12 : decode cL_act 12 = .ok (.ishr, 1) := by decide +kernel
theorem dL_act_13 : decode cL_act 13 = .ok (.iconst 5, 1) := by decide +kernel
theorem dL_act_14 : decode cL_act 14 = .ok (.invokestatic 18, 3) := by decide +kernel
theorem dL_act_17 : decode cL_act 17 = .ok (.istore 4, 2) := by decide +kernel
theorem dL_act_19 : decode cL_act 19 = .ok (.iload_n 2, 1) := by decide +kernel
theorem dL_act_20 : decode cL_act 20 = .ok (.iconst 2, 1) := by decide +kernel
theorem dL_act_21 : decode cL_act 21 = .ok (.ishr, 1) := by decide +kernel
theorem dL_act_22 : decode cL_act 22 = .ok (.aload_n 1, 1) := by decide +kernel
theorem dL_act_23 : decode cL_act 23 = .ok (.getfield 47, 3) := by decide +kernel
theorem dL_act_26 : decode cL_act 26 = .ok (.arraylength, 1) := by decide +kernel
theorem dL_act_27 : decode cL_act 27 = .ok (.invokestatic 18, 3) := by decide +kernel
theorem dL_act_30 : decode cL_act 30 = .ok (.istore 5, 2) := by decide +kernel
theorem dL_act_32 : decode cL_act 32 = .ok (.aload_n 1, 1) := by decide +kernel
theorem dL_act_33 : decode cL_act 33 = .ok (.getfield 47, 3) := by decide +kernel
theorem dL_act_36 : decode cL_act 36 = .ok (.iload 5, 2) := by decide +kernel
theorem dL_act_38 : decode cL_act 38 = .ok (.aaload, 1) := by decide +kernel
theorem dL_act_39 : decode cL_act 39 = .ok (.astore 6, 2) := by decide +kernel
theorem dL_act_41 : decode cL_act 41 = .ok (.iload_n 2, 1) := by decide +kernel
theorem dL_act_42 : decode cL_act 42 = .ok (.iconst 4, 1) := by decide +kernel
theorem dL_act_43 : decode cL_act 43 = .ok (.ishr, 1) := by decide +kernel
theorem dL_act_44 : decode cL_act 44 = .ok (.aload 6, 2) := by decide +kernel
theorem dL_act_46 : decode cL_act 46 = .ok (.getfield 51, 3) := by decide +kernel
theorem dL_act_49 : decode cL_act 49 = .ok (.arraylength, 1) := by decide +kernel
theorem dL_act_50 : decode cL_act 50 = .ok (.invokestatic 18, 3) := by decide +kernel
theorem dL_act_53 : decode cL_act 53 = .ok (.istore 7, 2) := by decide +kernel
theorem dL_act_55 : decode cL_act 55 = .ok (.iconst 1, 1) := by decide +kernel
theorem dL_act_56 : decode cL_act 56 = .ok (.iload_n 2, 1) := by decide +kernel
theorem dL_act_57 : decode cL_act 57 = .ok (.iconst 5, 1) := by decide +kernel
theorem dL_act_58 : decode cL_act 58 = .ok (.ishr, 1) := by decide +kernel
theorem dL_act_59 : decode cL_act 59 = .ok (.sipush 300, 3) := by decide +kernel
theorem dL_act_62 : decode cL_act 62 = .ok (.invokestatic 18, 3) := by decide +kernel
theorem dL_act_65 : decode cL_act 65 = .ok (.iadd, 1) := by decide +kernel
theorem dL_act_66 : decode cL_act 66 = .ok (.istore 8, 2) := by decide +kernel
theorem dL_act_68 : decode cL_act 68 = .ok (.iload_n 2, 1) := by decide +kernel
theorem dL_act_69 : decode cL_act 69 = .ok (.bipush 8, 2) := by decide +kernel
theorem dL_act_71 : decode cL_act 71 = .ok (.ishr, 1) := by decide +kernel
theorem dL_act_72 : decode cL_act 72 = .ok (.bipush 9, 2) := by decide +kernel
theorem dL_act_74 : decode cL_act 74 = .ok (.invokestatic 18, 3) := by decide +kernel
theorem dL_act_77 : decode cL_act 77 = .ok (.tableswitch 479 0 6 #[43, 62, 163, 202, 259, 330, 415], 43) := by decide +kernel
theorem dL_act_120 : decode cL_act 120 = .ok (.aload_n 0, 1) := by decide +kernel
theorem dL_act_121 : decode cL_act 121 = .ok (.iload_n 3, 1) := by decide +kernel
theorem dL_act_122 : decode cL_act 122 = .ok (.invokevirtual 56, 3) := by decide +kernel
theorem dL_act_125 : decode cL_act 125 = .ok (.aload_n 1, 1) := by decide +kernel
theorem dL_act_126 : decode cL_act 126 = .ok (.iload_n 3, 1) := by decide +kernel
theorem dL_act_127 : decode cL_act 127 = .ok (.invokevirtual 59, 3) := by decide +kernel
theorem dL_act_130 : decode cL_act 130 = .ok (.if_icmp .ne 7, 3) := by decide +kernel
theorem dL_act_133 : decode cL_act 133 = .ok (.iconst 1, 1) := by decide +kernel
theorem dL_act_134 : decode cL_act 134 = .ok (.goto 4, 3) := by decide +kernel
theorem dL_act_137 : decode cL_act 137 = .ok (.iconst 0, 1) := by decide +kernel
theorem dL_act_138 : decode cL_act 138 = .ok (.ireturn, 1) := by decide +kernel
theorem dL_act_139 : decode cL_act 139 = .ok (.iconst 0, 1) := by decide +kernel
theorem dL_act_140 : decode cL_act 140 = .ok (.istore 9, 2) := by decide +kernel
theorem dL_act_142 : decode cL_act 142 = .ok (.iconst 0, 1) := by decide +kernel
theorem dL_act_143 : decode cL_act 143 = .ok (.istore 10, 2) := by decide +kernel
theorem dL_act_145 : decode cL_act 145 = .ok (.iload 10, 2) := by decide +kernel
theorem dL_act_147 : decode cL_act 147 = .ok (.bipush 6, 2) := by decide +kernel
theorem dL_act_149 : decode cL_act 149 = .ok (.if_icmp .ge 73, 3) := by decide +kernel
theorem dL_act_152 : decode cL_act 152 = .ok (.sipush 500, 3) := by decide +kernel
theorem dL_act_155 : decode cL_act 155 = .ok (.aload_n 1, 1) := by decide +kernel
theorem dL_act_156 : decode cL_act 156 = .ok (.getfield 32, 3) := by decide +kernel
theorem dL_act_159 : decode cL_act 159 = .ok (.iload_n 3, 1) := by decide +kernel
theorem dL_act_160 : decode cL_act 160 = .ok (.aaload, 1) := by decide +kernel
theorem dL_act_161 : decode cL_act 161 = .ok (.iload 10, 2) := by decide +kernel
theorem dL_act_163 : decode cL_act 163 = .ok (.iaload, 1) := by decide +kernel
theorem dL_act_164 : decode cL_act 164 = .ok (.isub, 1) := by decide +kernel
theorem dL_act_165 : decode cL_act 165 = .ok (.aload_n 1, 1) := by decide +kernel
theorem dL_act_166 : decode cL_act 166 = .ok (.getfield 60, 3) := by decide +kernel
theorem dL_act_169 : decode cL_act 169 = .ok (.iload 4, 2) := by decide +kernel
theorem dL_act_171 : decode cL_act 171 = .ok (.aaload, 1) := by decide +kernel
theorem dL_act_172 : decode cL_act 172 = .ok (.iload 10, 2) := by decide +kernel
theorem dL_act_174 : decode cL_act 174 = .ok (.iaload, 1) := by decide +kernel
theorem dL_act_175 : decode cL_act 175 = .ok (.invokestatic 63, 3) := by decide +kernel
theorem dL_act_178 : decode cL_act 178 = .ok (.istore 11, 2) := by decide +kernel
theorem dL_act_180 : decode cL_act 180 = .ok (.aload_n 1, 1) := by decide +kernel
theorem dL_act_181 : decode cL_act 181 = .ok (.getfield 32, 3) := by decide +kernel
theorem dL_act_184 : decode cL_act 184 = .ok (.iload_n 3, 1) := by decide +kernel
theorem dL_act_185 : decode cL_act 185 = .ok (.aaload, 1) := by decide +kernel
theorem dL_act_186 : decode cL_act 186 = .ok (.iload 10, 2) := by decide +kernel
theorem dL_act_188 : decode cL_act 188 = .ok (.dup2, 1) := by decide +kernel
theorem dL_act_189 : decode cL_act 189 = .ok (.iaload, 1) := by decide +kernel
theorem dL_act_190 : decode cL_act 190 = .ok (.iload 11, 2) := by decide +kernel
theorem dL_act_192 : decode cL_act 192 = .ok (.iadd, 1) := by decide +kernel
theorem dL_act_193 : decode cL_act 193 = .ok (.iastore, 1) := by decide +kernel
theorem dL_act_194 : decode cL_act 194 = .ok (.aload_n 1, 1) := by decide +kernel
theorem dL_act_195 : decode cL_act 195 = .ok (.getfield 60, 3) := by decide +kernel
theorem dL_act_198 : decode cL_act 198 = .ok (.iload 4, 2) := by decide +kernel
theorem dL_act_200 : decode cL_act 200 = .ok (.aaload, 1) := by decide +kernel
theorem dL_act_201 : decode cL_act 201 = .ok (.iload 10, 2) := by decide +kernel
theorem dL_act_203 : decode cL_act 203 = .ok (.dup2, 1) := by decide +kernel
theorem dL_act_204 : decode cL_act 204 = .ok (.iaload, 1) := by decide +kernel
theorem dL_act_205 : decode cL_act 205 = .ok (.iload 11, 2) := by decide +kernel
theorem dL_act_207 : decode cL_act 207 = .ok (.isub, 1) := by decide +kernel
theorem dL_act_208 : decode cL_act 208 = .ok (.iastore, 1) := by decide +kernel
theorem dL_act_209 : decode cL_act 209 = .ok (.iload 9, 2) := by decide +kernel
theorem dL_act_211 : decode cL_act 211 = .ok (.iload 11, 2) := by decide +kernel
theorem dL_act_213 : decode cL_act 213 = .ok (.iadd, 1) := by decide +kernel
theorem dL_act_214 : decode cL_act 214 = .ok (.istore 9, 2) := by decide +kernel
theorem dL_act_216 : decode cL_act 216 = .ok (.iinc 10 1, 3) := by decide +kernel
theorem dL_act_219 : decode cL_act 219 = .ok (.goto (-74), 3) := by decide +kernel
theorem dL_act_222 : decode cL_act 222 = .ok (.aload_n 0, 1) := by decide +kernel
theorem dL_act_223 : decode cL_act 223 = .ok (.iload 4, 2) := by decide +kernel
theorem dL_act_225 : decode cL_act 225 = .ok (.iload_n 3, 1) := by decide +kernel
theorem dL_act_226 : decode cL_act 226 = .ok (.invokevirtual 68, 3) := by decide +kernel
theorem dL_act_229 : decode cL_act 229 = .ok (.iload 9, 2) := by decide +kernel
theorem dL_act_231 : decode cL_act 231 = .ok (.if_icmp .ne 7, 3) := by decide +kernel
theorem dL_act_234 : decode cL_act 234 = .ok (.iconst 1, 1) := by decide +kernel
theorem dL_act_235 : decode cL_act 235 = .ok (.goto 4, 3) := by decide +kernel
theorem dL_act_238 : decode cL_act 238 = .ok (.iconst 0, 1) := by decide +kernel
theorem dL_act_239 : decode cL_act 239 = .ok (.ireturn, 1) := by decide +kernel
theorem dL_act_240 : decode cL_act 240 = .ok (.aload_n 1, 1) := by decide +kernel
theorem dL_act_241 : decode cL_act 241 = .ok (.getfield 71, 3) := by decide +kernel
theorem dL_act_244 : decode cL_act 244 = .ok (.istore 10, 2) := by decide +kernel
theorem dL_act_246 : decode cL_act 246 = .ok (.aload_n 1, 1) := by decide +kernel
theorem dL_act_247 : decode cL_act 247 = .ok (.iconst 1, 1) := by decide +kernel
theorem dL_act_248 : decode cL_act 248 = .ok (.iload_n 2, 1) := by decide +kernel
theorem dL_act_249 : decode cL_act 249 = .ok (.iconst 3, 1) := by decide +kernel
theorem dL_act_250 : decode cL_act 250 = .ok (.ishr, 1) := by decide +kernel
theorem dL_act_251 : decode cL_act 251 = .ok (.bipush 20, 2) := by decide +kernel
theorem dL_act_253 : decode cL_act 253 = .ok (.invokestatic 18, 3) := by decide +kernel
theorem dL_act_256 : decode cL_act 256 = .ok (.iadd, 1) := by decide +kernel
theorem dL_act_257 : decode cL_act 257 = .ok (.putfield 71, 3) := by decide +kernel
theorem dL_act_260 : decode cL_act 260 = .ok (.aload_n 0, 1) := by decide +kernel
theorem dL_act_261 : decode cL_act 261 = .ok (.aload_n 1, 1) := by decide +kernel
theorem dL_act_262 : decode cL_act 262 = .ok (.getfield 71, 3) := by decide +kernel
theorem dL_act_265 : decode cL_act 265 = .ok (.invokevirtual 75, 3) := by decide +kernel
theorem dL_act_268 : decode cL_act 268 = .ok (.iload 10, 2) := by decide +kernel
theorem dL_act_270 : decode cL_act 270 = .ok (.if_icmp .ne 7, 3) := by decide +kernel
theorem dL_act_273 : decode cL_act 273 = .ok (.iconst 1, 1) := by decide +kernel
theorem dL_act_274 : decode cL_act 274 = .ok (.goto 4, 3) := by decide +kernel
theorem dL_act_277 : decode cL_act 277 = .ok (.iconst 0, 1) := by decide +kernel
theorem dL_act_278 : decode cL_act 278 = .ok (.ireturn, 1) := by decide +kernel
theorem dL_act_279 : decode cL_act 279 = .ok (.aload_n 1, 1) := by decide +kernel
theorem dL_act_280 : decode cL_act 280 = .ok (.getfield 78, 3) := by decide +kernel
theorem dL_act_283 : decode cL_act 283 = .ok (.iload_n 3, 1) := by decide +kernel
theorem dL_act_284 : decode cL_act 284 = .ok (.iconst 0, 1) := by decide +kernel
theorem dL_act_285 : decode cL_act 285 = .ok (.aload_n 1, 1) := by decide +kernel
theorem dL_act_286 : decode cL_act 286 = .ok (.getfield 78, 3) := by decide +kernel
theorem dL_act_289 : decode cL_act 289 = .ok (.iload_n 3, 1) := by decide +kernel
theorem dL_act_290 : decode cL_act 290 = .ok (.iaload, 1) := by decide +kernel
theorem dL_act_291 : decode cL_act 291 = .ok (.iconst 1, 1) := by decide +kernel
theorem dL_act_292 : decode cL_act 292 = .ok (.isub, 1) := by decide +kernel
theorem dL_act_293 : decode cL_act 293 = .ok (.iload_n 2, 1) := by decide +kernel
theorem dL_act_294 : decode cL_act 294 = .ok (.iconst 4, 1) := by decide +kernel
theorem dL_act_295 : decode cL_act 295 = .ok (.ishr, 1) := by decide +kernel
theorem dL_act_296 : decode cL_act 296 = .ok (.bipush 9, 2) := by decide +kernel
theorem dL_act_298 : decode cL_act 298 = .ok (.invokestatic 18, 3) := by decide +kernel
theorem dL_act_301 : decode cL_act 301 = .ok (.isub, 1) := by decide +kernel
theorem dL_act_302 : decode cL_act 302 = .ok (.invokestatic 82, 3) := by decide +kernel
theorem dL_act_305 : decode cL_act 305 = .ok (.iastore, 1) := by decide +kernel
theorem dL_act_306 : decode cL_act 306 = .ok (.aload_n 0, 1) := by decide +kernel
theorem dL_act_307 : decode cL_act 307 = .ok (.iload_n 3, 1) := by decide +kernel
theorem dL_act_308 : decode cL_act 308 = .ok (.iconst 1, 1) := by decide +kernel
theorem dL_act_309 : decode cL_act 309 = .ok (.iload_n 2, 1) := by decide +kernel
theorem dL_act_310 : decode cL_act 310 = .ok (.iconst 4, 1) := by decide +kernel
theorem dL_act_311 : decode cL_act 311 = .ok (.ishr, 1) := by decide +kernel
theorem dL_act_312 : decode cL_act 312 = .ok (.bipush 9, 2) := by decide +kernel
theorem dL_act_314 : decode cL_act 314 = .ok (.invokestatic 18, 3) := by decide +kernel
theorem dL_act_317 : decode cL_act 317 = .ok (.iadd, 1) := by decide +kernel
theorem dL_act_318 : decode cL_act 318 = .ok (.invokevirtual 85, 3) := by decide +kernel
theorem dL_act_321 : decode cL_act 321 = .ok (.aload_n 1, 1) := by decide +kernel
theorem dL_act_322 : decode cL_act 322 = .ok (.getfield 78, 3) := by decide +kernel
theorem dL_act_325 : decode cL_act 325 = .ok (.iload_n 3, 1) := by decide +kernel
theorem dL_act_326 : decode cL_act 326 = .ok (.iaload, 1) := by decide +kernel
theorem dL_act_327 : decode cL_act 327 = .ok (.if_icmp .ne 7, 3) := by decide +kernel
theorem dL_act_330 : decode cL_act 330 = .ok (.iconst 1, 1) := by decide +kernel
theorem dL_act_331 : decode cL_act 331 = .ok (.goto 4, 3) := by decide +kernel
theorem dL_act_334 : decode cL_act 334 = .ok (.iconst 0, 1) := by decide +kernel
theorem dL_act_335 : decode cL_act 335 = .ok (.ireturn, 1) := by decide +kernel
theorem dL_act_336 : decode cL_act 336 = .ok (.iload_n 2, 1) := by decide +kernel
theorem dL_act_337 : decode cL_act 337 = .ok (.iconst 3, 1) := by decide +kernel
theorem dL_act_338 : decode cL_act 338 = .ok (.ishr, 1) := by decide +kernel
theorem dL_act_339 : decode cL_act 339 = .ok (.bipush 6, 2) := by decide +kernel
theorem dL_act_341 : decode cL_act 341 = .ok (.invokestatic 18, 3) := by decide +kernel
theorem dL_act_344 : decode cL_act 344 = .ok (.istore 11, 2) := by decide +kernel
theorem dL_act_346 : decode cL_act 346 = .ok (.aload_n 1, 1) := by decide +kernel
theorem dL_act_347 : decode cL_act 347 = .ok (.getfield 32, 3) := by decide +kernel
theorem dL_act_350 : decode cL_act 350 = .ok (.iload_n 3, 1) := by decide +kernel
theorem dL_act_351 : decode cL_act 351 = .ok (.aaload, 1) := by decide +kernel
theorem dL_act_352 : decode cL_act 352 = .ok (.iload 11, 2) := by decide +kernel
theorem dL_act_354 : decode cL_act 354 = .ok (.iaload, 1) := by decide +kernel
theorem dL_act_355 : decode cL_act 355 = .ok (.iload 8, 2) := by decide +kernel
theorem dL_act_357 : decode cL_act 357 = .ok (.iadd, 1) := by decide +kernel
theorem dL_act_358 : decode cL_act 358 = .ok (.sipush 500, 3) := by decide +kernel
theorem dL_act_361 : decode cL_act 361 = .ok (.if_icmp .le 5, 3) := by decide +kernel
theorem dL_act_364 : decode cL_act 364 = .ok (.iconst 1, 1) := by decide +kernel
theorem dL_act_365 : decode cL_act 365 = .ok (.ireturn, 1) := by decide +kernel
theorem dL_act_366 : decode cL_act 366 = .ok (.aload_n 1, 1) := by decide +kernel
theorem dL_act_367 : decode cL_act 367 = .ok (.getfield 32, 3) := by decide +kernel
theorem dL_act_370 : decode cL_act 370 = .ok (.iload_n 3, 1) := by decide +kernel
theorem dL_act_371 : decode cL_act 371 = .ok (.aaload, 1) := by decide +kernel
theorem dL_act_372 : decode cL_act 372 = .ok (.iload 11, 2) := by decide +kernel
theorem dL_act_374 : decode cL_act 374 = .ok (.dup2, 1) := by decide +kernel
theorem dL_act_375 : decode cL_act 375 = .ok (.iaload, 1) := by decide +kernel
theorem dL_act_376 : decode cL_act 376 = .ok (.iload 8, 2) := by decide +kernel
theorem dL_act_378 : decode cL_act 378 = .ok (.iadd, 1) := by decide +kernel
theorem dL_act_379 : decode cL_act 379 = .ok (.iastore, 1) := by decide +kernel
theorem dL_act_380 : decode cL_act 380 = .ok (.aload_n 0, 1) := by decide +kernel
theorem dL_act_381 : decode cL_act 381 = .ok (.iload_n 3, 1) := by decide +kernel
theorem dL_act_382 : decode cL_act 382 = .ok (.iload 11, 2) := by decide +kernel
theorem dL_act_384 : decode cL_act 384 = .ok (.iload 8, 2) := by decide +kernel
theorem dL_act_386 : decode cL_act 386 = .ok (.invokevirtual 36, 3) := by decide +kernel
theorem dL_act_389 : decode cL_act 389 = .ok (.aload_n 1, 1) := by decide +kernel
theorem dL_act_390 : decode cL_act 390 = .ok (.getfield 32, 3) := by decide +kernel
theorem dL_act_393 : decode cL_act 393 = .ok (.iload_n 3, 1) := by decide +kernel
theorem dL_act_394 : decode cL_act 394 = .ok (.aaload, 1) := by decide +kernel
theorem dL_act_395 : decode cL_act 395 = .ok (.iload 11, 2) := by decide +kernel
theorem dL_act_397 : decode cL_act 397 = .ok (.iaload, 1) := by decide +kernel
theorem dL_act_398 : decode cL_act 398 = .ok (.if_icmp .ne 7, 3) := by decide +kernel
theorem dL_act_401 : decode cL_act 401 = .ok (.iconst 1, 1) := by decide +kernel
theorem dL_act_402 : decode cL_act 402 = .ok (.goto 4, 3) := by decide +kernel
theorem dL_act_405 : decode cL_act 405 = .ok (.iconst 0, 1) := by decide +kernel
theorem dL_act_406 : decode cL_act 406 = .ok (.ireturn, 1) := by decide +kernel
theorem dL_act_407 : decode cL_act 407 = .ok (.iload_n 2, 1) := by decide +kernel
theorem dL_act_408 : decode cL_act 408 = .ok (.iconst 3, 1) := by decide +kernel
theorem dL_act_409 : decode cL_act 409 = .ok (.ishr, 1) := by decide +kernel
theorem dL_act_410 : decode cL_act 410 = .ok (.iconst 2, 1) := by decide +kernel
theorem dL_act_411 : decode cL_act 411 = .ok (.invokestatic 18, 3) := by decide +kernel
theorem dL_act_414 : decode cL_act 414 = .ok (.istore 12, 2) := by decide +kernel
theorem dL_act_416 : decode cL_act 416 = .ok (.aload 6, 2) := by decide +kernel
theorem dL_act_418 : decode cL_act 418 = .ok (.iload 7, 2) := by decide +kernel
theorem dL_act_420 : decode cL_act 420 = .ok (.iload 12, 2) := by decide +kernel
theorem dL_act_422 : decode cL_act 422 = .ok (.invokevirtual 88, 3) := by decide +kernel
theorem dL_act_425 : decode cL_act 425 = .ok (.ifCond .ne 5, 3) := by decide +kernel
theorem dL_act_428 : decode cL_act 428 = .ok (.iconst 1, 1) := by decide +kernel
theorem dL_act_429 : decode cL_act 429 = .ok (.ireturn, 1) := by decide +kernel
theorem dL_act_430 : decode cL_act 430 = .ok (.aload 6, 2) := by decide +kernel
theorem dL_act_432 : decode cL_act 432 = .ok (.getfield 92, 3) := by decide +kernel
theorem dL_act_435 : decode cL_act 435 = .ok (.iload 7, 2) := by decide +kernel
theorem dL_act_437 : decode cL_act 437 = .ok (.aaload, 1) := by decide +kernel
theorem dL_act_438 : decode cL_act 438 = .ok (.iload 12, 2) := by decide +kernel
theorem dL_act_440 : decode cL_act 440 = .ok (.iload_n 2, 1) := by decide +kernel
theorem dL_act_441 : decode cL_act 441 = .ok (.bipush 6, 2) := by decide +kernel
theorem dL_act_443 : decode cL_act 443 = .ok (.ishr, 1) := by decide +kernel
theorem dL_act_444 : decode cL_act 444 = .ok (.iconst 3, 1) := by decide +kernel
theorem dL_act_445 : decode cL_act 445 = .ok (.invokestatic 18, 3) := by decide +kernel
theorem dL_act_448 : decode cL_act 448 = .ok (.ifCond .le 7, 3) := by decide +kernel
theorem dL_act_451 : decode cL_act 451 = .ok (.iconst 1, 1) := by decide +kernel
theorem dL_act_452 : decode cL_act 452 = .ok (.goto 4, 3) := by decide +kernel
theorem dL_act_455 : decode cL_act 455 = .ok (.iconst 0, 1) := by decide +kernel
theorem dL_act_456 : decode cL_act 456 = .ok (.bastore, 1) := by decide +kernel
theorem dL_act_457 : decode cL_act 457 = .ok (.aload_n 0, 1) := by decide +kernel
theorem dL_act_458 : decode cL_act 458 = .ok (.iload 5, 2) := by decide +kernel
theorem dL_act_460 : decode cL_act 460 = .ok (.iload 7, 2) := by decide +kernel
theorem dL_act_462 : decode cL_act 462 = .ok (.iload 12, 2) := by decide +kernel
theorem dL_act_464 : decode cL_act 464 = .ok (.aload 6, 2) := by decide +kernel
theorem dL_act_466 : decode cL_act 466 = .ok (.getfield 92, 3) := by decide +kernel
theorem dL_act_469 : decode cL_act 469 = .ok (.iload 7, 2) := by decide +kernel
theorem dL_act_471 : decode cL_act 471 = .ok (.aaload, 1) := by decide +kernel
theorem dL_act_472 : decode cL_act 472 = .ok (.iload 12, 2) := by decide +kernel
theorem dL_act_474 : decode cL_act 474 = .ok (.baload, 1) := by decide +kernel
theorem dL_act_475 : decode cL_act 475 = .ok (.invokevirtual 96, 3) := by decide +kernel
theorem dL_act_478 : decode cL_act 478 = .ok (.aload 6, 2) := by decide +kernel
theorem dL_act_480 : decode cL_act 480 = .ok (.invokevirtual 100, 3) := by decide +kernel
theorem dL_act_483 : decode cL_act 483 = .ok (.if_icmp .ne 7, 3) := by decide +kernel
theorem dL_act_486 : decode cL_act 486 = .ok (.iconst 1, 1) := by decide +kernel
theorem dL_act_487 : decode cL_act 487 = .ok (.goto 4, 3) := by decide +kernel
theorem dL_act_490 : decode cL_act 490 = .ok (.iconst 0, 1) := by decide +kernel
theorem dL_act_491 : decode cL_act 491 = .ok (.ireturn, 1) := by decide +kernel
theorem dL_act_492 : decode cL_act 492 = .ok (.iload_n 2, 1) := by decide +kernel
theorem dL_act_493 : decode cL_act 493 = .ok (.bipush 6, 2) := by decide +kernel
theorem dL_act_495 : decode cL_act 495 = .ok (.ishr, 1) := by decide +kernel
theorem dL_act_496 : decode cL_act 496 = .ok (.aload 6, 2) := by decide +kernel
theorem dL_act_498 : decode cL_act 498 = .ok (.getfield 51, 3) := by decide +kernel
theorem dL_act_501 : decode cL_act 501 = .ok (.arraylength, 1) := by decide +kernel
theorem dL_act_502 : decode cL_act 502 = .ok (.invokestatic 18, 3) := by decide +kernel
theorem dL_act_505 : decode cL_act 505 = .ok (.istore 13, 2) := by decide +kernel
theorem dL_act_507 : decode cL_act 507 = .ok (.iload 13, 2) := by decide +kernel
theorem dL_act_509 : decode cL_act 509 = .ok (.iload 7, 2) := by decide +kernel
theorem dL_act_511 : decode cL_act 511 = .ok (.if_icmp .eq 39, 3) := by decide +kernel
theorem dL_act_514 : decode cL_act 514 = .ok (.aload_n 0, 1) := by decide +kernel
theorem dL_act_515 : decode cL_act 515 = .ok (.iload 5, 2) := by decide +kernel
theorem dL_act_517 : decode cL_act 517 = .ok (.iload 7, 2) := by decide +kernel
theorem dL_act_519 : decode cL_act 519 = .ok (.iload 13, 2) := by decide +kernel
theorem dL_act_521 : decode cL_act 521 = .ok (.iload 8, 2) := by decide +kernel
theorem dL_act_523 : decode cL_act 523 = .ok (.invokevirtual 104, 3) := by decide +kernel
theorem dL_act_526 : decode cL_act 526 = .ok (.aload 6, 2) := by decide +kernel
theorem dL_act_528 : decode cL_act 528 = .ok (.getfield 51, 3) := by decide +kernel
theorem dL_act_531 : decode cL_act 531 = .ok (.iload 7, 2) := by decide +kernel
theorem dL_act_533 : decode cL_act 533 = .ok (.aaload, 1) := by decide +kernel
theorem dL_act_534 : decode cL_act 534 = .ok (.aload 6, 2) := by decide +kernel
theorem dL_act_536 : decode cL_act 536 = .ok (.getfield 51, 3) := by decide +kernel
theorem dL_act_539 : decode cL_act 539 = .ok (.iload 13, 2) := by decide +kernel
theorem dL_act_541 : decode cL_act 541 = .ok (.aaload, 1) := by decide +kernel
theorem dL_act_542 : decode cL_act 542 = .ok (.iload 8, 2) := by decide +kernel
theorem dL_act_544 : decode cL_act 544 = .ok (.invokestatic 108, 3) := by decide +kernel
theorem dL_act_547 : decode cL_act 547 = .ok (.if_icmp .ne 7, 3) := by decide +kernel
theorem dL_act_550 : decode cL_act 550 = .ok (.iconst 1, 1) := by decide +kernel
theorem dL_act_551 : decode cL_act 551 = .ok (.goto 4, 3) := by decide +kernel
theorem dL_act_554 : decode cL_act 554 = .ok (.iconst 0, 1) := by decide +kernel
theorem dL_act_555 : decode cL_act 555 = .ok (.ireturn, 1) := by decide +kernel
theorem dL_act_556 : decode cL_act 556 = .ok (.iconst 0, 1) := by decide +kernel
theorem dL_act_557 : decode cL_act 557 = .ok (.istore 14, 2) := by decide +kernel
theorem dL_act_559 : decode cL_act 559 = .ok (.iload 14, 2) := by decide +kernel
theorem dL_act_561 : decode cL_act 561 = .ok (.iconst 5, 1) := by decide +kernel
theorem dL_act_562 : decode cL_act 562 = .ok (.if_icmp .ge 47, 3) := by decide +kernel
theorem dL_act_565 : decode cL_act 565 = .ok (.iload_n 2, 1) := by decide +kernel
theorem dL_act_566 : decode cL_act 566 = .ok (.bipush 6, 2) := by decide +kernel
theorem dL_act_568 : decode cL_act 568 = .ok (.ishr, 1) := by decide +kernel
theorem dL_act_569 : decode cL_act 569 = .ok (.iconst 3, 1) := by decide +kernel
theorem dL_act_570 : decode cL_act 570 = .ok (.invokestatic 18, 3) := by decide +kernel
theorem dL_act_573 : decode cL_act 573 = .ok (.ifCond .le 36, 3) := by decide +kernel
theorem dL_act_576 : decode cL_act 576 = .ok (.aload_n 1, 1) := by decide +kernel
theorem dL_act_577 : decode cL_act 577 = .ok (.getfield 60, 3) := by decide +kernel
theorem dL_act_580 : decode cL_act 580 = .ok (.iload 14, 2) := by decide +kernel
theorem dL_act_582 : decode cL_act 582 = .ok (.aaload, 1) := by decide +kernel
theorem dL_act_583 : decode cL_act 583 = .ok (.invokestatic 112, 3) := by decide +kernel
theorem dL_act_586 : decode cL_act 586 = .ok (.aload_n 1, 1) := by decide +kernel
theorem dL_act_587 : decode cL_act 587 = .ok (.getfield 60, 3) := by decide +kernel
theorem dL_act_590 : decode cL_act 590 = .ok (.iload 4, 2) := by decide +kernel
theorem dL_act_592 : decode cL_act 592 = .ok (.aaload, 1) := by decide +kernel
theorem dL_act_593 : decode cL_act 593 = .ok (.invokestatic 112, 3) := by decide +kernel
theorem dL_act_596 : decode cL_act 596 = .ok (.if_icmp .le 7, 3) := by decide +kernel
theorem dL_act_599 : decode cL_act 599 = .ok (.iload 14, 2) := by decide +kernel
theorem dL_act_601 : decode cL_act 601 = .ok (.istore 4, 2) := by decide +kernel
theorem dL_act_603 : decode cL_act 603 = .ok (.iinc 14 1, 3) := by decide +kernel
theorem dL_act_606 : decode cL_act 606 = .ok (.goto (-47), 3) := by decide +kernel
theorem dL_act_609 : decode cL_act 609 = .ok (.aload_n 0, 1) := by decide +kernel
theorem dL_act_610 : decode cL_act 610 = .ok (.iload 5, 2) := by decide +kernel
theorem dL_act_612 : decode cL_act 612 = .ok (.iload 7, 2) := by decide +kernel
theorem dL_act_614 : decode cL_act 614 = .ok (.iload 4, 2) := by decide +kernel
theorem dL_act_616 : decode cL_act 616 = .ok (.iload 8, 2) := by decide +kernel
theorem dL_act_618 : decode cL_act 618 = .ok (.invokevirtual 116, 3) := by decide +kernel
theorem dL_act_621 : decode cL_act 621 = .ok (.aload_n 1, 1) := by decide +kernel
theorem dL_act_622 : decode cL_act 622 = .ok (.getfield 60, 3) := by decide +kernel
theorem dL_act_625 : decode cL_act 625 = .ok (.iload 4, 2) := by decide +kernel
theorem dL_act_627 : decode cL_act 627 = .ok (.aaload, 1) := by decide +kernel
theorem dL_act_628 : decode cL_act 628 = .ok (.aload 6, 2) := by decide +kernel
theorem dL_act_630 : decode cL_act 630 = .ok (.getfield 51, 3) := by decide +kernel
theorem dL_act_633 : decode cL_act 633 = .ok (.iload 7, 2) := by decide +kernel
theorem dL_act_635 : decode cL_act 635 = .ok (.aaload, 1) := by decide +kernel
theorem dL_act_636 : decode cL_act 636 = .ok (.iload 8, 2) := by decide +kernel
theorem dL_act_638 : decode cL_act 638 = .ok (.invokestatic 108, 3) := by decide +kernel
theorem dL_act_641 : decode cL_act 641 = .ok (.if_icmp .ne 7, 3) := by decide +kernel
theorem dL_act_644 : decode cL_act 644 = .ok (.iconst 1, 1) := by decide +kernel
theorem dL_act_645 : decode cL_act 645 = .ok (.goto 4, 3) := by decide +kernel
theorem dL_act_648 : decode cL_act 648 = .ok (.iconst 0, 1) := by decide +kernel
theorem dL_act_649 : decode cL_act 649 = .ok (.ireturn, 1) := by decide +kernel
set_option maxRecDepth 20000 in
theorem ggL_law_X3_init : GoodIn wsL_law wsX3_init := goodIn_r _ [14, 15, 16, 17, 18, 19, 20, 21, 22, 23, 24, 25, 26, 27, 28, 29, 30, 31, 32, 33, 34, 35, 36, 37, 38, 39, 40, 41, 42, 43, 44, 45, 46, 47, 48, 49, 50, 6, 51, 52, 53, 54, 55, 56, 57, 58, 59, 60, 61, 62, 63, 64, 65, 514, 515, 516, 493, 494, 495, 496, 497, 498, 499, 500, 517, 518, 519, 520, 521, 522, 523, 524, 525] (by decide +kernel) (by decide +kernel)
set_option maxRecDepth 20000 in
theorem gL_law_X3_init : GoodIn wsL_law (wsX3_init) := ggL_law_X3_init
set_option maxRecDepth 20000 in
theorem ggL_law_L_build : GoodIn wsL_law wsL_build := goodIn_ca (goodIn_ca (goodIn_ca (goodIn_r _ [69, 70, 71, 72, 11, 73, 74, 75, 16, 17, 76, 77, 6, 78, 79, 80, 81, 82, 83, 84, 85, 68, 86, 87, 88, 89, 90, 91, 92, 93, 94, 2, 95, 96, 97, 21, 98, 99, 100, 101, 102, 103, 104, 105, 106, 107, 108, 20, 109, 110, 111, 112, 113, 114, 115, 25, 26, 116, 117, 118, 48, 49, 50, 51, 119, 120, 121, 122, 123, 124, 36, 125, 126, 127, 128, 129, 130, 131, 132, 133, 134, 135, 136, 35, 137, 8, 9, 10, 138, 139, 140, 141, 142, 143, 144, 145, 146, 147, 148, 149, 150, 151, 152, 153, 154, 155, 156, 157, 158, 159, 160, 161, 162, 163, 164, 165, 166, 167, 168, 169, 170, 171, 172, 173, 174, 175, 176, 177, 178, 179, 180, 181, 182, 183, 184, 185, 186, 187, 188, 189, 190, 191, 192, 193, 194, 195, 196, 197, 198, 199, 200, 201, 202, 203, 204, 205, 206, 207, 208, 209, 210, 211, 212, 213, 214, 22, 27, 28, 29, 52, 53, 54, 55, 56, 57, 58, 59, 60, 61, 62, 63, 64, 65, 215, 216, 217, 218, 219, 220, 221, 222, 223, 224, 225, 226, 227, 228, 229, 230, 231, 501, 502, 503, 504, 505, 506, 507, 508, 493, 494, 495, 496, 497, 498, 499, 500, 526, 527, 514, 515, 516, 517, 518, 519, 520, 521, 522, 523, 524, 525, 509, 510, 511, 512, 513] (by decide +kernel) (by decide +kernel)) (goodIn_sub (fun _ h => List.mem_append_left _ (List.mem_append_left _ (List.mem_append_right _ h))) (by decide +kernel))) (goodIn_sub (fun _ h => List.mem_append_left _ (List.mem_append_right _ h)) (by decide +kernel))) (goodIn_sub (fun _ h => List.mem_append_right _ h) (by decide +kernel))
set_option maxRecDepth 20000 in
theorem gL_law_L_build : GoodIn wsL_law (va_wsS RL 120 yL_build wsL_build) := goodIn_app (goodIn_of _ (by decide +kernel)) ggL_law_L_build
set_option maxRecDepth 20000 in
theorem ggL_law_X3_count : GoodIn wsL_law wsX3_count := goodIn_ca (goodIn_r _ [235, 199, 200, 2, 201, 180, 181, 236, 237, 238, 239, 240, 21, 22, 241, 242, 31, 106, 107, 108, 20, 109, 110, 243, 244, 245, 246, 182, 183, 184, 185, 186, 187, 188, 189, 190, 191, 192, 193, 194, 195, 196, 197, 198, 36, 247, 248, 249, 250, 24, 251, 252, 253, 254, 255, 256, 257, 258, 29, 259, 61, 493, 494, 495, 496, 497, 498, 499, 500, 514, 515, 516, 526, 527, 517, 518, 519, 520, 521, 522, 523, 524, 525] (by decide +kernel) (by decide +kernel)) (goodIn_sub (fun _ h => List.mem_append_right _ h) (by decide +kernel))
set_option maxRecDepth 20000 in
theorem gL_law_X3_count : GoodIn wsL_law (wsV RL 124 RX3 yX3_count wsX3_count) := goodIn_app (goodIn_of _ (by decide +kernel)) ggL_law_X3_count
set_option maxRecDepth 20000 in
theorem ggL_law_L_cell : GoodIn wsL_law wsL_cell := goodIn_r _ [86, 87] (by decide +kernel) (by decide +kernel)
set_option maxRecDepth 20000 in
theorem gL_law_L_cell : GoodIn wsL_law (va_wsS RL 12 yL_cell wsL_cell) := goodIn_app (goodIn_of _ (by decide +kernel)) ggL_law_L_cell
theorem goodIn_c {big a : List Cond} {c : Cond} (hc : c ∈ big) (hg : goodWord c = true) (h : GoodIn big a) : GoodIn big (c :: a) := fun w hw => (List.mem_cons.mp hw).elim (fun e => by rw [e]; exact ⟨hc, good_of_word hg⟩) (h w)
set_option maxRecDepth 20000 in
set_option maxHeartbeats 4000000 in
theorem wsL_act_law : Cond.code yL_act cL_act 15 (some .boolean) ∈ wsL_law := by
  unfold wsL_law wsL_law0
  iterate 11 apply List.mem_append_left
  iterate 10 apply List.mem_append_right
  apply List.mem_append_left
  unfold wsL_law0_r11
  iterate 22 apply List.mem_cons_of_mem
  exact List.mem_cons_self
set_option maxRecDepth 20000 in
theorem ggL_law_L_act : GoodIn wsL_law wsL_act := goodIn_ca (goodIn_ca (goodIn_ca (goodIn_c wsL_act_law (by decide +kernel) (goodIn_r _ [11, 3, 4, 263, 264, 162, 9, 163, 265, 266, 7, 8, 10, 267, 88, 89, 68, 90, 91, 268, 269, 270, 2, 271, 24, 31, 241, 176, 177, 178, 179, 180, 181, 21, 182, 106, 107, 108, 20, 109, 110, 183, 184, 185, 186, 187, 188, 189, 190, 191, 192, 193, 194, 195, 196, 197, 198, 36, 272, 273, 274, 100, 275, 116, 276, 203, 204, 26, 205, 51, 277, 278, 279, 280, 117, 281, 206, 207, 208, 209, 210, 202, 282, 283, 284, 72, 285, 79, 81, 77, 286, 287, 288, 289, 290, 80, 6, 78, 291, 292, 293, 220, 294, 295, 296, 297, 298, 299, 300, 301, 302, 303, 304, 305, 306, 307, 101, 102, 103, 104, 105, 308, 309, 310, 311, 312, 172, 173, 174, 175, 96, 97, 199, 200, 201, 313, 314, 315, 316, 225, 226, 317, 318, 319, 320, 321, 322, 323, 324, 22, 255, 325, 326, 327, 29, 328, 59, 56, 329, 330, 331, 332, 63, 333, 334, 335, 336, 337, 338, 339, 340, 341, 342, 343, 344, 345, 229, 346, 347, 348, 349, 231, 350, 351, 352, 353, 354, 355, 356, 357, 358, 359, 360, 361, 362, 363, 364, 365, 366, 367, 368, 369, 370, 371, 372, 373, 374, 375, 501, 502, 503, 504, 505, 506, 507, 508, 509, 510, 511, 512, 513, 493, 494, 495, 496, 497, 498, 499, 500, 526, 527, 514, 515, 516, 517, 518, 519, 520, 521, 522, 523, 524, 525] (by decide +kernel) (by decide +kernel))) (goodIn_sub (fun _ h => List.mem_append_right _ h) (by decide +kernel))) (goodIn_sub (fun _ h => List.mem_append_left _ (List.mem_append_right _ h)) (by decide +kernel))) (goodIn_sub (fun _ h => List.mem_append_left _ (List.mem_append_left _ (List.mem_append_right _ h))) (by decide +kernel))
set_option maxRecDepth 20000 in
theorem gL_law_L_act : GoodIn wsL_law (va_wsS RL 127 yL_act wsL_act) := goodIn_app (goodIn_of _ (by decide +kernel)) ggL_law_L_act
set_option maxRecDepth 20000 in
theorem ggL_law_L_below : GoodIn wsL_law wsL_below := goodIn_r _ [90, 91] (by decide +kernel) (by decide +kernel)
set_option maxRecDepth 20000 in
theorem gL_law_L_below : GoodIn wsL_law (va_wsS RL 18 yL_below wsL_below) := goodIn_app (goodIn_of _ (by decide +kernel)) ggL_law_L_below
set_option maxRecDepth 20000 in
theorem ggL_law_X3_square : GoodIn wsL_law wsX3_square := goodIn_ca (goodIn_r _ [379, 321, 322, 323, 2, 324, 180, 181, 22, 255, 106, 107, 108, 20, 109, 110, 183, 184, 185, 186, 187, 188, 189, 190, 191, 192, 193, 194, 195, 196, 197, 198, 36, 199, 200, 201, 380, 381, 382, 29, 383, 61, 384, 203, 204, 26, 205, 51, 385, 386, 387, 388, 365, 162, 9, 163, 337, 338, 339, 340, 63, 341, 326, 327, 328, 59, 56, 519, 520, 521, 522, 523, 524, 525, 493, 494, 495, 496, 497, 498, 499, 500, 514, 515, 516, 517, 518] (by decide +kernel) (by decide +kernel)) (goodIn_sub (fun _ h => List.mem_append_right _ h) (by decide +kernel))
set_option maxRecDepth 20000 in
theorem gL_law_X3_square : GoodIn wsL_law (wsV RL 132 RX3 yX3_square wsX3_square) := goodIn_app (goodIn_of _ (by decide +kernel)) ggL_law_X3_square
set_option maxRecDepth 20000 in
theorem ggL_law_X3_foresee : GoodIn wsL_law wsX3_foresee := goodIn_ca (goodIn_ca (goodIn_r _ [392, 30, 321, 322, 323, 2, 324, 180, 181, 22, 255, 106, 107, 108, 20, 109, 110, 183, 184, 185, 186, 187, 188, 189, 190, 191, 192, 193, 194, 195, 196, 197, 198, 36, 199, 200, 201, 101, 102, 103, 104, 105, 393, 394, 395, 29, 396, 56, 57, 58, 59, 61, 63, 397, 398, 399, 26, 400, 366, 203, 204, 205, 51, 367, 207, 208, 209, 210, 401, 402, 403, 404, 405, 406, 407, 408, 409, 410, 411, 412, 413, 414, 415, 416, 337, 338, 339, 340, 341, 326, 327, 328, 417, 418, 419, 420, 421, 362, 363, 364, 365, 162, 9, 163, 256, 257, 258, 259, 422, 423, 424, 425, 426, 427, 428, 429, 430, 431, 432, 433, 385, 386, 387, 388, 434, 493, 494, 495, 496, 497, 498, 499, 500, 514, 515, 516, 519, 520, 521, 522, 523, 524, 525, 517, 518] (by decide +kernel) (by decide +kernel)) (goodIn_sub (fun _ h => List.mem_append_right _ h) (by decide +kernel))) (goodIn_sub (fun _ h => List.mem_append_left _ (List.mem_append_right _ h)) (by decide +kernel))
set_option maxRecDepth 20000 in
theorem gL_law_X3_foresee : GoodIn wsL_law (wsV RL 135 RX3 yX3_foresee wsX3_foresee) := goodIn_app (goodIn_of _ (by decide +kernel)) ggL_law_X3_foresee
set_option maxRecDepth 20000 in
theorem ggL_law_X3_lasts : GoodIn wsL_law wsX3_lasts := goodIn_ca (goodIn_ca (goodIn_r _ [438, 30, 321, 322, 323, 2, 324, 180, 181, 22, 255, 106, 107, 108, 20, 109, 110, 183, 184, 185, 186, 187, 188, 189, 190, 191, 192, 193, 194, 195, 196, 197, 198, 36, 101, 102, 103, 104, 105, 393, 394, 395, 29, 396, 56, 57, 58, 59, 61, 63, 397, 398, 399, 26, 400, 366, 203, 204, 205, 51, 367, 207, 208, 209, 210, 422, 423, 424, 425, 426, 427, 428, 429, 430, 431, 432, 433, 385, 386, 387, 388, 365, 162, 9, 163, 401, 402, 403, 404, 405, 406, 407, 408, 409, 410, 411, 412, 413, 414, 415, 416, 337, 338, 339, 340, 341, 326, 327, 328, 417, 418, 419, 420, 421, 362, 363, 364, 493, 494, 495, 496, 497, 498, 499, 500, 514, 515, 516, 519, 520, 521, 522, 523, 524, 525, 517, 518] (by decide +kernel) (by decide +kernel)) (goodIn_sub (fun _ h => List.mem_append_right _ h) (by decide +kernel))) (goodIn_sub (fun _ h => List.mem_append_left _ (List.mem_append_right _ h)) (by decide +kernel))
set_option maxRecDepth 20000 in
theorem gL_law_X3_lasts : GoodIn wsL_law (wsV RL 138 RX3 yX3_lasts wsX3_lasts) := goodIn_app (goodIn_of _ (by decide +kernel)) ggL_law_X3_lasts
set_option maxRecDepth 20000 in
theorem ggL_law_X3_pass : GoodIn wsL_law wsX3_pass := goodIn_ca (goodIn_r _ [442, 22, 255, 240, 242, 101, 102, 2, 103, 104, 105, 106, 107, 108, 20, 109, 110, 183, 184, 185, 186, 187, 188, 189, 190, 191, 192, 193, 194, 195, 196, 197, 198, 36, 401, 402, 403, 29, 404, 405, 406, 407, 408, 61, 58, 409, 410, 411, 26, 412, 366, 203, 204, 205, 51, 367, 207, 208, 209, 210, 413, 414, 415, 416, 59, 337, 338, 339, 340, 63, 341, 326, 327, 328, 56, 417, 418, 419, 420, 421, 362, 363, 364, 365, 162, 9, 163, 493, 494, 495, 496, 497, 498, 499, 500, 514, 515, 516, 519, 520, 521, 522, 523, 524, 525, 517, 518] (by decide +kernel) (by decide +kernel)) (goodIn_sub (fun _ h => List.mem_append_left _ (List.mem_append_right _ h)) (by decide +kernel))
set_option maxRecDepth 20000 in
theorem gL_law_X3_pass : GoodIn wsL_law (wsV RL 141 RX3 yX3_pass wsX3_pass) := goodIn_app (goodIn_of _ (by decide +kernel)) ggL_law_X3_pass
set_option maxRecDepth 20000 in
theorem ggL_law_X4_pass : GoodIn wsL_law wsX4_pass := goodIn_r _ [446, 83, 447, 448, 449, 450, 451, 220, 452, 229, 227, 453, 162, 9, 163, 346, 347, 348, 349, 231, 350, 314, 315, 316, 225, 226, 454, 455, 456, 457, 458, 293, 294, 501, 502, 503, 504, 505, 506, 507, 508, 509, 510, 511, 512, 513] (by decide +kernel) (by decide +kernel)
set_option maxRecDepth 20000 in
theorem gL_law_X4_pass : GoodIn wsL_law (wsV RL 144 RX4 yX4_pass wsX4_pass) := goodIn_app (goodIn_of _ (by decide +kernel)) ggL_law_X4_pass
set_option maxRecDepth 20000 in
theorem ggL_law_X3_tick : GoodIn wsL_law wsX3_tick := goodIn_ca (goodIn_r _ [462, 321, 322, 323, 2, 324, 180, 181, 22, 255, 106, 107, 108, 20, 109, 110, 183, 184, 185, 186, 187, 188, 189, 190, 191, 192, 193, 194, 195, 196, 197, 198, 36, 199, 200, 201, 463, 464, 465, 29, 466, 56, 57, 58, 467, 257, 258, 259, 61, 468, 469, 470, 471, 385, 386, 387, 26, 388, 51, 365, 162, 9, 163, 472, 423, 424, 425, 426, 427, 428, 429, 59, 430, 431, 432, 433, 473, 334, 335, 336, 337, 338, 339, 340, 63, 341, 326, 327, 328, 474, 475, 476, 477, 64, 478, 479, 480, 481, 493, 494, 495, 496, 497, 498, 499, 500, 514, 515, 516, 519, 520, 521, 522, 523, 524, 525, 517, 518] (by decide +kernel) (by decide +kernel)) (goodIn_sub (fun _ h => List.mem_append_right _ h) (by decide +kernel))
set_option maxRecDepth 20000 in
theorem gL_law_X3_tick : GoodIn wsL_law (wsV RL 146 RX3 yX3_tick wsX3_tick) := goodIn_app (goodIn_of _ (by decide +kernel)) ggL_law_X3_tick
set_option maxRecDepth 20000 in
theorem ggL_law_L_coldest : GoodIn wsL_law wsL_coldest := goodIn_r _ [484] (by decide +kernel) (by decide +kernel)
set_option maxRecDepth 20000 in
theorem gL_law_L_coldest : GoodIn wsL_law (va_wsS RL 148 yL_coldest wsL_coldest) := goodIn_app (goodIn_of _ (by decide +kernel)) ggL_law_L_coldest
set_option maxRecDepth 20000 in
theorem ggL_law_X3_sack : GoodIn wsL_law wsX3_sack := goodIn_ca (goodIn_r _ [488, 176, 177, 178, 2, 179, 180, 181, 21, 182, 106, 107, 108, 20, 109, 110, 183, 184, 185, 186, 187, 188, 189, 190, 191, 192, 193, 194, 195, 196, 197, 198, 36, 199, 200, 201, 489, 490, 491, 100, 492, 116, 117, 276, 203, 204, 26, 205, 51, 493, 494, 495, 496, 497, 498, 499, 500, 514, 515, 516, 526, 527, 517, 518] (by decide +kernel) (by decide +kernel)) (goodIn_sub (fun _ h => List.mem_append_right _ h) (by decide +kernel))
set_option maxRecDepth 20000 in
theorem gL_law_X3_sack : GoodIn wsL_law (wsV RL 152 RX3 yX3_sack wsX3_sack) := goodIn_app (goodIn_of _ (by decide +kernel)) ggL_law_X3_sack
theorem dL_law_0 : decode cL_law 0 = .ok (.new 23, 3) := by decide +kernel
theorem dL_law_3 : decode cL_law 3 = .ok (.dup, 1) := by decide +kernel
theorem dL_law_4 : decode cL_law 4 = .ok (.invokespecial 119, 3) := by decide +kernel
theorem dL_law_7 : decode cL_law 7 = .ok (.astore_n 1, 1) := by decide +kernel
theorem dL_law_8 : decode cL_law 8 = .ok (.aload_n 1, 1) := by decide +kernel
theorem dL_law_9 : decode cL_law 9 = .ok (.aload_n 0, 1) := by decide +kernel
theorem dL_law_10 : decode cL_law 10 = .ok (.invokestatic 120, 3) := by decide +kernel
theorem dL_law_13 : decode cL_law 13 = .ok (.astore_n 2, 1) := by decide +kernel
theorem dL_law_14 : decode cL_law 14 = .ok (.aload_n 2, 1) := by decide +kernel
theorem dL_law_15 : decode cL_law 15 = .ok (.ifnonnull 5, 3) := by decide +kernel
theorem dL_law_18 : decode cL_law 18 = .ok (.iconst 0, 1) := by decide +kernel
theorem dL_law_19 : decode cL_law 19 = .ok (.ireturn, 1) := by decide +kernel
theorem dL_law_20 : decode cL_law 20 = .ok (.aload_n 1, 1) := by decide +kernel
theorem dL_law_21 : decode cL_law 21 = .ok (.iconst 3, 1) := by decide +kernel
theorem dL_law_22 : decode cL_law 22 = .ok (.invokevirtual 124, 3) := by decide +kernel
theorem dL_law_25 : decode cL_law 25 = .ok (.istore_n 3, 1) := by decide +kernel
theorem dL_law_26 : decode cL_law 26 = .ok (.iconst 0, 1) := by decide +kernel
theorem dL_law_27 : decode cL_law 27 = .ok (.istore 4, 2) := by decide +kernel
theorem dL_law_29 : decode cL_law 29 = .ok (.iload 4, 2) := by decide +kernel
theorem dL_law_31 : decode cL_law 31 = .ok (.bipush 30, 2) := by decide +kernel
theorem dL_law_33 : decode cL_law 33 = .ok (.if_icmp .ge 1006, 3) := by decide +kernel
theorem dL_law_36 : decode cL_law 36 = .ok (.aload_n 0, 1) := by decide +kernel
theorem dL_law_37 : decode cL_law 37 = .ok (.iload 4, 2) := by decide +kernel
theorem dL_law_39 : decode cL_law 39 = .ok (.bipush 16, 2) := by decide +kernel
theorem dL_law_41 : decode cL_law 41 = .ok (.irem, 1) := by decide +kernel
theorem dL_law_42 : decode cL_law 42 = .ok (.invokestatic 12, 3) := by decide +kernel
theorem dL_law_45 : decode cL_law 45 = .ok (.iload 4, 2) := by decide +kernel
theorem dL_law_47 : decode cL_law 47 = .ok (.bipush 16, 2) := by decide +kernel
theorem dL_law_49 : decode cL_law 49 = .ok (.idiv, 1) := by decide +kernel
theorem dL_law_50 : decode cL_law 50 = .ok (.iconst 3, 1) := by decide +kernel
theorem dL_law_51 : decode cL_law 51 = .ok (.imul, 1) := by decide +kernel
theorem dL_law_52 : decode cL_law 52 = .ok (.ishr, 1) := by decide +kernel
theorem dL_law_53 : decode cL_law 53 = .ok (.bipush 97, 2) := by decide +kernel
theorem dL_law_55 : decode cL_law 55 = .ok (.iload 4, 2) := by decide +kernel
theorem dL_law_57 : decode cL_law 57 = .ok (.imul, 1) := by decide +kernel
theorem dL_law_58 : decode cL_law 58 = .ok (.iadd, 1) := by decide +kernel
theorem dL_law_59 : decode cL_law 59 = .ok (.istore 5, 2) := by decide +kernel
theorem dL_law_61 : decode cL_law 61 = .ok (.iconst 0, 1) := by decide +kernel
theorem dL_law_62 : decode cL_law 62 = .ok (.istore 6, 2) := by decide +kernel
theorem dL_law_64 : decode cL_law 64 = .ok (.iload 6, 2) := by decide +kernel
theorem dL_law_66 : decode cL_law 66 = .ok (.iconst 4, 1) := by decide +kernel
theorem dL_law_67 : decode cL_law 67 = .ok (.if_icmp .ge 100, 3) := by decide +kernel
theorem dL_law_70 : decode cL_law 70 = .ok (.aload_n 1, 1) := by decide +kernel
theorem dL_law_71 : decode cL_law 71 = .ok (.iconst 3, 1) := by decide +kernel
theorem dL_law_72 : decode cL_law 72 = .ok (.invokevirtual 124, 3) := by decide +kernel
theorem dL_law_75 : decode cL_law 75 = .ok (.aload_n 1, 1) := by decide +kernel
theorem dL_law_76 : decode cL_law 76 = .ok (.iconst 4, 1) := by decide +kernel
theorem dL_law_77 : decode cL_law 77 = .ok (.invokevirtual 124, 3) := by decide +kernel
theorem dL_law_80 : decode cL_law 80 = .ok (.iadd, 1) := by decide +kernel
theorem dL_law_81 : decode cL_law 81 = .ok (.aload_n 1, 1) := by decide +kernel
theorem dL_law_82 : decode cL_law 82 = .ok (.iconst 5, 1) := by decide +kernel
theorem dL_law_83 : decode cL_law 83 = .ok (.invokevirtual 124, 3) := by decide +kernel
theorem dL_law_86 : decode cL_law 86 = .ok (.iadd, 1) := by decide +kernel
theorem dL_law_87 : decode cL_law 87 = .ok (.aload_n 1, 1) := by decide +kernel
theorem dL_law_88 : decode cL_law 88 = .ok (.bipush 6, 2) := by decide +kernel
theorem dL_law_90 : decode cL_law 90 = .ok (.invokevirtual 124, 3) := by decide +kernel
theorem dL_law_93 : decode cL_law 93 = .ok (.iadd, 1) := by decide +kernel
theorem dL_law_94 : decode cL_law 94 = .ok (.istore 7, 2) := by decide +kernel
theorem dL_law_96 : decode cL_law 96 = .ok (.aload_n 1, 1) := by decide +kernel
theorem dL_law_97 : decode cL_law 97 = .ok (.aload_n 2, 1) := by decide +kernel
theorem dL_law_98 : decode cL_law 98 = .ok (.iload 5, 2) := by decide +kernel
theorem dL_law_100 : decode cL_law 100 = .ok (.iload 6, 2) := by decide +kernel
theorem dL_law_102 : decode cL_law 102 = .ok (.ishr, 1) := by decide +kernel
theorem dL_law_103 : decode cL_law 103 = .ok (.sipush 131, 3) := by decide +kernel
theorem dL_law_106 : decode cL_law 106 = .ok (.iload 6, 2) := by decide +kernel
theorem dL_law_108 : decode cL_law 108 = .ok (.imul, 1) := by decide +kernel
theorem dL_law_109 : decode cL_law 109 = .ok (.iadd, 1) := by decide +kernel
theorem dL_law_110 : decode cL_law 110 = .ok (.invokestatic 127, 3) := by decide +kernel
theorem dL_law_113 : decode cL_law 113 = .ok (.ifCond .ne 5, 3) := by decide +kernel
theorem dL_law_116 : decode cL_law 116 = .ok (.iconst 0, 1) := by decide +kernel
theorem dL_law_117 : decode cL_law 117 = .ok (.ireturn, 1) := by decide +kernel
theorem dL_law_118 : decode cL_law 118 = .ok (.aload_n 1, 1) := by decide +kernel
theorem dL_law_119 : decode cL_law 119 = .ok (.iconst 3, 1) := by decide +kernel
theorem dL_law_120 : decode cL_law 120 = .ok (.invokevirtual 124, 3) := by decide +kernel
theorem dL_law_123 : decode cL_law 123 = .ok (.aload_n 1, 1) := by decide +kernel
theorem dL_law_124 : decode cL_law 124 = .ok (.iconst 4, 1) := by decide +kernel
theorem dL_law_125 : decode cL_law 125 = .ok (.invokevirtual 124, 3) := by decide +kernel
theorem dL_law_128 : decode cL_law 128 = .ok (.iadd, 1) := by decide +kernel
theorem dL_law_129 : decode cL_law 129 = .ok (.aload_n 1, 1) := by decide +kernel
theorem dL_law_130 : decode cL_law 130 = .ok (.iconst 5, 1) := by decide +kernel
theorem dL_law_131 : decode cL_law 131 = .ok (.invokevirtual 124, 3) := by decide +kernel
theorem dL_law_134 : decode cL_law 134 = .ok (.iadd, 1) := by decide +kernel
theorem dL_law_135 : decode cL_law 135 = .ok (.aload_n 1, 1) := by decide +kernel
theorem dL_law_136 : decode cL_law 136 = .ok (.bipush 6, 2) := by decide +kernel
theorem dL_law_138 : decode cL_law 138 = .ok (.invokevirtual 124, 3) := by decide +kernel
theorem dL_law_141 : decode cL_law 141 = .ok (.iadd, 1) := by decide +kernel
theorem dL_law_142 : decode cL_law 142 = .ok (.istore 8, 2) := by decide +kernel
theorem dL_law_144 : decode cL_law 144 = .ok (.iload 8, 2) := by decide +kernel
theorem dL_law_146 : decode cL_law 146 = .ok (.iload 7, 2) := by decide +kernel
theorem dL_law_148 : decode cL_law 148 = .ok (.if_icmp .ge 5, 3) := by decide +kernel
theorem dL_law_151 : decode cL_law 151 = .ok (.iconst 0, 1) := by decide +kernel
theorem dL_law_152 : decode cL_law 152 = .ok (.ireturn, 1) := by decide +kernel
theorem dL_law_153 : decode cL_law 153 = .ok (.iload_n 3, 1) := by decide +kernel
theorem dL_law_154 : decode cL_law 154 = .ok (.iload 8, 2) := by decide +kernel
theorem dL_law_156 : decode cL_law 156 = .ok (.iload 7, 2) := by decide +kernel
theorem dL_law_158 : decode cL_law 158 = .ok (.isub, 1) := by decide +kernel
theorem dL_law_159 : decode cL_law 159 = .ok (.iadd, 1) := by decide +kernel
theorem dL_law_160 : decode cL_law 160 = .ok (.istore_n 3, 1) := by decide +kernel
theorem dL_law_161 : decode cL_law 161 = .ok (.iinc 6 1, 3) := by decide +kernel
theorem dL_law_164 : decode cL_law 164 = .ok (.goto (-100), 3) := by decide +kernel
theorem dL_law_167 : decode cL_law 167 = .ok (.iload 5, 2) := by decide +kernel
theorem dL_law_169 : decode cL_law 169 = .ok (.aload_n 2, 1) := by decide +kernel
theorem dL_law_170 : decode cL_law 170 = .ok (.getfield 47, 3) := by decide +kernel
theorem dL_law_173 : decode cL_law 173 = .ok (.arraylength, 1) := by decide +kernel
theorem dL_law_174 : decode cL_law 174 = .ok (.invokestatic 18, 3) := by decide +kernel
theorem dL_law_177 : decode cL_law 177 = .ok (.istore 6, 2) := by decide +kernel
theorem dL_law_179 : decode cL_law 179 = .ok (.aload_n 2, 1) := by decide +kernel
theorem dL_law_180 : decode cL_law 180 = .ok (.getfield 47, 3) := by decide +kernel
theorem dL_law_183 : decode cL_law 183 = .ok (.iload 6, 2) := by decide +kernel
theorem dL_law_185 : decode cL_law 185 = .ok (.aaload, 1) := by decide +kernel
theorem dL_law_186 : decode cL_law 186 = .ok (.getfield 51, 3) := by decide +kernel
theorem dL_law_189 : decode cL_law 189 = .ok (.arraylength, 1) := by decide +kernel
theorem dL_law_190 : decode cL_law 190 = .ok (.istore 7, 2) := by decide +kernel
theorem dL_law_192 : decode cL_law 192 = .ok (.iload 7, 2) := by decide +kernel
theorem dL_law_194 : decode cL_law 194 = .ok (.bipush 8, 2) := by decide +kernel
theorem dL_law_196 : decode cL_law 196 = .ok (.multianewarray 131 2, 4) := by decide +kernel
theorem dL_law_200 : decode cL_law 200 = .ok (.astore 8, 2) := by decide +kernel
theorem dL_law_202 : decode cL_law 202 = .ok (.iconst 0, 1) := by decide +kernel
theorem dL_law_203 : decode cL_law 203 = .ok (.istore 9, 2) := by decide +kernel
theorem dL_law_205 : decode cL_law 205 = .ok (.iload 9, 2) := by decide +kernel
theorem dL_law_207 : decode cL_law 207 = .ok (.iload 7, 2) := by decide +kernel
theorem dL_law_209 : decode cL_law 209 = .ok (.if_icmp .ge 43, 3) := by decide +kernel
theorem dL_law_212 : decode cL_law 212 = .ok (.iconst 0, 1) := by decide +kernel
theorem dL_law_213 : decode cL_law 213 = .ok (.istore 10, 2) := by decide +kernel
theorem dL_law_215 : decode cL_law 215 = .ok (.iload 10, 2) := by decide +kernel
theorem dL_law_217 : decode cL_law 217 = .ok (.bipush 8, 2) := by decide +kernel
theorem dL_law_219 : decode cL_law 219 = .ok (.if_icmp .ge 27, 3) := by decide +kernel
theorem dL_law_222 : decode cL_law 222 = .ok (.aload 8, 2) := by decide +kernel
theorem dL_law_224 : decode cL_law 224 = .ok (.iload 9, 2) := by decide +kernel
theorem dL_law_226 : decode cL_law 226 = .ok (.aaload, 1) := by decide +kernel
theorem dL_law_227 : decode cL_law 227 = .ok (.iload 10, 2) := by decide +kernel
theorem dL_law_229 : decode cL_law 229 = .ok (.aload_n 1, 1) := by decide +kernel
theorem dL_law_230 : decode cL_law 230 = .ok (.iload 6, 2) := by decide +kernel
theorem dL_law_232 : decode cL_law 232 = .ok (.iload 9, 2) := by decide +kernel
theorem dL_law_234 : decode cL_law 234 = .ok (.iload 10, 2) := by decide +kernel
theorem dL_law_236 : decode cL_law 236 = .ok (.invokevirtual 132, 3) := by decide +kernel
theorem dL_law_239 : decode cL_law 239 = .ok (.iastore, 1) := by decide +kernel
theorem dL_law_240 : decode cL_law 240 = .ok (.iinc 10 1, 3) := by decide +kernel
theorem dL_law_243 : decode cL_law 243 = .ok (.goto (-28), 3) := by decide +kernel
theorem dL_law_246 : decode cL_law 246 = .ok (.iinc 9 1, 3) := by decide +kernel
theorem dL_law_249 : decode cL_law 249 = .ok (.goto (-44), 3) := by decide +kernel
theorem dL_law_252 : decode cL_law 252 = .ok (.aload_n 1, 1) := by decide +kernel
theorem dL_law_253 : decode cL_law 253 = .ok (.iload 6, 2) := by decide +kernel
theorem dL_law_255 : decode cL_law 255 = .ok (.iconst 1, 1) := by decide +kernel
theorem dL_law_256 : decode cL_law 256 = .ok (.iconst 0, 1) := by decide +kernel
theorem dL_law_257 : decode cL_law 257 = .ok (.invokevirtual 135, 3) := by decide +kernel
theorem dL_law_260 : decode cL_law 260 = .ok (.istore 9, 2) := by decide +kernel
theorem dL_law_262 : decode cL_law 262 = .ok (.aload_n 1, 1) := by decide +kernel
theorem dL_law_263 : decode cL_law 263 = .ok (.iload 6, 2) := by decide +kernel
theorem dL_law_265 : decode cL_law 265 = .ok (.iconst 1, 1) := by decide +kernel
theorem dL_law_266 : decode cL_law 266 = .ok (.iconst 1, 1) := by decide +kernel
theorem dL_law_267 : decode cL_law 267 = .ok (.invokevirtual 135, 3) := by decide +kernel
theorem dL_law_270 : decode cL_law 270 = .ok (.istore 10, 2) := by decide +kernel
theorem dL_law_272 : decode cL_law 272 = .ok (.aload_n 1, 1) := by decide +kernel
theorem dL_law_273 : decode cL_law 273 = .ok (.iload 6, 2) := by decide +kernel
theorem dL_law_275 : decode cL_law 275 = .ok (.iconst 1, 1) := by decide +kernel
theorem dL_law_276 : decode cL_law 276 = .ok (.iconst 2, 1) := by decide +kernel
theorem dL_law_277 : decode cL_law 277 = .ok (.invokevirtual 135, 3) := by decide +kernel
theorem dL_law_280 : decode cL_law 280 = .ok (.istore 11, 2) := by decide +kernel
theorem dL_law_282 : decode cL_law 282 = .ok (.aload_n 1, 1) := by decide +kernel
theorem dL_law_283 : decode cL_law 283 = .ok (.iload 6, 2) := by decide +kernel
theorem dL_law_285 : decode cL_law 285 = .ok (.bipush 40, 2) := by decide +kernel
theorem dL_law_287 : decode cL_law 287 = .ok (.invokevirtual 138, 3) := by decide +kernel
theorem dL_law_290 : decode cL_law 290 = .ok (.istore 12, 2) := by decide +kernel
theorem dL_law_292 : decode cL_law 292 = .ok (.aload_n 1, 1) := by decide +kernel
theorem dL_law_293 : decode cL_law 293 = .ok (.bipush 6, 2) := by decide +kernel
theorem dL_law_295 : decode cL_law 295 = .ok (.invokevirtual 124, 3) := by decide +kernel
theorem dL_law_298 : decode cL_law 298 = .ok (.istore 13, 2) := by decide +kernel
theorem dL_law_300 : decode cL_law 300 = .ok (.aload_n 1, 1) := by decide +kernel
theorem dL_law_301 : decode cL_law 301 = .ok (.bipush 7, 2) := by decide +kernel
theorem dL_law_303 : decode cL_law 303 = .ok (.invokevirtual 124, 3) := by decide +kernel
theorem dL_law_306 : decode cL_law 306 = .ok (.istore 14, 2) := by decide +kernel
theorem dL_law_308 : decode cL_law 308 = .ok (.aload_n 1, 1) := by decide +kernel
theorem dL_law_309 : decode cL_law 309 = .ok (.iconst 5, 1) := by decide +kernel
theorem dL_law_310 : decode cL_law 310 = .ok (.invokevirtual 124, 3) := by decide +kernel
theorem dL_law_313 : decode cL_law 313 = .ok (.istore 15, 2) := by decide +kernel
theorem dL_law_315 : decode cL_law 315 = .ok (.aload_n 1, 1) := by decide +kernel
theorem dL_law_316 : decode cL_law 316 = .ok (.iconst 1, 1) := by decide +kernel
theorem dL_law_317 : decode cL_law 317 = .ok (.invokevirtual 141, 3) := by decide +kernel
theorem dL_law_320 : decode cL_law 320 = .ok (.istore 16, 2) := by decide +kernel
theorem dL_law_322 : decode cL_law 322 = .ok (.aload_n 2, 1) := by decide +kernel
theorem dL_law_323 : decode cL_law 323 = .ok (.invokevirtual 144, 3) := by decide +kernel
theorem dL_law_326 : decode cL_law 326 = .ok (.pop, 1) := by decide +kernel
theorem dL_law_327 : decode cL_law 327 = .ok (.aload_n 1, 1) := by decide +kernel
theorem dL_law_328 : decode cL_law 328 = .ok (.iload 6, 2) := by decide +kernel
theorem dL_law_330 : decode cL_law 330 = .ok (.iconst 3, 1) := by decide +kernel
theorem dL_law_331 : decode cL_law 331 = .ok (.invokevirtual 146, 3) := by decide +kernel
theorem dL_law_334 : decode cL_law 334 = .ok (.iload 9, 2) := by decide +kernel
theorem dL_law_336 : decode cL_law 336 = .ok (.if_icmp .ne 78, 3) := by decide +kernel
theorem dL_law_339 : decode cL_law 339 = .ok (.aload_n 1, 1) := by decide +kernel
theorem dL_law_340 : decode cL_law 340 = .ok (.iload 6, 2) := by decide +kernel
theorem dL_law_342 : decode cL_law 342 = .ok (.iconst 5, 1) := by decide +kernel
theorem dL_law_343 : decode cL_law 343 = .ok (.invokevirtual 146, 3) := by decide +kernel
theorem dL_law_346 : decode cL_law 346 = .ok (.iload 10, 2) := by decide +kernel
theorem dL_law_348 : decode cL_law 348 = .ok (.if_icmp .ne 66, 3) := by decide +kernel
theorem dL_law_351 : decode cL_law 351 = .ok (.aload_n 1, 1) := by decide +kernel
theorem dL_law_352 : decode cL_law 352 = .ok (.iload 6, 2) := by decide +kernel
theorem dL_law_354 : decode cL_law 354 = .ok (.bipush 6, 2) := by decide +kernel
theorem dL_law_356 : decode cL_law 356 = .ok (.invokevirtual 146, 3) := by decide +kernel
theorem dL_law_359 : decode cL_law 359 = .ok (.iload 11, 2) := by decide +kernel
theorem dL_law_361 : decode cL_law 361 = .ok (.if_icmp .ne 53, 3) := by decide +kernel
theorem dL_law_364 : decode cL_law 364 = .ok (.aload_n 1, 1) := by decide +kernel
theorem dL_law_365 : decode cL_law 365 = .ok (.bipush 7, 2) := by decide +kernel
theorem dL_law_367 : decode cL_law 367 = .ok (.invokevirtual 124, 3) := by decide +kernel
theorem dL_law_370 : decode cL_law 370 = .ok (.iload 14, 2) := by decide +kernel
theorem dL_law_372 : decode cL_law 372 = .ok (.iload 16, 2) := by decide +kernel
theorem dL_law_374 : decode cL_law 374 = .ok (.iadd, 1) := by decide +kernel
theorem dL_law_375 : decode cL_law 375 = .ok (.if_icmp .ne 39, 3) := by decide +kernel
theorem dL_law_378 : decode cL_law 378 = .ok (.aload_n 1, 1) := by decide +kernel
theorem dL_law_379 : decode cL_law 379 = .ok (.iconst 5, 1) := by decide +kernel
theorem dL_law_380 : decode cL_law 380 = .ok (.invokevirtual 124, 3) := by decide +kernel
theorem dL_law_383 : decode cL_law 383 = .ok (.iload 15, 2) := by decide +kernel
theorem dL_law_385 : decode cL_law 385 = .ok (.iload 16, 2) := by decide +kernel
theorem dL_law_387 : decode cL_law 387 = .ok (.isub, 1) := by decide +kernel
theorem dL_law_388 : decode cL_law 388 = .ok (.if_icmp .ne 26, 3) := by decide +kernel
theorem dL_law_391 : decode cL_law 391 = .ok (.aload_n 1, 1) := by decide +kernel
theorem dL_law_392 : decode cL_law 392 = .ok (.bipush 6, 2) := by decide +kernel
theorem dL_law_394 : decode cL_law 394 = .ok (.invokevirtual 124, 3) := by decide +kernel
theorem dL_law_397 : decode cL_law 397 = .ok (.iload 13, 2) := by decide +kernel
theorem dL_law_399 : decode cL_law 399 = .ok (.if_icmp .ne 15, 3) := by decide +kernel
theorem dL_law_402 : decode cL_law 402 = .ok (.aload_n 1, 1) := by decide +kernel
theorem dL_law_403 : decode cL_law 403 = .ok (.iconst 0, 1) := by decide +kernel
theorem dL_law_404 : decode cL_law 404 = .ok (.invokevirtual 124, 3) := by decide +kernel
theorem dL_law_407 : decode cL_law 407 = .ok (.iload 4, 2) := by decide +kernel
theorem dL_law_409 : decode cL_law 409 = .ok (.iconst 1, 1) := by decide +kernel
theorem dL_law_410 : decode cL_law 410 = .ok (.iadd, 1) := by decide +kernel
theorem dL_law_411 : decode cL_law 411 = .ok (.if_icmp .eq 5, 3) := by decide +kernel
theorem dL_law_414 : decode cL_law 414 = .ok (.iconst 0, 1) := by decide +kernel
theorem dL_law_415 : decode cL_law 415 = .ok (.ireturn, 1) := by decide +kernel
theorem dL_law_416 : decode cL_law 416 = .ok (.iload 12, 2) := by decide +kernel
theorem dL_law_418 : decode cL_law 418 = .ok (.iconst 1, 1) := by decide +kernel
theorem dL_law_419 : decode cL_law 419 = .ok (.if_icmp .le 26, 3) := by decide +kernel
theorem dL_law_422 : decode cL_law 422 = .ok (.iload 12, 2) := by decide +kernel
theorem dL_law_424 : decode cL_law 424 = .ok (.sipush 200, 3) := by decide +kernel
theorem dL_law_427 : decode cL_law 427 = .ok (.if_icmp .ge 18, 3) := by decide +kernel
theorem dL_law_430 : decode cL_law 430 = .ok (.aload_n 1, 1) := by decide +kernel
theorem dL_law_431 : decode cL_law 431 = .ok (.iload 6, 2) := by decide +kernel
theorem dL_law_433 : decode cL_law 433 = .ok (.bipush 40, 2) := by decide +kernel
theorem dL_law_435 : decode cL_law 435 = .ok (.invokevirtual 138, 3) := by decide +kernel
theorem dL_law_438 : decode cL_law 438 = .ok (.iload 12, 2) := by decide +kernel
theorem dL_law_440 : decode cL_law 440 = .ok (.iconst 1, 1) := by decide +kernel
theorem dL_law_441 : decode cL_law 441 = .ok (.isub, 1) := by decide +kernel
theorem dL_law_442 : decode cL_law 442 = .ok (.if_icmp .ne 47, 3) := by decide +kernel
theorem dL_law_445 : decode cL_law 445 = .ok (.iload 12, 2) := by decide +kernel
theorem dL_law_447 : decode cL_law 447 = .ok (.iconst 1, 1) := by decide +kernel
theorem dL_law_448 : decode cL_law 448 = .ok (.if_icmp .ne 10, 3) := by decide +kernel
theorem dL_law_451 : decode cL_law 451 = .ok (.iload 10, 2) := by decide +kernel
theorem dL_law_453 : decode cL_law 453 = .ok (.bipush 40, 2) := by decide +kernel
theorem dL_law_455 : decode cL_law 455 = .ok (.if_icmp .ge 34, 3) := by decide +kernel
theorem dL_law_458 : decode cL_law 458 = .ok (.iload 12, 2) := by decide +kernel
theorem dL_law_460 : decode cL_law 460 = .ok (.ifCond .ne 31, 3) := by decide +kernel
theorem dL_law_463 : decode cL_law 463 = .ok (.aload_n 1, 1) := by decide +kernel
theorem dL_law_464 : decode cL_law 464 = .ok (.iload 6, 2) := by decide +kernel
theorem dL_law_466 : decode cL_law 466 = .ok (.iconst 5, 1) := by decide +kernel
theorem dL_law_467 : decode cL_law 467 = .ok (.invokevirtual 146, 3) := by decide +kernel
theorem dL_law_470 : decode cL_law 470 = .ok (.ifCond .lt 21, 3) := by decide +kernel
theorem dL_law_473 : decode cL_law 473 = .ok (.aload 8, 2) := by decide +kernel
theorem dL_law_475 : decode cL_law 475 = .ok (.aload 8, 2) := by decide +kernel
theorem dL_law_477 : decode cL_law 477 = .ok (.invokestatic 148, 3) := by decide +kernel
theorem dL_law_480 : decode cL_law 480 = .ok (.aaload, 1) := by decide +kernel
theorem dL_law_481 : decode cL_law 481 = .ok (.bipush 7, 2) := by decide +kernel
theorem dL_law_483 : decode cL_law 483 = .ok (.iaload, 1) := by decide +kernel
theorem dL_law_484 : decode cL_law 484 = .ok (.bipush 40, 2) := by decide +kernel
theorem dL_law_486 : decode cL_law 486 = .ok (.if_icmp .lt 5, 3) := by decide +kernel
theorem dL_law_489 : decode cL_law 489 = .ok (.iconst 0, 1) := by decide +kernel
theorem dL_law_490 : decode cL_law 490 = .ok (.ireturn, 1) := by decide +kernel
theorem dL_law_491 : decode cL_law 491 = .ok (.aload_n 1, 1) := by decide +kernel
theorem dL_law_492 : decode cL_law 492 = .ok (.iload 6, 2) := by decide +kernel
theorem dL_law_494 : decode cL_law 494 = .ok (.iconst 2, 1) := by decide +kernel
theorem dL_law_495 : decode cL_law 495 = .ok (.invokevirtual 146, 3) := by decide +kernel
theorem dL_law_498 : decode cL_law 498 = .ok (.istore 17, 2) := by decide +kernel
theorem dL_law_500 : decode cL_law 500 = .ok (.iconst 0, 1) := by decide +kernel
theorem dL_law_501 : decode cL_law 501 = .ok (.istore 18, 2) := by decide +kernel
theorem dL_law_503 : decode cL_law 503 = .ok (.iconst 0, 1) := by decide +kernel
theorem dL_law_504 : decode cL_law 504 = .ok (.istore 19, 2) := by decide +kernel
theorem dL_law_506 : decode cL_law 506 = .ok (.bipush 6, 2) := by decide +kernel
theorem dL_law_508 : decode cL_law 508 = .ok (.newarray .int, 2) := by decide +kernel
theorem dL_law_510 : decode cL_law 510 = .ok (.astore 20, 2) := by decide +kernel
theorem dL_law_512 : decode cL_law 512 = .ok (.iconst 0, 1) := by decide +kernel
theorem dL_law_513 : decode cL_law 513 = .ok (.istore 21, 2) := by decide +kernel
theorem dL_law_515 : decode cL_law 515 = .ok (.iload 21, 2) := by decide +kernel
theorem dL_law_517 : decode cL_law 517 = .ok (.iload 7, 2) := by decide +kernel
theorem dL_law_519 : decode cL_law 519 = .ok (.if_icmp .ge 369, 3) := by decide +kernel
theorem dL_law_522 : decode cL_law 522 = .ok (.iload 18, 2) := by decide +kernel
theorem dL_law_524 : decode cL_law 524 = .ok (.aload_n 1, 1) := by decide +kernel
theorem dL_law_525 : decode cL_law 525 = .ok (.iload 6, 2) := by decide +kernel
theorem dL_law_527 : decode cL_law 527 = .ok (.iload 21, 2) := by decide +kernel
theorem dL_law_529 : decode cL_law 529 = .ok (.bipush 6, 2) := by decide +kernel
theorem dL_law_531 : decode cL_law 531 = .ok (.invokevirtual 132, 3) := by decide +kernel
theorem dL_law_534 : decode cL_law 534 = .ok (.iadd, 1) := by decide +kernel
theorem dL_law_535 : decode cL_law 535 = .ok (.istore 18, 2) := by decide +kernel
theorem dL_law_537 : decode cL_law 537 = .ok (.iload 19, 2) := by decide +kernel
theorem dL_law_539 : decode cL_law 539 = .ok (.aload_n 1, 1) := by decide +kernel
theorem dL_law_540 : decode cL_law 540 = .ok (.iload 6, 2) := by decide +kernel
theorem dL_law_542 : decode cL_law 542 = .ok (.iload 21, 2) := by decide +kernel
theorem dL_law_544 : decode cL_law 544 = .ok (.bipush 7, 2) := by decide +kernel
theorem dL_law_546 : decode cL_law 546 = .ok (.invokevirtual 132, 3) := by decide +kernel
theorem dL_law_549 : decode cL_law 549 = .ok (.iadd, 1) := by decide +kernel
theorem dL_law_550 : decode cL_law 550 = .ok (.istore 19, 2) := by decide +kernel
theorem dL_law_552 : decode cL_law 552 = .ok (.aload_n 1, 1) := by decide +kernel
theorem dL_law_553 : decode cL_law 553 = .ok (.iload 6, 2) := by decide +kernel
theorem dL_law_555 : decode cL_law 555 = .ok (.iload 21, 2) := by decide +kernel
theorem dL_law_557 : decode cL_law 557 = .ok (.bipush 6, 2) := by decide +kernel
theorem dL_law_559 : decode cL_law 559 = .ok (.invokevirtual 132, 3) := by decide +kernel
theorem dL_law_562 : decode cL_law 562 = .ok (.sipush 300, 3) := by decide +kernel
theorem dL_law_565 : decode cL_law 565 = .ok (.if_icmp .gt 34, 3) := by decide +kernel
theorem dL_law_568 : decode cL_law 568 = .ok (.aload_n 1, 1) := by decide +kernel
theorem dL_law_569 : decode cL_law 569 = .ok (.iload 6, 2) := by decide +kernel
theorem dL_law_571 : decode cL_law 571 = .ok (.iload 21, 2) := by decide +kernel
theorem dL_law_573 : decode cL_law 573 = .ok (.bipush 7, 2) := by decide +kernel
theorem dL_law_575 : decode cL_law 575 = .ok (.invokevirtual 132, 3) := by decide +kernel
theorem dL_law_578 : decode cL_law 578 = .ok (.sipush 900, 3) := by decide +kernel
theorem dL_law_581 : decode cL_law 581 = .ok (.if_icmp .gt 18, 3) := by decide +kernel
theorem dL_law_584 : decode cL_law 584 = .ok (.aload_n 1, 1) := by decide +kernel
theorem dL_law_585 : decode cL_law 585 = .ok (.iload 6, 2) := by decide +kernel
theorem dL_law_587 : decode cL_law 587 = .ok (.iload 21, 2) := by decide +kernel
theorem dL_law_589 : decode cL_law 589 = .ok (.bipush 7, 2) := by decide +kernel
theorem dL_law_591 : decode cL_law 591 = .ok (.invokevirtual 132, 3) := by decide +kernel
theorem dL_law_594 : decode cL_law 594 = .ok (.iload 10, 2) := by decide +kernel
theorem dL_law_596 : decode cL_law 596 = .ok (.if_icmp .ge 5, 3) := by decide +kernel
theorem dL_law_599 : decode cL_law 599 = .ok (.iconst 0, 1) := by decide +kernel
theorem dL_law_600 : decode cL_law 600 = .ok (.ireturn, 1) := by decide +kernel
theorem dL_law_601 : decode cL_law 601 = .ok (.iconst 0, 1) := by decide +kernel
theorem dL_law_602 : decode cL_law 602 = .ok (.istore 22, 2) := by decide +kernel
theorem dL_law_604 : decode cL_law 604 = .ok (.iload 22, 2) := by decide +kernel
theorem dL_law_606 : decode cL_law 606 = .ok (.bipush 6, 2) := by decide +kernel
theorem dL_law_608 : decode cL_law 608 = .ok (.if_icmp .ge 94, 3) := by decide +kernel
theorem dL_law_611 : decode cL_law 611 = .ok (.aload_n 1, 1) := by decide +kernel
theorem dL_law_612 : decode cL_law 612 = .ok (.iload 6, 2) := by decide +kernel
theorem dL_law_614 : decode cL_law 614 = .ok (.iload 21, 2) := by decide +kernel
theorem dL_law_616 : decode cL_law 616 = .ok (.iload 22, 2) := by decide +kernel
theorem dL_law_618 : decode cL_law 618 = .ok (.invokevirtual 132, 3) := by decide +kernel
theorem dL_law_621 : decode cL_law 621 = .ok (.istore 23, 2) := by decide +kernel
theorem dL_law_623 : decode cL_law 623 = .ok (.iconst 0, 1) := by decide +kernel
theorem dL_law_624 : decode cL_law 624 = .ok (.iconst 2, 1) := by decide +kernel
theorem dL_law_625 : decode cL_law 625 = .ok (.iload 22, 2) := by decide +kernel
theorem dL_law_627 : decode cL_law 627 = .ok (.imul, 1) := by decide +kernel
theorem dL_law_628 : decode cL_law 628 = .ok (.iload 17, 2) := by decide +kernel
theorem dL_law_630 : decode cL_law 630 = .ok (.isub, 1) := by decide +kernel
theorem dL_law_631 : decode cL_law 631 = .ok (.invokestatic 82, 3) := by decide +kernel
theorem dL_law_634 : decode cL_law 634 = .ok (.istore 24, 2) := by decide +kernel
theorem dL_law_636 : decode cL_law 636 = .ok (.iload 23, 2) := by decide +kernel
theorem dL_law_638 : decode cL_law 638 = .ok (.ifCond .lt 37, 3) := by decide +kernel
theorem dL_law_641 : decode cL_law 641 = .ok (.iload 22, 2) := by decide +kernel
theorem dL_law_643 : decode cL_law 643 = .ok (.iconst 1, 1) := by decide +kernel
theorem dL_law_644 : decode cL_law 644 = .ok (.if_icmp .le 33, 3) := by decide +kernel
theorem dL_law_647 : decode cL_law 647 = .ok (.iload 23, 2) := by decide +kernel
theorem dL_law_649 : decode cL_law 649 = .ok (.aload 8, 2) := by decide +kernel
theorem dL_law_651 : decode cL_law 651 = .ok (.iload 21, 2) := by decide +kernel
theorem dL_law_653 : decode cL_law 653 = .ok (.aaload, 1) := by decide +kernel
theorem dL_law_654 : decode cL_law 654 = .ok (.iload 22, 2) := by decide +kernel
theorem dL_law_656 : decode cL_law 656 = .ok (.iaload, 1) := by decide +kernel
theorem dL_law_657 : decode cL_law 657 = .ok (.aload 8, 2) := by decide +kernel
theorem dL_law_659 : decode cL_law 659 = .ok (.iload 21, 2) := by decide +kernel
theorem dL_law_661 : decode cL_law 661 = .ok (.aaload, 1) := by decide +kernel
theorem dL_law_662 : decode cL_law 662 = .ok (.iload 22, 2) := by decide +kernel
theorem dL_law_664 : decode cL_law 664 = .ok (.iaload, 1) := by decide +kernel
theorem dL_law_665 : decode cL_law 665 = .ok (.iload 24, 2) := by decide +kernel
theorem dL_law_667 : decode cL_law 667 = .ok (.imul, 1) := by decide +kernel
theorem dL_law_668 : decode cL_law 668 = .ok (.bipush 30, 2) := by decide +kernel
theorem dL_law_670 : decode cL_law 670 = .ok (.idiv, 1) := by decide +kernel
theorem dL_law_671 : decode cL_law 671 = .ok (.isub, 1) := by decide +kernel
theorem dL_law_672 : decode cL_law 672 = .ok (.if_icmp .eq 5, 3) := by decide +kernel
theorem dL_law_675 : decode cL_law 675 = .ok (.iconst 0, 1) := by decide +kernel
theorem dL_law_676 : decode cL_law 676 = .ok (.ireturn, 1) := by decide +kernel
theorem dL_law_677 : decode cL_law 677 = .ok (.aload 20, 2) := by decide +kernel
theorem dL_law_679 : decode cL_law 679 = .ok (.iload 22, 2) := by decide +kernel
theorem dL_law_681 : decode cL_law 681 = .ok (.dup2, 1) := by decide +kernel
theorem dL_law_682 : decode cL_law 682 = .ok (.iaload, 1) := by decide +kernel
theorem dL_law_683 : decode cL_law 683 = .ok (.iload 23, 2) := by decide +kernel
theorem dL_law_685 : decode cL_law 685 = .ok (.aload 8, 2) := by decide +kernel
theorem dL_law_687 : decode cL_law 687 = .ok (.iload 21, 2) := by decide +kernel
theorem dL_law_689 : decode cL_law 689 = .ok (.aaload, 1) := by decide +kernel
theorem dL_law_690 : decode cL_law 690 = .ok (.iload 22, 2) := by decide +kernel
theorem dL_law_692 : decode cL_law 692 = .ok (.iaload, 1) := by decide +kernel
theorem dL_law_693 : decode cL_law 693 = .ok (.isub, 1) := by decide +kernel
theorem dL_law_694 : decode cL_law 694 = .ok (.iadd, 1) := by decide +kernel
theorem dL_law_695 : decode cL_law 695 = .ok (.iastore, 1) := by decide +kernel
theorem dL_law_696 : decode cL_law 696 = .ok (.iinc 22 1, 3) := by decide +kernel
theorem dL_law_699 : decode cL_law 699 = .ok (.goto (-95), 3) := by decide +kernel
theorem dL_law_702 : decode cL_law 702 = .ok (.aload_n 1, 1) := by decide +kernel
theorem dL_law_703 : decode cL_law 703 = .ok (.iload 6, 2) := by decide +kernel
theorem dL_law_705 : decode cL_law 705 = .ok (.iload 21, 2) := by decide +kernel
theorem dL_law_707 : decode cL_law 707 = .ok (.bipush 8, 2) := by decide +kernel
theorem dL_law_709 : decode cL_law 709 = .ok (.invokevirtual 132, 3) := by decide +kernel
theorem dL_law_712 : decode cL_law 712 = .ok (.iconst 1, 1) := by decide +kernel
theorem dL_law_713 : decode cL_law 713 = .ok (.if_icmp .eq 17, 3) := by decide +kernel
theorem dL_law_716 : decode cL_law 716 = .ok (.aload_n 1, 1) := by decide +kernel
theorem dL_law_717 : decode cL_law 717 = .ok (.iload 6, 2) := by decide +kernel
theorem dL_law_719 : decode cL_law 719 = .ok (.iload 21, 2) := by decide +kernel
theorem dL_law_721 : decode cL_law 721 = .ok (.bipush 9, 2) := by decide +kernel
theorem dL_law_723 : decode cL_law 723 = .ok (.invokevirtual 132, 3) := by decide +kernel
theorem dL_law_726 : decode cL_law 726 = .ok (.iconst 1, 1) := by decide +kernel
theorem dL_law_727 : decode cL_law 727 = .ok (.if_icmp .ne 7, 3) := by decide +kernel
theorem dL_law_730 : decode cL_law 730 = .ok (.iconst 1, 1) := by decide +kernel
theorem dL_law_731 : decode cL_law 731 = .ok (.goto 4, 3) := by decide +kernel
theorem dL_law_734 : decode cL_law 734 = .ok (.iconst 0, 1) := by decide +kernel
theorem dL_law_735 : decode cL_law 735 = .ok (.istore 22, 2) := by decide +kernel
theorem dL_law_737 : decode cL_law 737 = .ok (.iconst 0, 1) := by decide +kernel
theorem dL_law_738 : decode cL_law 738 = .ok (.istore 23, 2) := by decide +kernel
theorem dL_law_740 : decode cL_law 740 = .ok (.iload 23, 2) := by decide +kernel
theorem dL_law_742 : decode cL_law 742 = .ok (.iload 7, 2) := by decide +kernel
theorem dL_law_744 : decode cL_law 744 = .ok (.if_icmp .ge 73, 3) := by decide +kernel
theorem dL_law_747 : decode cL_law 747 = .ok (.iload 22, 2) := by decide +kernel
theorem dL_law_749 : decode cL_law 749 = .ok (.ifCond .ne 55, 3) := by decide +kernel
theorem dL_law_752 : decode cL_law 752 = .ok (.iload 23, 2) := by decide +kernel
theorem dL_law_754 : decode cL_law 754 = .ok (.iconst 1, 1) := by decide +kernel
theorem dL_law_755 : decode cL_law 755 = .ok (.iadd, 1) := by decide +kernel
theorem dL_law_756 : decode cL_law 756 = .ok (.iload 21, 2) := by decide +kernel
theorem dL_law_758 : decode cL_law 758 = .ok (.if_icmp .ne 17, 3) := by decide +kernel
theorem dL_law_761 : decode cL_law 761 = .ok (.aload_n 1, 1) := by decide +kernel
theorem dL_law_762 : decode cL_law 762 = .ok (.iload 6, 2) := by decide +kernel
theorem dL_law_764 : decode cL_law 764 = .ok (.iload 23, 2) := by decide +kernel
theorem dL_law_766 : decode cL_law 766 = .ok (.bipush 8, 2) := by decide +kernel
theorem dL_law_768 : decode cL_law 768 = .ok (.invokevirtual 132, 3) := by decide +kernel
theorem dL_law_771 : decode cL_law 771 = .ok (.iconst 1, 1) := by decide +kernel
theorem dL_law_772 : decode cL_law 772 = .ok (.if_icmp .eq 32, 3) := by decide +kernel
theorem dL_law_775 : decode cL_law 775 = .ok (.iload 23, 2) := by decide +kernel
theorem dL_law_777 : decode cL_law 777 = .ok (.aload_n 1, 1) := by decide +kernel
theorem dL_law_778 : decode cL_law 778 = .ok (.iload 6, 2) := by decide +kernel
theorem dL_law_780 : decode cL_law 780 = .ok (.iconst 0, 1) := by decide +kernel
theorem dL_law_781 : decode cL_law 781 = .ok (.invokevirtual 146, 3) := by decide +kernel
theorem dL_law_784 : decode cL_law 784 = .ok (.iadd, 1) := by decide +kernel
theorem dL_law_785 : decode cL_law 785 = .ok (.iload 21, 2) := by decide +kernel
theorem dL_law_787 : decode cL_law 787 = .ok (.if_icmp .ne 21, 3) := by decide +kernel
theorem dL_law_790 : decode cL_law 790 = .ok (.aload_n 1, 1) := by decide +kernel
theorem dL_law_791 : decode cL_law 791 = .ok (.iload 6, 2) := by decide +kernel
theorem dL_law_793 : decode cL_law 793 = .ok (.iload 23, 2) := by decide +kernel
theorem dL_law_795 : decode cL_law 795 = .ok (.bipush 9, 2) := by decide +kernel
theorem dL_law_797 : decode cL_law 797 = .ok (.invokevirtual 132, 3) := by decide +kernel
theorem dL_law_800 : decode cL_law 800 = .ok (.iconst 1, 1) := by decide +kernel
theorem dL_law_801 : decode cL_law 801 = .ok (.if_icmp .ne 7, 3) := by decide +kernel
theorem dL_law_804 : decode cL_law 804 = .ok (.iconst 1, 1) := by decide +kernel
theorem dL_law_805 : decode cL_law 805 = .ok (.goto 4, 3) := by decide +kernel
theorem dL_law_808 : decode cL_law 808 = .ok (.iconst 0, 1) := by decide +kernel
theorem dL_law_809 : decode cL_law 809 = .ok (.istore 22, 2) := by decide +kernel
theorem dL_law_811 : decode cL_law 811 = .ok (.iinc 23 1, 3) := by decide +kernel
theorem dL_law_814 : decode cL_law 814 = .ok (.goto (-74), 3) := by decide +kernel
theorem dL_law_817 : decode cL_law 817 = .ok (.iload 22, 2) := by decide +kernel
theorem dL_law_819 : decode cL_law 819 = .ok (.ifCond .ne 63, 3) := by decide +kernel
theorem dL_law_822 : decode cL_law 822 = .ok (.aload_n 1, 1) := by decide +kernel
theorem dL_law_823 : decode cL_law 823 = .ok (.iload 6, 2) := by decide +kernel
theorem dL_law_825 : decode cL_law 825 = .ok (.iload 21, 2) := by decide +kernel
theorem dL_law_827 : decode cL_law 827 = .ok (.iconst 0, 1) := by decide +kernel
theorem dL_law_828 : decode cL_law 828 = .ok (.invokevirtual 132, 3) := by decide +kernel
theorem dL_law_831 : decode cL_law 831 = .ok (.aload 8, 2) := by decide +kernel
theorem dL_law_833 : decode cL_law 833 = .ok (.iload 21, 2) := by decide +kernel
theorem dL_law_835 : decode cL_law 835 = .ok (.aaload, 1) := by decide +kernel
theorem dL_law_836 : decode cL_law 836 = .ok (.iconst 0, 1) := by decide +kernel
theorem dL_law_837 : decode cL_law 837 = .ok (.iaload, 1) := by decide +kernel
theorem dL_law_838 : decode cL_law 838 = .ok (.if_icmp .ne 42, 3) := by decide +kernel
theorem dL_law_841 : decode cL_law 841 = .ok (.aload_n 1, 1) := by decide +kernel
theorem dL_law_842 : decode cL_law 842 = .ok (.iload 6, 2) := by decide +kernel
theorem dL_law_844 : decode cL_law 844 = .ok (.iload 21, 2) := by decide +kernel
theorem dL_law_846 : decode cL_law 846 = .ok (.iconst 1, 1) := by decide +kernel
theorem dL_law_847 : decode cL_law 847 = .ok (.invokevirtual 132, 3) := by decide +kernel
theorem dL_law_850 : decode cL_law 850 = .ok (.aload 8, 2) := by decide +kernel
theorem dL_law_852 : decode cL_law 852 = .ok (.iload 21, 2) := by decide +kernel
theorem dL_law_854 : decode cL_law 854 = .ok (.aaload, 1) := by decide +kernel
theorem dL_law_855 : decode cL_law 855 = .ok (.iconst 1, 1) := by decide +kernel
theorem dL_law_856 : decode cL_law 856 = .ok (.iaload, 1) := by decide +kernel
theorem dL_law_857 : decode cL_law 857 = .ok (.aload 8, 2) := by decide +kernel
theorem dL_law_859 : decode cL_law 859 = .ok (.iload 21, 2) := by decide +kernel
theorem dL_law_861 : decode cL_law 861 = .ok (.aaload, 1) := by decide +kernel
theorem dL_law_862 : decode cL_law 862 = .ok (.iconst 1, 1) := by decide +kernel
theorem dL_law_863 : decode cL_law 863 = .ok (.iaload, 1) := by decide +kernel
theorem dL_law_864 : decode cL_law 864 = .ok (.iconst 0, 1) := by decide +kernel
theorem dL_law_865 : decode cL_law 865 = .ok (.iconst 2, 1) := by decide +kernel
theorem dL_law_866 : decode cL_law 866 = .ok (.iload 17, 2) := by decide +kernel
theorem dL_law_868 : decode cL_law 868 = .ok (.isub, 1) := by decide +kernel
theorem dL_law_869 : decode cL_law 869 = .ok (.invokestatic 82, 3) := by decide +kernel
theorem dL_law_872 : decode cL_law 872 = .ok (.imul, 1) := by decide +kernel
theorem dL_law_873 : decode cL_law 873 = .ok (.bipush 30, 2) := by decide +kernel
theorem dL_law_875 : decode cL_law 875 = .ok (.idiv, 1) := by decide +kernel
theorem dL_law_876 : decode cL_law 876 = .ok (.isub, 1) := by decide +kernel
theorem dL_law_877 : decode cL_law 877 = .ok (.if_icmp .eq 5, 3) := by decide +kernel
theorem dL_law_880 : decode cL_law 880 = .ok (.iconst 0, 1) := by decide +kernel
theorem dL_law_881 : decode cL_law 881 = .ok (.ireturn, 1) := by decide +kernel
theorem dL_law_882 : decode cL_law 882 = .ok (.iinc 21 1, 3) := by decide +kernel
theorem dL_law_885 : decode cL_law 885 = .ok (.goto (-370), 3) := by decide +kernel
theorem dL_law_888 : decode cL_law 888 = .ok (.iload 18, 2) := by decide +kernel
theorem dL_law_890 : decode cL_law 890 = .ok (.aload_n 1, 1) := by decide +kernel
theorem dL_law_891 : decode cL_law 891 = .ok (.iload 6, 2) := by decide +kernel
theorem dL_law_893 : decode cL_law 893 = .ok (.iconst 3, 1) := by decide +kernel
theorem dL_law_894 : decode cL_law 894 = .ok (.invokevirtual 146, 3) := by decide +kernel
theorem dL_law_897 : decode cL_law 897 = .ok (.if_icmp .ne 35, 3) := by decide +kernel
theorem dL_law_900 : decode cL_law 900 = .ok (.iload 19, 2) := by decide +kernel
theorem dL_law_902 : decode cL_law 902 = .ok (.aload_n 1, 1) := by decide +kernel
theorem dL_law_903 : decode cL_law 903 = .ok (.iload 6, 2) := by decide +kernel
theorem dL_law_905 : decode cL_law 905 = .ok (.iconst 4, 1) := by decide +kernel
theorem dL_law_906 : decode cL_law 906 = .ok (.invokevirtual 146, 3) := by decide +kernel
theorem dL_law_909 : decode cL_law 909 = .ok (.if_icmp .ne 23, 3) := by decide +kernel
theorem dL_law_912 : decode cL_law 912 = .ok (.aload 20, 2) := by decide +kernel
theorem dL_law_914 : decode cL_law 914 = .ok (.iconst 0, 1) := by decide +kernel
theorem dL_law_915 : decode cL_law 915 = .ok (.iaload, 1) := by decide +kernel
theorem dL_law_916 : decode cL_law 916 = .ok (.ifCond .ne 16, 3) := by decide +kernel
theorem dL_law_919 : decode cL_law 919 = .ok (.iload 17, 2) := by decide +kernel
theorem dL_law_921 : decode cL_law 921 = .ok (.iconst 1, 1) := by decide +kernel
theorem dL_law_922 : decode cL_law 922 = .ok (.if_icmp .le 12, 3) := by decide +kernel
theorem dL_law_925 : decode cL_law 925 = .ok (.aload 20, 2) := by decide +kernel
theorem dL_law_927 : decode cL_law 927 = .ok (.iconst 1, 1) := by decide +kernel
theorem dL_law_928 : decode cL_law 928 = .ok (.iaload, 1) := by decide +kernel
theorem dL_law_929 : decode cL_law 929 = .ok (.ifCond .eq 5, 3) := by decide +kernel
theorem dL_law_932 : decode cL_law 932 = .ok (.iconst 0, 1) := by decide +kernel
theorem dL_law_933 : decode cL_law 933 = .ok (.ireturn, 1) := by decide +kernel
theorem dL_law_934 : decode cL_law 934 = .ok (.iconst 0, 1) := by decide +kernel
theorem dL_law_935 : decode cL_law 935 = .ok (.istore 21, 2) := by decide +kernel
theorem dL_law_937 : decode cL_law 937 = .ok (.iload 21, 2) := by decide +kernel
theorem dL_law_939 : decode cL_law 939 = .ok (.aload_n 2, 1) := by decide +kernel
theorem dL_law_940 : decode cL_law 940 = .ok (.getfield 32, 3) := by decide +kernel
theorem dL_law_943 : decode cL_law 943 = .ok (.arraylength, 1) := by decide +kernel
theorem dL_law_944 : decode cL_law 944 = .ok (.if_icmp .ge 52, 3) := by decide +kernel
theorem dL_law_947 : decode cL_law 947 = .ok (.iconst 0, 1) := by decide +kernel
theorem dL_law_948 : decode cL_law 948 = .ok (.istore 22, 2) := by decide +kernel
theorem dL_law_950 : decode cL_law 950 = .ok (.iload 22, 2) := by decide +kernel
theorem dL_law_952 : decode cL_law 952 = .ok (.bipush 6, 2) := by decide +kernel
theorem dL_law_954 : decode cL_law 954 = .ok (.if_icmp .ge 36, 3) := by decide +kernel
theorem dL_law_957 : decode cL_law 957 = .ok (.aload_n 1, 1) := by decide +kernel
theorem dL_law_958 : decode cL_law 958 = .ok (.iload 21, 2) := by decide +kernel
theorem dL_law_960 : decode cL_law 960 = .ok (.iload 22, 2) := by decide +kernel
theorem dL_law_962 : decode cL_law 962 = .ok (.invokevirtual 152, 3) := by decide +kernel
theorem dL_law_965 : decode cL_law 965 = .ok (.sipush 500, 3) := by decide +kernel
theorem dL_law_968 : decode cL_law 968 = .ok (.if_icmp .gt 14, 3) := by decide +kernel
theorem dL_law_971 : decode cL_law 971 = .ok (.aload_n 1, 1) := by decide +kernel
theorem dL_law_972 : decode cL_law 972 = .ok (.iload 21, 2) := by decide +kernel
theorem dL_law_974 : decode cL_law 974 = .ok (.iload 22, 2) := by decide +kernel
theorem dL_law_976 : decode cL_law 976 = .ok (.invokevirtual 152, 3) := by decide +kernel
theorem dL_law_979 : decode cL_law 979 = .ok (.ifCond .ge 5, 3) := by decide +kernel
theorem dL_law_982 : decode cL_law 982 = .ok (.iconst 0, 1) := by decide +kernel
theorem dL_law_983 : decode cL_law 983 = .ok (.ireturn, 1) := by decide +kernel
theorem dL_law_984 : decode cL_law 984 = .ok (.iinc 22 1, 3) := by decide +kernel
theorem dL_law_987 : decode cL_law 987 = .ok (.goto (-37), 3) := by decide +kernel
theorem dL_law_990 : decode cL_law 990 = .ok (.iinc 21 1, 3) := by decide +kernel
theorem dL_law_993 : decode cL_law 993 = .ok (.goto (-56), 3) := by decide +kernel
theorem dL_law_996 : decode cL_law 996 = .ok (.aload_n 1, 1) := by decide +kernel
theorem dL_law_997 : decode cL_law 997 = .ok (.iconst 3, 1) := by decide +kernel
theorem dL_law_998 : decode cL_law 998 = .ok (.invokevirtual 124, 3) := by decide +kernel
theorem dL_law_1001 : decode cL_law 1001 = .ok (.aload_n 1, 1) := by decide +kernel
theorem dL_law_1002 : decode cL_law 1002 = .ok (.iconst 4, 1) := by decide +kernel
theorem dL_law_1003 : decode cL_law 1003 = .ok (.invokevirtual 124, 3) := by decide +kernel
theorem dL_law_1006 : decode cL_law 1006 = .ok (.iadd, 1) := by decide +kernel
theorem dL_law_1007 : decode cL_law 1007 = .ok (.aload_n 1, 1) := by decide +kernel
theorem dL_law_1008 : decode cL_law 1008 = .ok (.iconst 5, 1) := by decide +kernel
theorem dL_law_1009 : decode cL_law 1009 = .ok (.invokevirtual 124, 3) := by decide +kernel
theorem dL_law_1012 : decode cL_law 1012 = .ok (.iadd, 1) := by decide +kernel
theorem dL_law_1013 : decode cL_law 1013 = .ok (.aload_n 1, 1) := by decide +kernel
theorem dL_law_1014 : decode cL_law 1014 = .ok (.bipush 6, 2) := by decide +kernel
theorem dL_law_1016 : decode cL_law 1016 = .ok (.invokevirtual 124, 3) := by decide +kernel
theorem dL_law_1019 : decode cL_law 1019 = .ok (.iadd, 1) := by decide +kernel
theorem dL_law_1020 : decode cL_law 1020 = .ok (.aload_n 1, 1) := by decide +kernel
theorem dL_law_1021 : decode cL_law 1021 = .ok (.bipush 7, 2) := by decide +kernel
theorem dL_law_1023 : decode cL_law 1023 = .ok (.invokevirtual 124, 3) := by decide +kernel
theorem dL_law_1026 : decode cL_law 1026 = .ok (.iadd, 1) := by decide +kernel
theorem dL_law_1027 : decode cL_law 1027 = .ok (.iload_n 3, 1) := by decide +kernel
theorem dL_law_1028 : decode cL_law 1028 = .ok (.if_icmp .eq 5, 3) := by decide +kernel
theorem dL_law_1031 : decode cL_law 1031 = .ok (.iconst 0, 1) := by decide +kernel
theorem dL_law_1032 : decode cL_law 1032 = .ok (.ireturn, 1) := by decide +kernel
theorem dL_law_1033 : decode cL_law 1033 = .ok (.iinc 4 1, 3) := by decide +kernel
theorem dL_law_1036 : decode cL_law 1036 = .ok (.goto (-1007), 3) := by decide +kernel
theorem dL_law_1039 : decode cL_law 1039 = .ok (.iconst 1, 1) := by decide +kernel
theorem dL_law_1040 : decode cL_law 1040 = .ok (.ireturn, 1) := by decide +kernel
theorem dL_coldest_0 : decode cL_coldest 0 = .ok (.iconst 0, 1) := by decide +kernel
theorem dL_coldest_1 : decode cL_coldest 1 = .ok (.istore_n 1, 1) := by decide +kernel
theorem dL_coldest_2 : decode cL_coldest 2 = .ok (.iconst 0, 1) := by decide +kernel
theorem dL_coldest_3 : decode cL_coldest 3 = .ok (.istore_n 2, 1) := by decide +kernel
theorem dL_coldest_4 : decode cL_coldest 4 = .ok (.iload_n 2, 1) := by decide +kernel
theorem dL_coldest_5 : decode cL_coldest 5 = .ok (.aload_n 0, 1) := by decide +kernel
theorem dL_coldest_6 : decode cL_coldest 6 = .ok (.arraylength, 1) := by decide +kernel
theorem dL_coldest_7 : decode cL_coldest 7 = .ok (.if_icmp .ge 26, 3) := by decide +kernel
theorem dL_coldest_10 : decode cL_coldest 10 = .ok (.aload_n 0, 1) := by decide +kernel
theorem dL_coldest_11 : decode cL_coldest 11 = .ok (.iload_n 2, 1) := by decide +kernel
theorem dL_coldest_12 : decode cL_coldest 12 = .ok (.aaload, 1) := by decide +kernel
theorem dL_coldest_13 : decode cL_coldest 13 = .ok (.bipush 7, 2) := by decide +kernel
theorem dL_coldest_15 : decode cL_coldest 15 = .ok (.iaload, 1) := by decide +kernel
theorem dL_coldest_16 : decode cL_coldest 16 = .ok (.aload_n 0, 1) := by decide +kernel
theorem dL_coldest_17 : decode cL_coldest 17 = .ok (.iload_n 1, 1) := by decide +kernel
theorem dL_coldest_18 : decode cL_coldest 18 = .ok (.aaload, 1) := by decide +kernel
theorem dL_coldest_19 : decode cL_coldest 19 = .ok (.bipush 7, 2) := by decide +kernel
theorem dL_coldest_21 : decode cL_coldest 21 = .ok (.iaload, 1) := by decide +kernel
theorem dL_coldest_22 : decode cL_coldest 22 = .ok (.if_icmp .ge 5, 3) := by decide +kernel
theorem dL_coldest_25 : decode cL_coldest 25 = .ok (.iload_n 2, 1) := by decide +kernel
theorem dL_coldest_26 : decode cL_coldest 26 = .ok (.istore_n 1, 1) := by decide +kernel
theorem dL_coldest_27 : decode cL_coldest 27 = .ok (.iinc 2 1, 3) := by decide +kernel
theorem dL_coldest_30 : decode cL_coldest 30 = .ok (.goto (-26), 3) := by decide +kernel
theorem dL_coldest_33 : decode cL_coldest 33 = .ok (.iload_n 1, 1) := by decide +kernel
theorem dL_coldest_34 : decode cL_coldest 34 = .ok (.ireturn, 1) := by decide +kernel
abbrev vwCl : List vw_C := [(RJx4a65c, TJx4a65c, 3), (RX0, TX0, 2), (RX1, TX1, 2), (RX2, TX2, 7), (RX3, TX3, 8), (RX4, TX4, 8), (RX5, TX5, 5)]
end
