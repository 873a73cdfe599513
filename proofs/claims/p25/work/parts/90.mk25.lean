/-! the law's own objects: what is made at once, and hung into them -/
section UPK
variable {y : Nat → ClassId} {S : fb_Sh} {V I : fb_V} {T : fb_T} {r : Nat} {v : Option Nat}
theorem upk_4_0 (hk : sk S r = 4) : ∀ q, va_up (fb_g y (S, V, T, I)) r (.inr (5, [va_rf v, va_rf (sp S r 1), .int (I r 2), va_rf (sp S r 3), va_rf (sp S r 4), .int (I r 5), .int (I r 6), .int (I r 7)])) q = fb_g y (fb_setp S r 0 v, V, T, I) q :=
  up_P (by rw [ce4 (S := fb_setp S r 0 v) (show sk (fb_setp S r 0 v) r = 4 from hk)]; simp [st_p, va_up])
theorem upk_4_1 (hk : sk S r = 4) : ∀ q, va_up (fb_g y (S, V, T, I)) r (.inr (5, [va_rf (sp S r 0), va_rf v, .int (I r 2), va_rf (sp S r 3), va_rf (sp S r 4), .int (I r 5), .int (I r 6), .int (I r 7)])) q = fb_g y (fb_setp S r 1 v, V, T, I) q :=
  up_P (by rw [ce4 (S := fb_setp S r 1 v) (show sk (fb_setp S r 1 v) r = 4 from hk)]; simp [st_p, va_up])
theorem upk_4_3 (hk : sk S r = 4) : ∀ q, va_up (fb_g y (S, V, T, I)) r (.inr (5, [va_rf (sp S r 0), va_rf (sp S r 1), .int (I r 2), va_rf v, va_rf (sp S r 4), .int (I r 5), .int (I r 6), .int (I r 7)])) q = fb_g y (fb_setp S r 3 v, V, T, I) q :=
  up_P (by rw [ce4 (S := fb_setp S r 3 v) (show sk (fb_setp S r 3 v) r = 4 from hk)]; simp [st_p, va_up])
theorem upk_4_4 (hk : sk S r = 4) : ∀ q, va_up (fb_g y (S, V, T, I)) r (.inr (5, [va_rf (sp S r 0), va_rf (sp S r 1), .int (I r 2), va_rf (sp S r 3), va_rf v, .int (I r 5), .int (I r 6), .int (I r 7)])) q = fb_g y (fb_setp S r 4 v, V, T, I) q :=
  up_P (by rw [ce4 (S := fb_setp S r 4 v) (show sk (fb_setp S r 4 v) r = 4 from hk)]; simp [st_p, va_up])
theorem upk_14_3 (hk : sk S r = 14) : ∀ q, va_up (fb_g y (S, V, T, I)) r (.inr (6, [.int (I r 0), .int (I r 1), .int (I r 2), va_rf v, va_rf (sp S r 4)])) q = fb_g y (fb_setp S r 3 v, V, T, I) q :=
  up_P (by rw [ce14 (S := fb_setp S r 3 v) (show sk (fb_setp S r 3 v) r = 14 from hk)]; simp [st_p, va_up])
theorem upk_14_4 (hk : sk S r = 14) : ∀ q, va_up (fb_g y (S, V, T, I)) r (.inr (6, [.int (I r 0), .int (I r 1), .int (I r 2), va_rf (sp S r 3), va_rf v])) q = fb_g y (fb_setp S r 4 v, V, T, I) q :=
  up_P (by rw [ce14 (S := fb_setp S r 4 v) (show sk (fb_setp S r 4 v) r = 14 from hk)]; simp [st_p, va_up])
end UPK
section MKG
variable {y : Nat → ClassId} {S : fb_Sh} {V I : fb_V} {T : fb_T} {r h q n : Nat}
theorem mko4_e : fb_g y (fb_new S r q 4 0, V, T, va_up I r (fun _ => 0)) r = .inr (5, [.null, .null, .int 0, .null, .null, .int 0, .int 0, .int 0]) := by
  rw [ce4 (nw_k S r q 4 0), nw_p, va_up_self]
  rfl
theorem mko14_e : fb_g y (fb_new S r q 14 0, V, T, va_up I r (fun _ => 0)) r = .inr (6, [.int 0, .int 0, .int 0, .null, .null]) := by
  rw [ce14 (nw_k S r q 14 0), nw_p, va_up_self]
  rfl
theorem mk13_e : fb_g y (fb_new S r q 13 n, V, T, I) r = .inl (y 6, n, .inr (.inr (.inr (.inr (fun _ => none))))) := by
  rw [ce13 (nw_k S r q 13 n), nw_l, nw_p]
end MKG
/-- rows b .. b + n - 1 hold Y -/
def rB (I : fb_V) (b n : Nat) (Y : fb_V) : fb_V := fun r => if b ≤ r ∧ r < b + n then Y (r - b) else I r
theorem rB_at (I : fb_V) (b : Nat) {n : Nat} (Y : fb_V) {q : Nat} (h : q < n) : rB I b n Y (b + q) = Y q := by
  unfold rB
  rw [if_pos (by omega), show b + q - b = q by omega]
theorem rB_out (I : fb_V) {b n : Nat} (Y : fb_V) {r : Nat} (h : r < b ∨ b + n ≤ r) : rB I b n Y r = I r := if_neg (by omega)
theorem rB_up (I : fb_V) (b : Nat) {n : Nat} (Y : fb_V) {q : Nat} (h : q < n) (v : Nat → Int32) : va_up (rB I b n Y) (b + q) v = rB I b n (va_up Y q v) := by
  funext r
  by_cases e : r = b + q
  · subst e
    rw [va_up_self, rB_at _ _ _ h, va_up_self]
  · rw [va_up_ne _ _ e]
    unfold rB
    by_cases c : b ≤ r ∧ r < b + n
    · rw [if_pos c, if_pos c, va_up_ne _ _ (by omega)]
    · rw [if_neg c, if_neg c]
theorem rB_ext (I : fb_V) (b : Nat) {n : Nat} {Y Z : fb_V} (h : ∀ q, q < n → Y q = Z q) : rB I b n Y = rB I b n Z := by
  funext r
  unfold rB
  by_cases c : b ≤ r ∧ r < b + n
  · rw [if_pos c, if_pos c]
    exact h _ (by omega)
  · rw [if_neg c, if_neg c]
theorem rB_id (I : fb_V) (b : Nat) {n : Nat} {Y : fb_V} (h : ∀ q, q < n → Y q = I (b + q)) : rB I b n Y = I := by
  funext r
  unfold rB
  by_cases c : b ≤ r ∧ r < b + n
  · rw [if_pos c, h _ (by omega), show b + (r - b) = r by omega]
  · rw [if_neg c]
theorem rB_rB (I : fb_V) (b n : Nat) (Y Z : fb_V) : rB (rB I b n Y) b n Z = rB I b n Z := by
  funext r
  unfold rB
  by_cases c : b ≤ r ∧ r < b + n
  · rw [if_pos c, if_pos c]
  · rw [if_neg c, if_neg c, if_neg c]
/-- an array of arrays, made at once: it is at F, its rows behind it -/
def fb_mk2 (S : fb_Sh) (F q N K k0 k1 : Nat) (ra : Nat → Nat) : fb_Sh :=
  ((sR S ++ [F]) ++ (List.range N).map (fun i => F + 1 + i),
   fun x => if x = F then q else if F < x ∧ x ≤ F + N then ra (x - (F + 1)) else sa S x,
   fun x => if x = F then k0 else if F < x ∧ x ≤ F + N then k1 else sk S x,
   fun x => if x = F then N else if F < x ∧ x ≤ F + N then K else sn S x,
   fun x => if x = F then (fun i => if i < N then some (ra i) else none) else if F < x ∧ x ≤ F + N then (fun _ => none) else sp S x)
section MK2
variable (S : fb_Sh) (F q N K k0 k1 : Nat) (ra : Nat → Nat)
theorem mk2_a0 : sa (fb_mk2 S F q N K k0 k1 ra) F = q := if_pos rfl
theorem mk2_k0 : sk (fb_mk2 S F q N K k0 k1 ra) F = k0 := if_pos rfl
theorem mk2_n0 : sn (fb_mk2 S F q N K k0 k1 ra) F = N := if_pos rfl
theorem mk2_p0 : sp (fb_mk2 S F q N K k0 k1 ra) F = fun i => if i < N then some (ra i) else none := if_pos rfl
theorem mk2_a1 {i : Nat} (h : i < N) : sa (fb_mk2 S F q N K k0 k1 ra) (F + 1 + i) = ra i := by
  show (if F + 1 + i = F then q else if F < F + 1 + i ∧ F + 1 + i ≤ F + N then ra (F + 1 + i - (F + 1)) else sa S (F + 1 + i)) = _
  rw [if_neg (by omega), if_pos (by omega), show F + 1 + i - (F + 1) = i by omega]
theorem mk2_k1 {i : Nat} (h : i < N) : sk (fb_mk2 S F q N K k0 k1 ra) (F + 1 + i) = k1 := by
  show (if F + 1 + i = F then k0 else if F < F + 1 + i ∧ F + 1 + i ≤ F + N then k1 else sk S (F + 1 + i)) = _
  rw [if_neg (by omega), if_pos (by omega)]
theorem mk2_n1 {i : Nat} (h : i < N) : sn (fb_mk2 S F q N K k0 k1 ra) (F + 1 + i) = K := by
  show (if F + 1 + i = F then N else if F < F + 1 + i ∧ F + 1 + i ≤ F + N then K else sn S (F + 1 + i)) = _
  rw [if_neg (by omega), if_pos (by omega)]
theorem mk2_ext : Ext (fun x => F ≤ x ∧ x ≤ F + N) S (fb_mk2 S F q N K k0 k1 ra) := fun x hx => by
  have h1 : x ≠ F := by omega
  have h2 : ¬ (F < x ∧ x ≤ F + N) := by omega
  refine ⟨⟨fun z => ?_, fun z => List.mem_append_left _ (List.mem_append_left _ z)⟩, ?_, ?_, ?_, ?_⟩
  · rcases List.mem_append.mp z with z | z
    · rcases List.mem_append.mp z with z | z
      · exact z
      · exact absurd (List.mem_singleton.mp z) h1
    · obtain ⟨i, hi, e⟩ := List.mem_map.mp z
      have := List.mem_range.mp hi
      omega
  · exact (if_neg h1).trans (if_neg h2)
  · exact (if_neg h1).trans (if_neg h2)
  · exact (if_neg h1).trans (if_neg h2)
  · exact (if_neg h1).trans (if_neg h2)
theorem mk2_in0 : F ∈ sR (fb_mk2 S F q N K k0 k1 ra) := List.mem_append_left _ (List.mem_append_right _ (List.mem_singleton.mpr rfl))
theorem mk2_in1 {i : Nat} (h : i < N) : F + 1 + i ∈ sR (fb_mk2 S F q N K k0 k1 ra) := List.mem_append_right _ (List.mem_map.mpr ⟨i, List.mem_range.mpr h, rfl⟩)
theorem mk2_ok : RA (fb_mk2 S F q N K k0 k1 ra) F k0 N ∧ sa (fb_mk2 S F q N K k0 k1 ra) F = q ∧ (∀ i, i < N → PA (fb_mk2 S F q N K k0 k1 ra) F i (F + 1 + i) ∧ RA (fb_mk2 S F q N K k0 k1 ra) (F + 1 + i) k1 K) ∧ Ext (fun x => F ≤ x ∧ x ≤ F + N) S (fb_mk2 S F q N K k0 k1 ra) :=
  ⟨⟨mk2_in0 S F q N K k0 k1 ra, mk2_k0 S F q N K k0 k1 ra, mk2_n0 S F q N K k0 k1 ra⟩, mk2_a0 S F q N K k0 k1 ra, fun i hi => ⟨by
    unfold PA
    rw [mk2_p0, mk2_a1 S F q N K k0 k1 ra hi]
    exact if_pos hi, mk2_in1 S F q N K k0 k1 ra hi, mk2_k1 S F q N K k0 k1 ra hi, mk2_n1 S F q N K k0 k1 ra hi⟩, mk2_ext S F q N K k0 k1 ra⟩
end MK2
theorem Ext.g {P : Nat → Prop} {S S' : fb_Sh} {y : Nat → ClassId} {V I J : fb_V} {T : fb_T} (hE : Ext P S S') {x : Nat} (hx : ¬ P x) (hI : J x = I x) : fb_g y (S', V, T, J) x = fb_g y (S, V, T, I) x := by
  obtain ⟨-, -, h1, h2, h3⟩ := hE x hx
  show fb_cell y S' V T J x = fb_cell y S V T I x
  unfold fb_cell
  rw [h1, h2, h3, hI]
section MKR
variable {p : Program} {l : Launch} {e : Env} {R : Room} {s : State} {m : MethodId} {args : Array Value} {below : List Frame} {meth : Method} {c : Code} {H : Heap} {locs : List Loc} {cells slots : Nat} {Q : State → Prop}
variable {cc : ByteArray} {nL : Nat} {Ts : List Cond} {own : String} {pc index : Nat} {ls : Array Slot} {rest : List Value} {D : va_G} {A : Nat → Prop} {y : Nat → ClassId} {S : fb_Sh} {V I : fb_V} {T : fb_T}
theorem fb_mko4 (hx : p.tables.exec = Jvm.exec) (hb : c.code = cc) (hown : s.vm.findClass own = some m.cls) (hts : ∀ x ∈ Ts, x.before args s = true) (hin : ∀ x ∈ u_ws RX4 TX4 8, x ∈ Ts) (hcl : (Cond.classLink own index RX4).before args s = true) (hinst : (Cond.instantiable RX4 8).before args s = true) (hini : (Cond.initialized RX4).before args s = true) (hM : fb_M D y A s (S, V, T, I) H locs) (hcells : cells + 1 ≤ R.cells) (hslots : slots + 8 ≤ R.slots) (hdg : decode cc pc = .ok (.new index, 3)) (r : Nat) (hr : r ∉ sR S)
    (kk : ∀ (q : Nat) (H1 : Heap), fb_M D y A s (fb_new S r q 4 0, V, T, va_up I r (fun _ => 0)) H1 locs → W p l e R s m args below meth c H1 locs (cells + 1) (slots + 8) Q (F0 m (pc + 3) ls (.ref q :: rest))) : W p l e R s m args below meth c H locs cells slots Q (F0 m pc ls rest) := by
  exact fb_newo hx hb hown hts hin tyX4 tyX4_ok hcl hinst hini hM (ci := 5) rfl (fs := [.null, .null, .int 0, .null, .null, .int 0, .int 0, .int 0]) (fun j hj => by
    rcases (show j = 0 ∨ j = 1 ∨ j = 2 ∨ j = 3 ∨ j = 4 ∨ j = 5 ∨ j = 6 ∨ j = 7 by omega) with rfl | rfl | rfl | rfl | rfl | rfl | rfl | rfl <;> rfl) hcells hslots hdg r 4 0 hr (fun q => ⟨mkI_g hr, mko4_e⟩) kk
theorem fb_mko14 (hx : p.tables.exec = Jvm.exec) (hb : c.code = cc) (hown : s.vm.findClass own = some m.cls) (hts : ∀ x ∈ Ts, x.before args s = true) (hin : ∀ x ∈ u_ws RX5 TX5 5, x ∈ Ts) (hcl : (Cond.classLink own index RX5).before args s = true) (hinst : (Cond.instantiable RX5 5).before args s = true) (hini : (Cond.initialized RX5).before args s = true) (hM : fb_M D y A s (S, V, T, I) H locs) (hcells : cells + 1 ≤ R.cells) (hslots : slots + 5 ≤ R.slots) (hdg : decode cc pc = .ok (.new index, 3)) (r : Nat) (hr : r ∉ sR S)
    (kk : ∀ (q : Nat) (H1 : Heap), fb_M D y A s (fb_new S r q 14 0, V, T, va_up I r (fun _ => 0)) H1 locs → W p l e R s m args below meth c H1 locs (cells + 1) (slots + 5) Q (F0 m (pc + 3) ls (.ref q :: rest))) : W p l e R s m args below meth c H locs cells slots Q (F0 m pc ls rest) := by
  exact fb_newo hx hb hown hts hin tyX5 tyX5_ok hcl hinst hini hM (ci := 6) rfl (fs := [.int 0, .int 0, .int 0, .null, .null]) (fun j hj => by
    rcases (show j = 0 ∨ j = 1 ∨ j = 2 ∨ j = 3 ∨ j = 4 by omega) with rfl | rfl | rfl | rfl | rfl <;> rfl) hcells hslots hdg r 14 0 hr (fun q => ⟨mkI_g hr, mko14_e⟩) kk
theorem fb_mka13 (hx : p.tables.exec = Jvm.exec) (hb : c.code = cc) (hown : s.vm.findClass own = some m.cls) (hcl : (Cond.classLink own index RX5).before args s = true) (hM : fb_M D y A s (S, V, T, I) H locs) {v : Int32} {n : Nat} (hn : ¬ v < 0) (hN : v.toNatClampNeg = n) (hbytes : n * 4 ≤ 536870912) (hcells : cells + 1 ≤ R.cells) (hslots : slots + n ≤ R.slots) (hdg : decode cc pc = .ok (.anewarray index, 3)) (r : Nat) (hr : r ∉ sR S)
    (kk : ∀ (q : Nat) (H1 : Heap), fb_M D y A s (fb_new S r q 13 n, V, T, I) H1 locs → W p l e R s m args below meth c H1 locs (cells + 1) (slots + n) Q (F0 m (pc + 3) ls (.ref q :: rest))) : W p l e R s m args below meth c H locs cells slots Q (F0 m pc ls (.int v :: rest)) := by
  exact fb_newq hx hb hown hcl (by simp [fb_over, RX5]) 6 rfl hM hn hN hbytes hcells hslots hdg r 13 n hr (fun q => ⟨mkP_g hr, mk13_e⟩) kk
theorem fb_mna {ty : FieldType} {k0 k1 : Nat} (hx : p.tables.exec = Jvm.exec) (hb : c.code = cc) (hown : s.vm.findClass own = some m.cls) (hcl : (Cond.classLink own index ("[" ++ (FieldType.array ty).toString)).before args s = true) (hover : FieldType.array ty ∈ fb_over) (harr : (Cond.arrayClass ty).before args s = true) {cA cy : ClassId} (t0 t1 : Nat) (ht0 : (fb_ty y)[t0]? = some (cA, .array ty)) (ht1 : (fb_ty y)[t1]? = some (cy, ty)) (hnm : va_RA s cy ty → s.vm.findClass (FieldType.array ty).toString = some cy)
    (he0 : ∀ (S : fb_Sh) (V : fb_V) (T : fb_T) (I : fb_V) (r : Nat), sk S r = k0 → fb_g y (S, V, T, I) r = .inl (cA, sn S r, .inr (.inr (.inr (.inr (sp S r)))))) (he1 : ∀ (S : fb_Sh) (V : fb_V) (T : fb_T) (I : fb_V) (r : Nat), sk S r = k1 → fb_g y (S, V, T, I) r = .inl (cy, sn S r, .inl (I r)))
    (hM : fb_M D y A s (S, V, T, I) H locs) {n k : Int32} {N K : Nat} (hn : ¬ n < 0) (hk : ¬ k < 0) (hN : n.toNatClampNeg = N) (hK : k.toNatClampNeg = K) (hb1 : N * 4 ≤ 536870912) (hb2 : K * componentBytes ty ≤ 536870912) (hb3 : K ≤ 536870912) (hdf : fits ty (defaultValue ty) = true) (hdd : (defaultValue ty).isDefault = true) (hz : ∀ c : ClassId, Jvm.Free.Multi.innerC c K (defaultValue ty) = vp_cell c (K, .inl (fun _ => 0))) (hcells : cells + (1 + N) ≤ R.cells) (hslots : slots + (N + N * K) ≤ R.slots) (hdg : decode cc pc = .ok (.multianewarray index 2, 4)) (F : Nat) (hF : ∀ x, x ∈ sR S → ¬ (F ≤ x ∧ x ≤ F + N))
    (kk : ∀ (q : Nat) (ra : Nat → Nat) (H1 : Heap), fb_M D y A s (fb_mk2 S F q N K k0 k1 ra, V, T, rB I (F + 1) N (fun _ _ => 0)) H1 locs → W p l e R s m args below meth c H1 locs (cells + 1 + N) (slots + N + N * K) Q (F0 m (pc + 4) ls (.ref q :: rest))) : W p l e R s m args below meth c H locs cells slots Q (F0 m pc ls (.int k :: .int n :: rest)) := by
  refine va_mna (X := fb_wd y (S, V, T, I)) (L := []) (f := fun _ => .inl (cy, (K, .inl (fun _ => 0)))) (z := (K, .inl (fun _ => 0))) hx hb hown hcl (hM.2.2.2.2.2.2 _ hover) harr (hnm (hM.2.2.2.1.2 t1 _ ht1).2) hM.2.2.2.1 (by rw [show va_pl [] (fun _ => (.inl (cy, (K, .inl (fun _ => 0))) : va_E)) = [] from rfl, List.append_nil]; exact hM.1) (by rw [show va_pl [] (fun _ => (.inl (cy, (K, .inl (fun _ => 0))) : va_E)) = [] from rfl, List.append_nil]; exact hM.2.1) hM.2.2.1 hM.2.2.2.2.1 hn hk hN hK hb1 hb2 hb3 hdf hdd hcells hslots hz hdg fun q ra cB H1 a1 a2 a3 a4 a5 a6 => ?_
  have ec := K_fix t0 ht0 a3
  subst ec
  have e : (fb_wd y (S, V, T, I) ++ [(q, .inl (cB, N, .inr (.inr (.inr (.inr (fun i => if i < N then some (ra i) else none))))))]) ++ va_pl ([] ++ (List.range N).map ra) (vr_up (fun _ => .inl (cy, (K, .inl (fun _ => 0)))) ((List.range N).map ra) (.inl (cy, (K, .inl (fun _ => 0))))) = fb_wd y (fb_mk2 S F q N K k0 k1 ra, V, T, rB I (F + 1) N (fun _ _ => 0)) := by
    have hE := mk2_ext S F q N K k0 k1 ra
    show (List.map (fun r => (sa S r, fb_g y (S, V, T, I) r)) (sR S) ++ [(q, .inl (cB, N, .inr (.inr (.inr (.inr (fun i => if i < N then some (ra i) else none))))))]) ++ List.map (fun a => (a, vr_up (fun _ => (.inl (cy, (K, .inl (fun _ => 0))) : va_E)) ((List.range N).map ra) (.inl (cy, (K, .inl (fun _ => 0)))) a)) ((List.range N).map ra) = List.map (fun r => (sa (fb_mk2 S F q N K k0 k1 ra) r, fb_g y (fb_mk2 S F q N K k0 k1 ra, V, T, rB I (F + 1) N (fun _ _ => 0)) r)) ((sR S ++ [F]) ++ (List.range N).map (fun i => F + 1 + i))
    rw [List.map_append, List.map_append, List.map_map, List.map_map]
    congr 1
    · congr 1
      · apply List.map_congr_left
        intro x hx
        have h := hF x hx
        rw [(hE x h).2.1, hE.g h (rB_out I _ (by omega))]
      · rw [List.map_cons, List.map_nil, mk2_a0, he0 _ _ _ _ _ (mk2_k0 S F q N K k0 k1 ra), mk2_n0, mk2_p0]
    · apply List.map_congr_left
      intro i hi
      have h := List.mem_range.mp hi
      show (ra i, vr_up _ _ _ (ra i)) = (sa (fb_mk2 S F q N K k0 k1 ra) (F + 1 + i), fb_g y _ (F + 1 + i))
      rw [vr_up_in (List.mem_map.mpr ⟨i, hi, rfl⟩), mk2_a1 S F q N K k0 k1 ra h, he1 _ _ _ _ _ (mk2_k1 S F q N K k0 k1 ra h), mk2_n1 S F q N K k0 k1 ra h, rB_at _ _ _ h]
  rw [e] at a4 a5
  exact kk q ra H1 ⟨a4, a5, a6, hM.2.2.2⟩
theorem fb_mnaI (hx : p.tables.exec = Jvm.exec) (hb : c.code = cc) (hown : s.vm.findClass own = some m.cls) (hcl : (Cond.classLink own index "[[I").before args s = true) (harr : (Cond.arrayClass .int).before args s = true)
    (hM : fb_M D y A s (S, V, T, I) H locs) {n k : Int32} {N K : Nat} (hn : ¬ n < 0) (hk : ¬ k < 0) (hN : n.toNatClampNeg = N) (hK : k.toNatClampNeg = K) (hb1 : N * 4 ≤ 536870912) (hb2 : K * 4 ≤ 536870912) (hcells : cells + (1 + N) ≤ R.cells) (hslots : slots + (N + N * K) ≤ R.slots) (hdg : decode cc pc = .ok (.multianewarray index 2, 4)) (F : Nat) (hF : ∀ x, x ∈ sR S → ¬ (F ≤ x ∧ x ≤ F + N))
    (kk : ∀ (q : Nat) (ra : Nat → Nat) (H1 : Heap), fb_M D y A s (fb_mk2 S F q N K 10 6 ra, V, T, rB I (F + 1) N (fun _ _ => 0)) H1 locs → W p l e R s m args below meth c H1 locs (cells + 1 + N) (slots + N + N * K) Q (F0 m (pc + 4) ls (.ref q :: rest))) : W p l e R s m args below meth c H locs cells slots Q (F0 m pc ls (.int k :: .int n :: rest)) :=
  fb_mna (ty := .int) (k0 := 10) (k1 := 6) hx hb hown (by rw [show "[" ++ (FieldType.array FieldType.int).toString = "[[I" from by decide +kernel]; exact hcl) (by simp [fb_over]) harr 4 0 rfl rfl (fun h => h) (fun _ _ _ _ _ h => ce10 h) (fun _ _ _ _ _ h => ce6 h) hM hn hk hN hK hb1 hb2 (by omega) rfl rfl (fun c => by
    show ({ cls := c, slots := Array.replicate K (.int 0), vm := .none } : Cell) = _
    rw [arrV_new]
    rfl) hcells hslots hdg F hF kk
theorem fb_mnaZ (hx : p.tables.exec = Jvm.exec) (hb : c.code = cc) (hown : s.vm.findClass own = some m.cls) (hcl : (Cond.classLink own index "[[Z").before args s = true) (harr : (Cond.arrayClass .boolean).before args s = true)
    (hM : fb_M D y A s (S, V, T, I) H locs) {n k : Int32} {N K : Nat} (hn : ¬ n < 0) (hk : ¬ k < 0) (hN : n.toNatClampNeg = N) (hK : k.toNatClampNeg = K) (hb1 : N * 4 ≤ 536870912) (hb2 : K * 1 ≤ 536870912) (hcells : cells + (1 + N) ≤ R.cells) (hslots : slots + (N + N * K) ≤ R.slots) (hdg : decode cc pc = .ok (.multianewarray index 2, 4)) (F : Nat) (hF : ∀ x, x ∈ sR S → ¬ (F ≤ x ∧ x ≤ F + N))
    (kk : ∀ (q : Nat) (ra : Nat → Nat) (H1 : Heap), fb_M D y A s (fb_mk2 S F q N K 11 7 ra, V, T, rB I (F + 1) N (fun _ _ => 0)) H1 locs → W p l e R s m args below meth c H1 locs (cells + 1 + N) (slots + N + N * K) Q (F0 m (pc + 4) ls (.ref q :: rest))) : W p l e R s m args below meth c H locs cells slots Q (F0 m pc ls (.int k :: .int n :: rest)) :=
  fb_mna (ty := .boolean) (k0 := 11) (k1 := 7) hx hb hown (by rw [show "[" ++ (FieldType.array FieldType.boolean).toString = "[[Z" from by decide +kernel]; exact hcl) (by simp [fb_over]) harr 5 1 rfl rfl (fun h => h) (fun _ _ _ _ _ h => ce11 h) (fun _ _ _ _ _ h => ce7 h) hM hn hk hN hK hb1 hb2 (by omega) rfl rfl (fun c => by
    show ({ cls := c, slots := Array.replicate K (.int 0), vm := .none } : Cell) = _
    rw [arrV_new]
    rfl) hcells hslots hdg F hF kk
end MKR
