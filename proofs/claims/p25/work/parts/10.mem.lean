/-! THE MEMORY: every cell has a role (a number); a shape S says which roles live, their addresses, kinds, lengths and pointers; V: the rows of heaps, by the heap's role; T: a heap's 'all'; I: all other numbers, by role and place. -/
abbrev fb_Sh : Type := List Nat × (Nat → Nat) × (Nat → Nat) × (Nat → Nat) × (Nat → Nat → Option Nat)
def sR (S : fb_Sh) : List Nat := S.1
def sa (S : fb_Sh) : Nat → Nat := S.2.1
def sk (S : fb_Sh) : Nat → Nat := S.2.2.1
def sn (S : fb_Sh) : Nat → Nat := S.2.2.2.1
def sp (S : fb_Sh) : Nat → Nat → Option Nat := S.2.2.2.2
abbrev fb_V : Type := Nat → Nat → Int32
abbrev fb_T : Type := Nat → Int32
abbrev fb_W : Type := fb_Sh × fb_V × fb_T × fb_V
def s6 (v : Nat → Int32) : Int32 := v 0 + v 1 + v 2 + v 3 + v 4 + v 5
def sT (V : fb_V) : fb_T := fun h => s6 (V h)
def fb_row (V : fb_V) (r : Nat) : Nat → Int32 := match r with
  | 0 => fun _ => 0
  | h + 1 => V h
def fb_cell (y : Nat → ClassId) (S : fb_Sh) (V : fb_V) (T : fb_T) (I : fb_V) (r : Nat) : va_E := match sk S r with
  | 0 => .inr (1, [va_rf (sp S r 0), .int (T r)])
  | 1 => .inr (2, [va_rf (sp S r 0), .int (I r 1)])
  | 2 => .inr (3, [.int (I r 0), .int (I r 1), .int (I r 2), .int (I r 3), va_rf (sp S r 4), va_rf (sp S r 5), va_rf (sp S r 6)])
  | 3 => .inr (4, [va_rf (sp S r 0), va_rf (sp S r 1), va_rf (sp S r 2), va_rf (sp S r 3), .int (I r 4), .int (I r 5), .int (I r 6), .int (I r 7)])
  | 4 => .inr (5, [va_rf (sp S r 0), va_rf (sp S r 1), .int (I r 2), va_rf (sp S r 3), va_rf (sp S r 4), .int (I r 5), .int (I r 6), .int (I r 7)])
  | 5 => .inr (0, [.int (I r 0), va_rf (sp S r 1), .int (I r 2)])
  | 6 => .inl (y 0, sn S r, .inl (I r))
  | 7 => .inl (y 1, sn S r, .inl (I r))
  | 8 => .inl (y 2, sn S r, .inr (.inr (.inr (.inr (sp S r)))))
  | 9 => .inl (y 3, sn S r, .inr (.inr (.inr (.inr (sp S r)))))
  | 10 => .inl (y 4, sn S r, .inr (.inr (.inr (.inr (sp S r)))))
  | 11 => .inl (y 5, sn S r, .inr (.inr (.inr (.inr (sp S r)))))
  | 13 => .inl (y 6, sn S r, .inr (.inr (.inr (.inr (sp S r)))))
  | 14 => .inr (6, [.int (I r 0), .int (I r 1), .int (I r 2), va_rf (sp S r 3), va_rf (sp S r 4)])
  | _ => .inl (y 0, sn S r, .inl (fb_row V r))
def fb_ty (y : Nat → ClassId) : List (ClassId × FieldType) := [(y 0, .int), (y 1, .boolean), (y 2, .object "FeatherBeds$Heap"), (y 3, .object "java/lang/Object"), (y 4, .array .int), (y 5, .array .boolean), (y 6, .object "FeatherBedsLaw$Tick")]
def fb_g (y : Nat → ClassId) (w : fb_W) : Nat → va_E := fb_cell y w.1 w.2.1 w.2.2.1 w.2.2.2
def fb_map (R : List Nat) (ad : Nat → Nat) (g : Nat → va_E) : va_W := R.map (fun r => (ad r, g r))
def fb_wd (y : Nat → ClassId) (w : fb_W) : va_W := fb_map (sR w.1) (sa w.1) (fb_g y w)
theorem fb_map_get {R : List Nat} {ad : Nat → Nat} {g : Nat → va_E} {r : Nat} (h : r ∈ R) : ∃ k : Nat, R[k]? = some r ∧ (fb_map R ad g)[k]? = some (ad r, g r) := by
  obtain ⟨k, hk⟩ := List.getElem?_of_mem h
  exact ⟨k, hk, by simp [fb_map, hk]⟩
theorem fb_map_set {R : List Nat} {ad : Nat → Nat} {g g' : Nat → va_E} {r k : Nat} {e : va_E} {A : Nat → Prop} (hD : va_D A (fb_map R ad g)) (hk : R[k]? = some r) (he : ∀ q, va_up g r e q = g' q) : (fb_map R ad g).set k (ad r, e) = fb_map R ad g' := by
  have hl : k < R.length := (List.getElem?_eq_some_iff.mp hk).1
  have hl2 : k < (fb_map R ad g).length := by simp [fb_map, hl]
  have hk2 : (fb_map R ad g)[k]? = some (ad r, g r) := by simp [fb_map, hk]
  apply List.ext_getElem?
  intro i
  by_cases hi : i = k
  · subst hi
    rw [List.getElem?_set_self hl2]
    simp only [fb_map, List.getElem?_map, hk, Option.map_some]
    rw [← he r, va_up_self]
  · rw [List.getElem?_set_ne (Ne.symm hi)]
    simp only [fb_map, List.getElem?_map]
    cases hr : R[i]? with
    | none => rfl
    | some q =>
      simp only [Option.map_some]
      have hq : q ≠ r := fun z => hi (hD.1 i k (ad q, g q) (ad r, g r) (by simp [fb_map, hr]) hk2 (by rw [z]))
      rw [← he q, va_up_ne _ _ hq]
theorem fb_map_push {R : List Nat} {ad ad' : Nat → Nat} {g g' : Nat → va_E} {r q : Nat} {e : va_E} (hr : ad' r = q) (hg : g' r = e) (ha : ∀ x, x ∈ R → ad' x = ad x) (hx : ∀ x, x ∈ R → g' x = g x) : fb_map R ad g ++ [(q, e)] = fb_map (R ++ [r]) ad' g' := by
  simp only [fb_map, List.map_append, List.map_cons, List.map_nil]
  rw [hr, hg]
  congr 1
  exact List.map_congr_left fun x h => by rw [ha x h, hx x h]
theorem fb_inj {R : List Nat} {ad : Nat → Nat} {g : Nat → va_E} {A : Nat → Prop} (hD : va_D A (fb_map R ad g)) {a b : Nat} (ha : a ∈ R) (hb : b ∈ R) (h : ad a = ad b) : a = b := by
  obtain ⟨i, hi, hi2⟩ := fb_map_get (ad := ad) (g := g) ha
  obtain ⟨j, hj, hj2⟩ := fb_map_get (ad := ad) (g := g) hb
  have e := hD.1 i j _ _ hi2 hj2 h
  subst e
  exact Option.some.inj (hi.symm.trans hj)
/-! the cells by their kinds -/
section FBC
variable {y : Nat → ClassId} {S : fb_Sh} {V : fb_V} {T : fb_T} {I : fb_V} {r : Nat}
theorem ce0 (h : sk S r = 0) : fb_g y (S, V, T, I) r = .inr (1, [va_rf (sp S r 0), .int (T r)]) := by simp [fb_g, fb_cell, h]
theorem ce1 (h : sk S r = 1) : fb_g y (S, V, T, I) r = .inr (2, [va_rf (sp S r 0), .int (I r 1)]) := by simp [fb_g, fb_cell, h]
theorem ce2 (h : sk S r = 2) : fb_g y (S, V, T, I) r = .inr (3, [.int (I r 0), .int (I r 1), .int (I r 2), .int (I r 3), va_rf (sp S r 4), va_rf (sp S r 5), va_rf (sp S r 6)]) := by simp [fb_g, fb_cell, h]
theorem ce3 (h : sk S r = 3) : fb_g y (S, V, T, I) r = .inr (4, [va_rf (sp S r 0), va_rf (sp S r 1), va_rf (sp S r 2), va_rf (sp S r 3), .int (I r 4), .int (I r 5), .int (I r 6), .int (I r 7)]) := by simp [fb_g, fb_cell, h]
theorem ce4 (h : sk S r = 4) : fb_g y (S, V, T, I) r = .inr (5, [va_rf (sp S r 0), va_rf (sp S r 1), .int (I r 2), va_rf (sp S r 3), va_rf (sp S r 4), .int (I r 5), .int (I r 6), .int (I r 7)]) := by simp [fb_g, fb_cell, h]
theorem ce5 (h : sk S r = 5) : fb_g y (S, V, T, I) r = .inr (0, [.int (I r 0), va_rf (sp S r 1), .int (I r 2)]) := by simp [fb_g, fb_cell, h]
theorem ce6 (h : sk S r = 6) : fb_g y (S, V, T, I) r = .inl (y 0, sn S r, .inl (I r)) := by simp [fb_g, fb_cell, h]
theorem ce7 (h : sk S r = 7) : fb_g y (S, V, T, I) r = .inl (y 1, sn S r, .inl (I r)) := by simp [fb_g, fb_cell, h]
theorem ce8 (h : sk S r = 8) : fb_g y (S, V, T, I) r = .inl (y 2, sn S r, .inr (.inr (.inr (.inr (sp S r))))) := by simp [fb_g, fb_cell, h]
theorem ce9 (h : sk S r = 9) : fb_g y (S, V, T, I) r = .inl (y 3, sn S r, .inr (.inr (.inr (.inr (sp S r))))) := by simp [fb_g, fb_cell, h]
theorem ce10 (h : sk S r = 10) : fb_g y (S, V, T, I) r = .inl (y 4, sn S r, .inr (.inr (.inr (.inr (sp S r))))) := by simp [fb_g, fb_cell, h]
theorem ce11 (h : sk S r = 11) : fb_g y (S, V, T, I) r = .inl (y 5, sn S r, .inr (.inr (.inr (.inr (sp S r))))) := by simp [fb_g, fb_cell, h]
theorem ce13 (h : sk S r = 13) : fb_g y (S, V, T, I) r = .inl (y 6, sn S r, .inr (.inr (.inr (.inr (sp S r))))) := by simp [fb_g, fb_cell, h]
theorem ce14 (h : sk S r = 14) : fb_g y (S, V, T, I) r = .inr (6, [.int (I r 0), .int (I r 1), .int (I r 2), va_rf (sp S r 3), va_rf (sp S r 4)]) := by simp [fb_g, fb_cell, h]
theorem ce12 {h : Nat} (hk : sk S (h + 1) = 12) : fb_g y (S, V, T, I) (h + 1) = .inl (y 0, sn S (h + 1), .inl (V h)) := by simp [fb_g, fb_cell, hk, fb_row]
/-! a written number, a written pointer -/
theorem up_I {j : Nat} {v : Int32} {e : va_E} (h : fb_g y (S, V, T, va_up I r (upd (I r) j v)) r = e) : ∀ q, va_up (fb_g y (S, V, T, I)) r e q = fb_g y (S, V, T, va_up I r (upd (I r) j v)) q := by
  intro q
  by_cases hq : q = r
  · subst hq; rw [va_up_self, h]
  · rw [va_up_ne _ _ hq]; simp only [fb_g, fb_cell, va_up_ne _ _ hq]
theorem up_V {h j : Nat} {v : Int32} (hk : sk S (h + 1) = 12) : ∀ q, va_up (fb_g y (S, V, T, I)) (h + 1) (.inl (y 0, sn S (h + 1), .inl (upd (V h) j v))) q = fb_g y (S, va_up V h (upd (V h) j v), T, I) q := by
  intro q
  by_cases hq : q = h + 1
  · subst hq; rw [va_up_self, ce12 hk, va_up_self]
  · rw [va_up_ne _ _ hq]
    have e : fb_row (va_up V h (upd (V h) j v)) q = fb_row V q := by
      cases q with
      | zero => rfl
      | succ n => simp only [fb_row]; exact va_up_ne _ _ (fun z => hq (by rw [z]))
    simp only [fb_g, fb_cell, e]
theorem up_T {v : Int32} (hk : sk S r = 0) : ∀ q, va_up (fb_g y (S, V, T, I)) r (.inr (1, [va_rf (sp S r 0), .int v])) q = fb_g y (S, V, va_up T r v, I) q := by
  intro q
  by_cases hq : q = r
  · subst hq; rw [va_up_self, ce0 hk, va_up_self]
  · rw [va_up_ne _ _ hq]; simp only [fb_g, fb_cell, va_up_ne _ _ hq]
end FBC
def fb_setp (S : fb_Sh) (r j : Nat) (v : Option Nat) : fb_Sh := (sR S, sa S, sk S, sn S, va_up (sp S) r (va_up (sp S r) j v))
theorem up_P {y : Nat → ClassId} {S : fb_Sh} {V : fb_V} {T : fb_T} {I : fb_V} {r j : Nat} {v : Option Nat} {e : va_E} (h : fb_g y (fb_setp S r j v, V, T, I) r = e) : ∀ q, va_up (fb_g y (S, V, T, I)) r e q = fb_g y (fb_setp S r j v, V, T, I) q := by
  intro q
  by_cases hq : q = r
  · subst hq; rw [va_up_self, h]
  · rw [va_up_ne _ _ hq]; simp only [fb_g, fb_cell, fb_setp, sk, sn, sp, va_up_ne _ _ hq]
/-- a new role r at the address q, of the kind k and the length n, all of it null -/
def fb_new (S : fb_Sh) (r q k n : Nat) : fb_Sh := (sR S ++ [r], va_up (sa S) r q, va_up (sk S) r k, va_up (sn S) r n, va_up (sp S) r (fun _ => none))
/-- words that no list of a method's holds: the nest mates' fields, the arrays of arrays, a cast -/
def fb_nest : List Cond := [.fieldLinkNest RX1 26 "FeatherBeds$Heap" "all" "I" "FeatherBeds", .fieldLinkNest RX2 54 "FeatherBeds$Heap" "all" "I" "FeatherBeds", .fieldLinkNest RX3 226 "FeatherBeds$Heap" "all" "I" "FeatherBeds", .fieldLinkNest RX3 122 "FeatherBeds$Tick" "squares" "I" "FeatherBeds", .fieldLinkNest RX3 221 "FeatherBeds$Tick" "heaps" "[LFeatherBeds$Heap;" "FeatherBeds", .fieldLinkNest RX3 66 "FeatherBeds$Sack" "heap" "LFeatherBeds$Heap;" "FeatherBeds", .fieldLinkNest RX3 83 "FeatherBeds$Sack" "damp" "I" "FeatherBeds"]
def fb_over : List FieldType := [.object "FeatherBeds$Heap", .object "java/lang/Object", .array .int, .array .boolean, .object "FeatherBedsLaw$Tick"]
def fb_N (U : State) : Prop := (∀ x, x ∈ fb_nest → va_Nw x U) ∧ (∀ ty, ty ∈ fb_over → (Cond.arrayOver ty).before #[] U = true)
theorem fb_nest_F : ∀ x, x ∈ fb_nest → ∃ a i b n d h, x = Cond.fieldLinkNest a i b n d h := by
  intro x hx
  simp only [fb_nest, List.mem_cons, List.not_mem_nil, or_false] at hx
  rcases hx with rfl | rfl | rfl | rfl | rfl | rfl | rfl <;> exact ⟨_, _, _, _, _, _, rfl⟩
theorem fb_N.warm {s U : State} (hW : s.WarmedH U.vm) (hN : fb_N s) : fb_N U := by
  refine ⟨fun x hx => ?_, fun ty hty => ?_⟩
  · obtain ⟨a, i, b, n, d, h, rfl⟩ := fb_nest_F x hx
    exact va_Nw.warmF hW (hN.1 _ hx)
  · have h1 := hN.2 ty hty
    have h2 := Cond.arrayOver_setVmC (args := #[]) (s := s) hW.alike ty
    rw [h1] at h2
    exact h2
/-- the world that a method sees, and keeps -/
def fb_M (D : va_G) (y : Nat → ClassId) (A : Nat → Prop) (s : State) (w : fb_W) (H : Heap) (locs : List Loc) : Prop :=
  va_P D vwCl (fb_wd y w) H ∧ va_D A (fb_wd y w) ∧ va_S A s.heap H locs ∧ va_K D vwCl (fb_ty y) s ∧ (∀ q, s.heap.size ≤ q → A q) ∧ fb_N s
def fb_P (D : va_G) (y : Nat → ClassId) (A : Nat → Prop) (w : fb_W) (t : State) : Prop := va_P D vwCl (fb_wd y w) t.heap ∧ va_K D vwCl (fb_ty y) t ∧ va_D A (fb_wd y w)
def fb_pre (D : va_G) (y : Nat → ClassId) (w : fb_W) (sz : Nat) (as : List Value) : Array Value → State → Prop := va_Pc as (fun U => U.heap.size = sz ∧ fb_N U ∧ fb_P D y (fun _ => True) w U)
def CI (D : va_G) (y : Nat → ClassId) (l : Launch) (mn : MethodName) (ws : List Cond) (rm : Room) (as : List Value) (w : fb_W) (post : Int32 → fb_W → Prop) (mc ms : Nat) : Prop :=
  ∀ sz, Met l mn ws rm (fb_pre D y w sz as) (va_Qi post (fun u t => fb_P D y (va_A (fb_wd y w) sz) u t) (va_A (fb_wd y w) sz)) mc ms (va_A (fb_wd y w) sz)
def CL (D : va_G) (y : Nat → ClassId) (l : Launch) (mn : MethodName) (ws : List Cond) (rm : Room) (as : List Value) (w : fb_W) (post : Int64 → fb_W → Prop) (mc ms : Nat) : Prop :=
  ∀ sz, Met l mn ws rm (fb_pre D y w sz as) (va_Ql post (fun u t => fb_P D y (va_A (fb_wd y w) sz) u t) (va_A (fb_wd y w) sz)) mc ms (va_A (fb_wd y w) sz)
def CV (D : va_G) (y : Nat → ClassId) (l : Launch) (mn : MethodName) (ws : List Cond) (rm : Room) (as : List Value) (w : fb_W) (post : fb_W → Prop) (mc ms : Nat) : Prop :=
  ∀ sz, Met l mn ws rm (fb_pre D y w sz as) (va_Qv post (fun u t => fb_P D y (va_A (fb_wd y w) sz) u t) (va_A (fb_wd y w) sz)) mc ms (va_A (fb_wd y w) sz)
def CR (D : va_G) (y : Nat → ClassId) (l : Launch) (mn : MethodName) (ws : List Cond) (rm : Room) (as : List Value) (w : fb_W) (post : Nat → fb_W → Prop) (mc ms : Nat) : Prop :=
  ∀ sz, Met l mn ws rm (fb_pre D y w sz as) (va_Qr (fun _ : fb_W => True) (fun u a t => post a u ∧ fb_P D y (va_A (fb_wd y w) sz) u t) (va_A (fb_wd y w) sz)) mc ms (va_A (fb_wd y w) sz)
theorem fb_blind {D : va_G} {y : Nat → ClassId} {w : fb_W} {sz : Nat} {as : List Value} : FrameBlind (fb_pre D y w sz as) := by
  intro a U g mk q
  obtain ⟨q0, q1, qN, qP, qK, qD⟩ := q
  exact ⟨q0, q1, fb_N.warm (s := U) (U := U.calling g mk a) (State.WarmedH.refl U) qN, qP, va_K.moved (u := U) (U := U.calling g mk a) (Vm.Alike.refl U.vm) qK, qD⟩
section FBR
variable {p : Program} {l : Launch} {e : Env} {R : Room} {s : State} {m : MethodId} {args : Array Value} {below : List Frame} {meth : Method} {c : Code} {H : Heap} {locs : List Loc} {cells slots : Nat} {Q : State → Prop}
variable {cc : ByteArray} {nL : Nat} {Ts : List Cond} {own : String} {pc : Nat} {ls : Array Slot} {rest : List Value} {D : va_G} {A : Nat → Prop} {y : Nat → ClassId} {S : fb_Sh} {V : fb_V} {T : fb_T} {I : fb_V} {r : Nat} {w : fb_W}
theorem fb_get (hx : p.tables.exec = Jvm.exec) (hb : c.code = cc) (hown : s.vm.findClass own = some m.cls) (hts : ∀ x ∈ Ts, x.before args s = true) {C : String} {TT : u_T} {N ci index : Nat} (hin : ∀ x ∈ u_ws C TT N, x ∈ Ts) (hM : fb_M D y A s w H locs) (hr : r ∈ sR w.1) {fs : List Value} (he : fb_g y w r = .inr (ci, fs)) (hc : vwCl[ci]? = some (C, TT, N)) (k : Nat) (hk : k < N) (hlink : (Cond.fieldLink own index C (TT k).2.1 (TT k).2.2.1).before args s = true) (hsame : ∀ x, s.fieldFound? (TT k).1 (TT k).2.1 (TT k).2.2.1 = some x → s.fieldFound? C (TT k).2.1 (TT k).2.2.1 = some x) {v : Value} (hv : fs[k]? = some v) (hdg : decode cc pc = .ok (.getfield index, 3))
    (kk : W p l e R s m args below meth c H locs cells slots Q (F0 m (pc + 3) ls (v :: rest))) : W p l e R s m args below meth c H locs cells slots Q (F0 m pc ls (.ref (sa w.1 r) :: rest)) := by
  obtain ⟨k0, h1, h2⟩ := fb_map_get (ad := sa w.1) (g := fb_g y w) hr
  rw [he] at h2
  exact va_get hx hb hts hin hown hM.2.2.2.1 hM.1 k0 h2 hc k hk hlink hsame hv hdg kk
theorem fb_getN (hx : p.tables.exec = Jvm.exec) (hb : c.code = cc) (hown : s.vm.findClass own = some m.cls) (hts : ∀ x ∈ Ts, x.before args s = true) {C host : String} {TT : u_T} {N ci index : Nat} (hin : ∀ x ∈ u_ws C TT N, x ∈ Ts) (hM : fb_M D y A s w H locs) (hr : r ∈ sR w.1) {fs : List Value} (he : fb_g y w r = .inr (ci, fs)) (hc : vwCl[ci]? = some (C, TT, N)) (k : Nat) (hk : k < N) (hlink : Cond.fieldLinkNest own index C (TT k).2.1 (TT k).2.2.1 host ∈ fb_nest) (hsame : ∀ x, s.fieldFound? (TT k).1 (TT k).2.1 (TT k).2.2.1 = some x → s.fieldFound? C (TT k).2.1 (TT k).2.2.1 = some x) {v : Value} (hv : fs[k]? = some v) (hdg : decode cc pc = .ok (.getfield index, 3))
    (kk : W p l e R s m args below meth c H locs cells slots Q (F0 m (pc + 3) ls (v :: rest))) : W p l e R s m args below meth c H locs cells slots Q (F0 m pc ls (.ref (sa w.1 r) :: rest)) := by
  obtain ⟨k0, h1, h2⟩ := fb_map_get (ad := sa w.1) (g := fb_g y w) hr
  rw [he] at h2
  exact va_getN hx hb hts hin hown hM.2.2.2.1 hM.1 k0 h2 hc k hk (va_Nw.use rfl (hM.2.2.2.2.2.1 _ hlink)) hsame hv hdg kk
theorem fb_putN (hx : p.tables.exec = Jvm.exec) (hb : c.code = cc) (hown : s.vm.findClass own = some m.cls) (hts : ∀ x ∈ Ts, x.before args s = true) {C host : String} {TT : u_T} {N ci index : Nat} (hin : ∀ x ∈ u_ws C TT N, x ∈ Ts) (ty0 : Nat → FieldType) (hty : ∀ k, k < N → parseFieldDescriptor (TT k).2.2.1 = some (ty0 k)) (hnm : ∀ a, a < N → ∀ b, b < N → a ≠ b → (TT a).2.1 ≠ (TT b).2.1) (hM : fb_M D y A s w H locs) (hr : r ∈ sR w.1) {fs : List Value} (he : fb_g y w r = .inr (ci, fs)) (hc : vwCl[ci]? = some (C, TT, N)) (k : Nat) (hk : k < N) (hlink : Cond.fieldLinkNest own index C (TT k).2.1 (TT k).2.2.1 host ∈ fb_nest) (hsame : ∀ x, s.fieldFound? (TT k).1 (TT k).2.1 (TT k).2.2.1 = some x → s.fieldFound? C (TT k).2.1 (TT k).2.2.1 = some x) (hfin : (TT k).2.2.2 = false) {ty : FieldType} {v : Value} (hd : parseFieldDescriptor (TT k).2.2.1 = some ty) (hn : narrow ty v = v) (hfit : fits ty v = true) (hl : k < fs.length) (hdg : decode cc pc = .ok (.putfield index, 3)) {g' : Nat → va_E} (hup : ∀ q, va_up (fb_g y w) r (.inr (ci, fs.set k v)) q = g' q) {w' : fb_W} (hw : sR w'.1 = sR w.1 ∧ sa w'.1 = sa w.1 ∧ fb_g y w' = g')
    (kk : ∀ (H1 : Heap) (locs1 : List Loc), fb_M D y A s w' H1 locs1 → W p l e R s m args below meth c H1 locs1 cells slots Q (F0 m (pc + 3) ls rest)) : W p l e R s m args below meth c H locs cells slots Q (F0 m pc ls (v :: .ref (sa w.1 r) :: rest)) := by
  obtain ⟨k0, h1, h2⟩ := fb_map_get (ad := sa w.1) (g := fb_g y w) hr
  rw [he] at h2
  refine va_putN hx hb hts hin ty0 hty hnm hown hM.2.2.2.1 hM.1 hM.2.1 hM.2.2.1 k0 h2 hc k hk (va_Nw.use rfl (hM.2.2.2.2.2.1 _ hlink)) hsame hfin hd hn hfit hl hdg fun H1 locs1 a1 a2 a3 => ?_
  have e : (fb_wd y w).set k0 (sa w.1 r, .inr (ci, fs.set k v)) = fb_wd y w' := by
    unfold fb_wd
    rw [hw.1, hw.2.1, hw.2.2]
    exact fb_map_set hM.2.1 h1 hup
  rw [e] at a1 a2
  exact kk H1 locs1 ⟨a1, a2, a3, hM.2.2.2⟩
theorem fb_put (hx : p.tables.exec = Jvm.exec) (hb : c.code = cc) (hown : s.vm.findClass own = some m.cls) (hts : ∀ x ∈ Ts, x.before args s = true) {C : String} {TT : u_T} {N ci index : Nat} (hin : ∀ x ∈ u_ws C TT N, x ∈ Ts) (ty0 : Nat → FieldType) (hty : ∀ k, k < N → parseFieldDescriptor (TT k).2.2.1 = some (ty0 k)) (hnm : ∀ a, a < N → ∀ b, b < N → a ≠ b → (TT a).2.1 ≠ (TT b).2.1) (hM : fb_M D y A s w H locs) (hr : r ∈ sR w.1) {fs : List Value} (he : fb_g y w r = .inr (ci, fs)) (hc : vwCl[ci]? = some (C, TT, N)) (k : Nat) (hk : k < N) (hlink : (Cond.fieldLink own index C (TT k).2.1 (TT k).2.2.1).before args s = true) (hsame : ∀ x, s.fieldFound? (TT k).1 (TT k).2.1 (TT k).2.2.1 = some x → s.fieldFound? C (TT k).2.1 (TT k).2.2.1 = some x) (hfin : (TT k).2.2.2 = false) {ty : FieldType} {v : Value} (hd : parseFieldDescriptor (TT k).2.2.1 = some ty) (hn : narrow ty v = v) (hfit : fits ty v = true) (hl : k < fs.length) (hdg : decode cc pc = .ok (.putfield index, 3)) {g' : Nat → va_E} (hup : ∀ q, va_up (fb_g y w) r (.inr (ci, fs.set k v)) q = g' q) {w' : fb_W} (hw : sR w'.1 = sR w.1 ∧ sa w'.1 = sa w.1 ∧ fb_g y w' = g')
    (kk : ∀ (H1 : Heap) (locs1 : List Loc), fb_M D y A s w' H1 locs1 → W p l e R s m args below meth c H1 locs1 cells slots Q (F0 m (pc + 3) ls rest)) : W p l e R s m args below meth c H locs cells slots Q (F0 m pc ls (v :: .ref (sa w.1 r) :: rest)) := by
  obtain ⟨k0, h1, h2⟩ := fb_map_get (ad := sa w.1) (g := fb_g y w) hr
  rw [he] at h2
  refine va_put hx hb hts hin ty0 hty hnm hown hM.2.2.2.1 hM.1 hM.2.1 hM.2.2.1 k0 h2 hc k hk hlink hsame hfin hd hn hfit hl hdg fun H1 locs1 a1 a2 a3 => ?_
  have e : (fb_wd y w).set k0 (sa w.1 r, .inr (ci, fs.set k v)) = fb_wd y w' := by
    unfold fb_wd
    rw [hw.1, hw.2.1, hw.2.2]
    exact fb_map_set hM.2.1 h1 hup
  rw [e] at a1 a2
  exact kk H1 locs1 ⟨a1, a2, a3, hM.2.2.2⟩
theorem fb_putF (hx : p.tables.exec = Jvm.exec) (hb : c.code = cc) (hown : s.vm.findClass own = some m.cls) (hts : ∀ x ∈ Ts, x.before args s = true) {C : String} {TT : u_T} {N ci index : Nat} (hin : ∀ x ∈ u_ws C TT N, x ∈ Ts) (ty0 : Nat → FieldType) (hty : ∀ k, k < N → parseFieldDescriptor (TT k).2.2.1 = some (ty0 k)) (hnm : ∀ a, a < N → ∀ b, b < N → a ≠ b → (TT a).2.1 ≠ (TT b).2.1) (hM : fb_M D y A s w H locs) (hr : r ∈ sR w.1) {fs : List Value} (he : fb_g y w r = .inr (ci, fs)) (hc : vwCl[ci]? = some (C, TT, N)) (k : Nat) (hk : k < N) (hlink : (Cond.fieldLink own index C (TT k).2.1 (TT k).2.2.1).before args s = true) (hsame : ∀ x, s.fieldFound? (TT k).1 (TT k).2.1 (TT k).2.2.1 = some x → s.fieldFound? C (TT k).2.1 (TT k).2.2.1 = some x) (hfin : (TT k).2.2.2 = true) (hin2 : meth.name = "<init>") (hdecl : (TT k).1 = own) {ty : FieldType} {v : Value} (hd : parseFieldDescriptor (TT k).2.2.1 = some ty) (hn : narrow ty v = v) (hfit : fits ty v = true) (hl : k < fs.length) (hdg : decode cc pc = .ok (.putfield index, 3)) {g' : Nat → va_E} (hup : ∀ q, va_up (fb_g y w) r (.inr (ci, fs.set k v)) q = g' q) {w' : fb_W} (hw : sR w'.1 = sR w.1 ∧ sa w'.1 = sa w.1 ∧ fb_g y w' = g')
    (kk : ∀ (H1 : Heap) (locs1 : List Loc), fb_M D y A s w' H1 locs1 → W p l e R s m args below meth c H1 locs1 cells slots Q (F0 m (pc + 3) ls rest)) : W p l e R s m args below meth c H locs cells slots Q (F0 m pc ls (v :: .ref (sa w.1 r) :: rest)) := by
  obtain ⟨k0, h1, h2⟩ := fb_map_get (ad := sa w.1) (g := fb_g y w) hr
  rw [he] at h2
  refine va_putF hx hb hts hin ty0 hty hnm hown hM.2.2.2.1 hM.1 hM.2.1 hM.2.2.1 k0 h2 hc k hk hlink hsame hfin hin2 hdecl hd hn hfit hl hdg fun H1 locs1 a1 a2 a3 => ?_
  have e : (fb_wd y w).set k0 (sa w.1 r, .inr (ci, fs.set k v)) = fb_wd y w' := by
    unfold fb_wd
    rw [hw.1, hw.2.1, hw.2.2]
    exact fb_map_set hM.2.1 h1 hup
  rw [e] at a1 a2
  exact kk H1 locs1 ⟨a1, a2, a3, hM.2.2.2⟩
/-- a number of an array of ints -/
theorem fb_iald (hx : p.tables.exec = Jvm.exec) (hb : c.code = cc) (hM : fb_M D y A s w H locs) (hr : r ∈ sR w.1) {n : Nat} {f : Nat → Int32} (he : fb_g y w r = .inl (y 0, n, .inl f)) {i : Int32} {k : Nat} (hk : i.toNatClampNeg = k) (hin : vp_in i n) (hdg : decode cc pc = .ok (.iaload, 1))
    (kk : W p l e R s m args below meth c H locs cells slots Q (F0 m (pc + 1) ls (.int (f k) :: rest))) : W p l e R s m args below meth c H locs cells slots Q (F0 m pc ls (.int i :: .ref (sa w.1 r) :: rest)) := by
  subst hk
  obtain ⟨k0, h1, h2⟩ := fb_map_get (ad := sa w.1) (g := fb_g y w) hr
  rw [he] at h2
  exact va_iald hx hb hM.2.2.2.1 hM.1 k0 0 h2 rfl hin hdg kk
theorem fb_zald (hx : p.tables.exec = Jvm.exec) (hb : c.code = cc) (hM : fb_M D y A s w H locs) (hr : r ∈ sR w.1) {n : Nat} {f : Nat → Int32} (he : fb_g y w r = .inl (y 1, n, .inl f)) {i : Int32} {k : Nat} (hk : i.toNatClampNeg = k) (hin : vp_in i n) (hdg : decode cc pc = .ok (.baload, 1))
    (kk : W p l e R s m args below meth c H locs cells slots Q (F0 m (pc + 1) ls (.int (f k) :: rest))) : W p l e R s m args below meth c H locs cells slots Q (F0 m pc ls (.int i :: .ref (sa w.1 r) :: rest)) := by
  subst hk
  obtain ⟨k0, h1, h2⟩ := fb_map_get (ad := sa w.1) (g := fb_g y w) hr
  rw [he] at h2
  exact va_zald hx hb hM.2.2.2.1 hM.1 k0 1 h2 rfl hin hdg kk
theorem fb_iast (hx : p.tables.exec = Jvm.exec) (hb : c.code = cc) (hM : fb_M D y A s w H locs) (hr : r ∈ sR w.1) {n : Nat} {f : Nat → Int32} (he : fb_g y w r = .inl (y 0, n, .inl f)) {i x : Int32} {k : Nat} (hk : i.toNatClampNeg = k) (hin : vp_in i n) (hdg : decode cc pc = .ok (.iastore, 1)) {g' : Nat → va_E} (hup : ∀ q, va_up (fb_g y w) r (.inl (y 0, n, .inl (upd f k x))) q = g' q) {w' : fb_W} (hw : sR w'.1 = sR w.1 ∧ sa w'.1 = sa w.1 ∧ fb_g y w' = g')
    (kk : ∀ (H1 : Heap) (locs1 : List Loc), fb_M D y A s w' H1 locs1 → W p l e R s m args below meth c H1 locs1 cells slots Q (F0 m (pc + 1) ls rest)) : W p l e R s m args below meth c H locs cells slots Q (F0 m pc ls (.int x :: .int i :: .ref (sa w.1 r) :: rest)) := by
  subst hk
  obtain ⟨k0, h1, h2⟩ := fb_map_get (ad := sa w.1) (g := fb_g y w) hr
  rw [he] at h2
  refine va_iast hx hb hM.2.2.2.1 hM.1 hM.2.1 hM.2.2.1 k0 0 h2 rfl hin hdg fun H1 locs1 a1 a2 a3 => ?_
  have e : (fb_wd y w).set k0 (sa w.1 r, .inl (y 0, n, .inl (upd f i.toNatClampNeg x))) = fb_wd y w' := by
    unfold fb_wd
    rw [hw.1, hw.2.1, hw.2.2]
    exact fb_map_set hM.2.1 h1 hup
  rw [e] at a1 a2
  exact kk H1 locs1 ⟨a1, a2, a3, hM.2.2.2⟩
theorem fb_zast (hx : p.tables.exec = Jvm.exec) (hb : c.code = cc) (hM : fb_M D y A s w H locs) (hr : r ∈ sR w.1) {n : Nat} {f : Nat → Int32} (he : fb_g y w r = .inl (y 1, n, .inl f)) {i x : Int32} {k : Nat} (hk : i.toNatClampNeg = k) (hin : vp_in i n) (hdg : decode cc pc = .ok (.bastore, 1)) {g' : Nat → va_E} (hup : ∀ q, va_up (fb_g y w) r (.inl (y 1, n, .inl (upd f k (vp_nar .boolean x)))) q = g' q) {w' : fb_W} (hw : sR w'.1 = sR w.1 ∧ sa w'.1 = sa w.1 ∧ fb_g y w' = g')
    (kk : ∀ (H1 : Heap) (locs1 : List Loc), fb_M D y A s w' H1 locs1 → W p l e R s m args below meth c H1 locs1 cells slots Q (F0 m (pc + 1) ls rest)) : W p l e R s m args below meth c H locs cells slots Q (F0 m pc ls (.int x :: .int i :: .ref (sa w.1 r) :: rest)) := by
  subst hk
  obtain ⟨k0, h1, h2⟩ := fb_map_get (ad := sa w.1) (g := fb_g y w) hr
  rw [he] at h2
  refine va_zast hx hb hM.2.2.2.1 hM.1 hM.2.1 hM.2.2.1 k0 1 h2 rfl hin hdg fun H1 locs1 a1 a2 a3 => ?_
  have e : (fb_wd y w).set k0 (sa w.1 r, .inl (y 1, n, .inl (upd f i.toNatClampNeg (vp_nar .boolean x)))) = fb_wd y w' := by
    unfold fb_wd
    rw [hw.1, hw.2.1, hw.2.2]
    exact fb_map_set hM.2.1 h1 hup
  rw [e] at a1 a2
  exact kk H1 locs1 ⟨a1, a2, a3, hM.2.2.2⟩
theorem fb_alen (hx : p.tables.exec = Jvm.exec) (hb : c.code = cc) (hM : fb_M D y A s w H locs) (hr : r ∈ sR w.1) {x : vp_A} {cA : ClassId} (he : fb_g y w r = .inl (cA, x)) (t0 : Nat) {ty : FieldType} (ht : (fb_ty y)[t0]? = some (cA, ty)) {v : Int32} (hv : Int32.ofNat x.1 = v) (hdg : decode cc pc = .ok (.arraylength, 1))
    (kk : W p l e R s m args below meth c H locs cells slots Q (F0 m (pc + 1) ls (.int v :: rest))) : W p l e R s m args below meth c H locs cells slots Q (F0 m pc ls (.ref (sa w.1 r) :: rest)) := by
  obtain ⟨k0, h1, h2⟩ := fb_map_get (ad := sa w.1) (g := fb_g y w) hr
  rw [he] at h2
  exact va_alen hx hb hM.2.2.2.1 hM.1 k0 t0 h2 ht hv hdg kk
theorem fb_aald (hx : p.tables.exec = Jvm.exec) (hb : c.code = cc) (hM : fb_M D y A s w H locs) (hr : r ∈ sR w.1) {n : Nat} {f : Nat → Option Nat} {cA : ClassId} (he : fb_g y w r = .inl (cA, n, .inr (.inr (.inr (.inr f))))) (t0 : Nat) {C : String} (ht : (fb_ty y)[t0]? = some (cA, .object C)) {i : Int32} {k b : Nat} (hk : i.toNatClampNeg = k) (hq : f k = some b) (hin : vp_in i n) (hdg : decode cc pc = .ok (.aaload, 1))
    (kk : W p l e R s m args below meth c H locs cells slots Q (F0 m (pc + 1) ls (.ref b :: rest))) : W p l e R s m args below meth c H locs cells slots Q (F0 m pc ls (.int i :: .ref (sa w.1 r) :: rest)) := by
  subst hk
  obtain ⟨k0, h1, h2⟩ := fb_map_get (ad := sa w.1) (g := fb_g y w) hr
  rw [he] at h2
  refine va_aldq hx hb hM.2.2.2.1 hM.1 k0 t0 h2 ht hin hdg ?_
  rw [hq]
  exact kk
theorem fb_aaldA (hx : p.tables.exec = Jvm.exec) (hb : c.code = cc) (hM : fb_M D y A s w H locs) (hr : r ∈ sR w.1) {n : Nat} {f : Nat → Option Nat} {cA : ClassId} (he : fb_g y w r = .inl (cA, n, .inr (.inr (.inr (.inr f))))) (t0 : Nat) {t : FieldType} (ht : (fb_ty y)[t0]? = some (cA, .array t)) {i : Int32} {k b : Nat} (hk : i.toNatClampNeg = k) (hq : f k = some b) (hin : vp_in i n) (hdg : decode cc pc = .ok (.aaload, 1))
    (kk : W p l e R s m args below meth c H locs cells slots Q (F0 m (pc + 1) ls (.ref b :: rest))) : W p l e R s m args below meth c H locs cells slots Q (F0 m pc ls (.int i :: .ref (sa w.1 r) :: rest)) := by
  subst hk
  obtain ⟨k0, h1, h2⟩ := fb_map_get (ad := sa w.1) (g := fb_g y w) hr
  rw [he] at h2
  have hlt : i.toNatClampNeg < n := Nat.not_le.mp fun q => hin (Or.inr q)
  exact W.aald (v := .ref b) (ty := .array t) hx hb (hM.1 k0 _ h2) ((hM.2.2.2.1.2 t0 _ ht).1 n (fun j => va_rf (f j))) rfl (fun q => by cases q) (by show ¬ (i < 0 ∨ (arrV _ _ _).slots.size ≤ _); rw [arrV_size]; exact hin) (by show (arrV _ _ _).slots[_]? = _; rw [arrV_read _ _ hlt, hq]; rfl) rfl rfl hdg kk
end FBR
