/-! what is made, a row a kind -/
theorem sT_up (V : fb_V) (h : Nat) (v : Nat → Int32) {x : Nat} (hx : x ≠ h) : sT (va_up V h v) x = sT V x := congrArg s6 (va_up_ne _ _ hx)
theorem ne_in {R : List Nat} {x r : Nat} (h : x ∈ R) (hr : r ∉ R) : x ≠ r := fun e => hr (by rw [← e]; exact h)
section MKG
variable {y : Nat → ClassId} {S : fb_Sh} {V I : fb_V} {T : fb_T} {r h q n : Nat}
theorem mk0_g (hr : h ∉ sR S) (hr1 : h + 1 ∉ sR S) : ∀ x, x ∈ sR S → fb_g y (fb_new S h q 0 0, va_up V h (fun _ => 0), sT (va_up V h (fun _ => 0)), I) x = fb_g y (S, V, sT V, I) x :=
  nw_g hr (fun h' hh => va_up_ne _ _ (fun e => hr1 (by rw [← e]; exact hh))) (fun x hx => sT_up V h _ (ne_in hx hr)) (fun _ _ => rfl)
theorem mk0_e : fb_g y (fb_new S h q 0 0, va_up V h (fun _ => 0), sT (va_up V h (fun _ => 0)), I) h = .inr (1, [.null, .int 0]) := by
  rw [ce0 (nw_k S h q 0 0), nw_p]
  show Sum.inr (1, [va_rf none, Value.int (s6 (va_up V h (fun _ => 0) h))]) = _
  rw [va_up_self]
  rfl
theorem mkI_g {k : Nat} (hr : r ∉ sR S) : ∀ x, x ∈ sR S → fb_g y (fb_new S r q k n, V, T, va_up I r (fun _ => 0)) x = fb_g y (S, V, T, I) x :=
  nw_g hr (fun _ _ => rfl) (fun _ _ => rfl) (fun x hx => va_up_ne _ _ (ne_in hx hr))
theorem mkP_g {k : Nat} (hr : r ∉ sR S) : ∀ x, x ∈ sR S → fb_g y (fb_new S r q k n, V, T, I) x = fb_g y (S, V, T, I) x :=
  nw_g hr (fun _ _ => rfl) (fun _ _ => rfl) (fun _ _ => rfl)
theorem mk12_e (hv : V h = fun _ => 0) : fb_g y (fb_new S (h + 1) q 12 n, V, T, I) (h + 1) = .inl (y 0, n, .inl (fun _ => 0)) := by
  rw [ce12 (nw_k S (h + 1) q 12 n), nw_l, hv]
theorem mk6_e : fb_g y (fb_new S r q 6 n, V, T, va_up I r (fun _ => 0)) r = .inl (y 0, n, .inl (fun _ => 0)) := by
  rw [ce6 (nw_k S r q 6 n), nw_l, va_up_self]
theorem mk7_e : fb_g y (fb_new S r q 7 n, V, T, va_up I r (fun _ => 0)) r = .inl (y 1, n, .inl (fun _ => 0)) := by
  rw [ce7 (nw_k S r q 7 n), nw_l, va_up_self]
theorem mk8_e : fb_g y (fb_new S r q 8 n, V, T, I) r = .inl (y 2, n, .inr (.inr (.inr (.inr (fun _ => none))))) := by
  rw [ce8 (nw_k S r q 8 n), nw_l, nw_p]
theorem mk9_e : fb_g y (fb_new S r q 9 n, V, T, I) r = .inl (y 3, n, .inr (.inr (.inr (.inr (fun _ => none))))) := by
  rw [ce9 (nw_k S r q 9 n), nw_l, nw_p]
theorem mk10_e : fb_g y (fb_new S r q 10 n, V, T, I) r = .inl (y 4, n, .inr (.inr (.inr (.inr (fun _ => none))))) := by
  rw [ce10 (nw_k S r q 10 n), nw_l, nw_p]
theorem mk11_e : fb_g y (fb_new S r q 11 n, V, T, I) r = .inl (y 5, n, .inr (.inr (.inr (.inr (fun _ => none))))) := by
  rw [ce11 (nw_k S r q 11 n), nw_l, nw_p]
theorem mko1_e : fb_g y (fb_new S r q 1 0, V, T, va_up I r (fun _ => 0)) r = .inr (2, [.null, .int 0]) := by
  rw [ce1 (nw_k S r q 1 0), nw_p, va_up_self]
  rfl
theorem mko2_e : fb_g y (fb_new S r q 2 0, V, T, va_up I r (fun _ => 0)) r = .inr (3, [.int 0, .int 0, .int 0, .int 0, .null, .null, .null]) := by
  rw [ce2 (nw_k S r q 2 0), nw_p, va_up_self]
  rfl
theorem mko3_e : fb_g y (fb_new S r q 3 0, V, T, va_up I r (fun _ => 0)) r = .inr (4, [.null, .null, .null, .null, .int 0, .int 0, .int 0, .int 0]) := by
  rw [ce3 (nw_k S r q 3 0), nw_p, va_up_self]
  rfl
theorem mko5_e : fb_g y (fb_new S r q 5 0, V, T, va_up I r (fun _ => 0)) r = .inr (0, [.int 0, .null, .int 0]) := by
  rw [ce5 (nw_k S r q 5 0), nw_p, va_up_self]
  rfl
end MKG
section MKR
variable {p : Program} {l : Launch} {e : Env} {R : Room} {s : State} {m : MethodId} {args : Array Value} {below : List Frame} {meth : Method} {c : Code} {H : Heap} {locs : List Loc} {cells slots : Nat} {Q : State → Prop}
variable {cc : ByteArray} {nL : Nat} {Ts : List Cond} {own : String} {pc index : Nat} {ls : Array Slot} {rest : List Value} {D : va_G} {A : Nat → Prop} {y : Nat → ClassId} {S : fb_Sh} {V I : fb_V} {T : fb_T}
theorem fb_mko0 (hx : p.tables.exec = Jvm.exec) (hb : c.code = cc) (hown : s.vm.findClass own = some m.cls) (hts : ∀ x ∈ Ts, x.before args s = true) (hin : ∀ x ∈ u_ws RX0 TX0 2, x ∈ Ts) (hcl : (Cond.classLink own index RX0).before args s = true) (hinst : (Cond.instantiable RX0 2).before args s = true) (hini : (Cond.initialized RX0).before args s = true) (hM : fb_M D y A s (S, V, sT V, I) H locs) (hcells : cells + 1 ≤ R.cells) (hslots : slots + 2 ≤ R.slots) (hdg : decode cc pc = .ok (.new index, 3)) (h : Nat) (hr : h ∉ sR S) (hr1 : h + 1 ∉ sR S)
    (kk : ∀ (q : Nat) (H1 : Heap), fb_M D y A s (fb_new S h q 0 0, va_up V h (fun _ => 0), sT (va_up V h (fun _ => 0)), I) H1 locs → W p l e R s m args below meth c H1 locs (cells + 1) (slots + 2) Q (F0 m (pc + 3) ls (.ref q :: rest))) : W p l e R s m args below meth c H locs cells slots Q (F0 m pc ls rest) := by
  exact fb_newo hx hb hown hts hin tyX0 tyX0_ok hcl hinst hini hM (ci := 1) rfl (fs := [.null, .int 0]) (fun j hj => by
    rcases (show j = 0 ∨ j = 1 by omega) with rfl | rfl <;> rfl) hcells hslots hdg h 0 0 hr (fun q => ⟨mk0_g hr hr1, mk0_e⟩) kk
theorem fb_mko1 (hx : p.tables.exec = Jvm.exec) (hb : c.code = cc) (hown : s.vm.findClass own = some m.cls) (hts : ∀ x ∈ Ts, x.before args s = true) (hin : ∀ x ∈ u_ws RX1 TX1 2, x ∈ Ts) (hcl : (Cond.classLink own index RX1).before args s = true) (hinst : (Cond.instantiable RX1 2).before args s = true) (hini : (Cond.initialized RX1).before args s = true) (hM : fb_M D y A s (S, V, T, I) H locs) (hcells : cells + 1 ≤ R.cells) (hslots : slots + 2 ≤ R.slots) (hdg : decode cc pc = .ok (.new index, 3)) (r : Nat) (hr : r ∉ sR S)
    (kk : ∀ (q : Nat) (H1 : Heap), fb_M D y A s (fb_new S r q 1 0, V, T, va_up I r (fun _ => 0)) H1 locs → W p l e R s m args below meth c H1 locs (cells + 1) (slots + 2) Q (F0 m (pc + 3) ls (.ref q :: rest))) : W p l e R s m args below meth c H locs cells slots Q (F0 m pc ls rest) := by
  exact fb_newo hx hb hown hts hin tyX1 tyX1_ok hcl hinst hini hM (ci := 2) rfl (fs := [.null, .int 0]) (fun j hj => by
    rcases (show j = 0 ∨ j = 1 by omega) with rfl | rfl <;> rfl) hcells hslots hdg r 1 0 hr (fun q => ⟨mkI_g hr, mko1_e⟩) kk
theorem fb_mko2 (hx : p.tables.exec = Jvm.exec) (hb : c.code = cc) (hown : s.vm.findClass own = some m.cls) (hts : ∀ x ∈ Ts, x.before args s = true) (hin : ∀ x ∈ u_ws RX2 TX2 7, x ∈ Ts) (hcl : (Cond.classLink own index RX2).before args s = true) (hinst : (Cond.instantiable RX2 7).before args s = true) (hini : (Cond.initialized RX2).before args s = true) (hM : fb_M D y A s (S, V, T, I) H locs) (hcells : cells + 1 ≤ R.cells) (hslots : slots + 7 ≤ R.slots) (hdg : decode cc pc = .ok (.new index, 3)) (r : Nat) (hr : r ∉ sR S)
    (kk : ∀ (q : Nat) (H1 : Heap), fb_M D y A s (fb_new S r q 2 0, V, T, va_up I r (fun _ => 0)) H1 locs → W p l e R s m args below meth c H1 locs (cells + 1) (slots + 7) Q (F0 m (pc + 3) ls (.ref q :: rest))) : W p l e R s m args below meth c H locs cells slots Q (F0 m pc ls rest) := by
  exact fb_newo hx hb hown hts hin tyX2 tyX2_ok hcl hinst hini hM (ci := 3) rfl (fs := [.int 0, .int 0, .int 0, .int 0, .null, .null, .null]) (fun j hj => by
    rcases (show j = 0 ∨ j = 1 ∨ j = 2 ∨ j = 3 ∨ j = 4 ∨ j = 5 ∨ j = 6 by omega) with rfl | rfl | rfl | rfl | rfl | rfl | rfl <;> rfl) hcells hslots hdg r 2 0 hr (fun q => ⟨mkI_g hr, mko2_e⟩) kk
theorem fb_mko3 (hx : p.tables.exec = Jvm.exec) (hb : c.code = cc) (hown : s.vm.findClass own = some m.cls) (hts : ∀ x ∈ Ts, x.before args s = true) (hin : ∀ x ∈ u_ws RX3 TX3 8, x ∈ Ts) (hcl : (Cond.classLink own index RX3).before args s = true) (hinst : (Cond.instantiable RX3 8).before args s = true) (hini : (Cond.initialized RX3).before args s = true) (hM : fb_M D y A s (S, V, T, I) H locs) (hcells : cells + 1 ≤ R.cells) (hslots : slots + 8 ≤ R.slots) (hdg : decode cc pc = .ok (.new index, 3)) (r : Nat) (hr : r ∉ sR S)
    (kk : ∀ (q : Nat) (H1 : Heap), fb_M D y A s (fb_new S r q 3 0, V, T, va_up I r (fun _ => 0)) H1 locs → W p l e R s m args below meth c H1 locs (cells + 1) (slots + 8) Q (F0 m (pc + 3) ls (.ref q :: rest))) : W p l e R s m args below meth c H locs cells slots Q (F0 m pc ls rest) := by
  exact fb_newo hx hb hown hts hin tyX3 tyX3_ok hcl hinst hini hM (ci := 4) rfl (fs := [.null, .null, .null, .null, .int 0, .int 0, .int 0, .int 0]) (fun j hj => by
    rcases (show j = 0 ∨ j = 1 ∨ j = 2 ∨ j = 3 ∨ j = 4 ∨ j = 5 ∨ j = 6 ∨ j = 7 by omega) with rfl | rfl | rfl | rfl | rfl | rfl | rfl | rfl <;> rfl) hcells hslots hdg r 3 0 hr (fun q => ⟨mkI_g hr, mko3_e⟩) kk
theorem fb_mko5 (hx : p.tables.exec = Jvm.exec) (hb : c.code = cc) (hown : s.vm.findClass own = some m.cls) (hts : ∀ x ∈ Ts, x.before args s = true) (hin : ∀ x ∈ u_ws RJx4a65c TJx4a65c 3, x ∈ Ts) (hcl : (Cond.classLink own index RJx4a65c).before args s = true) (hinst : (Cond.instantiable RJx4a65c 3).before args s = true) (hini : (Cond.initialized RJx4a65c).before args s = true) (hM : fb_M D y A s (S, V, T, I) H locs) (hcells : cells + 1 ≤ R.cells) (hslots : slots + 3 ≤ R.slots) (hdg : decode cc pc = .ok (.new index, 3)) (r : Nat) (hr : r ∉ sR S)
    (kk : ∀ (q : Nat) (H1 : Heap), fb_M D y A s (fb_new S r q 5 0, V, T, va_up I r (fun _ => 0)) H1 locs → W p l e R s m args below meth c H1 locs (cells + 1) (slots + 3) Q (F0 m (pc + 3) ls (.ref q :: rest))) : W p l e R s m args below meth c H locs cells slots Q (F0 m pc ls rest) := by
  exact fb_newo hx hb hown hts hin tyJx4a65c tyJx4a65c_ok hcl hinst hini hM (ci := 0) rfl (fs := [.int 0, .null, .int 0]) (fun j hj => by
    rcases (show j = 0 ∨ j = 1 ∨ j = 2 by omega) with rfl | rfl | rfl <;> rfl) hcells hslots hdg r 5 0 hr (fun q => ⟨mkI_g hr, mko5_e⟩) kk
theorem fb_mka12 (hx : p.tables.exec = Jvm.exec) (hb : c.code = cc) (harr : (Cond.arrayClass .int).before args s = true) (hM : fb_M D y A s (S, V, T, I) H locs) {v : Int32} {n : Nat} (hn : ¬ v < 0) (hN : v.toNatClampNeg = n) (hbytes : n * 8 ≤ 536870912) (hcells : cells + 1 ≤ R.cells) (hslots : slots + n ≤ R.slots) (hdg : decode cc pc = .ok (.newarray .int, 2)) (h : Nat) (hr : h + 1 ∉ sR S) (hv : V h = fun _ => 0)
    (kk : ∀ (q : Nat) (H1 : Heap), fb_M D y A s (fb_new S (h + 1) q 12 n, V, T, I) H1 locs → W p l e R s m args below meth c H1 locs (cells + 1) (slots + n) Q (F0 m (pc + 2) ls (.ref q :: rest))) : W p l e R s m args below meth c H locs cells slots Q (F0 m pc ls (.int v :: rest)) := by
  exact fb_newa (atype := .int) hx hb harr (ty := .int) rfl 0 rfl hM (a0 := (n, .inl (fun _ => 0))) (fun _ => rfl) hn hN (Nat.le_trans (Nat.mul_le_mul_left n (by decide)) hbytes) hcells hslots hdg (h + 1) 12 n hr (fun q => ⟨mkP_g hr, mk12_e hv⟩) kk
theorem fb_mka6 (hx : p.tables.exec = Jvm.exec) (hb : c.code = cc) (harr : (Cond.arrayClass .int).before args s = true) (hM : fb_M D y A s (S, V, T, I) H locs) {v : Int32} {n : Nat} (hn : ¬ v < 0) (hN : v.toNatClampNeg = n) (hbytes : n * 8 ≤ 536870912) (hcells : cells + 1 ≤ R.cells) (hslots : slots + n ≤ R.slots) (hdg : decode cc pc = .ok (.newarray .int, 2)) (r : Nat) (hr : r ∉ sR S)
    (kk : ∀ (q : Nat) (H1 : Heap), fb_M D y A s (fb_new S r q 6 n, V, T, va_up I r (fun _ => 0)) H1 locs → W p l e R s m args below meth c H1 locs (cells + 1) (slots + n) Q (F0 m (pc + 2) ls (.ref q :: rest))) : W p l e R s m args below meth c H locs cells slots Q (F0 m pc ls (.int v :: rest)) := by
  exact fb_newa (atype := .int) hx hb harr (ty := .int) rfl 0 rfl hM (a0 := (n, .inl (fun _ => 0))) (fun _ => rfl) hn hN (Nat.le_trans (Nat.mul_le_mul_left n (by decide)) hbytes) hcells hslots hdg r 6 n hr (fun q => ⟨mkI_g hr, mk6_e⟩) kk
theorem fb_mka7 (hx : p.tables.exec = Jvm.exec) (hb : c.code = cc) (harr : (Cond.arrayClass .boolean).before args s = true) (hM : fb_M D y A s (S, V, T, I) H locs) {v : Int32} {n : Nat} (hn : ¬ v < 0) (hN : v.toNatClampNeg = n) (hbytes : n * 8 ≤ 536870912) (hcells : cells + 1 ≤ R.cells) (hslots : slots + n ≤ R.slots) (hdg : decode cc pc = .ok (.newarray .boolean, 2)) (r : Nat) (hr : r ∉ sR S)
    (kk : ∀ (q : Nat) (H1 : Heap), fb_M D y A s (fb_new S r q 7 n, V, T, va_up I r (fun _ => 0)) H1 locs → W p l e R s m args below meth c H1 locs (cells + 1) (slots + n) Q (F0 m (pc + 2) ls (.ref q :: rest))) : W p l e R s m args below meth c H locs cells slots Q (F0 m pc ls (.int v :: rest)) := by
  exact fb_newa (atype := .boolean) hx hb harr (ty := .boolean) rfl 1 rfl hM (a0 := (n, .inl (fun _ => 0))) (fun _ => rfl) hn hN (Nat.le_trans (Nat.mul_le_mul_left n (by decide)) hbytes) hcells hslots hdg r 7 n hr (fun q => ⟨mkI_g hr, mk7_e⟩) kk
theorem fb_mka8 (hx : p.tables.exec = Jvm.exec) (hb : c.code = cc) (hown : s.vm.findClass own = some m.cls) (hcl : (Cond.classLink own index RX0).before args s = true) (hM : fb_M D y A s (S, V, T, I) H locs) {v : Int32} {n : Nat} (hn : ¬ v < 0) (hN : v.toNatClampNeg = n) (hbytes : n * 4 ≤ 536870912) (hcells : cells + 1 ≤ R.cells) (hslots : slots + n ≤ R.slots) (hdg : decode cc pc = .ok (.anewarray index, 3)) (r : Nat) (hr : r ∉ sR S)
    (kk : ∀ (q : Nat) (H1 : Heap), fb_M D y A s (fb_new S r q 8 n, V, T, I) H1 locs → W p l e R s m args below meth c H1 locs (cells + 1) (slots + n) Q (F0 m (pc + 3) ls (.ref q :: rest))) : W p l e R s m args below meth c H locs cells slots Q (F0 m pc ls (.int v :: rest)) := by
  exact fb_newq hx hb hown hcl (by simp [fb_over, RX0]) 2 rfl hM hn hN hbytes hcells hslots hdg r 8 n hr (fun q => ⟨mkP_g hr, mk8_e⟩) kk
theorem fb_mka9 (hx : p.tables.exec = Jvm.exec) (hb : c.code = cc) (hown : s.vm.findClass own = some m.cls) (hcl : (Cond.classLink own index "java/lang/Object").before args s = true) (hM : fb_M D y A s (S, V, T, I) H locs) {v : Int32} {n : Nat} (hn : ¬ v < 0) (hN : v.toNatClampNeg = n) (hbytes : n * 4 ≤ 536870912) (hcells : cells + 1 ≤ R.cells) (hslots : slots + n ≤ R.slots) (hdg : decode cc pc = .ok (.anewarray index, 3)) (r : Nat) (hr : r ∉ sR S)
    (kk : ∀ (q : Nat) (H1 : Heap), fb_M D y A s (fb_new S r q 9 n, V, T, I) H1 locs → W p l e R s m args below meth c H1 locs (cells + 1) (slots + n) Q (F0 m (pc + 3) ls (.ref q :: rest))) : W p l e R s m args below meth c H locs cells slots Q (F0 m pc ls (.int v :: rest)) := by
  exact fb_newq hx hb hown hcl (by simp [fb_over, RX0]) 3 rfl hM hn hN hbytes hcells hslots hdg r 9 n hr (fun q => ⟨mkP_g hr, mk9_e⟩) kk
theorem fb_mka10 (hx : p.tables.exec = Jvm.exec) (hb : c.code = cc) (hown : s.vm.findClass own = some m.cls) (hcl : (Cond.classLink own index "[I").before args s = true) (hM : fb_M D y A s (S, V, T, I) H locs) {v : Int32} {n : Nat} (hn : ¬ v < 0) (hN : v.toNatClampNeg = n) (hbytes : n * 4 ≤ 536870912) (hcells : cells + 1 ≤ R.cells) (hslots : slots + n ≤ R.slots) (hdg : decode cc pc = .ok (.anewarray index, 3)) (r : Nat) (hr : r ∉ sR S)
    (kk : ∀ (q : Nat) (H1 : Heap), fb_M D y A s (fb_new S r q 10 n, V, T, I) H1 locs → W p l e R s m args below meth c H1 locs (cells + 1) (slots + n) Q (F0 m (pc + 3) ls (.ref q :: rest))) : W p l e R s m args below meth c H locs cells slots Q (F0 m pc ls (.int v :: rest)) := by
  exact fb_newA (t := .int) hx hb hown hcl (by simp [fb_over, RX0]) 4 rfl hM hn hN hbytes hcells hslots hdg r 10 n hr (fun q => ⟨mkP_g hr, mk10_e⟩) kk
theorem fb_mka11 (hx : p.tables.exec = Jvm.exec) (hb : c.code = cc) (hown : s.vm.findClass own = some m.cls) (hcl : (Cond.classLink own index "[Z").before args s = true) (hM : fb_M D y A s (S, V, T, I) H locs) {v : Int32} {n : Nat} (hn : ¬ v < 0) (hN : v.toNatClampNeg = n) (hbytes : n * 4 ≤ 536870912) (hcells : cells + 1 ≤ R.cells) (hslots : slots + n ≤ R.slots) (hdg : decode cc pc = .ok (.anewarray index, 3)) (r : Nat) (hr : r ∉ sR S)
    (kk : ∀ (q : Nat) (H1 : Heap), fb_M D y A s (fb_new S r q 11 n, V, T, I) H1 locs → W p l e R s m args below meth c H1 locs (cells + 1) (slots + n) Q (F0 m (pc + 3) ls (.ref q :: rest))) : W p l e R s m args below meth c H locs cells slots Q (F0 m pc ls (.int v :: rest)) := by
  exact fb_newA (t := .boolean) hx hb hown hcl (by simp [fb_over, RX0]) 5 rfl hM hn hN hbytes hcells hslots hdg r 11 n hr (fun q => ⟨mkP_g hr, mk11_e⟩) kk
end MKR
/-- outside of the roles of P the shape is as before -/
def Ext (P : Nat → Prop) (S S' : fb_Sh) : Prop := ∀ x, ¬ P x → (x ∈ sR S' ↔ x ∈ sR S) ∧ sa S' x = sa S x ∧ sk S' x = sk S x ∧ sn S' x = sn S x ∧ sp S' x = sp S x
theorem Ext.rf (P : Nat → Prop) (S : fb_Sh) : Ext P S S := fun _ _ => ⟨Iff.rfl, rfl, rfl, rfl, rfl⟩
theorem Ext.trans {P : Nat → Prop} {S S' S'' : fb_Sh} (h : Ext P S S') (g : Ext P S' S'') : Ext P S S'' := fun x hx => by
  obtain ⟨a1, a2, a3, a4, a5⟩ := h x hx
  obtain ⟨b1, b2, b3, b4, b5⟩ := g x hx
  exact ⟨b1.trans a1, b2.trans a2, b3.trans a3, b4.trans a4, b5.trans a5⟩
theorem Ext.mono {P P' : Nat → Prop} {S S' : fb_Sh} (h : Ext P S S') (hP : ∀ x, P x → P' x) : Ext P' S S' := fun x hx => h x (fun z => hx (hP x z))
theorem Ext.new {P : Nat → Prop} (S : fb_Sh) {r : Nat} (q k n : Nat) (hr : P r) : Ext P S (fb_new S r q k n) := fun x hx => by
  have h : x ≠ r := fun e => hx (by rw [e]; exact hr)
  refine ⟨⟨fun z => ?_, fun z => nw_R S r q k n z⟩, nw_ane S q k n h, nw_kne S q k n h, nw_lne S q k n h, nw_pne S q k n h⟩
  rcases List.mem_append.mp z with z | z
  · exact z
  · exact absurd (List.mem_singleton.mp z) h
theorem Ext.setp {P : Nat → Prop} (S : fb_Sh) {r : Nat} (j : Nat) (v : Option Nat) (hr : P r) : Ext P S (fb_setp S r j v) := fun x hx => by
  have h : x ≠ r := fun e => hx (by rw [e]; exact hr)
  exact ⟨Iff.rfl, rfl, rfl, rfl, st_pne S j v h⟩
theorem HeapAt.ext {P : Nat → Prop} {S S' : fb_Sh} (hE : Ext P S S') {h : Nat} (hd : ¬ P h) (hd1 : ¬ P (h + 1)) (hh : HeapAt S h) : HeapAt S' h := by
  obtain ⟨a1, a2, a3, a4, a5⟩ := hE h hd
  obtain ⟨b1, b2, b3, b4, b5⟩ := hE (h + 1) hd1
  unfold HeapAt at hh ⊢
  rw [a1, a3, a5, b1, b2, b3, b4]
  exact hh
theorem SackAt.ext {P : Nat → Prop} {S S' : fb_Sh} (hE : Ext P S S') {q h : Nat} (hq : ¬ P q) (hd : ¬ P h) (hd1 : ¬ P (h + 1)) (hs : SackAt S q h) : SackAt S' q h := by
  obtain ⟨a1, a2, a3, a4, a5⟩ := hE q hq
  obtain ⟨b1, b2, b3, b4, b5⟩ := hE h hd
  obtain ⟨h1, h2, h3, h4⟩ := hs
  exact ⟨a1.mpr h1, by rw [a3]; exact h2, by rw [a5, b2]; exact h3, h4.ext hE hd hd1⟩
theorem TickAt.ext {P : Nat → Prop} {S S' : fb_Sh} (hE : Ext P S S') {t b : Nat} (ht : ∀ x, t ≤ x → x < t + 4 → ¬ P x) (hd : ∀ x, b ≤ x → x < b + 72 → ¬ P x) (h : TickAt S t b) : TickAt S' t b := by
  obtain ⟨a1, a2, a3, a4, a5⟩ := hE t (ht _ (by omega) (by omega))
  obtain ⟨b1, b2, b3, b4, b5⟩ := hE (t + 1) (ht _ (by omega) (by omega))
  obtain ⟨c1, c2, c3, c4, c5⟩ := hE (t + 2) (ht _ (by omega) (by omega))
  obtain ⟨d1, d2, d3, d4, d5⟩ := hE (t + 3) (ht _ (by omega) (by omega))
  unfold TickAt at h ⊢
  rw [a1, a3, a5, b1, b2, b3, b4, b5, c1, c2, c3, c4, d1, d2, d3, d4]
  refine ⟨h.1, h.2.1, h.2.2.1, h.2.2.2.1, h.2.2.2.2.1, h.2.2.2.2.2.1, h.2.2.2.2.2.2.1, h.2.2.2.2.2.2.2.1, h.2.2.2.2.2.2.2.2.1, h.2.2.2.2.2.2.2.2.2.1, h.2.2.2.2.2.2.2.2.2.2.1, h.2.2.2.2.2.2.2.2.2.2.2.1, h.2.2.2.2.2.2.2.2.2.2.2.2.1, h.2.2.2.2.2.2.2.2.2.2.2.2.2.1, fun q hq => ?_⟩
  obtain ⟨g1, g2⟩ := h.2.2.2.2.2.2.2.2.2.2.2.2.2.2 q hq
  obtain ⟨e1, e2, e3, e4, e5⟩ := hE (b + 2 * q) (hd _ (by omega) (by omega))
  exact ⟨by rw [e2]; exact g1, g2.ext hE (hd _ (by omega) (by omega)) (hd _ (by omega) (by omega))⟩
theorem MdAt.ext {P : Nat → Prop} {S S' : fb_Sh} (hE : Ext P S S') {o nt : Nat} {cf rf : Nat → Nat} (hn : nt ≤ 6) (hd : ∀ x, o ≤ x → x < o + 8 → ¬ P x) (ht : ∀ t, t < nt → ¬ P (o + 10 + t) ∧ ¬ P (o + 20 + t)) (h : MdAt S o nt cf rf) : MdAt S' o nt cf rf := by
  obtain ⟨a1, a2, a3, a4, a5⟩ := hE o (hd _ (by omega) (by omega))
  obtain ⟨b1, b2, b3, b4, b5⟩ := hE (o + 1) (hd _ (by omega) (by omega))
  obtain ⟨c1, c2, c3, c4, c5⟩ := hE (o + 2) (hd _ (by omega) (by omega))
  obtain ⟨d1, d2, d3, d4, d5⟩ := hE (o + 3) (hd _ (by omega) (by omega))
  obtain ⟨e1, e2, e3, e4, e5⟩ := hE (o + 4) (hd _ (by omega) (by omega))
  obtain ⟨f1, f2, f3, f4, f5⟩ := hE (o + 5) (hd _ (by omega) (by omega))
  obtain ⟨g1, g2, g3, g4, g5⟩ := hE (o + 6) (hd _ (by omega) (by omega))
  obtain ⟨i1, i2, i3, i4, i5⟩ := hE (o + 7) (hd _ (by omega) (by omega))
  unfold MdAt at h ⊢
  rw [a1, a3, a5, b1, b2, b3, b4, c1, c2, c3, c4, d1, d2, d3, d4, e1, e2, e3, e4, f1, f2, f3, f4, f5, g1, g2, g3, g4, g5, i1, i2, i3, i4]
  refine ⟨h.1, h.2.1, h.2.2.1, h.2.2.2.1, h.2.2.2.2.1, h.2.2.2.2.2.1, h.2.2.2.2.2.2.1, h.2.2.2.2.2.2.2.1, h.2.2.2.2.2.2.2.2.1, fun t htn => ?_⟩
  obtain ⟨x1, x2, x3, x4, x5⟩ := hE (o + 10 + t) (ht t htn).1
  obtain ⟨y1, y2, y3, y4, y5⟩ := hE (o + 20 + t) (ht t htn).2
  rw [x1, x2, x3, x4, y1, y2, y3, y4]
  exact h.2.2.2.2.2.2.2.2.2 t htn
