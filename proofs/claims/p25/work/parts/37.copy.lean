/-! a copied array, a made one, and a role that is let go -/
section FBX
variable {p : Program} {l : Launch} {e : Env} {R : Room} {s : State} {m : MethodId} {args : Array Value} {below : List Frame} {meth : Method} {c : Code} {H : Heap} {locs : List Loc} {cells slots : Nat} {Q : State → Prop}
variable {cc : ByteArray} {nL : Nat} {own : String} {pc : Nat} {ls : Array Slot} {rest : List Value} {D : va_G} {A : Nat → Prop} {y : Nat → ClassId} {S : fb_Sh} {V : fb_V} {T : fb_T} {I : fb_V} {r : Nat} {w : fb_W}
theorem fb_new_ne {r' q k n : Nat} {J : fb_V} (h : r ≠ r') (hJ : J r = I r) : fb_g y (fb_new S r' q k n, V, T, J) r = fb_g y (S, V, T, I) r := by
  simp only [fb_g, fb_cell, fb_new, sk, sn, sp, va_up_ne _ _ h, hJ]
theorem fb_new_wd {r' q k n : Nat} {J : fb_V} {e0 : va_E} (hr : r' ∉ sR S) (hJ : ∀ x, x ≠ r' → J x = I x) (he : fb_g y (fb_new S r' q k n, V, T, J) r' = e0) : fb_wd y (S, V, T, I) ++ [(q, e0)] = fb_wd y (fb_new S r' q k n, V, T, J) := by
  refine fb_map_push (ad' := sa (fb_new S r' q k n)) (g' := fb_g y (fb_new S r' q k n, V, T, J)) (r := r') ?_ he ?_ ?_
  · show va_up (sa S) r' q r' = q
    rw [va_up_self]
  · intro x hx
    exact va_up_ne _ _ (fun e => hr (by rw [← e]; exact hx))
  · intro x hx
    have h : x ≠ r' := fun e => hr (by rw [← e]; exact hx)
    exact fb_new_ne h (hJ x h)
theorem va_P_pre {cl : List vw_C} {a b : va_W} (h : va_P D cl (a ++ b) H) : va_P D cl a H := fun k q hq => h k q (by rw [List.getElem?_append_left (List.getElem?_eq_some_iff.mp hq).1]; exact hq)
theorem va_D_pre {a b : va_W} (h : va_D A (a ++ b)) : va_D A a :=
  ⟨fun i j u v hi hj e => h.1 i j u v (by rw [List.getElem?_append_left (List.getElem?_eq_some_iff.mp hi).1]; exact hi) (by rw [List.getElem?_append_left (List.getElem?_eq_some_iff.mp hj).1]; exact hj) e, fun k q hq => h.2 k q (by rw [List.getElem?_append_left (List.getElem?_eq_some_iff.mp hq).1]; exact hq)⟩
theorem fb_drop {r' q k n : Nat} {J : fb_V} (hr : r' ∉ sR S) (hJ : ∀ x, x ≠ r' → J x = I x) (hM : fb_M D y A s (fb_new S r' q k n, V, T, J) H locs) : fb_M D y A s (S, V, T, I) H locs := by
  have e := fb_new_wd (y := y) (S := S) (V := V) (T := T) (q := q) (k := k) (n := n) hr hJ rfl
  obtain ⟨h1, h2, h3⟩ := hM
  rw [← e] at h1 h2
  exact ⟨va_P_pre h1, va_D_pre h2, h3⟩
end FBX
