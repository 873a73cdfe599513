theorem CI.mono {D : va_G} {y : Nat → ClassId} {l : Launch} {mn : MethodName} {ws : List Cond} {rm : Room} {as : List Value} {w : fb_W} {post post' : Int32 → fb_W → Prop} {mc ms : Nat} (h : CI D y l mn ws rm as w post mc ms) (hp : ∀ v u, post v u → post' v u) : CI D y l mn ws rm as w post' mc ms := fun sz =>
  MetFree.mono (h sz) (fun _ _ q => q) (fun _ _ _ _ _ q => q) (fun a st o t _ q => by
    obtain ⟨⟨⟨r, u, e, p, b⟩, f⟩, L⟩ := q
    exact ⟨⟨⟨r, u, e, hp _ _ p, b⟩, f⟩, L⟩)
theorem CI.grow {D : va_G} {y : Nat → ClassId} {l : Launch} {mn : MethodName} {ws : List Cond} {rm : Room} {as : List Value} {w : fb_W} {post : Int32 → fb_W → Prop} {mc ms mc' ms' : Nat} (h : CI D y l mn ws rm as w post mc ms) (h1 : mc ≤ mc') (h2 : ms ≤ ms') : CI D y l mn ws rm as w post mc' ms' := fun sz =>
  MetFree.mono (h sz) (fun _ _ q => q) (fun _ _ _ _ _ q => q) (fun a st o t _ q => by
    obtain ⟨q1, L, ⟨f1, f2, f3⟩, f4⟩ := q
    exact ⟨q1, L, ⟨f1, f2, f3.mono h1 h2⟩, f4⟩)

