/-! MY LAYER: the world by keys, the judgement XW over a predicate of the heap, its rows -/
abbrev Sg : Type := (Nat → Nat → Nat → Nat → Int32) × (Nat → Nat → Nat → Nat → Int64) × (Nat → Nat → Nat)
abbrev Tg : Type := (Nat → Nat → Int32) × (Nat → Nat → Int64)
abbrev xG : Type := va_G × (Nat → ClassId) × (Nat → Nat → Nat → Nat) × (Nat → Nat) × Nat × Nat × Cell
abbrev xD (G : xG) : va_G := G.1
abbrev xcA (G : xG) : Nat → ClassId := G.2.1
abbrev xad (G : xG) : Nat → Nat → Nat → Nat := G.2.2.1
abbrev xaM (G : xG) : Nat → Nat := G.2.2.2.1
abbrev xbs (G : xG) : Nat := G.2.2.2.2.1
abbrev xsb (G : xG) : Nat := G.2.2.2.2.2.1
abbrev xsc (G : xG) : Cell := G.2.2.2.2.2.2
def upI (σ : Sg) (f i j k : Nat) (v : Int32) : Sg := (fun f' i' j' k' => if f' = f ∧ i' = i ∧ j' = j ∧ k' = k then v else σ.1 f' i' j' k', σ.2)
def upL (σ : Sg) (f i j k : Nat) (v : Int64) : Sg := (σ.1, fun f' i' j' k' => if f' = f ∧ i' = i ∧ j' = j ∧ k' = k then v else σ.2.1 f' i' j' k', σ.2.2)
def upR (σ : Sg) (f k : Nat) (v : Nat) : Sg := (σ.1, σ.2.1, fun f' k' => if f' = f ∧ k' = k then v else σ.2.2 f' k')
def tpI (τ : Tg) (f k : Nat) (v : Int32) : Tg := (fun f' k' => if f' = f ∧ k' = k then v else τ.1 f' k', τ.2)
def tpL (τ : Tg) (f k : Nat) (v : Int64) : Tg := (τ.1, fun f' k' => if f' = f ∧ k' = k then v else τ.2 f' k')
def letv {α β : Type} (v : α) (K : α → β) : β := K v
def gdx {α : Type} (x : Int32) (n : Nat) (K : Nat → Option α) : Option α := if x < 0 ∨ n ≤ x.toNatClampNeg then none else K x.toNatClampNeg
def gnz {α : Type} (x : Int32) (K : Option α) : Option α := if x = 0 then none else K
def gdd {α : Type} (P : Prop) [Decidable P] (K : Option α) : Option α := if P then K else none
def xq (k : Nat → Nat) : (Nat → Int32) ⊕ (Nat → Int64) ⊕ (Nat → UInt32) ⊕ (Nat → UInt64) ⊕ (Nat → Option Nat) := .inr (.inr (.inr (.inr (fun j => some (k j)))))
def xCell (G : xG) (z : Nat → Nat) (f i j : Nat) (si : Nat → Int32) (sl : Nat → Int64) (sp : Nat → Nat) : va_E := match f with
  | 0 => .inr (9, [.ref (xad G 1 0 0), .ref (xad G 2 0 0), .ref (xad G 5 0 0), .ref (xad G 11 0 0), .ref (xad G 16 0 0), .ref (xad G 24 0 0), .int (si 6), .int (si 7)])
  | 1 => .inr (6, [.int (nI (z 0)), .int (nI (z 1)), .int (nI (z 2)), .int (nI (z 3)), .int (nI (z 4)), .int (nI (z 5))])
  | 2 => .inr (7, [.ref (xad G 3 0 0), .ref (xad G 4 0 0)])
  | 3 => .inl (xcA G 0, z 2, .inl si)
  | 4 => .inl (xcA G 0, z 2, .inl si)
  | 5 => .inr (1, [.ref (xad G 6 0 0), .ref (xad G 1 0 0), .ref (xad G 7 0 0), .ref (xad G 9 0 0)])
  | 6 => .inl (xcA G 1, z 3, .inr (.inl sl))
  | 7 => .inl (xcA G 3, z 2, xq (fun k => xad G 8 k 0))
  | 8 => .inl (xcA G 0, z 3, .inl si)
  | 9 => .inl (xcA G 4, z 2, xq (fun k => xad G 10 k 0))
  | 10 => .inl (xcA G 1, z 3, .inr (.inl sl))
  | 11 => .inr (4, [.ref (xad G 1 0 0), .ref (xad G 12 0 0), .ref (xad G 13 (z 4) 0), .ref (xad G 13 (sp 3) 0), .int (si 4), .int (si 5), .int (si 6)])
  | 12 => .inl (xcA G 5, z 4, xq (fun k => xad G 13 (sp k) 0))
  | 13 => .inr (3, [.int (si 0), .int (si 1), .int (si 2), .int (si 3), .int (si 4), .int (si 5), .int (si 6), .ref (xad G 14 i 0), .ref (xad G 15 i 0)])
  | 14 => .inl (xcA G 0, z 0, .inl si)
  | 15 => .inl (xcA G 0, z 0, .inl si)
  | 16 => .inl (xcA G 6, z 0, xq (fun k => xad G 17 k 0))
  | 17 => .inr (5, [.int (nI i), .ref (xad G 1 0 0), .ref (xad G 11 0 0), .ref (xad G 18 i 0), .int (si 4), .ref (xad G 21 i 0), .ref (xad G 5 0 0), .ref (xad G 22 i 0), .ref (xad G 23 i 0)])
  | 18 => .inr (2, [.ref (xad G 19 i 0), .int (si 1)])
  | 19 => .inl (xcA G 3, z 5, xq (fun k => xad G 20 i k))
  | 20 => .inl (xcA G 0, 4, .inl si)
  | 21 => .inl (xcA G 2, z 2, .inl si)
  | 22 => .inl (xcA G 0, z 2, .inl si)
  | 23 => .inl (xcA G 0, z 2, .inl si)
  | 24 => .inl (xcA G 7, z 1, xq (fun k => xad G 25 k 0))
  | 25 => .inr (0, [.int (nI (z 0 + i)), .ref (xad G 1 0 0), .ref (xad G 11 0 0), .ref (xad G 18 (z 0 + i) 0), .int (si 4), .ref (xad G 26 i 0), .int (nI i), .ref (xad G 2 0 0)])
  | 26 => .inl (xcA G 8, z 2, xq (fun k => xad G 27 i k))
  | 27 => .inr (8, [.int (if i = 0 then 0 else -1), .int (si 1), .int (si 2), .int (si 3), .int (si 4), .ref (xad G 28 i j), .ref (xad G 29 i j), .ref (xad G 30 i j), .ref (xad G 31 i j), .ref (xad G 32 i j), .ref (xad G 33 i j)])
  | _ => .inl (xcA G 0, z 0, .inl si)
def xbI (z : Nat → Nat) (f : Nat) : Nat := match f with
  | 8 => z 2 | 10 => z 2
  | 13 => z 4 + 2 | 14 => z 4 + 2 | 15 => z 4 + 2
  | 17 => z 0 | 21 => z 0 | 22 => z 0 | 23 => z 0
  | 18 => z 0 + z 1 | 19 => z 0 + z 1 | 20 => z 0 + z 1
  | 25 => z 1 | 26 => z 1 | 27 => z 1 | 28 => z 1 | 29 => z 1 | 30 => z 1 | 31 => z 1 | 32 => z 1 | 33 => z 1
  | _ => if f ≤ 33 then 1 else 0
def xbJ (z : Nat → Nat) (f : Nat) : Nat := match f with
  | 20 => z 5
  | 27 => z 2 | 28 => z 2 | 29 => z 2 | 30 => z 2 | 31 => z 2 | 32 => z 2 | 33 => z 2
  | _ => 1
def xdom (z : Nat → Nat) (f i j : Nat) : Prop := i < xbI z f ∧ j < xbJ z f
def mlen (f : Nat) : Nat := match f with
  | 6 => 9 | 7 => 9 | 8 => 7200 | 9 => 32 | 10 => 32 | 11 => 32 | 12 => 16 | 13 => 16 | 14 => 512 | 15 => 512 | 16 => 64 | 17 => 64 | 18 => 64
  | 19 => 80 | 20 => 80 | 21 => 80 | 22 => 80 | 23 => 320 | 24 => 320 | 25 => 320 | 26 => 320 | 27 => 320 | 28 => 320
  | 30 => 1400 | 31 => 1600 | 36 => 7 | 37 => 8 | _ => 0
def mB (f : Nat) : Bool := f == 0 || mlen f != 0
def mCell (G : xG) (z : Nat → Nat) (f : Nat) (ti : Nat → Int32) (tl : Nat → Int64) : va_E := match f with
  | 0 => .inr (10, [.int (nI (z 0)), .int (nI (z 1)), .int (nI (z 2)), .int (nI (z 3)), .int (nI (z 4)), .int (nI (z 5)),
      .ref (xaM G 6), .ref (xaM G 7), .ref (xaM G 8), .ref (xaM G 9), .ref (xaM G 10), .ref (xaM G 11), .ref (xaM G 12), .ref (xaM G 13), .ref (xaM G 14), .ref (xaM G 15), .ref (xaM G 16), .ref (xaM G 17), .ref (xaM G 18),
      .ref (xaM G 19), .ref (xaM G 20), .ref (xaM G 21), .ref (xaM G 22), .ref (xaM G 23), .ref (xaM G 24), .ref (xaM G 25), .ref (xaM G 26), .ref (xaM G 27), .ref (xaM G 28), .int (ti 29), .ref (xaM G 30), .ref (xaM G 31),
      .int (ti 32), .int (ti 33), .int (ti 34), .int (ti 35), .ref (xaM G 36), .ref (xaM G 37)])
  | 6 => .inl (xcA G 2, mlen 6, .inl ti)
  | 14 => .inl (xcA G 2, mlen 14, .inl ti)
  | 16 => .inl (xcA G 2, mlen 16, .inl ti)
  | 9 => .inl (xcA G 1, mlen 9, .inr (.inl tl))
  | 15 => .inl (xcA G 1, mlen 15, .inr (.inl tl))
  | f => .inl (xcA G 0, mlen f, .inl ti)
def xTys (cA : Nat → ClassId) : List (ClassId × FieldType) := [(cA 0, .int), (cA 1, .long), (cA 2, .boolean), (cA 3, .array .int), (cA 4, .array .long), (cA 5, .object RX3), (cA 6, .object RX6), (cA 7, .object RX0), (cA 8, .object RX9)]
def xInj (G : xG) (z : Nat → Nat) : Prop := (∀ f i j f' i' j', xdom z f i j → xdom z f' i' j' → xad G f i j = xad G f' i' j' → f' = f ∧ i' = i ∧ j' = j) ∧ (∀ f f', mB f = true → mB f' = true → xaM G f = xaM G f' → f' = f) ∧ ∀ f i j f', xdom z f i j → mB f' = true → xad G f i j ≠ xaM G f'
def xRep (G : xG) (z : Nat → Nat) (σ : Sg) (τ : Tg) (H : Heap) : Prop := (H[xsb G]? = some (xsc G) ∧ xsb G < xbs G ∧ xInj G z) ∧
  (∀ f i j, xdom z f i j → va_at (xD G) vwCl (xad G f i j, xCell G z f i j (σ.1 f i j) (σ.2.1 f i j) (σ.2.2 f)) H ∧ xbs G ≤ xad G f i j) ∧
  ∀ f, mB f = true → va_at (xD G) vwCl (xaM G f, mCell G z f (τ.1 f) (τ.2 f)) H ∧ xbs G ≤ xaM G f
def lw_g : List Cond := lw_tbl.filter goodWord
def yN_hear : MethodName := ⟨RX4, "hear", "(LCommitShards$Message;)Z"⟩
def yN_forget : MethodName := ⟨RX4, "forget", "()V"⟩
def yN_told : MethodName := ⟨RX4, "told", "(I)I"⟩
/-- what the tables hold besides the good words -/
def yAO (ty : FieldType) (U : State) : Prop := (Cond.arrayOver ty).before #[] U = true
theorem yAO.movedA {ty : FieldType} {U U' : State} (hal : U.vm.Alike U'.vm) (h : yAO (.array ty) U) : yAO (.array ty) U' := by
  unfold yAO at h ⊢
  simp only [Cond.before, Cond.holds, Cond.value] at h ⊢
  rw [hal.findClass]
  cases hf : U.vm.findClass (FieldType.array ty).toString with
  | none => rw [hf] at h; simp at h
  | some comp =>
    rw [hf] at h
    simp only [Option.bind_some] at h ⊢
    rw [hal.findIdx_congr _ (fun _ _ _ _ => rfl)]
    generalize hF : (U.vm.classes.findIdx? fun (x : Class) => match x.kind with | .array component _ => component == comp | _ => false) = fi at h ⊢
    cases fi with
    | none => simp at h
    | some c =>
      simp only [Option.bind_some] at h ⊢
      cases hk : U.vm.classes[c]? with
      | none => rw [hk] at h; simp at h
      | some k =>
        obtain ⟨k', hk', ek⟩ := hal.2.2 _ _ hk
        rw [hk] at h
        rw [hk', hal.findClass]
        have ekind : k'.kind = k.kind := by rw [ek]
        simp only [Option.map_some] at h ⊢
        rw [ekind]
        exact h
theorem yAO.moved {ty : FieldType} {u U : State} (hvm : u.vm.Alike U.vm) (h : yAO ty u) : yAO ty U := by
  cases ty with
  | object n => exact Cond.arrayOver_alike hvm h
  | array t => exact yAO.movedA hvm h
  | _ => exact absurd h (by unfold yAO; simp [Cond.before, Cond.holds, Cond.value])
def yTys : List FieldType := [.object RX3, .object RX6, .object RX0, .object RX9, .array .int, .array .long]
def xEnv (D : va_G) (cA : Nat → ClassId) (U : State) : Prop := va_K D vwCl (xTys cA) U ∧ va_Nw (.declares yN_hear) U ∧ va_Nw (.declares yN_forget) U ∧ va_Nw (.declares yN_told) U ∧ ∀ ty ∈ yTys, yAO ty U
theorem xEnv.warm {D : va_G} {cA : Nat → ClassId} {s U : State} (hW : s.WarmedH U.vm) (h : xEnv D cA s) : xEnv D cA U := ⟨va_K.moved hW.alike h.1, va_Nw.warmD hW h.2.1, va_Nw.warmD hW h.2.2.1, va_Nw.warmD hW h.2.2.2.1, fun ty ht => (h.2.2.2.2 ty ht).moved hW.alike⟩
theorem xEnv.call {D : va_G} {cA : Nat → ClassId} {U : State} {g : JFrame} {mk : MethodId} {a : Array Value} (h : xEnv D cA U) : xEnv D cA (U.calling g mk a) := ⟨va_K.moved (u := U) (U := U.calling g mk a) (Vm.Alike.refl U.vm) h.1, va_Nw.same (U := U.calling g mk a) rfl rfl h.2.1, va_Nw.same (U := U.calling g mk a) rfl rfl h.2.2.1, va_Nw.same (U := U.calling g mk a) rfl rfl h.2.2.2.1, fun ty ht => yAO.moved (u := U) (U := U.calling g mk a) (Vm.Alike.refl U.vm) (h.2.2.2.2 ty ht)⟩
/-- a class of the world: its words, types, names, place -/
def xCls (ci : Nat) (C : String) (T : u_T) (N : Nat) (ty : Nat → FieldType) : Prop := (∀ w ∈ u_ws C T N, w ∈ lw_g) ∧ (∀ k, k < N → parseFieldDescriptor (T k).2.2.1 = some (ty k)) ∧ (∀ a, a < N → ∀ b, b < N → a ≠ b → (T a).2.1 ≠ (T b).2.1) ∧ vwCl[ci]? = some (C, T, N)
/-- a place of a constant pool that names a field -/
def xFl (own : String) (index : Nat) (T : u_T) (k : Nat) : Prop := ∃ ref : String, Cond.fieldLink own index ref (T k).2.1 (T k).2.2.1 ∈ lw_g ∧ (ref = (T k).1 ∨ Cond.sameField ref (T k).1 (T k).2.1 (T k).2.2.1 ∈ lw_g)
def xC (p : Program) (m : MethodId) (c : Code) (cc : ByteArray) (nL : Nat) (s : State) (args : Array Value) (own : String) (meth : Method) (R : Room) (cells slots : Nat) (D : va_G) (cA : Nat → ClassId) : Prop :=
  CallFix p m c cc nL s args lw_g own ∧ meth.locks = false ∧ (cells ≤ R.cells ∧ slots ≤ R.slots) ∧ xEnv D cA s
def XW (p : Program) (l : Launch) (e : Env) (R : Room) (s : State) (m : MethodId) (args : Array Value) (below : List Frame) (meth : Method) (c : Code) (cells slots nL bs : Nat) (Q : State → Prop) (Ω : Heap → Prop) (pc : Nat) (L : List (Nat × Value)) (st : List Value) : Prop :=
  ∀ (H : Heap) (locs : List Loc) (ls : Array Slot), Ω H → (∀ q ∈ locs, bs ≤ q.base) → lv_has ls nL L → W p l e R s m args below meth c H locs cells slots Q (F0 m pc ls st)
section XROWS
variable {p : Program} {l : Launch} {e : Env} {R : Room} {s : State} {m : MethodId} {args : Array Value} {below : List Frame} {meth : Method} {c : Code} {cells slots nL bs : Nat} {Q : State → Prop} {Ω : Heap → Prop}
variable {cc : ByteArray} {own : String} {D : va_G} {cA : Nat → ClassId} {pc : Nat} {L : List (Nat × Value)} {st : List Value} {ρ : Type} {rr : ρ}
theorem x_sub {L' : List (Nat × Value)} (ks : List Nat) (hl : lv_pick L ks = L') (kk : XW p l e R s m args below meth c cells slots nL bs Q Ω pc L' st) : XW p l e R s m args below meth c cells slots nL bs Q Ω pc L st := fun H locs ls hΩ hs hL => kk H locs ls hΩ hs (lv_sub hL ks hl)
theorem x_any (kk : ∀ H, Ω H → XW p l e R s m args below meth c cells slots nL bs Q Ω pc L st) : XW p l e R s m args below meth c cells slots nL bs Q Ω pc L st := fun H locs ls hΩ hs hL => kk H hΩ H locs ls hΩ hs hL
theorem x_imp {Ω' : Heap → Prop} (h : ∀ H, Ω H → Ω' H) (kk : XW p l e R s m args below meth c cells slots nL bs Q Ω' pc L st) : XW p l e R s m args below meth c cells slots nL bs Q Ω pc L st := fun H locs ls hΩ hs hL => kk H locs ls (h H hΩ) hs hL
theorem x_iload_n (C : xC p m c cc nL s args own meth R cells slots D cA) {k : Fin 4} {i q : Nat} {x : Int32} (hdg : decode cc pc = .ok (.iload_n k, 1)) (hi : (k : Nat) = i) (hl : L[q]? = some (i, .int x)) (kk : XW p l e R s m args below meth c cells slots nL bs Q Ω (pc + 1) L (.int x :: st)) : XW p l e R s m args below meth c cells slots nL bs Q Ω pc L st := fun H locs ls hΩ hs hL => lv_iload_n C.1.1 C.1.2.1 hdg hi (lv_at hL q hl) (kk H locs ls hΩ hs hL)
theorem x_lload_n (C : xC p m c cc nL s args own meth R cells slots D cA) {k : Fin 4} {i q : Nat} {x : Int64} (hdg : decode cc pc = .ok (.lload_n k, 1)) (hi : (k : Nat) = i) (hl : L[q]? = some (i, .long x)) (kk : XW p l e R s m args below meth c cells slots nL bs Q Ω (pc + 1) L (.long x :: st)) : XW p l e R s m args below meth c cells slots nL bs Q Ω pc L st := fun H locs ls hΩ hs hL => lv_lload_n C.1.1 C.1.2.1 hdg hi (lv_at hL q hl) (kk H locs ls hΩ hs hL)
theorem x_aload_n (C : xC p m c cc nL s args own meth R cells slots D cA) {k : Fin 4} {i q : Nat} {x : Nat} (hdg : decode cc pc = .ok (.aload_n k, 1)) (hi : (k : Nat) = i) (hl : L[q]? = some (i, .ref x)) (kk : XW p l e R s m args below meth c cells slots nL bs Q Ω (pc + 1) L (.ref x :: st)) : XW p l e R s m args below meth c cells slots nL bs Q Ω pc L st := fun H locs ls hΩ hs hL => lv_aload_n C.1.1 C.1.2.1 hdg hi (lv_at hL q hl) (kk H locs ls hΩ hs hL)
theorem x_iload (C : xC p m c cc nL s args own meth R cells slots D cA) {i q : Nat} {x : Int32} (hdg : decode cc pc = .ok (.iload i, 2)) (hl : L[q]? = some (i, .int x)) (kk : XW p l e R s m args below meth c cells slots nL bs Q Ω (pc + 2) L (.int x :: st)) : XW p l e R s m args below meth c cells slots nL bs Q Ω pc L st := fun H locs ls hΩ hs hL => lv_iload C.1.1 C.1.2.1 hdg (lv_at hL q hl) (kk H locs ls hΩ hs hL)
theorem x_lload (C : xC p m c cc nL s args own meth R cells slots D cA) {i q : Nat} {x : Int64} (hdg : decode cc pc = .ok (.lload i, 2)) (hl : L[q]? = some (i, .long x)) (kk : XW p l e R s m args below meth c cells slots nL bs Q Ω (pc + 2) L (.long x :: st)) : XW p l e R s m args below meth c cells slots nL bs Q Ω pc L st := fun H locs ls hΩ hs hL => lv_lload C.1.1 C.1.2.1 hdg (lv_at hL q hl) (kk H locs ls hΩ hs hL)
theorem x_aload (C : xC p m c cc nL s args own meth R cells slots D cA) {i q : Nat} {x : Nat} (hdg : decode cc pc = .ok (.aload i, 2)) (hl : L[q]? = some (i, .ref x)) (kk : XW p l e R s m args below meth c cells slots nL bs Q Ω (pc + 2) L (.ref x :: st)) : XW p l e R s m args below meth c cells slots nL bs Q Ω pc L st := fun H locs ls hΩ hs hL => lv_aload C.1.1 C.1.2.1 hdg (lv_at hL q hl) (kk H locs ls hΩ hs hL)
theorem x_aload_nN (C : xC p m c cc nL s args own meth R cells slots D cA) {k : Fin 4} {i q : Nat} (hdg : decode cc pc = .ok (.aload_n k, 1)) (hi : (k : Nat) = i) (hl : L[q]? = some (i, .null)) (kk : XW p l e R s m args below meth c cells slots nL bs Q Ω (pc + 1) L (.null :: st)) : XW p l e R s m args below meth c cells slots nL bs Q Ω pc L st := by
  intro H locs ls hΩ hs hL T hT X
  obtain ⟨t, a, b⟩ := kk H locs ls hΩ hs hL T hT X
  refine ⟨t, ?_, b⟩
  have h1 := C.1.1
  have h2 := C.1.2.1
  have h3 := lv_at hL q hl
  subst hi
  jvm_step X.here [X.here.top, h1, h2, hdg, h3, Value.isRef]
  exact a
theorem x_astore_nN (C : xC p m c cc nL s args own meth R cells slots D cA) {k : Fin 4} {i : Nat} {L' : List (Nat × Value)} (hdg : decode cc pc = .ok (.astore_n k, 1)) (hi : (k : Nat) = i) (hn : i < nL) (hl : (i, Value.null) :: L.filter (fun q => !(q.1 == i) && !(q.1 + 1 == i && q.2.category == 2)) = L') (kk : XW p l e R s m args below meth c cells slots nL bs Q Ω (pc + 1) L' st) : XW p l e R s m args below meth c cells slots nL bs Q Ω pc L (.null :: st) := by
  intro H locs ls hΩ hs hL T hT X
  subst hi
  obtain ⟨ls', e', h'⟩ := lv_store1 (v := .null) hL hn rfl
  obtain ⟨t, a, b⟩ := kk H locs ls' hΩ hs (hl ▸ h') T hT X
  refine ⟨t, ?_, b⟩
  have h1 := C.1.1
  have h2 := C.1.2.1
  jvm_step X.here [X.here.top, ↓top_set X.here.top, h1, h2, hdg, e', Value.isRef]
  exact a
theorem x_istore_n (C : xC p m c cc nL s args own meth R cells slots D cA) {k : Fin 4} {i : Nat} {x : Int32} {L' : List (Nat × Value)} (hdg : decode cc pc = .ok (.istore_n k, 1)) (hi : (k : Nat) = i) (hn : i < nL) (hl : (i, Value.int x) :: L.filter (fun q => !(q.1 == i) && !(q.1 + 1 == i && q.2.category == 2)) = L') (kk : XW p l e R s m args below meth c cells slots nL bs Q Ω (pc + 1) L' st) : XW p l e R s m args below meth c cells slots nL bs Q Ω pc L (.int x :: st) := fun H locs ls hΩ hs hL => lv_istore_n C.1.1 C.1.2.1 hdg hi hL hn hl (fun ls' hL' => kk H locs ls' hΩ hs hL')
theorem x_istore (C : xC p m c cc nL s args own meth R cells slots D cA) {i : Nat} {x : Int32} {L' : List (Nat × Value)} (hdg : decode cc pc = .ok (.istore i, 2)) (hn : i < nL) (hl : (i, Value.int x) :: L.filter (fun q => !(q.1 == i) && !(q.1 + 1 == i && q.2.category == 2)) = L') (kk : XW p l e R s m args below meth c cells slots nL bs Q Ω (pc + 2) L' st) : XW p l e R s m args below meth c cells slots nL bs Q Ω pc L (.int x :: st) := fun H locs ls hΩ hs hL => lv_istore C.1.1 C.1.2.1 hdg hL hn hl (fun ls' hL' => kk H locs ls' hΩ hs hL')
theorem x_astore_n (C : xC p m c cc nL s args own meth R cells slots D cA) {k : Fin 4} {i : Nat} {x : Nat} {L' : List (Nat × Value)} (hdg : decode cc pc = .ok (.astore_n k, 1)) (hi : (k : Nat) = i) (hn : i < nL) (hl : (i, Value.ref x) :: L.filter (fun q => !(q.1 == i) && !(q.1 + 1 == i && q.2.category == 2)) = L') (kk : XW p l e R s m args below meth c cells slots nL bs Q Ω (pc + 1) L' st) : XW p l e R s m args below meth c cells slots nL bs Q Ω pc L (.ref x :: st) := fun H locs ls hΩ hs hL => lv_astore_n C.1.1 C.1.2.1 hdg hi hL hn hl (fun ls' hL' => kk H locs ls' hΩ hs hL')
theorem x_astore (C : xC p m c cc nL s args own meth R cells slots D cA) {i : Nat} {x : Nat} {L' : List (Nat × Value)} (hdg : decode cc pc = .ok (.astore i, 2)) (hn : i < nL) (hl : (i, Value.ref x) :: L.filter (fun q => !(q.1 == i) && !(q.1 + 1 == i && q.2.category == 2)) = L') (kk : XW p l e R s m args below meth c cells slots nL bs Q Ω (pc + 2) L' st) : XW p l e R s m args below meth c cells slots nL bs Q Ω pc L (.ref x :: st) := fun H locs ls hΩ hs hL => lv_astore C.1.1 C.1.2.1 hdg hL hn hl (fun ls' hL' => kk H locs ls' hΩ hs hL')
theorem x_lstore_n (C : xC p m c cc nL s args own meth R cells slots D cA) {k : Fin 4} {i : Nat} {x : Int64} {L' : List (Nat × Value)} (hdg : decode cc pc = .ok (.lstore_n k, 1)) (hi : (k : Nat) = i) (hn : i + 1 < nL) (hl : (i, Value.long x) :: L.filter (fun q => !(q.1 == i) && (!(q.1 == i + 1) && !(q.1 + 1 == i && q.2.category == 2))) = L') (kk : XW p l e R s m args below meth c cells slots nL bs Q Ω (pc + 1) L' st) : XW p l e R s m args below meth c cells slots nL bs Q Ω pc L (.long x :: st) := fun H locs ls hΩ hs hL => lv_lstore_n C.1.1 C.1.2.1 hdg hi hL hn hl (fun ls' hL' => kk H locs ls' hΩ hs hL')
theorem x_lstore (C : xC p m c cc nL s args own meth R cells slots D cA) {i : Nat} {x : Int64} {L' : List (Nat × Value)} (hdg : decode cc pc = .ok (.lstore i, 2)) (hn : i + 1 < nL) (hl : (i, Value.long x) :: L.filter (fun q => !(q.1 == i) && (!(q.1 == i + 1) && !(q.1 + 1 == i && q.2.category == 2))) = L') (kk : XW p l e R s m args below meth c cells slots nL bs Q Ω (pc + 2) L' st) : XW p l e R s m args below meth c cells slots nL bs Q Ω pc L (.long x :: st) := fun H locs ls hΩ hs hL => lv_lstore C.1.1 C.1.2.1 hdg hL hn hl (fun ls' hL' => kk H locs ls' hΩ hs hL')
theorem x_iinc (C : xC p m c cc nL s args own meth R cells slots D cA) {i k : Nat} {n : Int} {x v : Int32} {L' : List (Nat × Value)} (hdg : decode cc pc = .ok (.iinc i n, 3)) (hk : L[k]? = some (i, .int x)) (hv : x + Int32.ofInt n = v) (hn : i < nL) (hl : (i, Value.int v) :: L.filter (fun q => !(q.1 == i) && !(q.1 + 1 == i && q.2.category == 2)) = L') (kk : XW p l e R s m args below meth c cells slots nL bs Q Ω (pc + 3) L' st) : XW p l e R s m args below meth c cells slots nL bs Q Ω pc L st :=
  fun H locs ls hΩ hs hL => lv_iinc C.1.1 C.1.2.1 hdg hL hk hv hn hl (fun ls' hL' => kk H locs ls' hΩ hs hL')
theorem x_iconst (C : xC p m c cc nL s args own meth R cells slots D cA) {n : Int} {v : Int32} (hdg : decode cc pc = .ok (.iconst n, 1)) (hv : Int32.ofInt n = v) (kk : XW p l e R s m args below meth c cells slots nL bs Q Ω (pc + 1) L (.int v :: st)) : XW p l e R s m args below meth c cells slots nL bs Q Ω pc L st := fun H locs ls hΩ hs hL => lv_iconst C.1.1 C.1.2.1 hdg hv (kk H locs ls hΩ hs hL)
theorem x_bipush (C : xC p m c cc nL s args own meth R cells slots D cA) {n : Int} {v : Int32} (hdg : decode cc pc = .ok (.bipush n, 2)) (hv : (Int8.ofInt n).toInt32 = v) (kk : XW p l e R s m args below meth c cells slots nL bs Q Ω (pc + 2) L (.int v :: st)) : XW p l e R s m args below meth c cells slots nL bs Q Ω pc L st := fun H locs ls hΩ hs hL => lv_bipush C.1.1 C.1.2.1 hdg hv (kk H locs ls hΩ hs hL)
theorem x_sipush (C : xC p m c cc nL s args own meth R cells slots D cA) {n : Int} {v : Int32} (hdg : decode cc pc = .ok (.sipush n, 3)) (hv : (Int16.ofInt n).toInt32 = v) (kk : XW p l e R s m args below meth c cells slots nL bs Q Ω (pc + 3) L (.int v :: st)) : XW p l e R s m args below meth c cells slots nL bs Q Ω pc L st := fun H locs ls hΩ hs hL => lv_sipush C.1.1 C.1.2.1 hdg hv (kk H locs ls hΩ hs hL)
theorem x_lconst (C : xC p m c cc nL s args own meth R cells slots D cA) {n : Fin 2} {v : Int64} (hdg : decode cc pc = .ok (.lconst n, 1)) (hv : Int64.ofNat (n : Nat) = v) (kk : XW p l e R s m args below meth c cells slots nL bs Q Ω (pc + 1) L (.long v :: st)) : XW p l e R s m args below meth c cells slots nL bs Q Ω pc L st := fun H locs ls hΩ hs hL => lv_lconst C.1.1 C.1.2.1 hdg hv (kk H locs ls hΩ hs hL)
theorem x_ldc (C : xC p m c cc nL s args own meth R cells slots D cA) {index : Nat} {v : Int32} (hw : Cond.constant own index v ∈ lw_g) (hdg : decode cc pc = .ok (.ldc index, 2)) (kk : XW p l e R s m args below meth c cells slots nL bs Q Ω (pc + 2) L (.int v :: st)) : XW p l e R s m args below meth c cells slots nL bs Q Ω pc L st := fun H locs ls hΩ hs hL => lv_ldc C.1.1 C.1.2.1 C.1.2.2.2.1 (C.1.2.2.2.2 _ hw) hdg (kk H locs ls hΩ hs hL)
theorem x_ldc_w (C : xC p m c cc nL s args own meth R cells slots D cA) {index : Nat} {v : Int32} (hw : Cond.constant own index v ∈ lw_g) (hdg : decode cc pc = .ok (.ldc_w index, 3)) (kk : XW p l e R s m args below meth c cells slots nL bs Q Ω (pc + 3) L (.int v :: st)) : XW p l e R s m args below meth c cells slots nL bs Q Ω pc L st := fun H locs ls hΩ hs hL => lv_ldcw C.1.1 C.1.2.1 C.1.2.2.2.1 (C.1.2.2.2.2 _ hw) hdg (kk H locs ls hΩ hs hL)
theorem x_ldc2_w (C : xC p m c cc nL s args own meth R cells slots D cA) {index : Nat} {v : Int64} (hw : Cond.constantLong own index v ∈ lw_g) (hdg : decode cc pc = .ok (.ldc2_w index, 3)) (kk : XW p l e R s m args below meth c cells slots nL bs Q Ω (pc + 3) L (.long v :: st)) : XW p l e R s m args below meth c cells slots nL bs Q Ω pc L st := fun H locs ls hΩ hs hL => lv_ldc2 C.1.1 C.1.2.1 C.1.2.2.2.1 (C.1.2.2.2.2 _ hw) hdg (kk H locs ls hΩ hs hL)
theorem x_aconst_null (C : xC p m c cc nL s args own meth R cells slots D cA) (hdg : decode cc pc = .ok (.aconst_null, 1)) (kk : XW p l e R s m args below meth c cells slots nL bs Q Ω (pc + 1) L (.null :: st)) : XW p l e R s m args below meth c cells slots nL bs Q Ω pc L st := fun H locs ls hΩ hs hL => lv_null C.1.1 C.1.2.1 hdg (kk H locs ls hΩ hs hL)
theorem x_iadd (C : xC p m c cc nL s args own meth R cells slots D cA) {x y : Int32} (hdg : decode cc pc = .ok (.iadd, 1)) (kk : XW p l e R s m args below meth c cells slots nL bs Q Ω (pc + 1) L (.int (x + y) :: st)) : XW p l e R s m args below meth c cells slots nL bs Q Ω pc L (.int y :: .int x :: st) := fun H locs ls hΩ hs hL => lv_iadd C.1.1 C.1.2.1 hdg (kk H locs ls hΩ hs hL)
theorem x_isub (C : xC p m c cc nL s args own meth R cells slots D cA) {x y : Int32} (hdg : decode cc pc = .ok (.isub, 1)) (kk : XW p l e R s m args below meth c cells slots nL bs Q Ω (pc + 1) L (.int (x - y) :: st)) : XW p l e R s m args below meth c cells slots nL bs Q Ω pc L (.int y :: .int x :: st) := fun H locs ls hΩ hs hL => lv_isub C.1.1 C.1.2.1 hdg (kk H locs ls hΩ hs hL)
theorem x_imul (C : xC p m c cc nL s args own meth R cells slots D cA) {x y : Int32} (hdg : decode cc pc = .ok (.imul, 1)) (kk : XW p l e R s m args below meth c cells slots nL bs Q Ω (pc + 1) L (.int (x * y) :: st)) : XW p l e R s m args below meth c cells slots nL bs Q Ω pc L (.int y :: .int x :: st) := fun H locs ls hΩ hs hL => lv_imul C.1.1 C.1.2.1 hdg (kk H locs ls hΩ hs hL)
theorem x_iand (C : xC p m c cc nL s args own meth R cells slots D cA) {x y : Int32} (hdg : decode cc pc = .ok (.iand, 1)) (kk : XW p l e R s m args below meth c cells slots nL bs Q Ω (pc + 1) L (.int (x &&& y) :: st)) : XW p l e R s m args below meth c cells slots nL bs Q Ω pc L (.int y :: .int x :: st) := fun H locs ls hΩ hs hL => lv_iand C.1.1 C.1.2.1 hdg (kk H locs ls hΩ hs hL)
theorem x_ior (C : xC p m c cc nL s args own meth R cells slots D cA) {x y : Int32} (hdg : decode cc pc = .ok (.ior, 1)) (kk : XW p l e R s m args below meth c cells slots nL bs Q Ω (pc + 1) L (.int (x ||| y) :: st)) : XW p l e R s m args below meth c cells slots nL bs Q Ω pc L (.int y :: .int x :: st) := fun H locs ls hΩ hs hL => lv_ior C.1.1 C.1.2.1 hdg (kk H locs ls hΩ hs hL)
theorem x_ixor (C : xC p m c cc nL s args own meth R cells slots D cA) {x y : Int32} (hdg : decode cc pc = .ok (.ixor, 1)) (kk : XW p l e R s m args below meth c cells slots nL bs Q Ω (pc + 1) L (.int (x ^^^ y) :: st)) : XW p l e R s m args below meth c cells slots nL bs Q Ω pc L (.int y :: .int x :: st) := fun H locs ls hΩ hs hL => lv_ixor C.1.1 C.1.2.1 hdg (kk H locs ls hΩ hs hL)
theorem x_ishl (C : xC p m c cc nL s args own meth R cells slots D cA) {x y : Int32} (hdg : decode cc pc = .ok (.ishl, 1)) (kk : XW p l e R s m args below meth c cells slots nL bs Q Ω (pc + 1) L (.int (x <<< (y &&& 31)) :: st)) : XW p l e R s m args below meth c cells slots nL bs Q Ω pc L (.int y :: .int x :: st) := fun H locs ls hΩ hs hL => lv_ishl C.1.1 C.1.2.1 hdg (kk H locs ls hΩ hs hL)
theorem x_ishr (C : xC p m c cc nL s args own meth R cells slots D cA) {x y : Int32} (hdg : decode cc pc = .ok (.ishr, 1)) (kk : XW p l e R s m args below meth c cells slots nL bs Q Ω (pc + 1) L (.int (x >>> (y &&& 31)) :: st)) : XW p l e R s m args below meth c cells slots nL bs Q Ω pc L (.int y :: .int x :: st) := fun H locs ls hΩ hs hL => lv_ishr C.1.1 C.1.2.1 hdg (kk H locs ls hΩ hs hL)
theorem x_ladd (C : xC p m c cc nL s args own meth R cells slots D cA) {x y : Int64} (hdg : decode cc pc = .ok (.ladd, 1)) (kk : XW p l e R s m args below meth c cells slots nL bs Q Ω (pc + 1) L (.long (x + y) :: st)) : XW p l e R s m args below meth c cells slots nL bs Q Ω pc L (.long y :: .long x :: st) := fun H locs ls hΩ hs hL => lv_ladd C.1.1 C.1.2.1 hdg (kk H locs ls hΩ hs hL)
theorem x_lmul (C : xC p m c cc nL s args own meth R cells slots D cA) {x y : Int64} (hdg : decode cc pc = .ok (.lmul, 1)) (kk : XW p l e R s m args below meth c cells slots nL bs Q Ω (pc + 1) L (.long (x * y) :: st)) : XW p l e R s m args below meth c cells slots nL bs Q Ω pc L (.long y :: .long x :: st) := fun H locs ls hΩ hs hL => lv_lmul C.1.1 C.1.2.1 hdg (kk H locs ls hΩ hs hL)
theorem x_land (C : xC p m c cc nL s args own meth R cells slots D cA) {x y : Int64} (hdg : decode cc pc = .ok (.land, 1)) (kk : XW p l e R s m args below meth c cells slots nL bs Q Ω (pc + 1) L (.long (x &&& y) :: st)) : XW p l e R s m args below meth c cells slots nL bs Q Ω pc L (.long y :: .long x :: st) := fun H locs ls hΩ hs hL => lv_land C.1.1 C.1.2.1 hdg (kk H locs ls hΩ hs hL)
theorem x_lor (C : xC p m c cc nL s args own meth R cells slots D cA) {x y : Int64} (hdg : decode cc pc = .ok (.lor, 1)) (kk : XW p l e R s m args below meth c cells slots nL bs Q Ω (pc + 1) L (.long (x ||| y) :: st)) : XW p l e R s m args below meth c cells slots nL bs Q Ω pc L (.long y :: .long x :: st) := fun H locs ls hΩ hs hL => lv_lor C.1.1 C.1.2.1 hdg (kk H locs ls hΩ hs hL)
theorem x_iushr (C : xC p m c cc nL s args own meth R cells slots D cA) {x y v : Int32} (hdg : decode cc pc = .ok (.iushr, 1)) (hv : (x.toUInt32 >>> (y.toUInt32 &&& Int32.toUInt32 31)).toInt32 = v) (kk : XW p l e R s m args below meth c cells slots nL bs Q Ω (pc + 1) L (.int v :: st)) : XW p l e R s m args below meth c cells slots nL bs Q Ω pc L (.int y :: .int x :: st) := fun H locs ls hΩ hs hL => lv_iushr C.1.1 C.1.2.1 hdg hv (kk H locs ls hΩ hs hL)
theorem x_lushr (C : xC p m c cc nL s args own meth R cells slots D cA) {x v : Int64} {y : Int32} (hdg : decode cc pc = .ok (.lushr, 1)) (hv : (x.toUInt64 >>> (y.toInt64.toUInt64 &&& Int64.toUInt64 63)).toInt64 = v) (kk : XW p l e R s m args below meth c cells slots nL bs Q Ω (pc + 1) L (.long v :: st)) : XW p l e R s m args below meth c cells slots nL bs Q Ω pc L (.int y :: .long x :: st) := fun H locs ls hΩ hs hL => lv_lushr C.1.1 C.1.2.1 hdg hv (kk H locs ls hΩ hs hL)
theorem x_lshl (C : xC p m c cc nL s args own meth R cells slots D cA) {x v : Int64} {y : Int32} (hdg : decode cc pc = .ok (.lshl, 1)) (hv : x <<< (y.toInt64 &&& 63) = v) (kk : XW p l e R s m args below meth c cells slots nL bs Q Ω (pc + 1) L (.long v :: st)) : XW p l e R s m args below meth c cells slots nL bs Q Ω pc L (.int y :: .long x :: st) := fun H locs ls hΩ hs hL => lv_lshl C.1.1 C.1.2.1 hdg hv (kk H locs ls hΩ hs hL)
theorem x_i2l (C : xC p m c cc nL s args own meth R cells slots D cA) {x : Int32} (hdg : decode cc pc = .ok (.i2l, 1)) (kk : XW p l e R s m args below meth c cells slots nL bs Q Ω (pc + 1) L (.long x.toInt64 :: st)) : XW p l e R s m args below meth c cells slots nL bs Q Ω pc L (.int x :: st) := fun H locs ls hΩ hs hL => lv_i2l C.1.1 C.1.2.1 hdg rfl (kk H locs ls hΩ hs hL)
theorem x_l2i (C : xC p m c cc nL s args own meth R cells slots D cA) {x : Int64} (hdg : decode cc pc = .ok (.l2i, 1)) (kk : XW p l e R s m args below meth c cells slots nL bs Q Ω (pc + 1) L (.int x.toInt32 :: st)) : XW p l e R s m args below meth c cells slots nL bs Q Ω pc L (.long x :: st) := fun H locs ls hΩ hs hL => lv_l2i C.1.1 C.1.2.1 hdg rfl (kk H locs ls hΩ hs hL)
theorem x_lcmp (C : xC p m c cc nL s args own meth R cells slots D cA) {x y : Int64} (hdg : decode cc pc = .ok (.lcmp, 1)) (kk : XW p l e R s m args below meth c cells slots nL bs Q Ω (pc + 1) L (.int (lg_cmp x y) :: st)) : XW p l e R s m args below meth c cells slots nL bs Q Ω pc L (.long y :: .long x :: st) := fun H locs ls hΩ hs hL => W.lcmp C.1.1 C.1.2.1 hdg (kk H locs ls hΩ hs hL)
theorem x_idiv (C : xC p m c cc nL s args own meth R cells slots D cA) {x y : Int32} {K : Option ρ} (hdg : decode cc pc = .ok (.idiv, 1)) (h : gnz y K = some rr) (kk : K = some rr → XW p l e R s m args below meth c cells slots nL bs Q Ω (pc + 1) L (.int (x / y) :: st)) : XW p l e R s m args below meth c cells slots nL bs Q Ω pc L (.int y :: .int x :: st) := by
  unfold gnz at h
  split at h
  · cases h
  next hy => exact fun H locs ls hΩ hs hL => lv_idiv C.1.1 C.1.2.1 hdg hy (kk h H locs ls hΩ hs hL)
theorem x_irem (C : xC p m c cc nL s args own meth R cells slots D cA) {x y : Int32} {K : Option ρ} (hdg : decode cc pc = .ok (.irem, 1)) (h : gnz y K = some rr) (kk : K = some rr → XW p l e R s m args below meth c cells slots nL bs Q Ω (pc + 1) L (.int (x - x / y * y) :: st)) : XW p l e R s m args below meth c cells slots nL bs Q Ω pc L (.int y :: .int x :: st) := by
  unfold gnz at h
  split at h
  · cases h
  next hy => exact fun H locs ls hΩ hs hL => lv_irem C.1.1 C.1.2.1 hdg hy (kk h H locs ls hΩ hs hL)
theorem x_goto (C : xC p m c cc nL s args own meth R cells slots D cA) {off : Int} {tgt : Nat} (hdg : decode cc pc = .ok (.goto off, 3)) (ht : (pc : Int) + off = (tgt : Int)) (kk : XW p l e R s m args below meth c cells slots nL bs Q Ω tgt L st) : XW p l e R s m args below meth c cells slots nL bs Q Ω pc L st := fun H locs ls hΩ hs hL => lv_goto C.1.1 C.1.2.1 hdg ht (kk H locs ls hΩ hs hL)
theorem x_dup (C : xC p m c cc nL s args own meth R cells slots D cA) {v : Value} (hdg : decode cc pc = .ok (.dup, 1)) (hv : v.category = 1) (kk : XW p l e R s m args below meth c cells slots nL bs Q Ω (pc + 1) L (v :: v :: st)) : XW p l e R s m args below meth c cells slots nL bs Q Ω pc L (v :: st) := fun H locs ls hΩ hs hL => lv_dup C.1.1 C.1.2.1 hdg hv (kk H locs ls hΩ hs hL)
theorem x_dup2 (C : xC p m c cc nL s args own meth R cells slots D cA) {v w : Value} (hdg : decode cc pc = .ok (.dup2, 1)) (hv : v.category = 1) (hw : w.category = 1) (kk : XW p l e R s m args below meth c cells slots nL bs Q Ω (pc + 1) L (v :: w :: v :: w :: st)) : XW p l e R s m args below meth c cells slots nL bs Q Ω pc L (v :: w :: st) := fun H locs ls hΩ hs hL => lv_dup2_11 C.1.1 C.1.2.1 hdg hv hw (kk H locs ls hΩ hs hL)
theorem x_pop (C : xC p m c cc nL s args own meth R cells slots D cA) {v : Value} (hdg : decode cc pc = .ok (.pop, 1)) (hv : v.category = 1) (kk : XW p l e R s m args below meth c cells slots nL bs Q Ω (pc + 1) L st) : XW p l e R s m args below meth c cells slots nL bs Q Ω pc L (v :: st) := fun H locs ls hΩ hs hL => lv_pop C.1.1 C.1.2.1 hdg hv (kk H locs ls hΩ hs hL)
theorem x_if_eq (C : xC p m c cc nL s args own meth R cells slots D cA) {x : Int32} {off : Int} {tgt : Nat} {A B : Option ρ} (hdg : decode cc pc = .ok (.ifCond .eq off, 3)) (ht : (pc : Int) + off = (tgt : Int)) (h : (if x = 0 then A else B) = some rr) (kt : x = 0 → A = some rr → XW p l e R s m args below meth c cells slots nL bs Q Ω tgt L st) (kf : ¬ x = 0 → B = some rr → XW p l e R s m args below meth c cells slots nL bs Q Ω (pc + 3) L st) : XW p l e R s m args below meth c cells slots nL bs Q Ω pc L (.int x :: st) := fun H locs ls hΩ hs hL => lv_if_eq C.1.1 C.1.2.1 hdg ht (fun hc => kt hc (by rwa [if_pos hc] at h) H locs ls hΩ hs hL) (fun hc => kf hc (by rwa [if_neg hc] at h) H locs ls hΩ hs hL)
theorem x_if_ne (C : xC p m c cc nL s args own meth R cells slots D cA) {x : Int32} {off : Int} {tgt : Nat} {A B : Option ρ} (hdg : decode cc pc = .ok (.ifCond .ne off, 3)) (ht : (pc : Int) + off = (tgt : Int)) (h : (if x = 0 then A else B) = some rr) (kt : ¬ x = 0 → B = some rr → XW p l e R s m args below meth c cells slots nL bs Q Ω tgt L st) (kf : x = 0 → A = some rr → XW p l e R s m args below meth c cells slots nL bs Q Ω (pc + 3) L st) : XW p l e R s m args below meth c cells slots nL bs Q Ω pc L (.int x :: st) := fun H locs ls hΩ hs hL => lv_if_ne C.1.1 C.1.2.1 hdg ht (fun hc => kt hc (by rwa [if_neg hc] at h) H locs ls hΩ hs hL) (fun hc => kf hc (by rwa [if_pos hc] at h) H locs ls hΩ hs hL)
theorem x_if_lt (C : xC p m c cc nL s args own meth R cells slots D cA) {x : Int32} {off : Int} {tgt : Nat} {A B : Option ρ} (hdg : decode cc pc = .ok (.ifCond .lt off, 3)) (ht : (pc : Int) + off = (tgt : Int)) (h : (if x < 0 then A else B) = some rr) (kt : x < 0 → A = some rr → XW p l e R s m args below meth c cells slots nL bs Q Ω tgt L st) (kf : ¬ x < 0 → B = some rr → XW p l e R s m args below meth c cells slots nL bs Q Ω (pc + 3) L st) : XW p l e R s m args below meth c cells slots nL bs Q Ω pc L (.int x :: st) := fun H locs ls hΩ hs hL => lv_if_lt C.1.1 C.1.2.1 hdg ht (fun hc => kt hc (by rwa [if_pos hc] at h) H locs ls hΩ hs hL) (fun hc => kf hc (by rwa [if_neg hc] at h) H locs ls hΩ hs hL)
theorem x_if_ge (C : xC p m c cc nL s args own meth R cells slots D cA) {x : Int32} {off : Int} {tgt : Nat} {A B : Option ρ} (hdg : decode cc pc = .ok (.ifCond .ge off, 3)) (ht : (pc : Int) + off = (tgt : Int)) (h : (if 0 ≤ x then A else B) = some rr) (kt : 0 ≤ x → A = some rr → XW p l e R s m args below meth c cells slots nL bs Q Ω tgt L st) (kf : ¬ 0 ≤ x → B = some rr → XW p l e R s m args below meth c cells slots nL bs Q Ω (pc + 3) L st) : XW p l e R s m args below meth c cells slots nL bs Q Ω pc L (.int x :: st) := fun H locs ls hΩ hs hL => lv_if_ge C.1.1 C.1.2.1 hdg ht (fun hc => kt hc (by rwa [if_pos hc] at h) H locs ls hΩ hs hL) (fun hc => kf hc (by rwa [if_neg hc] at h) H locs ls hΩ hs hL)
theorem x_if_gt (C : xC p m c cc nL s args own meth R cells slots D cA) {x : Int32} {off : Int} {tgt : Nat} {A B : Option ρ} (hdg : decode cc pc = .ok (.ifCond .gt off, 3)) (ht : (pc : Int) + off = (tgt : Int)) (h : (if 0 < x then A else B) = some rr) (kt : 0 < x → A = some rr → XW p l e R s m args below meth c cells slots nL bs Q Ω tgt L st) (kf : ¬ 0 < x → B = some rr → XW p l e R s m args below meth c cells slots nL bs Q Ω (pc + 3) L st) : XW p l e R s m args below meth c cells slots nL bs Q Ω pc L (.int x :: st) := fun H locs ls hΩ hs hL => lv_if_gt C.1.1 C.1.2.1 hdg ht (fun hc => kt hc (by rwa [if_pos hc] at h) H locs ls hΩ hs hL) (fun hc => kf hc (by rwa [if_neg hc] at h) H locs ls hΩ hs hL)
theorem x_if_le (C : xC p m c cc nL s args own meth R cells slots D cA) {x : Int32} {off : Int} {tgt : Nat} {A B : Option ρ} (hdg : decode cc pc = .ok (.ifCond .le off, 3)) (ht : (pc : Int) + off = (tgt : Int)) (h : (if x ≤ 0 then A else B) = some rr) (kt : x ≤ 0 → A = some rr → XW p l e R s m args below meth c cells slots nL bs Q Ω tgt L st) (kf : ¬ x ≤ 0 → B = some rr → XW p l e R s m args below meth c cells slots nL bs Q Ω (pc + 3) L st) : XW p l e R s m args below meth c cells slots nL bs Q Ω pc L (.int x :: st) := fun H locs ls hΩ hs hL => lv_if_le C.1.1 C.1.2.1 hdg ht (fun hc => kt hc (by rwa [if_pos hc] at h) H locs ls hΩ hs hL) (fun hc => kf hc (by rwa [if_neg hc] at h) H locs ls hΩ hs hL)
theorem x_icmp_eq (C : xC p m c cc nL s args own meth R cells slots D cA) {x y : Int32} {off : Int} {tgt : Nat} {A B : Option ρ} (hdg : decode cc pc = .ok (.if_icmp .eq off, 3)) (ht : (pc : Int) + off = (tgt : Int)) (h : (if x = y then A else B) = some rr) (kt : x = y → A = some rr → XW p l e R s m args below meth c cells slots nL bs Q Ω tgt L st) (kf : ¬ x = y → B = some rr → XW p l e R s m args below meth c cells slots nL bs Q Ω (pc + 3) L st) : XW p l e R s m args below meth c cells slots nL bs Q Ω pc L (.int y :: .int x :: st) := fun H locs ls hΩ hs hL => lv_icmp_eq C.1.1 C.1.2.1 hdg ht (fun hc => kt hc (by rwa [if_pos hc] at h) H locs ls hΩ hs hL) (fun hc => kf hc (by rwa [if_neg hc] at h) H locs ls hΩ hs hL)
theorem x_icmp_ne (C : xC p m c cc nL s args own meth R cells slots D cA) {x y : Int32} {off : Int} {tgt : Nat} {A B : Option ρ} (hdg : decode cc pc = .ok (.if_icmp .ne off, 3)) (ht : (pc : Int) + off = (tgt : Int)) (h : (if x = y then A else B) = some rr) (kt : ¬ x = y → B = some rr → XW p l e R s m args below meth c cells slots nL bs Q Ω tgt L st) (kf : x = y → A = some rr → XW p l e R s m args below meth c cells slots nL bs Q Ω (pc + 3) L st) : XW p l e R s m args below meth c cells slots nL bs Q Ω pc L (.int y :: .int x :: st) := fun H locs ls hΩ hs hL => lv_icmp_ne C.1.1 C.1.2.1 hdg ht (fun hc => kt hc (by rwa [if_neg hc] at h) H locs ls hΩ hs hL) (fun hc => kf hc (by rwa [if_pos hc] at h) H locs ls hΩ hs hL)
theorem x_icmp_lt (C : xC p m c cc nL s args own meth R cells slots D cA) {x y : Int32} {off : Int} {tgt : Nat} {A B : Option ρ} (hdg : decode cc pc = .ok (.if_icmp .lt off, 3)) (ht : (pc : Int) + off = (tgt : Int)) (h : (if x < y then A else B) = some rr) (kt : x < y → A = some rr → XW p l e R s m args below meth c cells slots nL bs Q Ω tgt L st) (kf : ¬ x < y → B = some rr → XW p l e R s m args below meth c cells slots nL bs Q Ω (pc + 3) L st) : XW p l e R s m args below meth c cells slots nL bs Q Ω pc L (.int y :: .int x :: st) := fun H locs ls hΩ hs hL => lv_icmp_lt C.1.1 C.1.2.1 hdg ht (fun hc => kt hc (by rwa [if_pos hc] at h) H locs ls hΩ hs hL) (fun hc => kf hc (by rwa [if_neg hc] at h) H locs ls hΩ hs hL)
theorem x_icmp_ge (C : xC p m c cc nL s args own meth R cells slots D cA) {x y : Int32} {off : Int} {tgt : Nat} {A B : Option ρ} (hdg : decode cc pc = .ok (.if_icmp .ge off, 3)) (ht : (pc : Int) + off = (tgt : Int)) (h : (if y ≤ x then A else B) = some rr) (kt : y ≤ x → A = some rr → XW p l e R s m args below meth c cells slots nL bs Q Ω tgt L st) (kf : ¬ y ≤ x → B = some rr → XW p l e R s m args below meth c cells slots nL bs Q Ω (pc + 3) L st) : XW p l e R s m args below meth c cells slots nL bs Q Ω pc L (.int y :: .int x :: st) := fun H locs ls hΩ hs hL => lv_icmp_ge C.1.1 C.1.2.1 hdg ht (fun hc => kt hc (by rwa [if_pos hc] at h) H locs ls hΩ hs hL) (fun hc => kf hc (by rwa [if_neg hc] at h) H locs ls hΩ hs hL)
theorem x_icmp_gt (C : xC p m c cc nL s args own meth R cells slots D cA) {x y : Int32} {off : Int} {tgt : Nat} {A B : Option ρ} (hdg : decode cc pc = .ok (.if_icmp .gt off, 3)) (ht : (pc : Int) + off = (tgt : Int)) (h : (if y < x then A else B) = some rr) (kt : y < x → A = some rr → XW p l e R s m args below meth c cells slots nL bs Q Ω tgt L st) (kf : ¬ y < x → B = some rr → XW p l e R s m args below meth c cells slots nL bs Q Ω (pc + 3) L st) : XW p l e R s m args below meth c cells slots nL bs Q Ω pc L (.int y :: .int x :: st) := fun H locs ls hΩ hs hL => lv_icmp_gt C.1.1 C.1.2.1 hdg ht (fun hc => kt hc (by rwa [if_pos hc] at h) H locs ls hΩ hs hL) (fun hc => kf hc (by rwa [if_neg hc] at h) H locs ls hΩ hs hL)
theorem x_icmp_le (C : xC p m c cc nL s args own meth R cells slots D cA) {x y : Int32} {off : Int} {tgt : Nat} {A B : Option ρ} (hdg : decode cc pc = .ok (.if_icmp .le off, 3)) (ht : (pc : Int) + off = (tgt : Int)) (h : (if x ≤ y then A else B) = some rr) (kt : x ≤ y → A = some rr → XW p l e R s m args below meth c cells slots nL bs Q Ω tgt L st) (kf : ¬ x ≤ y → B = some rr → XW p l e R s m args below meth c cells slots nL bs Q Ω (pc + 3) L st) : XW p l e R s m args below meth c cells slots nL bs Q Ω pc L (.int y :: .int x :: st) := fun H locs ls hΩ hs hL => lv_icmp_le C.1.1 C.1.2.1 hdg ht (fun hc => kt hc (by rwa [if_pos hc] at h) H locs ls hΩ hs hL) (fun hc => kf hc (by rwa [if_neg hc] at h) H locs ls hΩ hs hL)
theorem x_ifnonnull (C : xC p m c cc nL s args own meth R cells slots D cA) {x : Nat} {off : Int} {tgt : Nat} (hdg : decode cc pc = .ok (.ifnonnull off, 3)) (ht : (pc : Int) + off = (tgt : Int)) (kk : XW p l e R s m args below meth c cells slots nL bs Q Ω tgt L st) : XW p l e R s m args below meth c cells slots nL bs Q Ω pc L (.ref x :: st) := fun H locs ls hΩ hs hL => lv_ifnonnull C.1.1 C.1.2.1 hdg ht (kk H locs ls hΩ hs hL)
theorem x_ifnull (C : xC p m c cc nL s args own meth R cells slots D cA) {x : Nat} {off : Int} (hdg : decode cc pc = .ok (.ifnull off, 3)) (kk : XW p l e R s m args below meth c cells slots nL bs Q Ω (pc + 3) L st) : XW p l e R s m args below meth c cells slots nL bs Q Ω pc L (.ref x :: st) := fun H locs ls hΩ hs hL => lv_ifnull C.1.1 C.1.2.1 hdg (kk H locs ls hΩ hs hL)
theorem x_ifnullN (C : xC p m c cc nL s args own meth R cells slots D cA) {off : Int} {tgt : Nat} (hdg : decode cc pc = .ok (.ifnull off, 3)) (ht : (pc : Int) + off = (tgt : Int)) (kk : XW p l e R s m args below meth c cells slots nL bs Q Ω tgt L st) : XW p l e R s m args below meth c cells slots nL bs Q Ω pc L (.null :: st) := fun H locs ls hΩ hs hL => lv_ifnullN C.1.1 C.1.2.1 hdg ht (kk H locs ls hΩ hs hL)
theorem x_ifnonnullN (C : xC p m c cc nL s args own meth R cells slots D cA) {off : Int} (hdg : decode cc pc = .ok (.ifnonnull off, 3)) (kk : XW p l e R s m args below meth c cells slots nL bs Q Ω (pc + 3) L st) : XW p l e R s m args below meth c cells slots nL bs Q Ω pc L (.null :: st) := fun H locs ls hΩ hs hL => lv_ifnonnullN C.1.1 C.1.2.1 hdg (kk H locs ls hΩ hs hL)
theorem x_tableIn (C : xC p m c cc nL s args own meth R cells slots D cA) {dflt lo hi : Int} {offs : Array Int} {len : Nat} {x : Int32} {off : Int} {tgt : Nat} (hdg : decode cc pc = .ok (.tableswitch dflt lo hi offs, len)) (v : Int32) (hx : x = v) (h1 : ¬ v.toInt < lo) (h2 : ¬ hi < v.toInt) (ho : offs[(v.toInt - lo).toNat]? = some off) (ht : (pc : Int) + off = (tgt : Int)) (kk : XW p l e R s m args below meth c cells slots nL bs Q Ω tgt L st) : XW p l e R s m args below meth c cells slots nL bs Q Ω pc L (.int x :: st) := by
  subst hx
  exact fun H locs ls hΩ hs hL => lv_tableIn C.1.1 C.1.2.1 hdg h1 h2 ho ht (kk H locs ls hΩ hs hL)
theorem x_tableOut (C : xC p m c cc nL s args own meth R cells slots D cA) {dflt lo hi : Int} {offs : Array Int} {len : Nat} {x : Int32} {tgt : Nat} (hdg : decode cc pc = .ok (.tableswitch dflt lo hi offs, len)) (h : x.toInt < lo ∨ hi < x.toInt) (ht : (pc : Int) + dflt = (tgt : Int)) (kk : XW p l e R s m args below meth c cells slots nL bs Q Ω tgt L st) : XW p l e R s m args below meth c cells slots nL bs Q Ω pc L (.int x :: st) := fun H locs ls hΩ hs hL => lv_tableOut C.1.1 C.1.2.1 hdg h ht (kk H locs ls hΩ hs hL)
theorem x_lookup (C : xC p m c cc nL s args own meth R cells slots D cA) {dflt : Int} {ps : Array (Int × Int)} {len : Nat} {x : Int32} {off : Int} {tgt : Nat} (hdg : decode cc pc = .ok (.lookupswitch dflt ps, len)) (hp : (ps.toList.zip (ps.toList.drop 1)).all (fun (a, next) => a.1 < next.1) = true) (ho : Op.lookupswitch.offset ps.toList dflt x.toInt = off) (ht : (pc : Int) + off = (tgt : Int)) (kk : XW p l e R s m args below meth c cells slots nL bs Q Ω tgt L st) : XW p l e R s m args below meth c cells slots nL bs Q Ω pc L (.int x :: st) := fun H locs ls hΩ hs hL => lv_lookup C.1.1 C.1.2.1 hdg hp ho ht (kk H locs ls hΩ hs hL)
theorem x_letI {x : Int32} {K : Int32 → Option ρ} (h : letv x K = some rr) (kk : ∀ v, K v = some rr → XW p l e R s m args below meth c cells slots nL bs Q Ω pc L (.int v :: st)) : XW p l e R s m args below meth c cells slots nL bs Q Ω pc L (.int x :: st) := kk x h
theorem x_letL {x : Int64} {K : Int64 → Option ρ} (h : letv x K = some rr) (kk : ∀ v, K v = some rr → XW p l e R s m args below meth c cells slots nL bs Q Ω pc L (.long v :: st)) : XW p l e R s m args below meth c cells slots nL bs Q Ω pc L (.long x :: st) := kk x h
end XROWS
