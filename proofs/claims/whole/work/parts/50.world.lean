/-! the raw world: which cell stands at which address, under whose key; it grows -/
abbrev yK : Type := Nat × Nat × Nat
abbrev yM : Type := Nat → Option (yK × va_E)
def yU (M : yM) (a : Nat) (q : yK × va_E) : yM := fun b => if b = a then some q else M b
def yW (D : va_G) (bs sb : Nat) (sc : Cell) (M : yM) (H : Heap) : Prop := (H[sb]? = some sc ∧ sb < bs ∧ bs ≤ H.size) ∧ ∀ a k e, M a = some (k, e) → va_at D vwCl (a, e) H ∧ bs ≤ a
theorem yU_s (M : yM) (a : Nat) (q : yK × va_E) : yU M a q a = some q := if_pos rfl
theorem yU_o (M : yM) {a b : Nat} (q : yK × va_E) (h : ¬ b = a) : yU M a q b = M b := if_neg h
section YW
variable {D : va_G} {bs sb : Nat} {sc : Cell} {M : yM} {H H1 : Heap}
theorem yW.fresh (h : yW D bs sb sc M H) : M H.size = none := by
  cases hm : M H.size with
  | none => rfl
  | some q =>
    obtain ⟨k, e⟩ := q
    have := (h.2 _ _ _ hm).1.lt
    exact absurd this (Nat.lt_irrefl _)
theorem yW.push (h : yW D bs sb sc M H) (z1 : H1.size = H.size + 1) (o1 : ∀ q : Nat, q < H.size → H1[q]? = H[q]?) {k : yK} {e : va_E} (hat : va_at D vwCl (H.size, e) H1) : yW D bs sb sc (yU M H.size (k, e)) H1 := by
  obtain ⟨⟨h1, h2, h3⟩, h4⟩ := h
  refine ⟨⟨by rw [o1 sb (by omega)]; exact h1, h2, by omega⟩, fun a k' e' ha => ?_⟩
  by_cases q : a = H.size
  · subst q
    rw [yU_s] at ha
    cases ha
    exact ⟨hat, h3⟩
  · rw [yU_o _ _ q] at ha
    obtain ⟨g1, g2⟩ := h4 a k' e' ha
    exact ⟨g1.kept (o1 _ g1.lt), g2⟩
theorem yW.set (h : yW D bs sb sc M H) {a : Nat} {k k0 : yK} {e e0 : va_E} (ha : M a = some (k0, e0)) (hat : va_at D vwCl (a, e) H1) (hsz : H1.size = H.size) (oq : ∀ q : Nat, q ≠ a → H1[q]? = H[q]?) : yW D bs sb sc (yU M a (k, e)) H1 := by
  obtain ⟨⟨h1, h2, h3⟩, h4⟩ := h
  have hb := (h4 a k0 e0 ha).2
  refine ⟨⟨by rw [oq sb (by omega)]; exact h1, h2, by omega⟩, fun b k' e' hb' => ?_⟩
  by_cases q : b = a
  · subst q
    rw [yU_s] at hb'
    cases hb'
    exact ⟨hat, hb⟩
  · rw [yU_o _ _ q] at hb'
    obtain ⟨g1, g2⟩ := h4 b k' e' hb'
    exact ⟨g1.kept (oq b q), g2⟩
end YW
section YROWS
variable {p : Program} {l : Launch} {e : Env} {R : Room} {s : State} {m : MethodId} {args : Array Value} {below : List Frame} {meth : Method} {c : Code} {cells slots nL bs sb : Nat} {Q : State → Prop} {sc : Cell} {M : yM}
variable {cc : ByteArray} {own : String} {D : va_G} {cA : Nat → ClassId} {pc : Nat} {L : List (Nat × Value)} {st : List Value}
theorem xC.grow (C : xC p m c cc nL s args own meth R cells slots D cA) {cells' slots' : Nat} (h1 : cells' ≤ R.cells) (h2 : slots' ≤ R.slots) : xC p m c cc nL s args own meth R cells' slots' D cA := ⟨C.1, C.2.1, ⟨h1, h2⟩, C.2.2.2⟩
theorem y_ex {α : Type} {Ω : α → Heap → Prop} (kk : ∀ a, XW p l e R s m args below meth c cells slots nL bs Q (Ω a) pc L st) : XW p l e R s m args below meth c cells slots nL bs Q (fun H => ∃ a, Ω a H) pc L st := fun H locs ls hΩ hs hL => by
  obtain ⟨a, h⟩ := hΩ
  exact kk a H locs ls h hs hL
theorem y_and {P : Prop} {Ω : Heap → Prop} (kk : P → XW p l e R s m args below meth c cells slots nL bs Q Ω pc L st) : XW p l e R s m args below meth c cells slots nL bs Q (fun H => P ∧ Ω H) pc L st := fun H locs ls hΩ hs hL => kk hΩ.1 H locs ls hΩ.2 hs hL
/-- Object's constructor -/
theorem y_obj {idx a : Nat} {Ω : Heap → Prop} (C : xC p m c cc nL s args own meth R cells slots D cA) (h1 : Cond.methodLink own idx Lib.objectInit ∈ lw_g) (h2 : Cond.instanceMethod Lib.objectInit ∈ lw_g) (h3 : Cond.code Lib.objectInit ⟨#[0xb1]⟩ 1 none ∈ lw_g) (hf : 1 ≤ R.frames) (hl : 20 ≤ R.locals) (hst : (st.map fun v => v.category).sum ≤ 8) (hdg : decode cc pc = .ok (.invokespecial idx, 3))
    (kk : XW p l e R s m args below meth c cells slots nL bs Q Ω (pc + 3) L st) : XW p l e R s m args below meth c cells slots nL bs Q Ω pc L (.ref a :: st) := by
  intro H locs ls hΩ hs hL
  have hts := C.1.2.2.2.2
  refine W.objInit C.1.1 C.1.2.1 C.1.2.2.2.1 (hts _ h1) (hts _ h2) (hts _ h3) rfl (hL.1.trans C.1.2.2.1.symm) rfl hdg hf ?_ (kk H locs ls hΩ hs hL)
  have := lv_room (m := m) (pc := pc) (ls := ls) (rest := .ref a :: st) hst
  show 2 * 0 + _ + 12 ≤ _
  omega
/-- new C -/
theorem y_new (C : xC p m c cc nL s args own meth R cells slots D cA) {ci N idx : Nat} {CC : String} {T : u_T} {ty : Nat → FieldType} (K : xCls ci CC T N ty) (key : yK) {fs : List Value} (hfs : ∀ j, j < N → defaultValue (ty j) = vp_V fs j) (hcl : Cond.classLink own idx CC ∈ lw_g) (hinst : Cond.instantiable CC N ∈ lw_g) (hini : Cond.initialized CC ∈ lw_g) (hf : cells + 1 ≤ R.cells ∧ slots + N ≤ R.slots) (hdg : decode cc pc = .ok (.new idx, 3))
    (kk : ∀ a, M a = none → XW p l e R s m args below meth c (cells + 1) (slots + N) nL bs Q (yW D bs sb sc (yU M a (key, .inr (ci, fs)))) (pc + 3) L (.ref a :: st)) : XW p l e R s m args below meth c cells slots nL bs Q (yW D bs sb sc M) pc L st := by
  intro H locs ls hΩ hs hL
  have hts := C.1.2.2.2.2
  have hKn := C.2.2.2.1.1 ci _ K.2.2.2
  refine W.newcK C.1.1 C.1.2.1 C.1.2.2.2.1 (hts _ hcl) (hts _ hinst) (hts _ hini) rfl hdg hf.1 hf.2 hKn.2.1 rfl fun H1 kC hkC e1 z1 o1 => ?_
  exact kk H.size hΩ.fresh H1 locs ls (hΩ.push z1 o1 ⟨_, K.2.2.2, (u_born ty hts K.1 hKn hkC e1 K.2.1).to hfs⟩) hs hL
/-- new int[n], long[n], boolean[n] -/
theorem y_newa (C : xC p m c cc nL s args own meth R cells slots D cA) (key : yK) (t0 : Nat) {atype : ArrayType} {ty : FieldType} {cA' : ClassId} {n : Nat} {a0 : vp_A} (ht : (xTys cA)[t0]? = some (cA', ty)) (hty : newarray.typeOf atype = ty) (hRA : ∀ (U : State) (k : ClassId), va_RA U k ty → U.vm.findClass ("[" ++ ty.toString) = some k) (harr : Cond.arrayClass ty ∈ lw_g) (ha : ∀ k : ClassId, vp_cell k a0 = arrV k n (fun _ => defaultValue ty)) (hn : n < 2147483648) (hb : n * componentBytes ty ≤ 536870912) (hf : cells + 1 ≤ R.cells ∧ slots + n ≤ R.slots) (hdg : decode cc pc = .ok (.newarray atype, 2))
    (kk : ∀ a, M a = none → XW p l e R s m args below meth c (cells + 1) (slots + n) nL bs Q (yW D bs sb sc (yU M a (key, .inl (cA', a0)))) (pc + 2) L (.ref a :: st)) : XW p l e R s m args below meth c cells slots nL bs Q (yW D bs sb sc M) pc L (.int (nI n) :: st) := by
  intro H locs ls hΩ hs hL
  subst hty
  have hts := C.1.2.2.2.2
  refine va_newaK C.1.1 C.1.2.1 (hts _ harr) rfl hdg rfl (nI_pos hn) (nI_clamp hn) hb hf.1 hf.2 rfl fun H1 k e1 z1 o1 _ hNm => ?_
  have hk : k = cA' := Option.some.inj (hNm.symm.trans (hRA s cA' (C.2.2.2.1.2 t0 _ ht).2))
  subst hk
  refine kk H.size hΩ.fresh H1 locs ls (hΩ.push z1 o1 ?_) hs hL
  show H1[H.size]? = some (vp_cell _ _)
  rw [ha]
  exact e1
/-- new C[n] -/
theorem y_newq (C : xC p m c cc nL s args own meth R cells slots D cA) (key : yK) (t0 : Nat) {CC : String} {cA' : ClassId} {n idx : Nat} (ht : (xTys cA)[t0]? = some (cA', .object CC)) (hcl : Cond.classLink own idx CC ∈ lw_g) (hao : FieldType.object CC ∈ yTys) (hn : n < 2147483648) (hb : n * 4 ≤ 536870912) (hf : cells + 1 ≤ R.cells ∧ slots + n ≤ R.slots) (hdg : decode cc pc = .ok (.anewarray idx, 3))
    (kk : ∀ a, M a = none → XW p l e R s m args below meth c (cells + 1) (slots + n) nL bs Q (yW D bs sb sc (yU M a (key, .inl (cA', n, .inr (.inr (.inr (.inr (fun _ => none)))))))) (pc + 3) L (.ref a :: st)) : XW p l e R s m args below meth c cells slots nL bs Q (yW D bs sb sc M) pc L (.int (nI n) :: st) := by
  intro H locs ls hΩ hs hL
  have hts := C.1.2.2.2.2
  have hcn : (nI n).toNatClampNeg = n := nI_clamp hn
  refine W.anew C.1.1 C.1.2.1 C.1.2.2.2.1 (hts _ hcl) (C.2.2.2.2.2.2.2 _ hao) rfl hdg rfl (nI_pos hn) (by rw [hcn]; exact hb) hf.1 (by rw [hcn]; exact hf.2) fun k kA comp f1 f2 f3 f4 => ?_
  rw [hcn]
  obtain ⟨kA', comp', k1, k2, k3, k4⟩ := (C.2.2.2.1.2 t0 _ ht).2
  have hk : k = cA' := Option.some.inj (f1.symm.trans k4)
  subst hk
  refine kk H.size hΩ.fresh _ locs ls (hΩ.push (by rw [Array.size_push]) (fun q hq => by rw [Array.getElem?_push, if_neg (Nat.ne_of_lt hq)]) ?_) hs hL
  show (H.push _)[H.size]? = some (vp_cell _ _)
  rw [Array.getElem?_push_size, vp_cell_q, ← arrV_new]
  rfl
/-- getfield -/
theorem y_get (C : xC p m c cc nL s args own meth R cells slots D cA) {ci k idx N a : Nat} {CC : String} {T : u_T} {ty : Nat → FieldType} {fs : List Value} {v : Value} {key : yK} (K : xCls ci CC T N ty) (ha : M a = some (key, .inr (ci, fs))) (hk : k < N) (hfl : xFl own idx T k) (hv : fs[k]? = some v) (hdg : decode cc pc = .ok (.getfield idx, 3))
    (kk : XW p l e R s m args below meth c cells slots nL bs Q (yW D bs sb sc M) (pc + 3) L (v :: st)) : XW p l e R s m args below meth c cells slots nL bs Q (yW D bs sb sc M) pc L (.ref a :: st) :=
  fun H locs ls hΩ hs hL => r_get C K (hΩ.2 a _ _ ha).1 hk hfl hv hdg (kk H locs ls hΩ hs hL)
/-- putfield -/
theorem y_put (C : xC p m c cc nL s args own meth R cells slots D cA) {ci k idx N a : Nat} {CC : String} {T : u_T} {ty : Nat → FieldType} {fs : List Value} {v : Value} {key : yK} (K : xCls ci CC T N ty) (ha : M a = some (key, .inr (ci, fs))) (hk : k < N) (hfl : xFl own idx T k) (hfin : (T k).2.2.2 = false) (hn : narrow (ty k) v = v) (hfit : fits (ty k) v = true) (hl : k < fs.length) (hdg : decode cc pc = .ok (.putfield idx, 3))
    (kk : XW p l e R s m args below meth c cells slots nL bs Q (yW D bs sb sc (yU M a (key, .inr (ci, fs.set k v)))) (pc + 3) L st) : XW p l e R s m args below meth c cells slots nL bs Q (yW D bs sb sc M) pc L (v :: .ref a :: st) := by
  intro H locs ls hΩ hs hL
  refine r_put C K (hΩ.2 a _ _ ha).1 hk hfl hfin hn hfit hl hdg fun H1 sl h1 h2 h3 => ?_
  refine kk H1 _ ls (hΩ.set ha h1 h2 h3) (fun q hq => ?_) hL
  rcases List.mem_append.mp hq with hq | hq
  · exact hs q hq
  · rw [List.mem_singleton.mp hq]; exact (hΩ.2 a _ _ ha).2
theorem y_putF (C : xC p m c cc nL s args own meth R cells slots D cA) {ci k idx N a : Nat} {CC : String} {T : u_T} {ty : Nat → FieldType} {fs : List Value} {v : Value} {key : yK} (K : xCls ci CC T N ty) (ha : M a = some (key, .inr (ci, fs))) (hk : k < N) (hfl : xFl own idx T k) (hfin : (T k).2.2.2 = true) (hin : meth.name = "<init>") (hdecl : (T k).1 = own) (hn : narrow (ty k) v = v) (hfit : fits (ty k) v = true) (hl : k < fs.length) (hdg : decode cc pc = .ok (.putfield idx, 3))
    (kk : XW p l e R s m args below meth c cells slots nL bs Q (yW D bs sb sc (yU M a (key, .inr (ci, fs.set k v)))) (pc + 3) L st) : XW p l e R s m args below meth c cells slots nL bs Q (yW D bs sb sc M) pc L (v :: .ref a :: st) := by
  intro H locs ls hΩ hs hL
  refine r_putF C K (hΩ.2 a _ _ ha).1 hk hfl hfin hin hdecl hn hfit hl hdg fun H1 sl h1 h2 h3 => ?_
  refine kk H1 _ ls (hΩ.set ha h1 h2 h3) (fun q hq => ?_) hL
  rcases List.mem_append.mp hq with hq | hq
  · exact hs q hq
  · rw [List.mem_singleton.mp hq]; exact (hΩ.2 a _ _ ha).2
/-- arraylength -/
theorem y_alen (C : xC p m c cc nL s args own meth R cells slots D cA) {a : Nat} {key : yK} {cA' : ClassId} {x : vp_A} {ty : FieldType} (t0 : Nat) (ht : (xTys cA)[t0]? = some (cA', ty)) (ha : M a = some (key, .inl (cA', x))) (hdg : decode cc pc = .ok (.arraylength, 1))
    (kk : XW p l e R s m args below meth c cells slots nL bs Q (yW D bs sb sc M) (pc + 1) L (.int (nI x.1) :: st)) : XW p l e R s m args below meth c cells slots nL bs Q (yW D bs sb sc M) pc L (.ref a :: st) :=
  fun H locs ls hΩ hs hL => va_alen C.1.1 C.1.2.1 C.2.2.2.1 (va_P1 (hΩ.2 a _ _ ha).1) 0 t0 rfl ht rfl hdg (kk H locs ls hΩ hs hL)
/-- iastore, bastore -/
theorem y_iast (C : xC p m c cc nL s args own meth R cells slots D cA) {a n k : Nat} {key : yK} {g : Nat → Int32} {v : Int32} (ha : M a = some (key, .inl (cA 0, n, .inl g))) (hk : k < n) (hn : n < 2147483648) (hdg : decode cc pc = .ok (.iastore, 1))
    (kk : XW p l e R s m args below meth c cells slots nL bs Q (yW D bs sb sc (yU M a (key, .inl (cA 0, n, .inl (fun k' => if k' = k then v else g k'))))) (pc + 1) L st) : XW p l e R s m args below meth c cells slots nL bs Q (yW D bs sb sc M) pc L (.int v :: .int (nI k) :: .ref a :: st) := by
  intro H locs ls hΩ hs hL
  have hcl : (nI k).toNatClampNeg = k := nI_clamp (by omega)
  refine W.iast C.1.1 C.1.2.1 (hΩ.2 a _ _ ha).1 (r_isa C.2.2.2.1 (t0 := 0) rfl _) (r_kn _) (r_in (x := (n, .inl g)) (fun q => q.elim (nI_pos (by omega)) (fun q => by rw [hcl] at q; exact absurd q (by show ¬ n ≤ k; omega)))) rfl rfl hdg fun H1 h1 h2 h3 => ?_
  refine kk H1 _ ls (hΩ.set ha ?_ h2 h3) (fun q hq => ?_) hL
  · show H1[a]? = some (vp_cell _ _)
    rw [h1, xa_setI, hcl]
  · rcases List.mem_append.mp hq with hq | hq
    · exact hs q hq
    · rw [List.mem_singleton.mp hq]; exact (hΩ.2 a _ _ ha).2
/-- aastore of an object into an array of its class -/
theorem y_aast (C : xC p m c cc nL s args own meth R cells slots D cA) {a b n k ci N : Nat} {key key' : yK} {g : Nat → Option Nat} {fs : List Value} {CC : String} {T : u_T} {ty : Nat → FieldType} {cA' : ClassId} (t0 : Nat) (ht : (xTys cA)[t0]? = some (cA', .object CC)) (K : xCls ci CC T N ty) (ha : M a = some (key, .inl (cA', n, .inr (.inr (.inr (.inr g)))))) (hb : M b = some (key', .inr (ci, fs))) (hk : k < n) (hn : n < 2147483648) (hdg : decode cc pc = .ok (.aastore, 1))
    (kk : XW p l e R s m args below meth c cells slots nL bs Q (yW D bs sb sc (yU M a (key, .inl (cA', n, .inr (.inr (.inr (.inr (fun k' => if k' = k then some b else g k')))))))) (pc + 1) L st) : XW p l e R s m args below meth c cells slots nL bs Q (yW D bs sb sc M) pc L (.ref b :: .int (nI k) :: .ref a :: st) := by
  intro H locs ls hΩ hs hL
  have hcn : (nI k).toNatClampNeg = k := nI_clamp (by omega)
  have hat : H[a]? = some (vp_cell cA' (n, .inr (.inr (.inr (.inr g))))) := (hΩ.2 a _ _ ha).1
  have hbb := (hΩ.2 a _ _ ha).2
  obtain ⟨r', hr', cellV, g1, g2, g3, -⟩ := (hΩ.2 b _ _ hb).1
  have hcls := (C.2.2.2.1.1 ci _ K.2.2.2).2
  obtain ⟨kA, comp, k1, k2, k3, -⟩ := (C.2.2.2.1.2 t0 _ ht).2
  have hcomp : comp = D.1 ci := Option.some.inj (k3.symm.trans hcls.1)
  subst hcomp
  obtain ⟨kC, hkC, -⟩ := hcls.2
  rw [vp_cell_q] at hat
  refine W.aast C.1.1 C.1.2.1 hat (fun q h => by cases h) (fun h => by cases h) k1 k2 rfl hkC ⟨fun q => nI_pos (by omega) q, by show _ < (arrV _ _ _).slots.size; rw [arrV_size, hcn]; exact hk⟩ g1 (fun q h => by rw [g3] at h; cases h) (by rw [g2]; exact hkC) (by rw [g2]; exact va_assign hcls) rfl rfl hdg fun H1 h1 h2 h3 => ?_
  refine kk H1 _ ls (hΩ.set ha ?_ h2 h3) (fun q hq => ?_) hL
  · show H1[a]? = some (vp_cell _ _)
    rw [h1, hcn, vp_cell_q, arrV_store]
    congr 2
    funext q
    by_cases hq : q = k
    · subst hq; simp [updV, va_rf]
    · simp [updV, hq]
  · rcases List.mem_append.mp hq with hq | hq
    · exact hs q hq
    · rw [List.mem_singleton.mp hq]; exact hbb
theorem y_outer (c : ClassId) (N h0 : Nat) : ∀ i : Nat, Jvm.Free.Multi.outerC c N h0 i = arrV c N (fun j => va_rf (if j < i then some (h0 + 1 + j) else none)) := by
  intro i
  induction i with
  | zero =>
    show ({ cls := c, slots := Array.replicate N .null, vm := .none } : Cell) = _
    rw [arrV_new]
    congr 1
  | succ i ih =>
    show (Jvm.Free.Multi.outerC c N h0 i).setSlot i (.ref (h0 + 1 + i)) = _
    rw [ih, arrV_store]
    congr 1
    funext j
    by_cases e : j = i
    · subst e
      simp [updV, va_rf]
    · by_cases h : j < i
      · simp [updV, e, h, Nat.lt_succ_of_lt h]
      · simp [updV, e, h, show ¬ j < i + 1 by omega]
/-- new T[n][k] -/
theorem y_mna (C : xC p m c cc nL s args own meth R cells slots D cA) (key : yK) (ikey : Nat → yK) {ty : FieldType} {n k idx : Nat} {cAo cAi : ClassId} {zz : vp_A} (ht : s.vm.findClass ("[" ++ (FieldType.array ty).toString) = some cAo) (ht1 : s.vm.findClass (FieldType.array ty).toString = some cAi) (hcl : Cond.classLink own idx ("[" ++ (FieldType.array ty).toString) ∈ lw_g) (hao : FieldType.array ty ∈ yTys) (harr : Cond.arrayClass ty ∈ lw_g)
    (hn : n < 2147483648) (hk : k < 2147483648) (hb1 : n * 4 ≤ 536870912) (hb2 : k * componentBytes ty ≤ 536870912) (hb3 : k ≤ 536870912) (hdf : fits ty (defaultValue ty) = true) (hdd : (defaultValue ty).isDefault = true) (hf : cells + (1 + n) ≤ R.cells ∧ slots + (n + n * k) ≤ R.slots) (hz : ∀ c : ClassId, Jvm.Free.Multi.innerC c k (defaultValue ty) = vp_cell c zz) (hdg : decode cc pc = .ok (.multianewarray idx 2, 4))
    (kk : ∀ a, (∀ b, a ≤ b → M b = none) → XW p l e R s m args below meth c (cells + 1 + n) (slots + n + n * k) nL bs Q (yW D bs sb sc (fun b => if b = a then some (key, .inl (cAo, n, .inr (.inr (.inr (.inr (fun i => if i < n then some (a + 1 + i) else none)))))) else if a < b ∧ b < a + 1 + n then some (ikey (b - (a + 1)), .inl (cAi, zz)) else M b)) (pc + 4) L (.ref a :: st)) : XW p l e R s m args below meth c cells slots nL bs Q (yW D bs sb sc M) pc L (.int (nI k) :: .int (nI n) :: st) := by
  intro H locs ls hΩ hs hL T hT Xs
  have hts := C.1.2.2.2.2
  have hcn : (nI n).toNatClampNeg = n := nI_clamp hn
  have hck : (nI k).toNatClampNeg = k := nI_clamp hk
  obtain ⟨vm₁, cA1, comp, -, fA, fC, hO, -, X', step⟩ := Xs.multianewarray2F C.1.1 C.1.2.2.2.1 (hts _ hcl) (C.2.2.2.2.2.2.2 _ hao) (hts _ harr) (g := F0 m pc ls (.int (nI k) :: .int (nI n) :: st)) rfl (by rw [C.1.2.1]; exact hdg) rfl (nI_pos hn) (nI_pos hk) (by rw [hcn]; exact hb1) (by rw [hck]; exact hb2) (by rw [hck]; exact hb3) hdf hdd (by rw [hcn]; exact hf.1) (by rw [hcn, hck]; exact hf.2)
  rw [hcn, hck] at X' step
  have e1 : cA1 = cAo := Option.some.inj (fA.symm.trans ht)
  have e2 : comp = cAi := Option.some.inj (fC.symm.trans ht1)
  subst e1
  subst e2
  generalize hF : Jvm.Free.Multi.fill (T.setVm vm₁) cA1 comp n k (defaultValue ty) n = F at X' step
  have hTh : (T.setVm vm₁).heap = H := hT
  obtain ⟨f1, f2, -, -⟩ := Jvm.Free.Multi.fill_facts (T.setVm vm₁) cA1 comp n k (defaultValue ty) n
  rw [hF, hTh] at f1 f2
  have hold : ∀ x : Nat, x < H.size → F.heap[x]? = H[x]? := fun x hx => by
    have := Jvm.Free.Multi.fill_old (T.setVm vm₁) cA1 comp n k (defaultValue ty) (a := x) (by rw [hTh]; exact hx) n
    rw [hF, hTh] at this
    exact this
  have hrow : ∀ j : Nat, j < n → F.heap[H.size + 1 + j]? = some (vp_cell comp zz) := fun j hj => by
    have := Jvm.Free.Multi.fill_inner (T.setVm vm₁) cA1 comp n k (defaultValue ty) n j hj
    rw [hF, hTh, hz] at this
    exact this
  have hout : F.heap[H.size]? = some (vp_cell cA1 (n, .inr (.inr (.inr (.inr (fun i => if i < n then some (H.size + 1 + i) else none)))))) := by
    rw [vp_cell_q, ← y_outer]
    exact f2
  have hall : ∀ b, H.size ≤ b → M b = none := fun b hb => by
    cases hm : M b with
    | none => rfl
    | some q =>
      obtain ⟨k', e'⟩ := q
      have h9 : b < H.size := (hΩ.2 _ _ _ hm).1.lt
      omega
  obtain ⟨⟨w1, w2, w3⟩, w4⟩ := hΩ
  have hΩ' : yW D bs sb sc (fun b => if b = H.size then some (key, .inl (cA1, n, .inr (.inr (.inr (.inr (fun i => if i < n then some (H.size + 1 + i) else none)))))) else if H.size < b ∧ b < H.size + 1 + n then some (ikey (b - (H.size + 1)), .inl (comp, zz)) else M b) F.heap := by
    refine ⟨⟨by rw [hold sb (by omega)]; exact w1, w2, by rw [f1]; omega⟩, fun b k' e' hb => ?_⟩
    change (if b = H.size then some (key, _) else (if H.size < b ∧ b < H.size + 1 + n then some (ikey (b - (H.size + 1)), _) else M b)) = some (k', e') at hb
    by_cases q1 : b = H.size
    · subst q1
      rw [if_pos rfl] at hb
      cases hb
      exact ⟨hout, w3⟩
    · rw [if_neg q1] at hb
      by_cases q2 : H.size < b ∧ b < H.size + 1 + n
      · rw [if_pos q2] at hb
        cases hb
        refine ⟨?_, by omega⟩
        show F.heap[b]? = some (vp_cell comp zz)
        have := hrow (b - (H.size + 1)) (by omega)
        rw [show H.size + 1 + (b - (H.size + 1)) = b by omega] at this
        exact this
      · rw [if_neg q2] at hb
        obtain ⟨g1, g2⟩ := w4 b k' e' hb
        exact ⟨g1.kept (hold _ g1.lt), g2⟩
  obtain ⟨t, a1, b1⟩ := kk H.size hall F.heap locs ls hΩ' hs hL F rfl X'
  refine ⟨t, step t ?_, b1⟩
  have e : T.heap.size = H.size := by rw [hT]
  rw [e]
  exact a1
end YROWS
