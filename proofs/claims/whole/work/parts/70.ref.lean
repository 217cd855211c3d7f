/-! the reference's world while it is made -/
def mfl (g : Nat → Value) : List Value := (List.range 38).map g
theorem mfl_get (g : Nat → Value) {k : Nat} (h : k < 38) : (mfl g)[k]? = some (g k) := by
  unfold mfl
  rw [List.getElem?_map, List.getElem?_range h]
  rfl
theorem mfl_len (g : Nat → Value) : (mfl g).length = 38 := by
  unfold mfl
  rw [List.length_map, List.length_range]
theorem mfl_set (g : Nat → Value) {k : Nat} (v : Value) : (mfl g).set k v = mfl (fun i => if i = k then v else g i) := by
  refine List.ext_getElem? (fun i => ?_)
  rw [List.getElem?_set, mfl_len]
  by_cases h : k = i
  · subst h
    by_cases h2 : k < 38
    · rw [if_pos rfl, if_pos h2, mfl_get _ h2, if_pos rfl]
    · rw [if_pos rfl, if_neg h2, List.getElem?_eq_none (by rw [mfl_len]; omega)]
  · rw [if_neg h]
    by_cases h2 : i < 38
    · rw [mfl_get _ h2, mfl_get _ h2, if_neg (fun e => h e.symm)]
    · rw [List.getElem?_eq_none (by rw [mfl_len]; omega), List.getElem?_eq_none (by rw [mfl_len]; omega)]
def b100 (f : Nat) : Bool := decide (100 ≤ f)
/-- the old world, the object with these fields, its arrays -/
def yMs (M W : yM) (o : Nat) (g : Nat → Value) (A : Nat → Option (Nat × va_E)) : Prop := yF b100 M W ∧ W o = some ((100, 0, 0), .inr (10, mfl g)) ∧ ∀ f a e, A f = some (a, e) → 0 < f ∧ W a = some ((100 + f, 0, 0), e)
section REFW
variable {M W : yM} {o : Nat} {g : Nat → Value} {A : Nat → Option (Nat × va_E)}
theorem yMs.put (h : yMs M W o g A) (k : Nat) (v : Value) : yMs M (yU W o ((100, 0, 0), .inr (10, (mfl g).set k v))) o (fun i => if i = k then v else g i) A := by
  obtain ⟨h1, h2, h3⟩ := h
  refine ⟨h1.trans (yF.set h2 rfl), by rw [yU_s, mfl_set], fun f a e hA => ⟨(h3 f a e hA).1, ?_⟩⟩
  have h4 := h3 f a e hA
  have : ¬ a = o := y_ne h4.2 h2 (by show ¬ 100 + f = 100; omega)
  exact (yU_o _ _ this).trans h4.2
theorem yMs.new (h : yMs M W o g A) {f a : Nat} {e : va_E} (hf : 0 < f) (ha : W a = none) : yMs M (yU W a ((100 + f, 0, 0), e)) o g (fun i => if i = f then some (a, e) else A i) := by
  obtain ⟨h1, h2, h3⟩ := h
  have hx : ∀ {x : Nat} {q}, W x = some q → yU W a ((100 + f, 0, 0), e) x = some q := fun {x q} hx => (yU_o _ _ (fun e => by rw [e, ha] at hx; cases hx)).trans hx
  refine ⟨h1.trans (yF.ext (fun x q => hx)), hx h2, fun f' a' e' hA => ?_⟩
  change (if f' = f then some (a, e) else A f') = some (a', e') at hA
  by_cases q : f' = f
  · rw [if_pos q] at hA
    cases hA
    subst q
    exact ⟨hf, yU_s _ _ _⟩
  · rw [if_neg q] at hA
    exact ⟨(h3 f' a' e' hA).1, hx (h3 f' a' e' hA).2⟩
theorem yMs.upd (h : yMs M W o g A) {f a : Nat} {e e' : va_E} (hA : A f = some (a, e)) : yMs M (yU W a ((100 + f, 0, 0), e')) o g (fun i => if i = f then some (a, e') else A i) := by
  obtain ⟨h1, h2, h3⟩ := h
  obtain ⟨p1, p2⟩ := h3 f a e hA
  have hoa : ¬ o = a := y_ne h2 p2 (by show ¬ 100 = 100 + f; omega)
  refine ⟨h1.trans (yF.set p2 (decide_eq_true (by omega))), (yU_o _ _ hoa).trans h2, fun f' a' e2 hA' => ?_⟩
  change (if f' = f then some (a, e') else A f') = some (a', e2) at hA'
  by_cases q : f' = f
  · rw [if_pos q] at hA'
    cases hA'
    subst q
    exact ⟨p1, yU_s _ _ _⟩
  · rw [if_neg q] at hA'
    obtain ⟨p3, p4⟩ := h3 f' a' e2 hA'
    exact ⟨p3, (yU_o _ _ (y_ne p4 p2 (by show ¬ 100 + f' = 100 + f; omega))).trans p4⟩
end REFW
section REFROWS
variable {p : Program} {l : Launch} {e : Env} {R : Room} {s : State} {m : MethodId} {args : Array Value} {below : List Frame} {meth : Method} {c : Code} {cells slots cells' slots' nL bs sb : Nat} {Q : State → Prop} {sc : Cell} {M W : yM}
variable {cc : ByteArray} {own : String} {D : va_G} {cA : Nat → ClassId} {pc : Nat} {L : List (Nat × Value)} {st : List Value} {o : Nat} {g : Nat → Value} {A : Nat → Option (Nat × va_E)}
/-- putfield of the reference's object -/
theorem y_mput (C : xC p m c cc nL s args RX11 meth R cells slots D cA) (hnm : meth.name = "<init>") (hI : yMs M W o g A) (k : Nat) {idx : Nat} {v : Value} (hk : k < 38) (hfl : xFl RX11 idx TX11 k) (hfin : (TX11 k).2.2.2 = true) (hdecl : (TX11 k).1 = RX11) (hn : narrow (tyX11 k) v = v) (hfit : fits (tyX11 k) v = true) (hdg : decode cc pc = .ok (.putfield idx, 3))
    (kk : ∀ W', yMs M W' o (fun i => if i = k then v else g i) A → XW p l e R s m args below meth c cells slots nL bs Q (yW D bs sb sc W') (pc + 3) L st) : XW p l e R s m args below meth c cells slots nL bs Q (yW D bs sb sc W) pc L (v :: .ref o :: st) :=
  y_putF C cl_X11 hI.2.1 hk hfl hfin hnm hdecl hn hfit (by rw [mfl_len]; exact hk) hdg (kk _ (hI.put k v))
/-- a new array of the reference's -/
theorem y_nap (C : xC p m c cc nL s args RX11 meth R cells slots D cA) (hnm : meth.name = "<init>") (hI : yMs M W o g A) (f t0 : Nat) {idx : Nat} {atype : ArrayType} {ty : FieldType} {cA' : ClassId} {n : Nat} (a0 : vp_A) (hf0 : 0 < f) (ht : (xTys cA)[t0]? = some (cA', ty)) (hty : newarray.typeOf atype = ty) (hRA : ∀ (U : State) (k : ClassId), va_RA U k ty → U.vm.findClass ("[" ++ ty.toString) = some k) (harr : Cond.arrayClass ty ∈ lw_g) (ha : ∀ k : ClassId, vp_cell k a0 = arrV k n (fun _ => defaultValue ty)) (hn : n < 2147483648) (hb : n * componentBytes ty ≤ 536870912)
    (hf : cells' ≤ R.cells ∧ slots' ≤ R.slots) (hc : cells + 1 = cells') (hs : slots + n = slots') (hk : f < 38) (hfl : xFl RX11 idx TX11 f) (hfin : (TX11 f).2.2.2 = true) (hdecl : (TX11 f).1 = RX11) (hnn : ∀ a : Nat, narrow (tyX11 f) (.ref a) = .ref a) (hfit : ∀ a : Nat, fits (tyX11 f) (.ref a) = true) (d1 : decode cc pc = .ok (.newarray atype, 2)) (d2 : decode cc (pc + 2) = .ok (.putfield idx, 3))
    (kk : ∀ W' a, yMs M W' o (fun i => if i = f then .ref a else g i) (fun i => if i = f then some (a, .inl (cA', a0)) else A i) → XW p l e R s m args below meth c cells' slots' nL bs Q (yW D bs sb sc W') (pc + 2 + 3) L st) : XW p l e R s m args below meth c cells slots nL bs Q (yW D bs sb sc W) pc L (.int (nI n) :: .ref o :: st) := by
  subst hc hs
  refine y_newa C (100 + f, 0, 0) t0 ht hty hRA harr ha hn hb hf d1 (fun a hna => ?_)
  have C1 := C.grow hf.1 hf.2
  exact y_mput C1 hnm (hI.new hf0 hna) f hk hfl hfin hdecl (hnn a) (hfit a) d2 (fun W' hW' => kk W' a hW')
theorem y_mget (C : xC p m c cc nL s args RX11 meth R cells slots D cA) (hI : yMs M W o g A) (k : Nat) {idx : Nat} {v : Value} (hk : k < 38) (hfl : xFl RX11 idx TX11 k) (hv : g k = v) (hdg : decode cc pc = .ok (.getfield idx, 3))
    (kk : XW p l e R s m args below meth c cells slots nL bs Q (yW D bs sb sc W) (pc + 3) L (v :: st)) : XW p l e R s m args below meth c cells slots nL bs Q (yW D bs sb sc W) pc L (.ref o :: st) :=
  y_get C cl_X11 hI.2.1 hk hfl (by rw [mfl_get _ hk, hv]) hdg kk
/-- bastore -/
theorem y_bast (C : xC p m c cc nL s args own meth R cells slots D cA) {a n k : Nat} {key : yK} {g : Nat → Int32} {v : Int32} (hx : v = 0 ∨ v = 1) (ha : M a = some (key, .inl (cA 2, n, .inl g))) (hk : k < n) (hn : n < 2147483648) (hdg : decode cc pc = .ok (.bastore, 1))
    (kk : XW p l e R s m args below meth c cells slots nL bs Q (yW D bs sb sc (yU M a (key, .inl (cA 2, n, .inl (fun k' => if k' = k then v else g k'))))) (pc + 1) L st) : XW p l e R s m args below meth c cells slots nL bs Q (yW D bs sb sc M) pc L (.int v :: .int (nI k) :: .ref a :: st) := by
  intro H locs ls hΩ hs hL
  have hcl : (nI k).toNatClampNeg = k := nI_clamp (by omega)
  refine W.zast C.1.1 C.1.2.1 (hΩ.2 a _ _ ha).1 (r_isa C.2.2.2.1 (t0 := 2) rfl _) (r_kn _) (r_in (x := (n, .inl g)) (fun q => q.elim (nI_pos (by omega)) (fun q => by rw [hcl] at q; exact absurd q (by show ¬ n ≤ k; omega)))) rfl rfl hdg fun H1 h1 h2 h3 => ?_
  refine kk H1 _ ls (hΩ.set ha ?_ h2 h3) (fun q hq => ?_) hL
  · show H1[a]? = some (vp_cell _ _)
    rw [h1, show narrow .boolean (.int v) = .int v from by rcases hx with rfl | rfl <;> rfl, xa_setI, hcl]
  · rcases List.mem_append.mp hq with hq | hq
    · exact hs q hq
    · rw [List.mem_singleton.mp hq]; exact (hΩ.2 a _ _ ha).2
theorem fun_fill (k : Nat) (v : Int32) : (fun k' => if k' = k then v else if k' < k then v else 0) = fun k' => if k' < k + 1 then v else 0 := by
  funext k'
  by_cases e : k' = k
  · rw [if_pos e, if_pos (by omega)]
  · by_cases e2 : k' < k
    · rw [if_neg e, if_pos e2, if_pos (by omega)]
    · rw [if_neg e, if_neg e2, if_neg (by omega)]
theorem opt_ite (f : Nat) (x y : Nat × va_E) (A : Nat → Option (Nat × va_E)) : (fun i => if i = f then some y else (fun i => if i = f then some x else A i) i) = fun i => if i = f then some y else A i := by
  funext i
  by_cases e : i = f
  · rw [if_pos e, if_pos e]
  · rw [if_neg e, if_neg e]
    exact if_neg e
end REFROWS
