/-! the world's rows: fields, arrays, calls, ends -/
theorem va_P1 {D : va_G} {cl : List vw_C} {q : Nat × va_E} {H : Heap} (h : va_at D cl q H) : va_P D cl [q] H := by
  intro k q' hk
  cases k with
  | zero => cases hk; exact h
  | succ k => simp at hk
theorem upI_at (σ : Sg) (f i j k : Nat) (v : Int32) : (upI σ f i j k v).1 f i j = fun k' => if k' = k then v else σ.1 f i j k' := by
  funext k'
  simp [upI]
theorem upI_off (σ : Sg) (f i j k : Nat) (v : Int32) {f' i' j' : Nat} (h : ¬ (f' = f ∧ i' = i ∧ j' = j)) : (upI σ f i j k v).1 f' i' j' = σ.1 f' i' j' := by
  funext k'
  simp only [upI]
  rw [if_neg (fun q => h ⟨q.1, q.2.1, q.2.2.1⟩)]
theorem upL_at (σ : Sg) (f i j k : Nat) (v : Int64) : (upL σ f i j k v).2.1 f i j = fun k' => if k' = k then v else σ.2.1 f i j k' := by
  funext k'
  simp [upL]
theorem upL_off (σ : Sg) (f i j k : Nat) (v : Int64) {f' i' j' : Nat} (h : ¬ (f' = f ∧ i' = i ∧ j' = j)) : (upL σ f i j k v).2.1 f' i' j' = σ.2.1 f' i' j' := by
  funext k'
  simp only [upL]
  rw [if_neg (fun q => h ⟨q.1, q.2.1, q.2.2.1⟩)]
theorem upR_at (σ : Sg) (f k v : Nat) : (upR σ f k v).2.2 f = fun k' => if k' = k then v else σ.2.2 f k' := by
  funext k'
  simp [upR]
theorem upR_off (σ : Sg) (f k v : Nat) {f' : Nat} (h : ¬ f' = f) : (upR σ f k v).2.2 f' = σ.2.2 f' := by
  funext k'
  simp only [upR]
  rw [if_neg (fun q => h q.1)]
theorem tpI_at (τ : Tg) (f k : Nat) (v : Int32) : (tpI τ f k v).1 f = fun k' => if k' = k then v else τ.1 f k' := by
  funext k'
  simp [tpI]
theorem tpI_off (τ : Tg) (f k : Nat) (v : Int32) {f' : Nat} (h : ¬ f' = f) : (tpI τ f k v).1 f' = τ.1 f' := by
  funext k'
  simp only [tpI]
  rw [if_neg (fun q => h q.1)]
theorem tpL_at (τ : Tg) (f k : Nat) (v : Int64) : (tpL τ f k v).2 f = fun k' => if k' = k then v else τ.2 f k' := by
  funext k'
  simp [tpL]
theorem tpL_off (τ : Tg) (f k : Nat) (v : Int64) {f' : Nat} (h : ¬ f' = f) : (tpL τ f k v).2 f' = τ.2 f' := by
  funext k'
  simp only [tpL]
  rw [if_neg (fun q => h q.1)]
section XREP
variable {G : xG} {z : Nat → Nat} {σ : Sg} {τ : Tg} {H H1 : Heap}
/-- one cell of the system changes -/
theorem xRep.setX (hΩ : xRep G z σ τ H) {σ' : Sg} {f i j : Nat} (hd : xdom z f i j) (hat : va_at (xD G) vwCl (xad G f i j, xCell G z f i j (σ'.1 f i j) (σ'.2.1 f i j) (σ'.2.2 f)) H1) (oq : ∀ q : Nat, q ≠ xad G f i j → H1[q]? = H[q]?)
    (off : ∀ f' i' j', xdom z f' i' j' → ¬ (f' = f ∧ i' = i ∧ j' = j) → σ'.1 f' i' j' = σ.1 f' i' j' ∧ σ'.2.1 f' i' j' = σ.2.1 f' i' j' ∧ σ'.2.2 f' = σ.2.2 f') : xRep G z σ' τ H1 := by
  obtain ⟨⟨h1, h2, h3⟩, h4, h5⟩ := hΩ
  have hb := (h4 f i j hd).2
  refine ⟨⟨by rw [oq _ (fun q => by omega)]; exact h1, h2, h3⟩, fun f' i' j' hd' => ?_, fun f' hf' => ?_⟩
  · by_cases hq : f' = f ∧ i' = i ∧ j' = j
    · obtain ⟨rfl, rfl, rfl⟩ := hq
      exact ⟨hat, hb⟩
    · obtain ⟨e1, e2, e3⟩ := off f' i' j' hd' hq
      rw [e1, e2, e3]
      exact ⟨(h4 f' i' j' hd').1.kept (oq _ (fun q => hq (h3.1 f i j f' i' j' hd hd' q.symm))), (h4 f' i' j' hd').2⟩
  · exact ⟨(h5 f' hf').1.kept (oq _ (fun q => h3.2.2 f i j f' hd hf' q.symm)), (h5 f' hf').2⟩
theorem xRep.setM (hΩ : xRep G z σ τ H) {τ' : Tg} {f : Nat} (hd : mB f = true) (hat : va_at (xD G) vwCl (xaM G f, mCell G z f (τ'.1 f) (τ'.2 f)) H1) (oq : ∀ q : Nat, q ≠ xaM G f → H1[q]? = H[q]?)
    (off : ∀ f', ¬ f' = f → τ'.1 f' = τ.1 f' ∧ τ'.2 f' = τ.2 f') : xRep G z σ τ' H1 := by
  obtain ⟨⟨h1, h2, h3⟩, h4, h5⟩ := hΩ
  have hb := (h5 f hd).2
  refine ⟨⟨by rw [oq _ (fun q => by omega)]; exact h1, h2, h3⟩, fun f' i' j' hd' => ?_, fun f' hf' => ?_⟩
  · exact ⟨(h4 f' i' j' hd').1.kept (oq _ (fun q => h3.2.2 f' i' j' f hd' hd q)), (h4 f' i' j' hd').2⟩
  · by_cases hq : f' = f
    · subst hq
      exact ⟨hat, hb⟩
    · obtain ⟨e1, e2⟩ := off f' hq
      rw [e1, e2]
      exact ⟨(h5 f' hf').1.kept (oq _ (fun q => hq (h3.2.1 f f' hd hf' q.symm))), (h5 f' hf').2⟩
end XREP
theorem xa_setI {cA : ClassId} {n k : Nat} {g : Nat → Int32} {v : Int32} : (vp_cell cA (n, .inl g)).setSlot k (.int v) = vp_cell cA (n, .inl (fun k' => if k' = k then v else g k')) := by
  rw [vp_cell_i, vp_cell_i, arrV_store]
  congr 1
  funext q
  by_cases hq : q = k
  · subst hq; simp [updV]
  · simp [updV, hq]
theorem xa_setL {cA : ClassId} {n k : Nat} {g : Nat → Int64} {v : Int64} : (vp_cell cA (n, .inr (.inl g))).setSlot k (.long v) = vp_cell cA (n, .inr (.inl (fun k' => if k' = k then v else g k'))) := by
  rw [vp_cell_l, vp_cell_l, arrV_store]
  congr 1
  funext q
  by_cases hq : q = k
  · subst hq; simp [updV]
  · simp [updV, hq]
theorem xa_setQ {cA : ClassId} {n k v : Nat} {g : Nat → Nat} : (vp_cell cA (n, xq g)).setSlot k (.ref v) = vp_cell cA (n, xq (fun k' => if k' = k then v else g k')) := by
  unfold xq
  rw [vp_cell_q, vp_cell_q, arrV_store]
  congr 1
  funext q
  by_cases hq : q = k
  · subst hq; simp [updV, va_rf]
  · simp [updV, hq]
section HROWS
variable {p : Program} {l : Launch} {e : Env} {R : Room} {s : State} {m : MethodId} {args : Array Value} {below : List Frame} {meth : Method} {c : Code} {cells slots nL bs : Nat} {Q : State → Prop} {Ω : Heap → Prop}
variable {cc : ByteArray} {own : String} {D : va_G} {cA : Nat → ClassId} {pc : Nat} {L : List (Nat × Value)} {st : List Value} {ρ : Type} {rr : ρ}
variable {H : Heap} {locs : List Loc} {ls : Array Slot}
theorem xFl.same {index : Nat} {T : u_T} {k : Nat} (hts : ∀ w ∈ lw_g, w.before args s = true) (h : xFl own index T k) : ∃ ref : String, (Cond.fieldLink own index ref (T k).2.1 (T k).2.2.1).before args s = true ∧ ∀ x, s.fieldFound? (T k).1 (T k).2.1 (T k).2.2.1 = some x → s.fieldFound? ref (T k).2.1 (T k).2.2.1 = some x := by
  obtain ⟨ref, h1, h2⟩ := h
  refine ⟨ref, hts _ h1, fun x hx => ?_⟩
  rcases h2 with h2 | h2
  · rw [h2]; exact hx
  · exact u_same (hts _ h2) x hx
/-- getfield, of a cell at an address -/
theorem r_get (C : xC p m c cc nL s args own meth R cells slots D cA) {ci k idx N a : Nat} {CC : String} {T : u_T} {ty : Nat → FieldType} {fs : List Value} {v : Value} (K : xCls ci CC T N ty) (hat : va_at D vwCl (a, .inr (ci, fs)) H) (hk : k < N) (hfl : xFl own idx T k) (hv : fs[k]? = some v) (hdg : decode cc pc = .ok (.getfield idx, 3))
    (kk : W p l e R s m args below meth c H locs cells slots Q (F0 m (pc + 3) ls (v :: st))) : W p l e R s m args below meth c H locs cells slots Q (F0 m pc ls (.ref a :: st)) := by
  obtain ⟨ref, h1, h2⟩ := hfl.same C.1.2.2.2.2
  exact va_get C.1.1 C.1.2.1 C.1.2.2.2.2 K.1 C.1.2.2.2.1 C.2.2.2.1 (va_P1 hat) 0 rfl K.2.2.2 k hk h1 h2 hv hdg kk
/-- putfield of a field that isn't final -/
theorem r_put (C : xC p m c cc nL s args own meth R cells slots D cA) {ci k idx N a : Nat} {CC : String} {T : u_T} {ty : Nat → FieldType} {fs : List Value} {v : Value} (K : xCls ci CC T N ty) (hat : va_at D vwCl (a, .inr (ci, fs)) H) (hk : k < N) (hfl : xFl own idx T k) (hfin : (T k).2.2.2 = false) (hn : narrow (ty k) v = v) (hfit : fits (ty k) v = true) (hl : k < fs.length) (hdg : decode cc pc = .ok (.putfield idx, 3))
    (kk : ∀ (H1 : Heap) (sl : Nat), va_at D vwCl (a, .inr (ci, fs.set k v)) H1 → H1.size = H.size → (∀ q : Nat, q ≠ a → H1[q]? = H[q]?) → W p l e R s m args below meth c H1 (locs ++ [⟨a, sl⟩]) cells slots Q (F0 m (pc + 3) ls st)) : W p l e R s m args below meth c H locs cells slots Q (F0 m pc ls (v :: .ref a :: st)) := by
  obtain ⟨ref, h1, h2⟩ := hfl.same C.1.2.2.2.2
  have hts := C.1.2.2.2.2
  have hap := va_apart (own := own) hts K.1 ty K.2.1 K.2.2.1 C.2.2.2.1 K.2.2.2
  obtain ⟨r, hr, cell, q1, q2, q3, q4⟩ := hat
  have hr : r = (CC, T, N) := Option.some.inj (hr.symm.trans K.2.2.2)
  subst hr
  obtain ⟨hS, hfc, kC, hkC, hkind⟩ := C.2.2.2.1.1 ci _ K.2.2.2
  obtain ⟨cf, kf, fi, f, hi, hsl⟩ := hS k hk
  have hlay := hts _ (K.1 _ (u_in_lay hk))
  unfold u_lay at hlay
  rw [if_neg (by rw [hfin]; decide)] at hlay
  have hst := (u_facts hfc hkC (u_lays hts K.1 hk) hi).1
  have h6 := u_store hfc hkC hkind hlay hi (K.2.1 k hk) hn hfit
  refine W.putK C.1.1 C.1.2.1 (f := f) ⟨C.1.2.2.2.1, h1, ⟨_, _, _, h2 _ hi⟩, hst⟩ (by rw [q2]; exact h6) q1 q3 (by rw [hsl]; exact k2_hasslot (q4 k hk)) rfl rfl hdg fun H' e1 e2 e3 => ?_
  rw [hsl] at e1 ⊢
  exact kk H' _ ⟨_, K.2.2.2, t_OB.to (V := updV (vp_V fs) k v) ⟨_, e1, q2, q3, t_set q4 hap hk v⟩ (fun j _ => vp_updV_set hl v j)⟩ e2 e3
/-- putfield of a final field, in its class's own constructor -/
theorem r_putF (C : xC p m c cc nL s args own meth R cells slots D cA) {ci k idx N a : Nat} {CC : String} {T : u_T} {ty : Nat → FieldType} {fs : List Value} {v : Value} (K : xCls ci CC T N ty) (hat : va_at D vwCl (a, .inr (ci, fs)) H) (hk : k < N) (hfl : xFl own idx T k) (hfin : (T k).2.2.2 = true) (hin : meth.name = "<init>") (hdecl : (T k).1 = own) (hn : narrow (ty k) v = v) (hfit : fits (ty k) v = true) (hl : k < fs.length) (hdg : decode cc pc = .ok (.putfield idx, 3))
    (kk : ∀ (H1 : Heap) (sl : Nat), va_at D vwCl (a, .inr (ci, fs.set k v)) H1 → H1.size = H.size → (∀ q : Nat, q ≠ a → H1[q]? = H[q]?) → W p l e R s m args below meth c H1 (locs ++ [⟨a, sl⟩]) cells slots Q (F0 m (pc + 3) ls st)) : W p l e R s m args below meth c H locs cells slots Q (F0 m pc ls (v :: .ref a :: st)) := by
  obtain ⟨ref, h1, h2⟩ := hfl.same C.1.2.2.2.2
  have hts := C.1.2.2.2.2
  have hap := va_apart (own := own) hts K.1 ty K.2.1 K.2.2.1 C.2.2.2.1 K.2.2.2
  obtain ⟨r, hr, cell, q1, q2, q3, q4⟩ := hat
  have hr : r = (CC, T, N) := Option.some.inj (hr.symm.trans K.2.2.2)
  subst hr
  obtain ⟨hS, hfc, kC, hkC, hkind⟩ := C.2.2.2.1.1 ci _ K.2.2.2
  obtain ⟨cf, kf, fi, f, hi, hsl⟩ := hS k hk
  have hlay := hts _ (K.1 _ (u_in_lay hk))
  unfold u_lay at hlay
  rw [if_pos hfin] at hlay
  have hst := (u_facts hfc hkC (u_lays hts K.1 hk) hi).1
  have hcf : m.cls = cf := by
    obtain ⟨_, _, c', _, _, _, -, -, hf', -, -, -, hown2, -⟩ := Cond.laysFinal_spec hlay
    have e1 : c' = cf := by have := hi.symm.trans hf'; simp at this; exact this.1.symm
    rw [hdecl] at hown2
    rw [← e1]; exact Option.some.inj (C.1.2.2.2.1.symm.trans hown2)
  have h6 := u_fits hfc hkC hkind (Or.inr hlay) hi (K.2.1 k hk) hn hfit
  refine W.putFinK C.1.1 C.1.2.1 C.1.2.2.2.1 h1 (h2 _ hi) hst hcf hin (by rw [q2]; exact h6) q1 q3 (by rw [hsl]; exact k2_hasslot (q4 k hk)) rfl rfl hdg fun H' e1 e2 e3 => ?_
  rw [hsl] at e1 ⊢
  exact kk H' _ ⟨_, K.2.2.2, t_OB.to (V := updV (vp_V fs) k v) ⟨_, e1, q2, q3, t_set q4 hap hk v⟩ (fun j _ => vp_updV_set hl v j)⟩ e2 e3
theorem r_in {i : Int32} {cA' : ClassId} {x : vp_A} (hin : ¬ (i < 0 ∨ x.1 ≤ i.toNatClampNeg)) : ¬ (i < 0 ∨ (vp_cell cA' x).slots.size ≤ i.toNatClampNeg) := by
  obtain ⟨n, f | f | f | f | f⟩ := x <;> simpa [vp_cell, arrV_size] using hin
theorem r_isa (hK : va_K D vwCl (xTys cA) s) {t0 : Nat} {cA' : ClassId} {ty : FieldType} (ht : (xTys cA)[t0]? = some (cA', ty)) (x : vp_A) : s.isArrayOf (vp_cell cA' x) ty := by
  obtain ⟨n, f | f | f | f | f⟩ := x
  · exact (hK.2 t0 _ ht).1 n (fun j => .int (f j))
  · exact (hK.2 t0 _ ht).1 n (fun j => .long (f j))
  · exact (hK.2 t0 _ ht).1 n (fun j => .float (f j))
  · exact (hK.2 t0 _ ht).1 n (fun j => .double (f j))
  · exact (hK.2 t0 _ ht).1 n (fun j => va_rf (f j))
theorem r_kn {cA' : ClassId} (x : vp_A) : (vp_cell cA' x).vm ≠ .unknown := by
  obtain ⟨n, f | f | f | f | f⟩ := x <;> exact fun q => by cases q
end HROWS
section XHEAP
variable {p : Program} {l : Launch} {e : Env} {R : Room} {s : State} {m : MethodId} {args : Array Value} {below : List Frame} {meth : Method} {c : Code} {cells slots nL bs : Nat} {Q : State → Prop} {Ω Ω' : Heap → Prop}
variable {cc : ByteArray} {own : String} {pc : Nat} {L : List (Nat × Value)} {st : List Value} {ρ : Type} {rr : ρ}
variable {G : xG} {z : Nat → Nat} {σ : Sg} {τ : Tg} {f i j k : Nat}
theorem gdx_some {x : Int32} {n : Nat} {K : Nat → Option ρ} (h : gdx x n K = some rr) : ¬ (x < 0 ∨ n ≤ x.toNatClampNeg) ∧ x.toNatClampNeg < n ∧ K x.toNatClampNeg = some rr := by
  unfold gdx at h
  split at h
  · cases h
  next hin => exact ⟨hin, Nat.not_le.mp fun q => hin (Or.inr q), h⟩
/-- getfield of the system's object -/
theorem x_get (C : xC p m c cc nL s args own meth R cells slots (xD G) (xcA G)) {ci idx N : Nat} {CC : String} {T : u_T} {ty : Nat → FieldType} {fs : List Value} {v : Value} (K : xCls ci CC T N ty) (k : Nat) (hk : k < N) (hfl : xFl own idx T k) (hd : xdom z f i j) (hc : xCell G z f i j (σ.1 f i j) (σ.2.1 f i j) (σ.2.2 f) = .inr (ci, fs)) (hv : fs[k]? = some v) (hdg : decode cc pc = .ok (.getfield idx, 3))
    (kk : XW p l e R s m args below meth c cells slots nL (xbs G) Q (xRep G z σ τ) (pc + 3) L (v :: st)) : XW p l e R s m args below meth c cells slots nL (xbs G) Q (xRep G z σ τ) pc L (.ref (xad G f i j) :: st) := by
  intro H locs ls hΩ hs hL
  have hat := (hΩ.2.1 f i j hd).1
  rw [hc] at hat
  exact r_get C K hat hk hfl hv hdg (kk H locs ls hΩ hs hL)
theorem m_get (C : xC p m c cc nL s args own meth R cells slots (xD G) (xcA G)) {idx N ci : Nat} {CC : String} {T : u_T} {ty : Nat → FieldType} {fs : List Value} {v : Value} (K : xCls ci CC T N ty) (k : Nat) (hk : k < N) (hfl : xFl own idx T k) (hc : mCell G z 0 (τ.1 0) (τ.2 0) = .inr (ci, fs)) (hv : fs[k]? = some v) (hdg : decode cc pc = .ok (.getfield idx, 3))
    (kk : XW p l e R s m args below meth c cells slots nL (xbs G) Q (xRep G z σ τ) (pc + 3) L (v :: st)) : XW p l e R s m args below meth c cells slots nL (xbs G) Q (xRep G z σ τ) pc L (.ref (xaM G 0) :: st) := by
  intro H locs ls hΩ hs hL
  have hat := (hΩ.2.2 0 rfl).1
  rw [hc] at hat
  exact r_get C K hat hk hfl hv hdg (kk H locs ls hΩ hs hL)
theorem x_putI (C : xC p m c cc nL s args own meth R cells slots (xD G) (xcA G)) {ci idx N : Nat} {CC : String} {T : u_T} {ty : Nat → FieldType} {F : (Nat → Int32) → (Nat → Int64) → (Nat → Nat) → List Value} {v : Int32} {K : Sg → Option ρ} (K0 : xCls ci CC T N ty) (k : Nat) (hk : k < N) (hfl : xFl own idx T k) (hfin : (T k).2.2.2 = false) (hd : xdom z f i j) (hc : ∀ si sl sp, xCell G z f i j si sl sp = .inr (ci, F si sl sp)) (hset : ∀ si sl sp, F (fun k' => if k' = k then v else si k') sl sp = (F si sl sp).set k (.int v)) (hlen : ∀ si sl sp, k < (F si sl sp).length) (hn : narrow (ty k) (.int v) = .int v) (hfit : fits (ty k) (.int v) = true) (hdg : decode cc pc = .ok (.putfield idx, 3))
    (h : letv (upI σ f i j k v) K = some rr) (kk : ∀ σ', K σ' = some rr → XW p l e R s m args below meth c cells slots nL (xbs G) Q (xRep G z σ' τ) (pc + 3) L st) : XW p l e R s m args below meth c cells slots nL (xbs G) Q (xRep G z σ τ) pc L (.int v :: .ref (xad G f i j) :: st) := by
  intro H locs ls hΩ hs hL
  have hat := (hΩ.2.1 f i j hd).1
  have hb := (hΩ.2.1 f i j hd).2
  rw [hc] at hat
  refine r_put C K0 hat hk hfl hfin hn hfit (hlen _ _ _) hdg fun H1 sl h1 h2 h3 => ?_
  refine kk _ h H1 _ ls (hΩ.setX hd ?_ h3 (fun f' i' j' _ hq => ⟨upI_off _ _ _ _ _ _ hq, rfl, rfl⟩)) (fun q hq => ?_) hL
  · rw [hc, upI_at]
    show va_at _ _ (_, .inr (ci, F _ (σ.2.1 f i j) (σ.2.2 f))) _
    rw [hset]
    exact h1
  · rcases List.mem_append.mp hq with hq | hq
    · exact hs q hq
    · rw [List.mem_singleton.mp hq]; exact hb
theorem x_putR (C : xC p m c cc nL s args own meth R cells slots (xD G) (xcA G)) {ci idx N a : Nat} {CC : String} {T : u_T} {ty : Nat → FieldType} {F : (Nat → Int32) → (Nat → Int64) → (Nat → Nat) → List Value} {v : Nat} {K : Sg → Option ρ} (K0 : xCls ci CC T N ty) (k : Nat) (hk : k < N) (hfl : xFl own idx T k) (hfin : (T k).2.2.2 = false) (hd : xdom z f i j) (hone : ∀ i' j', xdom z f i' j' → i' = i ∧ j' = j) (hc : ∀ si sl sp, xCell G z f i j si sl sp = .inr (ci, F si sl sp)) (hset : ∀ si sl sp, F si sl (fun k' => if k' = k then v else sp k') = (F si sl sp).set k (.ref a)) (hlen : ∀ si sl sp, k < (F si sl sp).length) (hn : narrow (ty k) (.ref a) = .ref a) (hfit : fits (ty k) (.ref a) = true) (hdg : decode cc pc = .ok (.putfield idx, 3))
    (h : letv (upR σ f k v) K = some rr) (kk : ∀ σ', K σ' = some rr → XW p l e R s m args below meth c cells slots nL (xbs G) Q (xRep G z σ' τ) (pc + 3) L st) : XW p l e R s m args below meth c cells slots nL (xbs G) Q (xRep G z σ τ) pc L (.ref a :: .ref (xad G f i j) :: st) := by
  intro H locs ls hΩ hs hL
  have hat := (hΩ.2.1 f i j hd).1
  have hb := (hΩ.2.1 f i j hd).2
  rw [hc] at hat
  refine r_put C K0 hat hk hfl hfin hn hfit (hlen _ _ _) hdg fun H1 sl h1 h2 h3 => ?_
  refine kk _ h H1 _ ls (hΩ.setX hd ?_ h3 (fun f' i' j' hd' hq => ⟨rfl, rfl, upR_off _ _ _ _ (fun q => hq (by subst q; exact ⟨rfl, hone _ _ hd'⟩))⟩)) (fun q hq => ?_) hL
  · rw [hc, upR_at]
    show va_at _ _ (_, .inr (ci, F (σ.1 f i j) (σ.2.1 f i j) _)) _
    rw [hset]
    exact h1
  · rcases List.mem_append.mp hq with hq | hq
    · exact hs q hq
    · rw [List.mem_singleton.mp hq]; exact hb
theorem m_putI (C : xC p m c cc nL s args own meth R cells slots (xD G) (xcA G)) {ci idx N : Nat} {CC : String} {T : u_T} {ty : Nat → FieldType} {F : (Nat → Int32) → (Nat → Int64) → List Value} {v : Int32} {K : Tg → Option ρ} (K0 : xCls ci CC T N ty) (k : Nat) (hk : k < N) (hfl : xFl own idx T k) (hfin : (T k).2.2.2 = false) (hc : ∀ ti tl, mCell G z 0 ti tl = .inr (ci, F ti tl)) (hset : ∀ ti tl, F (fun k' => if k' = k then v else ti k') tl = (F ti tl).set k (.int v)) (hlen : ∀ ti tl, k < (F ti tl).length) (hn : narrow (ty k) (.int v) = .int v) (hfit : fits (ty k) (.int v) = true) (hdg : decode cc pc = .ok (.putfield idx, 3))
    (h : letv (tpI τ 0 k v) K = some rr) (kk : ∀ τ', K τ' = some rr → XW p l e R s m args below meth c cells slots nL (xbs G) Q (xRep G z σ τ') (pc + 3) L st) : XW p l e R s m args below meth c cells slots nL (xbs G) Q (xRep G z σ τ) pc L (.int v :: .ref (xaM G 0) :: st) := by
  intro H locs ls hΩ hs hL
  have hat := (hΩ.2.2 0 rfl).1
  have hb := (hΩ.2.2 0 rfl).2
  rw [hc] at hat
  refine r_put C K0 hat hk hfl hfin hn hfit (hlen _ _) hdg fun H1 sl h1 h2 h3 => ?_
  refine kk _ h H1 _ ls (hΩ.setM rfl ?_ h3 (fun f' hq => ⟨tpI_off _ _ _ _ hq, rfl⟩)) (fun q hq => ?_) hL
  · rw [hc, tpI_at]
    show va_at _ _ (_, .inr (ci, F _ (τ.2 0))) _
    rw [hset]
    exact h1
  · rcases List.mem_append.mp hq with hq | hq
    · exact hs q hq
    · rw [List.mem_singleton.mp hq]; exact hb
theorem x_iald (C : xC p m c cc nL s args own meth R cells slots (xD G) (xcA G)) {n : Nat} {x : Int32} {K : Nat → Option ρ} (hd : xdom z f i j) (hc : ∀ si sl sp, xCell G z f i j si sl sp = .inl (xcA G 0, n, (.inl si))) (hdg : decode cc pc = .ok (.iaload, 1)) (h : gdx x n K = some rr)
    (kk : ∀ k, k < n → K k = some rr → XW p l e R s m args below meth c cells slots nL (xbs G) Q (xRep G z σ τ) (pc + 1) L (.int (σ.1 f i j k) :: st)) : XW p l e R s m args below meth c cells slots nL (xbs G) Q (xRep G z σ τ) pc L (.int x :: .ref (xad G f i j) :: st) := by
  obtain ⟨hin, hlt, h⟩ := gdx_some h
  intro H locs ls hΩ hs hL
  have hat := (hΩ.2.1 f i j hd).1
  rw [hc] at hat
  exact va_iald C.1.1 C.1.2.1 C.2.2.2.1 (va_P1 hat) 0 0 rfl rfl hin hdg (kk _ hlt h H locs ls hΩ hs hL)
theorem x_bald (C : xC p m c cc nL s args own meth R cells slots (xD G) (xcA G)) {n : Nat} {x : Int32} {K : Nat → Option ρ} (hd : xdom z f i j) (hc : ∀ si sl sp, xCell G z f i j si sl sp = .inl (xcA G 2, n, (.inl si))) (hdg : decode cc pc = .ok (.baload, 1)) (h : gdx x n K = some rr)
    (kk : ∀ k, k < n → K k = some rr → XW p l e R s m args below meth c cells slots nL (xbs G) Q (xRep G z σ τ) (pc + 1) L (.int (σ.1 f i j k) :: st)) : XW p l e R s m args below meth c cells slots nL (xbs G) Q (xRep G z σ τ) pc L (.int x :: .ref (xad G f i j) :: st) := by
  obtain ⟨hin, hlt, h⟩ := gdx_some h
  intro H locs ls hΩ hs hL
  have hat := (hΩ.2.1 f i j hd).1
  rw [hc] at hat
  exact va_zald C.1.1 C.1.2.1 C.2.2.2.1 (va_P1 hat) 0 2 rfl rfl hin hdg (kk _ hlt h H locs ls hΩ hs hL)
theorem x_lald (C : xC p m c cc nL s args own meth R cells slots (xD G) (xcA G)) {n : Nat} {x : Int32} {K : Nat → Option ρ} (hd : xdom z f i j) (hc : ∀ si sl sp, xCell G z f i j si sl sp = .inl (xcA G 1, n, (.inr (.inl sl)))) (hdg : decode cc pc = .ok (.laload, 1)) (h : gdx x n K = some rr)
    (kk : ∀ k, k < n → K k = some rr → XW p l e R s m args below meth c cells slots nL (xbs G) Q (xRep G z σ τ) (pc + 1) L (.long (σ.2.1 f i j k) :: st)) : XW p l e R s m args below meth c cells slots nL (xbs G) Q (xRep G z σ τ) pc L (.int x :: .ref (xad G f i j) :: st) := by
  obtain ⟨hin, hlt, h⟩ := gdx_some h
  intro H locs ls hΩ hs hL
  have hat := (hΩ.2.1 f i j hd).1
  rw [hc] at hat
  exact va_lald C.1.1 C.1.2.1 C.2.2.2.1 (va_P1 hat) 0 1 rfl rfl hin hdg (kk _ hlt h H locs ls hΩ hs hL)
theorem x_iast (C : xC p m c cc nL s args own meth R cells slots (xD G) (xcA G)) {n : Nat} {x : Int32} {x9 : Int32} {K : Nat → Option ρ} (hd : xdom z f i j) (hc : ∀ si sl sp, xCell G z f i j si sl sp = .inl (xcA G 0, n, (.inl si))) (hdg : decode cc pc = .ok (.iastore, 1)) (h : gdx x n K = some rr)
    (kk : ∀ k, k < n → K k = some rr → XW p l e R s m args below meth c cells slots nL (xbs G) Q (xRep G z (upI σ f i j k x9) τ) (pc + 1) L st) : XW p l e R s m args below meth c cells slots nL (xbs G) Q (xRep G z σ τ) pc L (.int x9 :: .int x :: .ref (xad G f i j) :: st) := by
  obtain ⟨hin, hlt, h⟩ := gdx_some h
  intro H locs ls hΩ hs hL
  have hat := (hΩ.2.1 f i j hd).1
  have hb := (hΩ.2.1 f i j hd).2
  rw [hc] at hat
  refine W.iast C.1.1 C.1.2.1 hat (r_isa C.2.2.2.1 (t0 := 0) rfl _) (r_kn _) (r_in hin) rfl rfl hdg fun H1 h1 h2 h3 => ?_
  refine kk _ hlt h H1 _ ls (hΩ.setX hd ?_ h3 (fun f' i' j' _ hq => ⟨upI_off _ _ _ _ _ _ hq, rfl, rfl⟩)) (fun q hq => ?_) hL
  · rw [hc, upI_at]
    show H1[_]? = some (vp_cell _ _)
    rw [h1, xa_setI]
  · rcases List.mem_append.mp hq with hq | hq
    · exact hs q hq
    · rw [List.mem_singleton.mp hq]; exact hb
theorem x_bast (C : xC p m c cc nL s args own meth R cells slots (xD G) (xcA G)) {n : Nat} {x : Int32} {x9 : Int32} {K : Nat → Option ρ} (hx : x9 = 0 ∨ x9 = 1) (hd : xdom z f i j) (hc : ∀ si sl sp, xCell G z f i j si sl sp = .inl (xcA G 2, n, (.inl si))) (hdg : decode cc pc = .ok (.bastore, 1)) (h : gdx x n K = some rr)
    (kk : ∀ k, k < n → K k = some rr → XW p l e R s m args below meth c cells slots nL (xbs G) Q (xRep G z (upI σ f i j k x9) τ) (pc + 1) L st) : XW p l e R s m args below meth c cells slots nL (xbs G) Q (xRep G z σ τ) pc L (.int x9 :: .int x :: .ref (xad G f i j) :: st) := by
  obtain ⟨hin, hlt, h⟩ := gdx_some h
  intro H locs ls hΩ hs hL
  have hat := (hΩ.2.1 f i j hd).1
  have hb := (hΩ.2.1 f i j hd).2
  rw [hc] at hat
  refine W.zast C.1.1 C.1.2.1 hat (r_isa C.2.2.2.1 (t0 := 2) rfl _) (r_kn _) (r_in hin) rfl rfl hdg fun H1 h1 h2 h3 => ?_
  refine kk _ hlt h H1 _ ls (hΩ.setX hd ?_ h3 (fun f' i' j' _ hq => ⟨upI_off _ _ _ _ _ _ hq, rfl, rfl⟩)) (fun q hq => ?_) hL
  · rw [hc, upI_at]
    show H1[_]? = some (vp_cell _ _)
    rw [h1, show narrow .boolean (.int x9) = .int x9 from by rcases hx with rfl | rfl <;> rfl, xa_setI]
  · rcases List.mem_append.mp hq with hq | hq
    · exact hs q hq
    · rw [List.mem_singleton.mp hq]; exact hb
theorem x_last (C : xC p m c cc nL s args own meth R cells slots (xD G) (xcA G)) {n : Nat} {x : Int32} {x9 : Int64} {K : Nat → Option ρ} (hd : xdom z f i j) (hc : ∀ si sl sp, xCell G z f i j si sl sp = .inl (xcA G 1, n, (.inr (.inl sl)))) (hdg : decode cc pc = .ok (.lastore, 1)) (h : gdx x n K = some rr)
    (kk : ∀ k, k < n → K k = some rr → XW p l e R s m args below meth c cells slots nL (xbs G) Q (xRep G z (upL σ f i j k x9) τ) (pc + 1) L st) : XW p l e R s m args below meth c cells slots nL (xbs G) Q (xRep G z σ τ) pc L (.long x9 :: .int x :: .ref (xad G f i j) :: st) := by
  obtain ⟨hin, hlt, h⟩ := gdx_some h
  intro H locs ls hΩ hs hL
  have hat := (hΩ.2.1 f i j hd).1
  have hb := (hΩ.2.1 f i j hd).2
  rw [hc] at hat
  refine W.last C.1.1 C.1.2.1 hat (r_isa C.2.2.2.1 (t0 := 1) rfl _) (r_kn _) (r_in hin) rfl rfl hdg fun H1 h1 h2 h3 => ?_
  refine kk _ hlt h H1 _ ls (hΩ.setX hd ?_ h3 (fun f' i' j' _ hq => ⟨rfl, upL_off _ _ _ _ _ _ hq, rfl⟩)) (fun q hq => ?_) hL
  · rw [hc, upL_at]
    show H1[_]? = some (vp_cell _ _)
    rw [h1, xa_setL]
  · rcases List.mem_append.mp hq with hq | hq
    · exact hs q hq
    · rw [List.mem_singleton.mp hq]; exact hb
theorem m_iald (C : xC p m c cc nL s args own meth R cells slots (xD G) (xcA G)) {n : Nat} {x : Int32} {K : Nat → Option ρ} (hd : mB f = true) (hc : ∀ ti tl, mCell G z f ti tl = .inl (xcA G 0, n, (.inl ti))) (hdg : decode cc pc = .ok (.iaload, 1)) (h : gdx x n K = some rr)
    (kk : ∀ k, k < n → K k = some rr → XW p l e R s m args below meth c cells slots nL (xbs G) Q (xRep G z σ τ) (pc + 1) L (.int (τ.1 f k) :: st)) : XW p l e R s m args below meth c cells slots nL (xbs G) Q (xRep G z σ τ) pc L (.int x :: .ref (xaM G f) :: st) := by
  obtain ⟨hin, hlt, h⟩ := gdx_some h
  intro H locs ls hΩ hs hL
  have hat := (hΩ.2.2 f hd).1
  rw [hc] at hat
  exact va_iald C.1.1 C.1.2.1 C.2.2.2.1 (va_P1 hat) 0 0 rfl rfl hin hdg (kk _ hlt h H locs ls hΩ hs hL)
theorem m_bald (C : xC p m c cc nL s args own meth R cells slots (xD G) (xcA G)) {n : Nat} {x : Int32} {K : Nat → Option ρ} (hd : mB f = true) (hc : ∀ ti tl, mCell G z f ti tl = .inl (xcA G 2, n, (.inl ti))) (hdg : decode cc pc = .ok (.baload, 1)) (h : gdx x n K = some rr)
    (kk : ∀ k, k < n → K k = some rr → XW p l e R s m args below meth c cells slots nL (xbs G) Q (xRep G z σ τ) (pc + 1) L (.int (τ.1 f k) :: st)) : XW p l e R s m args below meth c cells slots nL (xbs G) Q (xRep G z σ τ) pc L (.int x :: .ref (xaM G f) :: st) := by
  obtain ⟨hin, hlt, h⟩ := gdx_some h
  intro H locs ls hΩ hs hL
  have hat := (hΩ.2.2 f hd).1
  rw [hc] at hat
  exact va_zald C.1.1 C.1.2.1 C.2.2.2.1 (va_P1 hat) 0 2 rfl rfl hin hdg (kk _ hlt h H locs ls hΩ hs hL)
theorem m_lald (C : xC p m c cc nL s args own meth R cells slots (xD G) (xcA G)) {n : Nat} {x : Int32} {K : Nat → Option ρ} (hd : mB f = true) (hc : ∀ ti tl, mCell G z f ti tl = .inl (xcA G 1, n, (.inr (.inl tl)))) (hdg : decode cc pc = .ok (.laload, 1)) (h : gdx x n K = some rr)
    (kk : ∀ k, k < n → K k = some rr → XW p l e R s m args below meth c cells slots nL (xbs G) Q (xRep G z σ τ) (pc + 1) L (.long (τ.2 f k) :: st)) : XW p l e R s m args below meth c cells slots nL (xbs G) Q (xRep G z σ τ) pc L (.int x :: .ref (xaM G f) :: st) := by
  obtain ⟨hin, hlt, h⟩ := gdx_some h
  intro H locs ls hΩ hs hL
  have hat := (hΩ.2.2 f hd).1
  rw [hc] at hat
  exact va_lald C.1.1 C.1.2.1 C.2.2.2.1 (va_P1 hat) 0 1 rfl rfl hin hdg (kk _ hlt h H locs ls hΩ hs hL)
theorem m_iast (C : xC p m c cc nL s args own meth R cells slots (xD G) (xcA G)) {n : Nat} {x : Int32} {x9 : Int32} {K : Nat → Option ρ} (hd : mB f = true) (hc : ∀ ti tl, mCell G z f ti tl = .inl (xcA G 0, n, (.inl ti))) (hdg : decode cc pc = .ok (.iastore, 1)) (h : gdx x n K = some rr)
    (kk : ∀ k, k < n → K k = some rr → XW p l e R s m args below meth c cells slots nL (xbs G) Q (xRep G z σ (tpI τ f k x9)) (pc + 1) L st) : XW p l e R s m args below meth c cells slots nL (xbs G) Q (xRep G z σ τ) pc L (.int x9 :: .int x :: .ref (xaM G f) :: st) := by
  obtain ⟨hin, hlt, h⟩ := gdx_some h
  intro H locs ls hΩ hs hL
  have hat := (hΩ.2.2 f hd).1
  have hb := (hΩ.2.2 f hd).2
  rw [hc] at hat
  refine W.iast C.1.1 C.1.2.1 hat (r_isa C.2.2.2.1 (t0 := 0) rfl _) (r_kn _) (r_in hin) rfl rfl hdg fun H1 h1 h2 h3 => ?_
  refine kk _ hlt h H1 _ ls (hΩ.setM hd ?_ h3 (fun f' hq => ⟨tpI_off _ _ _ _ hq, rfl⟩)) (fun q hq => ?_) hL
  · rw [hc, tpI_at]
    show H1[_]? = some (vp_cell _ _)
    rw [h1, xa_setI]
  · rcases List.mem_append.mp hq with hq | hq
    · exact hs q hq
    · rw [List.mem_singleton.mp hq]; exact hb
theorem m_bast (C : xC p m c cc nL s args own meth R cells slots (xD G) (xcA G)) {n : Nat} {x : Int32} {x9 : Int32} {K : Nat → Option ρ} (hx : x9 = 0 ∨ x9 = 1) (hd : mB f = true) (hc : ∀ ti tl, mCell G z f ti tl = .inl (xcA G 2, n, (.inl ti))) (hdg : decode cc pc = .ok (.bastore, 1)) (h : gdx x n K = some rr)
    (kk : ∀ k, k < n → K k = some rr → XW p l e R s m args below meth c cells slots nL (xbs G) Q (xRep G z σ (tpI τ f k x9)) (pc + 1) L st) : XW p l e R s m args below meth c cells slots nL (xbs G) Q (xRep G z σ τ) pc L (.int x9 :: .int x :: .ref (xaM G f) :: st) := by
  obtain ⟨hin, hlt, h⟩ := gdx_some h
  intro H locs ls hΩ hs hL
  have hat := (hΩ.2.2 f hd).1
  have hb := (hΩ.2.2 f hd).2
  rw [hc] at hat
  refine W.zast C.1.1 C.1.2.1 hat (r_isa C.2.2.2.1 (t0 := 2) rfl _) (r_kn _) (r_in hin) rfl rfl hdg fun H1 h1 h2 h3 => ?_
  refine kk _ hlt h H1 _ ls (hΩ.setM hd ?_ h3 (fun f' hq => ⟨tpI_off _ _ _ _ hq, rfl⟩)) (fun q hq => ?_) hL
  · rw [hc, tpI_at]
    show H1[_]? = some (vp_cell _ _)
    rw [h1, show narrow .boolean (.int x9) = .int x9 from by rcases hx with rfl | rfl <;> rfl, xa_setI]
  · rcases List.mem_append.mp hq with hq | hq
    · exact hs q hq
    · rw [List.mem_singleton.mp hq]; exact hb
theorem m_last (C : xC p m c cc nL s args own meth R cells slots (xD G) (xcA G)) {n : Nat} {x : Int32} {x9 : Int64} {K : Nat → Option ρ} (hd : mB f = true) (hc : ∀ ti tl, mCell G z f ti tl = .inl (xcA G 1, n, (.inr (.inl tl)))) (hdg : decode cc pc = .ok (.lastore, 1)) (h : gdx x n K = some rr)
    (kk : ∀ k, k < n → K k = some rr → XW p l e R s m args below meth c cells slots nL (xbs G) Q (xRep G z σ (tpL τ f k x9)) (pc + 1) L st) : XW p l e R s m args below meth c cells slots nL (xbs G) Q (xRep G z σ τ) pc L (.long x9 :: .int x :: .ref (xaM G f) :: st) := by
  obtain ⟨hin, hlt, h⟩ := gdx_some h
  intro H locs ls hΩ hs hL
  have hat := (hΩ.2.2 f hd).1
  have hb := (hΩ.2.2 f hd).2
  rw [hc] at hat
  refine W.last C.1.1 C.1.2.1 hat (r_isa C.2.2.2.1 (t0 := 1) rfl _) (r_kn _) (r_in hin) rfl rfl hdg fun H1 h1 h2 h3 => ?_
  refine kk _ hlt h H1 _ ls (hΩ.setM hd ?_ h3 (fun f' hq => ⟨rfl, tpL_off _ _ _ _ hq⟩)) (fun q hq => ?_) hL
  · rw [hc, tpL_at]
    show H1[_]? = some (vp_cell _ _)
    rw [h1, xa_setL]
  · rcases List.mem_append.mp hq with hq | hq
    · exact hs q hq
    · rw [List.mem_singleton.mp hq]; exact hb
/-- a reference out of an array of references -/
theorem x_aald (C : xC p m c cc nL s args own meth R cells slots (xD G) (xcA G)) {n : Nat} {g : Nat → Nat} {cA' : ClassId} {ty : FieldType} {x : Int32} {K : Nat → Option ρ} (t0 : Nat) (ht : (xTys (xcA G))[t0]? = some (cA', ty)) (href : ty.isReference = true) (hd : xdom z f i j) (hc : xCell G z f i j (σ.1 f i j) (σ.2.1 f i j) (σ.2.2 f) = .inl (cA', n, xq g)) (hdg : decode cc pc = .ok (.aaload, 1)) (h : gdx x n K = some rr)
    (kk : ∀ k, k < n → K k = some rr → XW p l e R s m args below meth c cells slots nL (xbs G) Q (xRep G z σ τ) (pc + 1) L (.ref (g k) :: st)) : XW p l e R s m args below meth c cells slots nL (xbs G) Q (xRep G z σ τ) pc L (.int x :: .ref (xad G f i j) :: st) := by
  obtain ⟨hin, hlt, h⟩ := gdx_some h
  intro H locs ls hΩ hs hL
  have hat := (hΩ.2.1 f i j hd).1
  rw [hc] at hat
  exact W.aald C.1.1 C.1.2.1 hat (r_isa C.2.2.2.1 ht _) href (r_kn _) (r_in hin) (by show (arrV _ _ _).slots[_]? = _; rw [arrV_read _ _ hlt]; rfl) rfl rfl hdg (kk _ hlt h H locs ls hΩ hs hL)
/-- the length of an array -/
theorem x_alen (C : xC p m c cc nL s args own meth R cells slots (xD G) (xcA G)) {cA' : ClassId} {a : vp_A} {ty : FieldType} (t0 : Nat) (ht : (xTys (xcA G))[t0]? = some (cA', ty)) (hd : xdom z f i j) (hc : xCell G z f i j (σ.1 f i j) (σ.2.1 f i j) (σ.2.2 f) = .inl (cA', a)) (hdg : decode cc pc = .ok (.arraylength, 1))
    (kk : XW p l e R s m args below meth c cells slots nL (xbs G) Q (xRep G z σ τ) (pc + 1) L (.int (nI a.1) :: st)) : XW p l e R s m args below meth c cells slots nL (xbs G) Q (xRep G z σ τ) pc L (.ref (xad G f i j) :: st) := by
  intro H locs ls hΩ hs hL
  have hat := (hΩ.2.1 f i j hd).1
  rw [hc] at hat
  exact va_alen C.1.1 C.1.2.1 C.2.2.2.1 (va_P1 hat) 0 t0 rfl ht rfl hdg (kk H locs ls hΩ hs hL)
/-- queue[x] = a message -/
theorem x_aastQ (C : xC p m c cc nL s args own meth R cells slots (xD G) (xcA G)) {x : Int32} {b : Nat} {K : Nat → Option ρ} (hd : xdom z 12 0 0) (hb : b < z 4 + 2) (hdg : decode cc pc = .ok (.aastore, 1)) (h : gdx x (z 4) K = some rr)
    (kk : ∀ k, k < z 4 → K k = some rr → XW p l e R s m args below meth c cells slots nL (xbs G) Q (xRep G z (upR σ 12 k b) τ) (pc + 1) L st) : XW p l e R s m args below meth c cells slots nL (xbs G) Q (xRep G z σ τ) pc L (.ref (xad G 13 b 0) :: .int x :: .ref (xad G 12 0 0) :: st) := by
  obtain ⟨hin, hlt, h⟩ := gdx_some h
  intro H locs ls hΩ hs hL
  have hat : H[xad G 12 0 0]? = some (vp_cell (xcA G 5) (z 4, xq (fun k => xad G 13 (σ.2.2 12 k) 0))) := (hΩ.2.1 12 0 0 hd).1
  have hbb := (hΩ.2.1 12 0 0 hd).2
  obtain ⟨r', hr', cellV, g1, g2, g3, -⟩ := (hΩ.2.1 13 b 0 ⟨hb, Nat.one_pos⟩).1
  have hcls := (C.2.2.2.1.1 3 (RX3, TX3, 9) rfl).2
  obtain ⟨kA, comp, k1, k2, k3, -⟩ := (C.2.2.2.1.2 5 (xcA G 5, .object RX3) rfl).2
  have hcomp : comp = (xD G).1 3 := Option.some.inj (k3.symm.trans hcls.1)
  subst hcomp
  obtain ⟨kC, hkC, -⟩ := hcls.2
  refine W.aast C.1.1 C.1.2.1 hat (fun q h => by cases h) (fun h => by cases h) k1 k2 rfl hkC ⟨fun q => hin (Or.inl q), by show _ < (arrV _ _ _).slots.size; rw [arrV_size]; exact hlt⟩ g1 (fun q h => by rw [g3] at h; cases h) (by rw [g2]; exact hkC) (by rw [g2]; exact va_assign hcls) rfl rfl hdg fun H1 h1 h2 h3 => ?_
  refine kk _ hlt h H1 _ ls (hΩ.setX hd ?_ h3 (fun f' i' j' hd' hq => ⟨rfl, rfl, upR_off _ _ _ _ (fun q => hq (by subst q; exact ⟨rfl, Nat.lt_one_iff.mp hd'.1, Nat.lt_one_iff.mp hd'.2⟩))⟩)) (fun q hq => ?_) hL
  · rw [upR_at]
    show H1[xad G 12 0 0]? = some (vp_cell (xcA G 5) (z 4, xq (fun k => xad G 13 ((fun k' => if k' = x.toNatClampNeg then b else σ.2.2 12 k') k) 0)))
    rw [h1, xa_setQ]
    congr 4
    funext k'
    show (if _ then _ else _) = xad G 13 (if _ then _ else _) 0
    split <;> rfl
  · rcases List.mem_append.mp hq with hq | hq
    · exact hs q hq
    · rw [List.mem_singleton.mp hq]; exact hbb
theorem x_letS {K : Sg → Option ρ} (h : letv σ K = some rr) (kk : ∀ σ', K σ' = some rr → XW p l e R s m args below meth c cells slots nL (xbs G) Q (xRep G z σ' τ) pc L st) : XW p l e R s m args below meth c cells slots nL (xbs G) Q (xRep G z σ τ) pc L st := kk σ h
theorem m_letS {K : Tg → Option ρ} (h : letv τ K = some rr) (kk : ∀ τ', K τ' = some rr → XW p l e R s m args below meth c cells slots nL (xbs G) Q (xRep G z σ τ') pc L st) : XW p l e R s m args below meth c cells slots nL (xbs G) Q (xRep G z σ τ) pc L st := kk τ h
end XHEAP
