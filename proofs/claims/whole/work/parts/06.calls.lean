/-! contracts, calls, ends -/
def xMet (l : Launch) (D : va_G) (cA : Nat → ClassId) (bs : Nat) (y : MethodName) (code : ByteArray) (nL : Nat) (ret : Option FieldType) (rm : Room) (avs : List Value) (Ω Ω' : Heap → Prop) (rv : Option Value) (mc ms : Nat) : Prop :=
  Met l y (Cond.code y code nL ret :: lw_g) rm (va_Pc avs (fun U => xEnv D cA U ∧ Ω U.heap)) (fun _ _ oc t => oc = .returned rv ∧ Ω' t.heap) mc ms (fun q => bs ≤ q)
abbrev xQ (below : List Frame) (args : Array Value) (s : State) (bs : Nat) (rv : Option Value) (Ω' : Heap → Prop) (mc ms : Nat) : State → Prop := MQ below (fun _ _ oc t => oc = .returned rv ∧ Ω' t.heap) args s mc ms (fun q => bs ≤ q)
theorem x_ofWF {l : Launch} {y : MethodName} {ws ws' : List Cond} {rm : Room} {Pc : Array Value → State → Prop} {Qc : Array Value → State → Outcome → State → Prop} {mc ms : Nat} {free : Addr → Prop} {cc : ByteArray} {maxL : Nat} {ret : Option FieldType}
    (hy : plainFor y = true) (hw : ws = Cond.code y cc maxL ret :: ws')
    (body : ∀ p e s m args below meth c s₁, BodyLoose p l y (headSpec ws rm) cc maxL ret e s m args below meth c s₁ → c.maxLocals = maxL → Pc args s →
      W p l e (headSpec ws rm).room s m args below meth c s.heap [] 0 0 (MQ below Qc args s mc ms free) (entryFrame m args maxL)) : Met l y ws rm Pc Qc mc ms free := by
  refine MetFree.of_bodySF (code := cc) (maxLocals := maxL) (ret := ret) hy ?_ ?_
  · intro args s m h hn
    obtain ⟨meth, c, h1, h2, h3, h4, h5, h6, -, -⟩ := Cond.code_spec hn (atoms_spec (ws := ws) h _ (by rw [hw]; exact List.mem_cons_self))
    exact ⟨meth, c, h1, h2, h3, h4, h5, h6⟩
  · intro p e s m args below meth c s₁ B hml hP _
    have hh0 : s₁.heap = s.heap := by rw [B.state]; rfl
    obtain ⟨t, a1, o, b1, b2, b3⟩ := body p e s m args below meth c s₁ B hml hP s₁ hh0 (Stand.of_body B)
    exact ⟨t, o, a1, b1, b2, ⟨b3.1, b3.2⟩⟩
theorem xMet.of {l : Launch} {D : va_G} {cA : Nat → ClassId} {bs : Nat} {y : MethodName} {code : ByteArray} {nL : Nat} {ret : Option FieldType} {rm : Room} {avs : List Value} {Ω Ω' : Heap → Prop} {rv : Option Value} {mc ms : Nat} (own : String) (ho : y.cls = own) (hy : plainFor y = true) (hlen : (lg_sl avs).length ≤ nL)
    (body : ∀ (p : Program) (e : Env) (s : State) (m : MethodId) (args : Array Value) (below : List Frame) (meth : Method) (c : Code), xC p m c code nL s args own meth rm 0 0 D cA → meth.sig.returnType = ret → meth.name = y.name → XW p l e rm s m args below meth c 0 0 nL bs (xQ below args s bs rv Ω' mc ms) Ω 0 (lv_args 0 avs) []) : xMet l D cA bs y code nL ret rm avs Ω Ω' rv mc ms := by
  refine x_ofWF (cc := code) (maxL := nL) (ret := ret) hy rfl ?_
  intro p e s m args below meth c s₁ B hml hv
  obtain ⟨rfl, hE, hΩ⟩ := hv
  have hts := atoms_spec (ws := Cond.code y code nL ret :: lw_g) B.pre
  have hown : s.vm.findClass own = some m.cls := by rw [← ho]; exact findClass_of_methodNamed B.named
  rw [lg_entry_eq]
  exact body p e s m _ below meth c ⟨⟨B.exec, B.bytes, hml, hown, fun w hw => hts w (List.mem_cons_of_mem _ hw)⟩, B.notSynchronized, ⟨Nat.zero_le _, Nat.zero_le _⟩, hE⟩ B.returns (name_of_methodNamed B.named B.method).1 s.heap [] _ hΩ (fun q h => by cases h) (lv_entry avs hlen)
abbrev xHd (y : MethodName) (n : Nat) : Prop := y.cls ≠ "java/lang/invoke/MethodHandle" ∧ y.cls ≠ "java/lang/invoke/VarHandle" ∧ (parseMethodDescriptor y.desc).map (fun d => d.parameters.length) = some n
def xWV (own : String) (idx : Nat) (y : MethodName) (code : ByteArray) (nL : Nat) (ret : Option FieldType) (n : Nat) : Prop := Cond.methodLink own idx y ∈ lw_g ∧ Cond.instanceMethod y ∈ lw_g ∧ Cond.selects y.cls y y ∈ lw_g ∧ Cond.initialized y.cls ∈ lw_g ∧ Cond.code y code nL ret ∈ lw_g ∧ xHd y n
def xWS (own : String) (idx : Nat) (y : MethodName) (code : ByteArray) (nL : Nat) (ret : Option FieldType) (n : Nat) : Prop := Cond.methodLink own idx y ∈ lw_g ∧ Cond.static y ∈ lw_g ∧ Cond.initialized y.cls ∈ lw_g ∧ Cond.code y code nL ret ∈ lw_g ∧ xHd y n
def xWI (own : String) (idx : Nat) (y : MethodName) (code : ByteArray) (nL : Nat) (n : Nat) : Prop := Cond.methodLink own idx y ∈ lw_g ∧ Cond.instanceMethod y ∈ lw_g ∧ Cond.initialized y.cls ∈ lw_g ∧ Cond.code y code nL none ∈ lw_g ∧ y.name = "<init>" ∧ xHd y n
def xWU (own : String) (idx : Nat) (CC : String) (x y : MethodName) (code : ByteArray) (nL : Nat) (ret : Option FieldType) (n : Nat) : Prop := Cond.methodLink own idx x ∈ lw_g ∧ Cond.sameMethod x.cls RX4 x.name x.desc ∈ lw_g ∧ Cond.selects CC x y ∈ lw_g ∧ Cond.instanceMethod y ∈ lw_g ∧ Cond.initialized y.cls ∈ lw_g ∧ Cond.code y code nL ret ∈ lw_g ∧ (RX4 ≠ "java/lang/invoke/MethodHandle" ∧ RX4 ≠ "java/lang/invoke/VarHandle" ∧ (parseMethodDescriptor x.desc).map (fun d => d.parameters.length) = some n) ∧ (MethodName.mk RX4 x.name x.desc = yN_hear ∨ MethodName.mk RX4 x.name x.desc = yN_forget ∨ MethodName.mk RX4 x.name x.desc = yN_told)
theorem lw_g_good {ws : List Cond} (h : ∀ w ∈ ws, w ∈ lw_g) : GoodIn lw_g ws := fun w hw => ⟨h w hw, good_of_word (List.mem_filter.mp (h w hw)).2⟩
section XCALLS
variable {p : Program} {l : Launch} {e : Env} {R : Room} {s : State} {m : MethodId} {args : Array Value} {below : List Frame} {meth : Method} {c : Code} {cells slots nL bs : Nat} {Q : State → Prop} {Ω Ω' : Heap → Prop}
variable {cc : ByteArray} {own : String} {D : va_G} {cA : Nat → ClassId} {pc : Nat} {L : List (Nat × Value)} {st stk As : List Value}
variable {y : MethodName} {code : ByteArray} {nL' mc ms idx n b : Nat} {ret : Option FieldType} {rm : Room} {rv : Option Value}
theorem xP_blind {avs : List Value} : FrameBlind (va_Pc avs (fun U => xEnv D cA U ∧ Ω U.heap)) := fun a U g mk q => ⟨q.1, xEnv.call q.2.1, q.2.2⟩
abbrev xRm (R rm : Room) (nL' mc ms : Nat) : Prop := (rm.cells = mc ∧ rm.slots = ms) ∧ rm.frames + 1 ≤ R.frames ∧ 8 + (nL' + 11) + rm.locals ≤ R.locals
theorem x_run {L' : List Loc} (hs : ∀ q ∈ L', bs ≤ q.base) {H : Heap} {ls : Array Slot} {Qa : State → Outcome → State → Prop} (hL : lv_has ls nL L) (hQ : ∀ st0 v t, Qa st0 (.returned v) t → v = rv ∧ Ω' t.heap) (hr : va_Run p l e R s m args below meth c H L' cells slots mc ms (F0 m pc ls stk) st Qa (fun q => bs ≤ q))
    (kk : XW p l e R s m args below meth c (cells + mc) (slots + ms) nL bs Q Ω' (pc + 3) L (rv.toList ++ st)) : W p l e R s m args below meth c H L' cells slots Q (F0 m pc ls stk) := by
  intro T hT X
  obtain ⟨v, st₀, t, T', Lx, h0, X', hLx, e1, e2, hq, stp⟩ := hr T hT X
  obtain ⟨rfl, hΩ⟩ := hQ _ _ _ hq
  obtain ⟨t2, a1, b1⟩ := kk T'.heap (L' ++ Lx) ls (by rw [e1]; exact hΩ) (fun q hq => by
    rcases List.mem_append.mp hq with h | h
    · exact hs q h
    · exact hLx q h) hL T' rfl X'
  exact ⟨t2, stp t2 a1, b1⟩
abbrev xRecv (s : State) (Ω : Heap → Prop) (CC : String) (b : Nat) : Prop := ∀ H, Ω H → ∃ cellB : Cell, H[b]? = some cellB ∧ cellB.vm.isStatics = false ∧ s.vm.findClass CC = some cellB.cls
theorem x_callV (C : xC p m c cc nL s args own meth R cells slots D cA) (hM : xMet l D cA bs y code nL' ret rm (.ref b :: As) Ω Ω' rv mc ms) (hw : xWV own idx y code nL' ret n) (hrecv : xRecv s Ω y.cls b) (hn : As.length = n) (hst : (st.map fun v => v.category).sum ≤ 8) (hrm : xRm R rm nL' mc ms) (hdg : decode cc pc = .ok (.invokevirtual idx, 3)) (hf : cells + mc ≤ R.cells ∧ slots + ms ≤ R.slots) (hstk : As.reverse ++ .ref b :: st = stk)
    (kk : XW p l e R s m args below meth c (cells + mc) (slots + ms) nL bs Q Ω' (pc + 3) L (rv.toList ++ st)) : XW p l e R s m args below meth c cells slots nL bs Q Ω pc L stk := by
  intro H locs ls hΩ hs hL
  obtain ⟨w1, w2, w3, w4, w5, w6⟩ := hw
  have hts := C.1.2.2.2.2
  have hG : GoodIn lw_g (wsV own idx y.cls y (Cond.code y code nL' ret :: lw_g)) := lw_g_good (fun w hw => by
    rcases List.mem_append.mp hw with hw | hw
    · simp only [List.mem_cons, List.not_mem_nil, or_false] at hw
      rcases hw with rfl | rfl | rfl | rfl <;> assumption
    · rcases List.mem_cons.mp hw with rfl | hw <;> assumption)
  refine x_run hs hL (fun _ _ _ q => ⟨by simpa using q.1, q.2⟩) (va_runV C.1 hM (cwV n hts hG rfl hrm.1.1 hrm.1.2 ⟨rfl, w6.1, w6.2.1, w6.2.2⟩ hrm.2) ⟨xP_blind, hrecv H hΩ, fun U hU hW => ⟨rfl, C.2.2.2.warm hW, by rw [hU]; exact hΩ⟩⟩ rfl hn hL.1 hstk.symm (lv_room hst) hdg hf) kk
theorem x_callS (C : xC p m c cc nL s args own meth R cells slots D cA) (hM : xMet l D cA bs y code nL' ret rm As Ω Ω' rv mc ms) (hw : xWS own idx y code nL' ret n) (hn : As.length = n) (hst : (st.map fun v => v.category).sum ≤ 8) (hrm : xRm R rm nL' mc ms) (hdg : decode cc pc = .ok (.invokestatic idx, 3)) (hf : cells + mc ≤ R.cells ∧ slots + ms ≤ R.slots) (hstk : As.reverse ++ st = stk)
    (kk : XW p l e R s m args below meth c (cells + mc) (slots + ms) nL bs Q Ω' (pc + 3) L (rv.toList ++ st)) : XW p l e R s m args below meth c cells slots nL bs Q Ω pc L stk := by
  intro H locs ls hΩ hs hL
  obtain ⟨w1, w2, w4, w5, w6⟩ := hw
  have hts := C.1.2.2.2.2
  have hG : GoodIn lw_g (Cond.code y code nL' ret :: lw_g) := lw_g_good (fun w hw => by
    rcases List.mem_cons.mp hw with rfl | hw <;> assumption)
  exact x_run hs hL (fun _ _ _ q => ⟨by simpa using q.1, q.2⟩) (va_runS C.1 hM ⟨callB_of n hts hG rfl hrm.1.1 hrm.1.2 (hts _ w4) (hts _ w1) w6 hrm.2, hts _ w2⟩ ⟨xP_blind, fun U hU hW => ⟨rfl, C.2.2.2.warm hW, by rw [hU]; exact hΩ⟩⟩ rfl hn hL.1 hstk.symm (lv_room hst) hdg hf) kk
theorem x_callI (C : xC p m c cc nL s args own meth R cells slots D cA) (hM : xMet l D cA bs y code nL' none rm (.ref b :: As) Ω Ω' rv mc ms) (hw : xWI own idx y code nL' n) (hn : As.length = n) (hst : (st.map fun v => v.category).sum ≤ 8) (hrm : xRm R rm nL' mc ms) (hdg : decode cc pc = .ok (.invokespecial idx, 3)) (hf : cells + mc ≤ R.cells ∧ slots + ms ≤ R.slots) (hstk : As.reverse ++ .ref b :: st = stk)
    (kk : XW p l e R s m args below meth c (cells + mc) (slots + ms) nL bs Q Ω' (pc + 3) L (rv.toList ++ st)) : XW p l e R s m args below meth c cells slots nL bs Q Ω pc L stk := by
  intro H locs ls hΩ hs hL
  obtain ⟨w1, w2, w4, w5, w7, w6⟩ := hw
  have hts := C.1.2.2.2.2
  have hG : GoodIn lw_g (Cond.code y code nL' none :: lw_g) := lw_g_good (fun w hw => by
    rcases List.mem_cons.mp hw with rfl | hw <;> assumption)
  exact x_run hs hL (fun _ _ _ q => ⟨by simpa using q.1, q.2⟩) (va_runI C.1 hM (cwI n hts hG rfl hrm.1.1 hrm.1.2 (hts _ w4) (hts _ w1) (hts _ w2) w7 w6 hrm.2) ⟨xP_blind, fun U hU hW => ⟨rfl, C.2.2.2.warm hW, by rw [hU]; exact hΩ⟩⟩ rfl hn hL.1 hstk.symm (lv_room hst) hdg hf) kk
theorem x_callU {x : MethodName} {CC : String} (C : xC p m c cc nL s args own meth R cells slots D cA) (hM : xMet l D cA bs y code nL' ret rm (.ref b :: As) Ω Ω' rv mc ms) (hw : xWU own idx CC x y code nL' ret n) (hrecv : xRecv s Ω CC b) (hn : As.length = n) (hst : (st.map fun v => v.category).sum ≤ 8) (hrm : xRm R rm nL' mc ms) (hdg : decode cc pc = .ok (.invokevirtual idx, 3)) (hf : cells + mc ≤ R.cells ∧ slots + ms ≤ R.slots) (hstk : As.reverse ++ .ref b :: st = stk)
    (kk : XW p l e R s m args below meth c (cells + mc) (slots + ms) nL bs Q Ω' (pc + 3) L (rv.toList ++ st)) : XW p l e R s m args below meth c cells slots nL bs Q Ω pc L stk := by
  intro H locs ls hΩ hs hL
  obtain ⟨w1, w2, w3, w4, w5, w6, w7, w8⟩ := hw
  have hts := C.1.2.2.2.2
  have hE := C.2.2.2
  have hG : GoodIn lw_g (va_wsU own idx CC RX4 x y (Cond.code y code nL' ret :: lw_g)) := lw_g_good (fun w hw => by
    rcases List.mem_append.mp hw with hw | hw
    · simp only [List.mem_cons, List.not_mem_nil, or_false] at hw
      rcases hw with rfl | rfl | rfl | rfl | rfl <;> assumption
    · rcases List.mem_cons.mp hw with rfl | hw <;> assumption)
  have hz : va_Nw (.declares ⟨RX4, x.name, x.desc⟩) s := by
    rcases w8 with w8 | w8 | w8 <;> rw [w8]
    · exact hE.2.1
    · exact hE.2.2.1
    · exact hE.2.2.2.1
  exact x_run hs hL (fun _ _ _ q => ⟨by simpa using q.1, q.2⟩) (va_runU C.1 hM (va_cwA n hts hG rfl hrm.1.1 hrm.1.2 hz w7 hrm.2) ⟨xP_blind, hrecv H hΩ, fun U hU hW => ⟨rfl, C.2.2.2.warm hW, by rw [hU]; exact hΩ⟩⟩ rfl hn hL.1 hstk.symm (lv_room hst) hdg hf) kk
theorem xr_i {x : Int32} (C : xC p m c cc nL s args own meth R cells slots D cA) (hr : meth.sig.returnType = some .int) (hdg : decode cc pc = .ok (.ireturn, 1)) (he : ∀ H, Ω H → Ω' H) : XW p l e R s m args below meth c cells slots nL bs (xQ below args s bs (some (.int x)) Ω' cells slots) Ω pc L [.int x] :=
  fun H locs ls hΩ hs hL => W.iret C.1.1 C.1.2.1 hr (fun t ht _ => ⟨rfl, by rw [ht]; exact he H hΩ⟩) hs hdg (hlocks := C.2.1)
theorem xr_z {x : Int32} (C : xC p m c cc nL s args own meth R cells slots D cA) (hx : x = 0 ∨ x = 1) (hr : meth.sig.returnType = some .boolean) (hdg : decode cc pc = .ok (.ireturn, 1)) (he : ∀ H, Ω H → Ω' H) : XW p l e R s m args below meth c cells slots nL bs (xQ below args s bs (some (.int x)) Ω' cells slots) Ω pc L [.int x] :=
  fun H locs ls hΩ hs hL => W.zret C.1.1 C.1.2.1 hr (by rcases hx with rfl | rfl <;> rfl) (fun t ht _ => ⟨rfl, by rw [ht]; exact he H hΩ⟩) hs hdg (hlocks := C.2.1)
theorem xr_l {x : Int64} (C : xC p m c cc nL s args own meth R cells slots D cA) (hr : meth.sig.returnType = some .long) (hdg : decode cc pc = .ok (.lreturn, 1)) (he : ∀ H, Ω H → Ω' H) : XW p l e R s m args below meth c cells slots nL bs (xQ below args s bs (some (.long x)) Ω' cells slots) Ω pc L [.long x] :=
  fun H locs ls hΩ hs hL => W.lret C.1.1 C.1.2.1 hr (fun t ht _ => ⟨rfl, by rw [ht]; exact he H hΩ⟩) hs hdg (hlocks := C.2.1)
theorem xr_v (C : xC p m c cc nL s args own meth R cells slots D cA) (hr : meth.sig.returnType = none) (hdg : decode cc pc = .ok (.return_, 1)) (he : ∀ H, Ω H → Ω' H) : XW p l e R s m args below meth c cells slots nL bs (xQ below args s bs none Ω' cells slots) Ω pc L [] :=
  fun H locs ls hΩ hs hL => W.vret C.1.1 C.1.2.1 hr (fun t ht _ => ⟨rfl, by rw [ht]; exact he H hΩ⟩) hs hdg (hlocks := C.2.1)
theorem xr_a {x : Nat} {nm : String} (C : xC p m c cc nL s args own meth R cells slots D cA) (hr : meth.sig.returnType = some (.object nm)) (hdg : decode cc pc = .ok (.areturn, 1)) (he : ∀ H, Ω H → Ω' H) : XW p l e R s m args below meth c cells slots nL bs (xQ below args s bs (some (.ref x)) Ω' cells slots) Ω pc L [.ref x] :=
  fun H locs ls hΩ hs hL => W.aret C.1.1 C.1.2.1 hr (Or.inl ⟨_, rfl⟩) (Or.inr ⟨_, rfl⟩) (fun t ht _ => ⟨rfl, by rw [ht]; exact he H hΩ⟩) hs hdg (hlocks := C.2.1)
theorem xr_n {nm : String} (C : xC p m c cc nL s args own meth R cells slots D cA) (hr : meth.sig.returnType = some (.object nm)) (hdg : decode cc pc = .ok (.areturn, 1)) (he : ∀ H, Ω H → Ω' H) : XW p l e R s m args below meth c cells slots nL bs (xQ below args s bs (some .null) Ω' cells slots) Ω pc L [.null] :=
  fun H locs ls hΩ hs hL => W.aret C.1.1 C.1.2.1 hr (Or.inl ⟨_, rfl⟩) (Or.inl rfl) (fun t ht _ => ⟨rfl, by rw [ht]; exact he H hΩ⟩) hs hdg (hlocks := C.2.1)
end XCALLS
section XRECV
variable {s : State} {G : xG} {z : Nat → Nat} {σ : Sg} {τ : Tg}
theorem x_recv {f i j ci N : Nat} {CC : String} {T : u_T} {ty : Nat → FieldType} {fs : List Value} (hE : xEnv (xD G) (xcA G) s) (K : xCls ci CC T N ty) (hd : xdom z f i j) (hc : xCell G z f i j (σ.1 f i j) (σ.2.1 f i j) (σ.2.2 f) = .inr (ci, fs)) : xRecv s (xRep G z σ τ) CC (xad G f i j) := fun H hΩ => by
  have hat := (hΩ.2.1 f i j hd).1
  rw [hc] at hat
  exact va_recv (q0 := 0) (q := (CC, T, N)) hE.1 (va_P1 hat) K.2.2.2 rfl
theorem m_recv {ci N : Nat} {CC : String} {T : u_T} {ty : Nat → FieldType} {fs : List Value} (hE : xEnv (xD G) (xcA G) s) (K : xCls ci CC T N ty) (hc : mCell G z 0 (τ.1 0) (τ.2 0) = .inr (ci, fs)) : xRecv s (xRep G z σ τ) CC (xaM G 0) := fun H hΩ => by
  have hat := (hΩ.2.2 0 rfl).1
  rw [hc] at hat
  exact va_recv (q0 := 0) (q := (CC, T, N)) hE.1 (va_P1 hat) K.2.2.2 rfl
end XRECV
def FU : Nat := 100000
def bnd1 {α γ : Type} (o : Option α) (K : α → Option γ) : Option γ := o.bind K
def bnd2 {α β γ : Type} (o : Option (α × β)) (K : α → β → Option γ) : Option γ := o.bind fun q => K q.1 q.2
def bnd3 {α β δ γ : Type} (o : Option (α × β × δ)) (K : α → β → δ → Option γ) : Option γ := o.bind fun q => K q.1 q.2.1 q.2.2
def bnd4 {α β δ ε γ : Type} (o : Option (α × β × δ × ε)) (K : α → β → δ → ε → Option γ) : Option γ := o.bind fun q => K q.1 q.2.1 q.2.2.1 q.2.2.2
def gdr {γ : Type} (v n : Nat) (K : Nat → Option γ) : Option γ := if v < n then K v else none
/-- a boolean answer: 0 or 1 -/
def gdb {γ : Type} (x : Int32) (K : Option γ) : Option γ := if x = 0 ∨ x = 1 then K else none
theorem bnd1_some {α γ : Type} {o : Option α} {K : α → Option γ} {r : γ} (h : bnd1 o K = some r) : ∃ a, o = some a ∧ K a = some r := by
  cases o with
  | none => cases h
  | some a => exact ⟨a, rfl, h⟩
theorem bnd2_some {α β γ : Type} {o : Option (α × β)} {K : α → β → Option γ} {r : γ} (h : bnd2 o K = some r) : ∃ a b, o = some (a, b) ∧ K a b = some r := by
  cases o with
  | none => cases h
  | some a => exact ⟨a.1, a.2, rfl, h⟩
theorem bnd3_some {α β δ γ : Type} {o : Option (α × β × δ)} {K : α → β → δ → Option γ} {r : γ} (h : bnd3 o K = some r) : ∃ a b d, o = some (a, b, d) ∧ K a b d = some r := by
  cases o with
  | none => cases h
  | some a => exact ⟨a.1, a.2.1, a.2.2, rfl, h⟩
theorem bnd4_some {α β δ ε γ : Type} {o : Option (α × β × δ × ε)} {K : α → β → δ → ε → Option γ} {r : γ} (h : bnd4 o K = some r) : ∃ a b d e, o = some (a, b, d, e) ∧ K a b d e = some r := by
  cases o with
  | none => cases h
  | some a => exact ⟨a.1, a.2.1, a.2.2.1, a.2.2.2, rfl, h⟩
theorem gdb_some {γ : Type} {x : Int32} {K : Option γ} {r : γ} (h : gdb x K = some r) : (x = 0 ∨ x = 1) ∧ K = some r := by
  unfold gdb at h
  split at h
  next hx => exact ⟨hx, h⟩
  · cases h
theorem gdr_some {γ : Type} {v n : Nat} {K : Nat → Option γ} {r : γ} (h : gdr v n K = some r) : v < n ∧ K v = some r := by
  unfold gdr at h
  split at h
  next hx => exact ⟨hx, h⟩
  · cases h
theorem xI_ne {x : Int32} {k : Int} (v : Int32) (hv : v.toInt = k) (h : ¬ x = v) : ¬ x.toInt = k := fun q => h (Int32.toInt_inj.mp (q.trans hv.symm))
section XMORE
variable {p : Program} {l : Launch} {e : Env} {R : Room} {s : State} {m : MethodId} {args : Array Value} {below : List Frame} {meth : Method} {c : Code} {cells slots nL bs : Nat} {Q : State → Prop} {Ω Ω' : Heap → Prop}
variable {cc : ByteArray} {own : String} {D : va_G} {cA : Nat → ClassId} {pc : Nat} {L : List (Nat × Value)} {st stk As : List Value} {ρ : Type} {rr : ρ}
variable {y : MethodName} {code : ByteArray} {nL' idx n b : Nat} {ret : Option FieldType} {rm : Room}
theorem x_join {Ω' : Heap → Prop} {pc' : Nat} {L' : List (Nat × Value)} {st' : List Value} (k : XW p l e R s m args below meth c cells slots nL bs Q Ω' pc' L' st') (kk : XW p l e R s m args below meth c cells slots nL bs Q Ω' pc' L' st' → XW p l e R s m args below meth c cells slots nL bs Q Ω pc L st) : XW p l e R s m args below meth c cells slots nL bs Q Ω pc L st := kk k
theorem x_iincL (C : xC p m c cc nL s args own meth R cells slots D cA) {i k : Nat} {n : Int} {x w : Int32} {L' : Int32 → List (Nat × Value)} {K : Int32 → Option ρ} (hdg : decode cc pc = .ok (.iinc i n, 3)) (hk : L[k]? = some (i, .int x)) (hn : i < nL) (hw : Int32.ofInt n = w) (hl : ∀ v, (i, Value.int v) :: L.filter (fun q => !(q.1 == i) && !(q.1 + 1 == i && q.2.category == 2)) = L' v) (h : letv (x + w) K = some rr) (kk : ∀ v, K v = some rr → XW p l e R s m args below meth c cells slots nL bs Q Ω (pc + 3) (L' v) st) : XW p l e R s m args below meth c cells slots nL bs Q Ω pc L st :=
  x_iinc C hdg hk (by rw [hw]) hn (hl (x + w)) (kk _ h)
theorem x_gdr {G : xG} {v n : Nat} {K : Nat → Option ρ} (h : gdr v n K = some rr) (kk : ∀ v, v < n → K v = some rr → XW p l e R s m args below meth c cells slots nL bs Q Ω pc L (.ref (xad G 13 v 0) :: st)) : XW p l e R s m args below meth c cells slots nL bs Q Ω pc L (.ref (xad G 13 v 0) :: st) := kk v (gdr_some h).1 (gdr_some h).2
theorem x_callV_i (C : xC p m c cc nL s args own meth R cells slots D cA) {r : Int32} (hM : xMet l D cA bs y code nL' ret rm (.ref b :: As) Ω Ω' (some (.int r)) 0 0) (hw : xWV own idx y code nL' ret n) (hrecv : xRecv s Ω y.cls b) (hn : As.length = n) (hst : (st.map fun v => v.category).sum ≤ 8) (hrm : xRm R rm nL' 0 0) (hdg : decode cc pc = .ok (.invokevirtual idx, 3)) (hstk : As.reverse ++ .ref b :: st = stk) (kk : XW p l e R s m args below meth c cells slots nL bs Q Ω' (pc + 3) L (.int r :: st)) : XW p l e R s m args below meth c cells slots nL bs Q Ω pc L stk := x_callV C hM hw hrecv hn hst hrm hdg C.2.2.1 hstk kk
theorem x_callV_l (C : xC p m c cc nL s args own meth R cells slots D cA) {r : Int64} (hM : xMet l D cA bs y code nL' ret rm (.ref b :: As) Ω Ω' (some (.long r)) 0 0) (hw : xWV own idx y code nL' ret n) (hrecv : xRecv s Ω y.cls b) (hn : As.length = n) (hst : (st.map fun v => v.category).sum ≤ 8) (hrm : xRm R rm nL' 0 0) (hdg : decode cc pc = .ok (.invokevirtual idx, 3)) (hstk : As.reverse ++ .ref b :: st = stk) (kk : XW p l e R s m args below meth c cells slots nL bs Q Ω' (pc + 3) L (.long r :: st)) : XW p l e R s m args below meth c cells slots nL bs Q Ω pc L stk := x_callV C hM hw hrecv hn hst hrm hdg C.2.2.1 hstk kk
theorem x_callV_v (C : xC p m c cc nL s args own meth R cells slots D cA)  (hM : xMet l D cA bs y code nL' ret rm (.ref b :: As) Ω Ω' none 0 0) (hw : xWV own idx y code nL' ret n) (hrecv : xRecv s Ω y.cls b) (hn : As.length = n) (hst : (st.map fun v => v.category).sum ≤ 8) (hrm : xRm R rm nL' 0 0) (hdg : decode cc pc = .ok (.invokevirtual idx, 3)) (hstk : As.reverse ++ .ref b :: st = stk) (kk : XW p l e R s m args below meth c cells slots nL bs Q Ω' (pc + 3) L st) : XW p l e R s m args below meth c cells slots nL bs Q Ω pc L stk := x_callV C hM hw hrecv hn hst hrm hdg C.2.2.1 hstk kk
theorem x_callV_a (C : xC p m c cc nL s args own meth R cells slots D cA) {r : Nat} (hM : xMet l D cA bs y code nL' ret rm (.ref b :: As) Ω Ω' (some (.ref r)) 0 0) (hw : xWV own idx y code nL' ret n) (hrecv : xRecv s Ω y.cls b) (hn : As.length = n) (hst : (st.map fun v => v.category).sum ≤ 8) (hrm : xRm R rm nL' 0 0) (hdg : decode cc pc = .ok (.invokevirtual idx, 3)) (hstk : As.reverse ++ .ref b :: st = stk) (kk : XW p l e R s m args below meth c cells slots nL bs Q Ω' (pc + 3) L (.ref r :: st)) : XW p l e R s m args below meth c cells slots nL bs Q Ω pc L stk := x_callV C hM hw hrecv hn hst hrm hdg C.2.2.1 hstk kk
theorem x_callV_n (C : xC p m c cc nL s args own meth R cells slots D cA)  (hM : xMet l D cA bs y code nL' ret rm (.ref b :: As) Ω Ω' (some .null) 0 0) (hw : xWV own idx y code nL' ret n) (hrecv : xRecv s Ω y.cls b) (hn : As.length = n) (hst : (st.map fun v => v.category).sum ≤ 8) (hrm : xRm R rm nL' 0 0) (hdg : decode cc pc = .ok (.invokevirtual idx, 3)) (hstk : As.reverse ++ .ref b :: st = stk) (kk : XW p l e R s m args below meth c cells slots nL bs Q Ω' (pc + 3) L (.null :: st)) : XW p l e R s m args below meth c cells slots nL bs Q Ω pc L stk := x_callV C hM hw hrecv hn hst hrm hdg C.2.2.1 hstk kk
theorem x_callS_i (C : xC p m c cc nL s args own meth R cells slots D cA) {r : Int32} (hM : xMet l D cA bs y code nL' ret rm As Ω Ω' (some (.int r)) 0 0) (hw : xWS own idx y code nL' ret n) (hn : As.length = n) (hst : (st.map fun v => v.category).sum ≤ 8) (hrm : xRm R rm nL' 0 0) (hdg : decode cc pc = .ok (.invokestatic idx, 3)) (hstk : As.reverse ++ st = stk) (kk : XW p l e R s m args below meth c cells slots nL bs Q Ω' (pc + 3) L (.int r :: st)) : XW p l e R s m args below meth c cells slots nL bs Q Ω pc L stk := x_callS C hM hw hn hst hrm hdg C.2.2.1 hstk kk
theorem x_callS_l (C : xC p m c cc nL s args own meth R cells slots D cA) {r : Int64} (hM : xMet l D cA bs y code nL' ret rm As Ω Ω' (some (.long r)) 0 0) (hw : xWS own idx y code nL' ret n) (hn : As.length = n) (hst : (st.map fun v => v.category).sum ≤ 8) (hrm : xRm R rm nL' 0 0) (hdg : decode cc pc = .ok (.invokestatic idx, 3)) (hstk : As.reverse ++ st = stk) (kk : XW p l e R s m args below meth c cells slots nL bs Q Ω' (pc + 3) L (.long r :: st)) : XW p l e R s m args below meth c cells slots nL bs Q Ω pc L stk := x_callS C hM hw hn hst hrm hdg C.2.2.1 hstk kk
theorem x_callS_v (C : xC p m c cc nL s args own meth R cells slots D cA)  (hM : xMet l D cA bs y code nL' ret rm As Ω Ω' none 0 0) (hw : xWS own idx y code nL' ret n) (hn : As.length = n) (hst : (st.map fun v => v.category).sum ≤ 8) (hrm : xRm R rm nL' 0 0) (hdg : decode cc pc = .ok (.invokestatic idx, 3)) (hstk : As.reverse ++ st = stk) (kk : XW p l e R s m args below meth c cells slots nL bs Q Ω' (pc + 3) L st) : XW p l e R s m args below meth c cells slots nL bs Q Ω pc L stk := x_callS C hM hw hn hst hrm hdg C.2.2.1 hstk kk
theorem x_callS_a (C : xC p m c cc nL s args own meth R cells slots D cA) {r : Nat} (hM : xMet l D cA bs y code nL' ret rm As Ω Ω' (some (.ref r)) 0 0) (hw : xWS own idx y code nL' ret n) (hn : As.length = n) (hst : (st.map fun v => v.category).sum ≤ 8) (hrm : xRm R rm nL' 0 0) (hdg : decode cc pc = .ok (.invokestatic idx, 3)) (hstk : As.reverse ++ st = stk) (kk : XW p l e R s m args below meth c cells slots nL bs Q Ω' (pc + 3) L (.ref r :: st)) : XW p l e R s m args below meth c cells slots nL bs Q Ω pc L stk := x_callS C hM hw hn hst hrm hdg C.2.2.1 hstk kk
theorem x_callS_n (C : xC p m c cc nL s args own meth R cells slots D cA)  (hM : xMet l D cA bs y code nL' ret rm As Ω Ω' (some .null) 0 0) (hw : xWS own idx y code nL' ret n) (hn : As.length = n) (hst : (st.map fun v => v.category).sum ≤ 8) (hrm : xRm R rm nL' 0 0) (hdg : decode cc pc = .ok (.invokestatic idx, 3)) (hstk : As.reverse ++ st = stk) (kk : XW p l e R s m args below meth c cells slots nL bs Q Ω' (pc + 3) L (.null :: st)) : XW p l e R s m args below meth c cells slots nL bs Q Ω pc L stk := x_callS C hM hw hn hst hrm hdg C.2.2.1 hstk kk
theorem x_callU_i (C : xC p m c cc nL s args own meth R cells slots D cA) {r : Int32} (hM : xMet l D cA bs y code nL' ret rm (.ref b :: As) Ω Ω' (some (.int r)) 0 0) {x : MethodName} {CC : String} (hw : xWU own idx CC x y code nL' ret n) (hrecv : xRecv s Ω CC b) (hn : As.length = n) (hst : (st.map fun v => v.category).sum ≤ 8) (hrm : xRm R rm nL' 0 0) (hdg : decode cc pc = .ok (.invokevirtual idx, 3)) (hstk : As.reverse ++ .ref b :: st = stk) (kk : XW p l e R s m args below meth c cells slots nL bs Q Ω' (pc + 3) L (.int r :: st)) : XW p l e R s m args below meth c cells slots nL bs Q Ω pc L stk := x_callU C hM hw hrecv hn hst hrm hdg C.2.2.1 hstk kk
theorem x_callU_l (C : xC p m c cc nL s args own meth R cells slots D cA) {r : Int64} (hM : xMet l D cA bs y code nL' ret rm (.ref b :: As) Ω Ω' (some (.long r)) 0 0) {x : MethodName} {CC : String} (hw : xWU own idx CC x y code nL' ret n) (hrecv : xRecv s Ω CC b) (hn : As.length = n) (hst : (st.map fun v => v.category).sum ≤ 8) (hrm : xRm R rm nL' 0 0) (hdg : decode cc pc = .ok (.invokevirtual idx, 3)) (hstk : As.reverse ++ .ref b :: st = stk) (kk : XW p l e R s m args below meth c cells slots nL bs Q Ω' (pc + 3) L (.long r :: st)) : XW p l e R s m args below meth c cells slots nL bs Q Ω pc L stk := x_callU C hM hw hrecv hn hst hrm hdg C.2.2.1 hstk kk
theorem x_callU_v (C : xC p m c cc nL s args own meth R cells slots D cA)  (hM : xMet l D cA bs y code nL' ret rm (.ref b :: As) Ω Ω' none 0 0) {x : MethodName} {CC : String} (hw : xWU own idx CC x y code nL' ret n) (hrecv : xRecv s Ω CC b) (hn : As.length = n) (hst : (st.map fun v => v.category).sum ≤ 8) (hrm : xRm R rm nL' 0 0) (hdg : decode cc pc = .ok (.invokevirtual idx, 3)) (hstk : As.reverse ++ .ref b :: st = stk) (kk : XW p l e R s m args below meth c cells slots nL bs Q Ω' (pc + 3) L st) : XW p l e R s m args below meth c cells slots nL bs Q Ω pc L stk := x_callU C hM hw hrecv hn hst hrm hdg C.2.2.1 hstk kk
theorem x_callU_a (C : xC p m c cc nL s args own meth R cells slots D cA) {r : Nat} (hM : xMet l D cA bs y code nL' ret rm (.ref b :: As) Ω Ω' (some (.ref r)) 0 0) {x : MethodName} {CC : String} (hw : xWU own idx CC x y code nL' ret n) (hrecv : xRecv s Ω CC b) (hn : As.length = n) (hst : (st.map fun v => v.category).sum ≤ 8) (hrm : xRm R rm nL' 0 0) (hdg : decode cc pc = .ok (.invokevirtual idx, 3)) (hstk : As.reverse ++ .ref b :: st = stk) (kk : XW p l e R s m args below meth c cells slots nL bs Q Ω' (pc + 3) L (.ref r :: st)) : XW p l e R s m args below meth c cells slots nL bs Q Ω pc L stk := x_callU C hM hw hrecv hn hst hrm hdg C.2.2.1 hstk kk
theorem x_callU_n (C : xC p m c cc nL s args own meth R cells slots D cA)  (hM : xMet l D cA bs y code nL' ret rm (.ref b :: As) Ω Ω' (some .null) 0 0) {x : MethodName} {CC : String} (hw : xWU own idx CC x y code nL' ret n) (hrecv : xRecv s Ω CC b) (hn : As.length = n) (hst : (st.map fun v => v.category).sum ≤ 8) (hrm : xRm R rm nL' 0 0) (hdg : decode cc pc = .ok (.invokevirtual idx, 3)) (hstk : As.reverse ++ .ref b :: st = stk) (kk : XW p l e R s m args below meth c cells slots nL bs Q Ω' (pc + 3) L (.null :: st)) : XW p l e R s m args below meth c cells slots nL bs Q Ω pc L stk := x_callU C hM hw hrecv hn hst hrm hdg C.2.2.1 hstk kk
end XMORE
theorem xb_s {a b n : Nat} (h : n < a) : n < a + b := Nat.lt_add_right b h
theorem xb_a {a b n : Nat} (h : n < b) : a + n < a + b := Nat.add_lt_add_left h a
theorem xb_d {n : Nat} : n < n + 2 := Nat.lt_add_of_pos_right (by decide)
theorem dm_0 (z : Nat → Nat) : xdom z 0 0 0 := ⟨Nat.one_pos, Nat.one_pos⟩
theorem dm_1 (z : Nat → Nat) : xdom z 1 0 0 := ⟨Nat.one_pos, Nat.one_pos⟩
theorem dm_2 (z : Nat → Nat) : xdom z 2 0 0 := ⟨Nat.one_pos, Nat.one_pos⟩
theorem dm_3 (z : Nat → Nat) : xdom z 3 0 0 := ⟨Nat.one_pos, Nat.one_pos⟩
theorem dm_4 (z : Nat → Nat) : xdom z 4 0 0 := ⟨Nat.one_pos, Nat.one_pos⟩
theorem dm_5 (z : Nat → Nat) : xdom z 5 0 0 := ⟨Nat.one_pos, Nat.one_pos⟩
theorem dm_6 (z : Nat → Nat) : xdom z 6 0 0 := ⟨Nat.one_pos, Nat.one_pos⟩
theorem dm_7 (z : Nat → Nat) : xdom z 7 0 0 := ⟨Nat.one_pos, Nat.one_pos⟩
theorem dm_9 (z : Nat → Nat) : xdom z 9 0 0 := ⟨Nat.one_pos, Nat.one_pos⟩
theorem dm_11 (z : Nat → Nat) : xdom z 11 0 0 := ⟨Nat.one_pos, Nat.one_pos⟩
theorem dm_12 (z : Nat → Nat) : xdom z 12 0 0 := ⟨Nat.one_pos, Nat.one_pos⟩
theorem dm_16 (z : Nat → Nat) : xdom z 16 0 0 := ⟨Nat.one_pos, Nat.one_pos⟩
theorem dm_24 (z : Nat → Nat) : xdom z 24 0 0 := ⟨Nat.one_pos, Nat.one_pos⟩
theorem dm_8 {z : Nat → Nat} {t : Nat} (h : t < z 2) : xdom z 8 t 0 := ⟨h, Nat.one_pos⟩
theorem dm_10 {z : Nat → Nat} {t : Nat} (h : t < z 2) : xdom z 10 t 0 := ⟨h, Nat.one_pos⟩
theorem dm_13 {z : Nat → Nat} {i : Nat} (h : i < z 4 + 2) : xdom z 13 i 0 := ⟨h, Nat.one_pos⟩
theorem dm_14 {z : Nat → Nat} {i : Nat} (h : i < z 4 + 2) : xdom z 14 i 0 := ⟨h, Nat.one_pos⟩
theorem dm_15 {z : Nat → Nat} {i : Nat} (h : i < z 4 + 2) : xdom z 15 i 0 := ⟨h, Nat.one_pos⟩
theorem dm_17 {z : Nat → Nat} {i : Nat} (h : i < z 0) : xdom z 17 i 0 := ⟨h, Nat.one_pos⟩
theorem dm_21 {z : Nat → Nat} {i : Nat} (h : i < z 0) : xdom z 21 i 0 := ⟨h, Nat.one_pos⟩
theorem dm_22 {z : Nat → Nat} {i : Nat} (h : i < z 0) : xdom z 22 i 0 := ⟨h, Nat.one_pos⟩
theorem dm_23 {z : Nat → Nat} {i : Nat} (h : i < z 0) : xdom z 23 i 0 := ⟨h, Nat.one_pos⟩
theorem dm_18 {z : Nat → Nat} {i : Nat} (h : i < z 0 + z 1) : xdom z 18 i 0 := ⟨h, Nat.one_pos⟩
theorem dm_19 {z : Nat → Nat} {i : Nat} (h : i < z 0 + z 1) : xdom z 19 i 0 := ⟨h, Nat.one_pos⟩
theorem dm_20 {z : Nat → Nat} {i j : Nat} (h : i < z 0 + z 1) (hj : j < z 5) : xdom z 20 i j := ⟨h, hj⟩
theorem dm_25 {z : Nat → Nat} {i : Nat} (h : i < z 1) : xdom z 25 i 0 := ⟨h, Nat.one_pos⟩
theorem dm_26 {z : Nat → Nat} {i : Nat} (h : i < z 1) : xdom z 26 i 0 := ⟨h, Nat.one_pos⟩
theorem dm_27 {z : Nat → Nat} {i j : Nat} (h : i < z 1) (hj : j < z 2) : xdom z 27 i j := ⟨h, hj⟩
theorem dm_28 {z : Nat → Nat} {i j : Nat} (h : i < z 1) (hj : j < z 2) : xdom z 28 i j := ⟨h, hj⟩
theorem dm_29 {z : Nat → Nat} {i j : Nat} (h : i < z 1) (hj : j < z 2) : xdom z 29 i j := ⟨h, hj⟩
theorem dm_30 {z : Nat → Nat} {i j : Nat} (h : i < z 1) (hj : j < z 2) : xdom z 30 i j := ⟨h, hj⟩
theorem dm_31 {z : Nat → Nat} {i j : Nat} (h : i < z 1) (hj : j < z 2) : xdom z 31 i j := ⟨h, hj⟩
theorem dm_32 {z : Nat → Nat} {i j : Nat} (h : i < z 1) (hj : j < z 2) : xdom z 32 i j := ⟨h, hj⟩
theorem dm_33 {z : Nat → Nat} {i j : Nat} (h : i < z 1) (hj : j < z 2) : xdom z 33 i j := ⟨h, hj⟩
