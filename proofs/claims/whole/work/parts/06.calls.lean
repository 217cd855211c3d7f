/-! contracts, calls, ends -/
def xMet (l : Launch) (D : va_G) (cA : Nat → ClassId) (bs : Nat) (y : MethodName) (code : ByteArray) (nL : Nat) (ret : Option FieldType) (rm : Room) (avs : List Value) (Ω Ω' : Heap → Prop) (rv : Option Value) (mc ms : Nat) : Prop :=
  Met l y (Cond.code y code nL ret :: lw_g) rm (va_Pc avs (fun U => xEnv D cA U ∧ Ω U.heap)) (fun _ _ oc t => oc = .returned rv ∧ Ω' t.heap) mc ms (fun q => bs ≤ q)
abbrev xQ (below : List Frame) (args : Array Value) (s : State) (bs : Nat) (rv : Option Value) (Ω' : Heap → Prop) (mc ms : Nat) : State → Prop := MQ below (fun _ _ oc t => oc = .returned rv ∧ Ω' t.heap) args s mc ms (fun q => bs ≤ q)
theorem xMet.of {l : Launch} {D : va_G} {cA : Nat → ClassId} {bs : Nat} {y : MethodName} {code : ByteArray} {nL : Nat} {ret : Option FieldType} {rm : Room} {avs : List Value} {Ω Ω' : Heap → Prop} {rv : Option Value} {mc ms : Nat} (own : String) (ho : y.cls = own) (hy : plainName y.cls = true) (hlen : (lg_sl avs).length ≤ nL)
    (body : ∀ (p : Program) (e : Env) (s : State) (m : MethodId) (args : Array Value) (below : List Frame) (meth : Method) (c : Code), xC p m c code nL s args own meth rm 0 0 D cA → meth.sig.returnType = ret → meth.name = y.name → XW p l e rm s m args below meth c 0 0 nL bs (xQ below args s bs rv Ω' mc ms) Ω 0 (lv_args 0 avs) []) : xMet l D cA bs y code nL ret rm avs Ω Ω' rv mc ms := by
  refine Met.ofW (cc := code) (maxL := nL) (ret := ret) hy rfl ?_
  intro p e s m args below meth c s₁ B hml hv
  obtain ⟨rfl, hE, hΩ⟩ := hv
  have hts := atoms_spec (ws := Cond.code y code nL ret :: lw_g) B.pre
  have hown : s.vm.findClass own = some m.cls := by rw [← ho]; exact findClass_of_methodNamed B.named
  rw [lg_entry_eq]
  exact body p e s m _ below meth c ⟨⟨B.exec, B.bytes, hml, hown, fun w hw => hts w (List.mem_cons_of_mem _ hw)⟩, B.notSynchronized, ⟨Nat.zero_le _, Nat.zero_le _⟩, hE⟩ B.returns (name_of_methodNamed B.named B.method).1 s.heap [] _ hΩ (fun q h => by cases h) (lv_entry avs hlen)
abbrev xHd (y : MethodName) (n : Nat) : Prop := y.cls ≠ "java/lang/invoke/MethodHandle" ∧ y.cls ≠ "java/lang/invoke/VarHandle" ∧ (parseMethodDescriptor y.desc).map (fun d => d.parameters.length) = some n
def xWV (own : String) (idx : Nat) (y : MethodName) (code : ByteArray) (nL : Nat) (ret : Option FieldType) (n : Nat) : Prop := Cond.methodLink own idx y ∈ lw_g ∧ Cond.instanceMethod y ∈ lw_g ∧ Cond.selects y.cls y y ∈ lw_g ∧ Cond.initialized y.cls ∈ lw_g ∧ Cond.code y code nL ret ∈ lw_g ∧ xHd y n
def xWS (own : String) (idx : Nat) (y : MethodName) (code : ByteArray) (nL : Nat) (ret : Option FieldType) (n : Nat) : Prop := Cond.methodLink own idx y ∈ lw_g ∧ Cond.static y ∈ lw_g ∧ Cond.initialized y.cls ∈ lw_g ∧ Cond.code y code nL ret ∈ lw_g ∧ xHd y n
def xWI (own : String) (idx : Nat) (y : MethodName) (code : ByteArray) (nL : Nat) (n : Nat) : Prop := Cond.methodLink own idx y ∈ lw_g ∧ Cond.instanceMethod y ∈ lw_g ∧ Cond.initialized y.cls ∈ lw_g ∧ Cond.code y code nL none ∈ lw_g ∧ y.name = "<init>" ∧ xHd y n
def xWU (own : String) (idx : Nat) (CC : String) (x y : MethodName) (code : ByteArray) (nL : Nat) (ret : Option FieldType) (n : Nat) : Prop := Cond.methodLink own idx x ∈ lw_g ∧ Cond.sameMethod x.cls RX4 x.name x.desc ∈ lw_g ∧ Cond.selects CC x y ∈ lw_g ∧ Cond.instanceMethod y ∈ lw_g ∧ Cond.initialized y.cls ∈ lw_g ∧ Cond.code y code nL ret ∈ lw_g ∧ (RX4 ≠ "java/lang/invoke/MethodHandle" ∧ RX4 ≠ "java/lang/invoke/VarHandle" ∧ (parseMethodDescriptor x.desc).map (fun d => d.parameters.length) = some n) ∧ (MethodName.mk RX4 x.name x.desc = yN_hear ∨ MethodName.mk RX4 x.name x.desc = yN_forget ∨ MethodName.mk RX4 x.name x.desc = yN_told)
theorem lw_g_good {ws : List Cond} (h : ∀ w ∈ ws, w ∈ lw_g) : GoodIn lw_g ws := fun w hw => ⟨h w hw, good_of_word (List.mem_filter.mp (h w hw)).2⟩
section XCALLS
variable {p : Program} {l : Launch} {e : Env} {R : Room} {s : State} {m : MethodId} {args : Array Value} {below : List Frame} {meth : Method} {c : Code} {cells slots nL bs : Nat} {Q : State → Prop} {Ω Ω' : Heap → Prop}
variable {cc : ByteArray} {own : String} {D : va_G} {cA : Nat → ClassId} {pc : Nat} {L : List (Nat × Value)} {st stk As : List Value}
variable {y : MethodName} {code : ByteArray} {nL' mc ms idx n b : Nat} {ret : Option FieldType} {rm : Room} {rv : Option Value}
theorem xP_blind {avs : List Value} : FrameBlind (va_Pc avs (fun U => xEnv D cA U ∧ Ω U.heap)) := fun a U g mk q => ⟨q.1, xEnv.call q.2.1, q.2.2⟩
abbrev xRm (R rm : Room) (nL' mc ms : Nat) : Prop := (rm.cells = mc ∧ rm.slots = ms) ∧ rm.frames + 1 ≤ R.frames ∧ 8 + (nL' + 11) + rm.locals ≤ R.locals
theorem x_run {L' : List Loc} (hs : ∀ q ∈ L', bs ≤ q.base) {H : Heap} {ls : Array Slot} {Qa : State → Outcome → State → Prop} (hL : lv_has ls nL L) (hQ : ∀ st0 v t, Qa st0 (.returned v) t → v = rv ∧ Ω' t.heap) (hr : va_Run p l e R s m args below meth c H L' cells slots mc ms (F0 m pc ls stk) st Qa (fun q => bs ≤ q))
    (kk : XW p l e R s m args below meth c (cells + mc) (slots + ms) nL bs Q Ω' (pc + 3) L (rv.toList ++ st)) : W p l e R s m args below meth c H L' cells slots Q (F0 m pc ls stk) := by
  intro T hT X
  obtain ⟨v, st₀, t, T', Lx, h0, X', hLx, e1, e2, hq, stp⟩ := hr T hT X
  obtain ⟨rfl, hΩ⟩ := hQ _ _ _ hq
  obtain ⟨t2, a1, b1⟩ := kk T'.heap (L' ++ Lx) ls (by rw [e1]; exact hΩ) (fun q hq => by
    rcases List.mem_append.mp hq with h | h
    · exact hs q h
    · exact hLx q h) hL T' rfl X'
  exact ⟨t2, stp t2 a1, b1⟩
abbrev xRecv (s : State) (Ω : Heap → Prop) (CC : String) (b : Nat) : Prop := ∀ H, Ω H → ∃ cellB : Cell, H[b]? = some cellB ∧ cellB.vm.isStatics = false ∧ s.vm.findClass CC = some cellB.cls
theorem x_callV (C : xC p m c cc nL s args own meth R cells slots D cA) (hM : xMet l D cA bs y code nL' ret rm (.ref b :: As) Ω Ω' rv mc ms) (hw : xWV own idx y code nL' ret n) (hrecv : xRecv s Ω y.cls b) (hn : As.length = n) (hst : (st.map fun v => v.category).sum ≤ 8) (hrm : xRm R rm nL' mc ms) (hdg : decode cc pc = .ok (.invokevirtual idx, 3)) (hf : cells + mc ≤ R.cells ∧ slots + ms ≤ R.slots) (hstk : As.reverse ++ .ref b :: st = stk)
    (kk : XW p l e R s m args below meth c (cells + mc) (slots + ms) nL bs Q Ω' (pc + 3) L (rv.toList ++ st)) : XW p l e R s m args below meth c cells slots nL bs Q Ω pc L stk := by
  intro H locs ls hΩ hs hL
  obtain ⟨w1, w2, w3, w4, w5, w6⟩ := hw
  have hts := C.1.2.2.2.2
  have hG : GoodIn lw_g (wsV own idx y.cls y (Cond.code y code nL' ret :: lw_g)) := lw_g_good (fun w hw => by
    rcases List.mem_append.mp hw with hw | hw
    · simp only [List.mem_cons, List.not_mem_nil, or_false] at hw
      rcases hw with rfl | rfl | rfl | rfl <;> assumption
    · rcases List.mem_cons.mp hw with rfl | hw <;> assumption)
  refine x_run hs hL (fun _ _ _ q => ⟨by simpa using q.1, q.2⟩) (va_runV C.1 hM (cwV n hts hG rfl hrm.1.1 hrm.1.2 ⟨rfl, w6.1, w6.2.1, w6.2.2⟩ hrm.2) ⟨xP_blind, hrecv H hΩ, fun U hU hW => ⟨rfl, C.2.2.2.warm hW, by rw [hU]; exact hΩ⟩⟩ rfl hn hL.1 hstk.symm (lv_room hst) hdg hf) kk
theorem x_callS (C : xC p m c cc nL s args own meth R cells slots D cA) (hM : xMet l D cA bs y code nL' ret rm As Ω Ω' rv mc ms) (hw : xWS own idx y code nL' ret n) (hn : As.length = n) (hst : (st.map fun v => v.category).sum ≤ 8) (hrm : xRm R rm nL' mc ms) (hdg : decode cc pc = .ok (.invokestatic idx, 3)) (hf : cells + mc ≤ R.cells ∧ slots + ms ≤ R.slots) (hstk : As.reverse ++ st = stk)
    (kk : XW p l e R s m args below meth c (cells + mc) (slots + ms) nL bs Q Ω' (pc + 3) L (rv.toList ++ st)) : XW p l e R s m args below meth c cells slots nL bs Q Ω pc L stk := by
  intro H locs ls hΩ hs hL
  obtain ⟨w1, w2, w4, w5, w6⟩ := hw
  have hts := C.1.2.2.2.2
  have hG : GoodIn lw_g (Cond.code y code nL' ret :: lw_g) := lw_g_good (fun w hw => by
    rcases List.mem_cons.mp hw with rfl | hw <;> assumption)
  exact x_run hs hL (fun _ _ _ q => ⟨by simpa using q.1, q.2⟩) (va_runS C.1 hM ⟨callB_of n hts hG rfl hrm.1.1 hrm.1.2 (hts _ w4) (hts _ w1) w6 hrm.2, hts _ w2⟩ ⟨xP_blind, fun U hU hW => ⟨rfl, C.2.2.2.warm hW, by rw [hU]; exact hΩ⟩⟩ rfl hn hL.1 hstk.symm (lv_room hst) hdg hf) kk
theorem x_callI (C : xC p m c cc nL s args own meth R cells slots D cA) (hM : xMet l D cA bs y code nL' none rm (.ref b :: As) Ω Ω' rv mc ms) (hw : xWI own idx y code nL' n) (hn : As.length = n) (hst : (st.map fun v => v.category).sum ≤ 8) (hrm : xRm R rm nL' mc ms) (hdg : decode cc pc = .ok (.invokespecial idx, 3)) (hf : cells + mc ≤ R.cells ∧ slots + ms ≤ R.slots) (hstk : As.reverse ++ .ref b :: st = stk)
    (kk : XW p l e R s m args below meth c (cells + mc) (slots + ms) nL bs Q Ω' (pc + 3) L (rv.toList ++ st)) : XW p l e R s m args below meth c cells slots nL bs Q Ω pc L stk := by
  intro H locs ls hΩ hs hL
  obtain ⟨w1, w2, w4, w5, w7, w6⟩ := hw
  have hts := C.1.2.2.2.2
  have hG : GoodIn lw_g (Cond.code y code nL' none :: lw_g) := lw_g_good (fun w hw => by
    rcases List.mem_cons.mp hw with rfl | hw <;> assumption)
  exact x_run hs hL (fun _ _ _ q => ⟨by simpa using q.1, q.2⟩) (va_runI C.1 hM (cwI n hts hG rfl hrm.1.1 hrm.1.2 (hts _ w4) (hts _ w1) (hts _ w2) w7 w6 hrm.2) ⟨xP_blind, fun U hU hW => ⟨rfl, C.2.2.2.warm hW, by rw [hU]; exact hΩ⟩⟩ rfl hn hL.1 hstk.symm (lv_room hst) hdg hf) kk
theorem x_callU {x : MethodName} {CC : String} (C : xC p m c cc nL s args own meth R cells slots D cA) (hM : xMet l D cA bs y code nL' ret rm (.ref b :: As) Ω Ω' rv mc ms) (hw : xWU own idx CC x y code nL' ret n) (hrecv : xRecv s Ω CC b) (hn : As.length = n) (hst : (st.map fun v => v.category).sum ≤ 8) (hrm : xRm R rm nL' mc ms) (hdg : decode cc pc = .ok (.invokevirtual idx, 3)) (hf : cells + mc ≤ R.cells ∧ slots + ms ≤ R.slots) (hstk : As.reverse ++ .ref b :: st = stk)
    (kk : XW p l e R s m args below meth c (cells + mc) (slots + ms) nL bs Q Ω' (pc + 3) L (rv.toList ++ st)) : XW p l e R s m args below meth c cells slots nL bs Q Ω pc L stk := by
  intro H locs ls hΩ hs hL
  obtain ⟨w1, w2, w3, w4, w5, w6, w7, w8⟩ := hw
  have hts := C.1.2.2.2.2
  have hE := C.2.2.2
  have hG : GoodIn lw_g (va_wsU own idx CC RX4 x y (Cond.code y code nL' ret :: lw_g)) := lw_g_good (fun w hw => by
    rcases List.mem_append.mp hw with hw | hw
    · simp only [List.mem_cons, List.not_mem_nil, or_false] at hw
      rcases hw with rfl | rfl | rfl | rfl | rfl <;> assumption
    · rcases List.mem_cons.mp hw with rfl | hw <;> assumption)
  have hz : va_Nw (.declares ⟨RX4, x.name, x.desc⟩) s := by
    rcases w8 with w8 | w8 | w8 <;> rw [w8]
    · exact hE.2.1
    · exact hE.2.2.1
    · exact hE.2.2.2
  exact x_run hs hL (fun _ _ _ q => ⟨by simpa using q.1, q.2⟩) (va_runU C.1 hM (va_cwA n hts hG rfl hrm.1.1 hrm.1.2 hz w7 hrm.2) ⟨xP_blind, hrecv H hΩ, fun U hU hW => ⟨rfl, C.2.2.2.warm hW, by rw [hU]; exact hΩ⟩⟩ rfl hn hL.1 hstk.symm (lv_room hst) hdg hf) kk
theorem xr_i {x : Int32} (C : xC p m c cc nL s args own meth R cells slots D cA) (hr : meth.sig.returnType = some .int) (hdg : decode cc pc = .ok (.ireturn, 1)) (he : ∀ H, Ω H → Ω' H) : XW p l e R s m args below meth c cells slots nL bs (xQ below args s bs (some (.int x)) Ω' cells slots) Ω pc L [.int x] :=
  fun H locs ls hΩ hs hL => W.iret C.1.1 C.1.2.1 hr (fun t ht _ => ⟨rfl, by rw [ht]; exact he H hΩ⟩) hs hdg (hlocks := C.2.1)
theorem xr_z {x : Int32} (C : xC p m c cc nL s args own meth R cells slots D cA) (hx : x = 0 ∨ x = 1) (hr : meth.sig.returnType = some .boolean) (hdg : decode cc pc = .ok (.ireturn, 1)) (he : ∀ H, Ω H → Ω' H) : XW p l e R s m args below meth c cells slots nL bs (xQ below args s bs (some (.int x)) Ω' cells slots) Ω pc L [.int x] :=
  fun H locs ls hΩ hs hL => W.zret C.1.1 C.1.2.1 hr (by rcases hx with rfl | rfl <;> rfl) (fun t ht _ => ⟨rfl, by rw [ht]; exact he H hΩ⟩) hs hdg (hlocks := C.2.1)
theorem xr_l {x : Int64} (C : xC p m c cc nL s args own meth R cells slots D cA) (hr : meth.sig.returnType = some .long) (hdg : decode cc pc = .ok (.lreturn, 1)) (he : ∀ H, Ω H → Ω' H) : XW p l e R s m args below meth c cells slots nL bs (xQ below args s bs (some (.long x)) Ω' cells slots) Ω pc L [.long x] :=
  fun H locs ls hΩ hs hL => W.lret C.1.1 C.1.2.1 hr (fun t ht _ => ⟨rfl, by rw [ht]; exact he H hΩ⟩) hs hdg (hlocks := C.2.1)
theorem xr_v (C : xC p m c cc nL s args own meth R cells slots D cA) (hr : meth.sig.returnType = none) (hdg : decode cc pc = .ok (.return_, 1)) (he : ∀ H, Ω H → Ω' H) : XW p l e R s m args below meth c cells slots nL bs (xQ below args s bs none Ω' cells slots) Ω pc L [] :=
  fun H locs ls hΩ hs hL => W.vret C.1.1 C.1.2.1 hr (fun t ht _ => ⟨rfl, by rw [ht]; exact he H hΩ⟩) hs hdg (hlocks := C.2.1)
theorem xr_a {x : Nat} {nm : String} (C : xC p m c cc nL s args own meth R cells slots D cA) (hr : meth.sig.returnType = some (.object nm)) (hdg : decode cc pc = .ok (.areturn, 1)) (he : ∀ H, Ω H → Ω' H) : XW p l e R s m args below meth c cells slots nL bs (xQ below args s bs (some (.ref x)) Ω' cells slots) Ω pc L [.ref x] :=
  fun H locs ls hΩ hs hL => W.aret C.1.1 C.1.2.1 hr (Or.inl ⟨_, rfl⟩) (Or.inr ⟨_, rfl⟩) (fun t ht _ => ⟨rfl, by rw [ht]; exact he H hΩ⟩) hs hdg (hlocks := C.2.1)
theorem xr_n {nm : String} (C : xC p m c cc nL s args own meth R cells slots D cA) (hr : meth.sig.returnType = some (.object nm)) (hdg : decode cc pc = .ok (.areturn, 1)) (he : ∀ H, Ω H → Ω' H) : XW p l e R s m args below meth c cells slots nL bs (xQ below args s bs (some .null) Ω' cells slots) Ω pc L [.null] :=
  fun H locs ls hΩ hs hL => W.aret C.1.1 C.1.2.1 hr (Or.inl ⟨_, rfl⟩) (Or.inl rfl) (fun t ht _ => ⟨rfl, by rw [ht]; exact he H hΩ⟩) hs hdg (hlocks := C.2.1)
end XCALLS
section XRECV
variable {s : State} {G : xG} {z : Nat → Nat} {σ : Sg} {τ : Tg}
theorem x_recv {f i j ci N : Nat} {CC : String} {T : u_T} {ty : Nat → FieldType} {fs : List Value} (hE : xEnv (xD G) (xcA G) s) (K : xCls ci CC T N ty) (hd : xdom z f i j) (hc : xCell G z f i j (σ.1 f i j) (σ.2.1 f i j) (σ.2.2 f) = .inr (ci, fs)) : xRecv s (xRep G z σ τ) CC (xad G f i j) := fun H hΩ => by
  have hat := (hΩ.2.1 f i j hd).1
  rw [hc] at hat
  exact va_recv (q0 := 0) (q := (CC, T, N)) hE.1 (va_P1 hat) K.2.2.2 rfl
theorem m_recv {ci N : Nat} {CC : String} {T : u_T} {ty : Nat → FieldType} {fs : List Value} (hE : xEnv (xD G) (xcA G) s) (K : xCls ci CC T N ty) (hc : mCell G z 0 (τ.1 0) (τ.2 0) = .inr (ci, fs)) : xRecv s (xRep G z σ τ) CC (xaM G 0) := fun H hΩ => by
  have hat := (hΩ.2.2 0 rfl).1
  rw [hc] at hat
  exact va_recv (q0 := 0) (q := (CC, T, N)) hE.1 (va_P1 hat) K.2.2.2 rfl
end XRECV
