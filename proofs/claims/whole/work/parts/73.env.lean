/-! the law's entry: its tables, the script's cells -/
theorem yAO_arr {ty : FieldType} {s : State} (h : yAO (.array ty) s) : ∃ cA kA comp, s.vm.findClass ("[" ++ (FieldType.array ty).toString) = some cA ∧ s.vm.classes[cA]? = some kA ∧ kA.kind = .array comp (.array ty) := by
  unfold yAO at h
  simp only [Cond.before, Cond.holds, Cond.value] at h
  cases hf : s.vm.findClass (FieldType.array ty).toString with
  | none => rw [hf] at h; simp at h
  | some comp =>
    rw [hf] at h
    simp only [Option.bind_some] at h
    generalize hF : (s.vm.classes.findIdx? fun (x : Class) => match x.kind with | .array component _ => component == comp | _ => false) = fi at h
    cases fi with
    | none => simp at h
    | some c =>
      simp only [Option.bind_some] at h
      cases hk : s.vm.classes[c]? with
      | none => rw [hk] at h; simp at h
      | some k =>
        rw [hk] at h
        simp only [Option.map_some] at h
        cases hkd : k.kind with
        | array comp' ty' =>
          rw [hkd] at h
          simp at h
          exact ⟨c, k, comp', h.2, hk, by rw [hkd, h.1]⟩
        | _ => rw [hkd] at h; simp at h
theorem arrOf {s : State} {cA : ClassId} {kA : Class} {comp : ClassId} {ty : FieldType} (h2 : s.vm.classes[cA]? = some kA) (h3 : kA.kind = .array comp ty) : ArrOfT s cA ty := fun _ _ => ⟨(fun k h => by cases h), kA, h2, comp, h3⟩
theorem env_c {ws : List Cond} {s : State} {args : Array Value} (hts : ∀ w ∈ lw_g, w.before args s = true) {ci n : Nat} {C : String} {T : u_T} {N : Nat} {ty : Nat → FieldType} (K : xCls ci C T N ty) (hi : Cond.instantiable C n ∈ lw_g) : ∃ d : ClassId × (Nat → Nat), ∀ q : vw_C, vwCl[ci]? = some q → u_Kn s q.1 q.2.1 q.2.2 d.1 d.2 := by
  obtain ⟨cC, iS, h⟩ := u_known hts K.1 (hts _ hi)
  refine ⟨(cC, iS), fun q hq => ?_⟩
  rw [K.2.2.2] at hq
  cases hq
  exact h
theorem law_env {p : Program} {s : State} {m : MethodId} {meth : Method} {c : Code} {b L : Nat} {xs : Nat → Int32} (C0 : lw_At p s m meth c b L xs) : ∃ D cA, xEnv D cA s := by
  obtain ⟨-, -, -, -, -, hts, -⟩ := C0
  have hg : ∀ w ∈ lw_g, w.before #[Value.ref b] s = true := fun w hw => hts w (List.mem_filter.mp hw).1
  have ht : ∀ (i : Nat) (w : Cond), tables_1[i]? = some w → w.before #[Value.ref b] s = true := fun i w hi => hts w (List.mem_append_right _ (List.mem_of_getElem? hi))
  have hl : ∀ (i : Nat) (w : Cond), lw_tbl[i]? = some w → w.before #[Value.ref b] s = true := fun i w hi => hts w (List.mem_of_getElem? hi)
  have hK : ∀ ci : Nat, ∃ d : ClassId × (Nat → Nat), ∀ q : vw_C, vwCl[ci]? = some q → u_Kn s q.1 q.2.1 q.2.2 d.1 d.2 := fun ci => by
    by_cases h : ci < 11
    · rcases (show ci = 0 ∨ ci = 1 ∨ ci = 2 ∨ ci = 3 ∨ ci = 4 ∨ ci = 5 ∨ ci = 6 ∨ ci = 7 ∨ ci = 8 ∨ ci = 9 ∨ ci = 10 by omega) with rfl | rfl | rfl | rfl | rfl | rfl | rfl | rfl | rfl | rfl | rfl
      · exact env_c (ws := []) hg cl_X0 cn_X0
      · exact env_c (ws := []) hg cl_X1 cn_X1
      · exact env_c (ws := []) hg cl_X2 cn_X2
      · exact env_c (ws := []) hg cl_X3 cn_X3
      · exact env_c (ws := []) hg cl_X5 cn_X5
      · exact env_c (ws := []) hg cl_X6 cn_X6
      · exact env_c (ws := []) hg cl_X7 cn_X7
      · exact env_c (ws := []) hg cl_X8 cn_X8
      · exact env_c (ws := []) hg cl_X9 cn_X9
      · exact env_c (ws := []) hg cl_X10 cn_X10
      · exact env_c (ws := []) hg cl_X11 cn_X11
    · refine ⟨(0, fun _ => 0), fun q hq => ?_⟩
      rw [List.getElem?_eq_none (show vwCl.length ≤ ci by show 11 ≤ ci; omega)] at hq
      cases hq
  obtain ⟨D, hD⟩ := Classical.axiomOfChoice hK
  have a3 : yAO (.array .int) s := hl 141 (.arrayOver (.array .int)) (by decide +kernel)
  have a4 : yAO (.array .long) s := hl 143 (.arrayOver (.array .long)) (by decide +kernel)
  have a5 : yAO (.object RX3) s := hl 166 (.arrayOver (.object RX3)) (by decide +kernel)
  have a6 : yAO (.object RX6) s := hl 250 (.arrayOver (.object RX6)) (by decide +kernel)
  have a7 : yAO (.object RX0) s := hl 326 (.arrayOver (.object RX0)) (by decide +kernel)
  have a8 : yAO (.object RX9) s := hl 333 (.arrayOver (.object RX9)) (by decide +kernel)
  obtain ⟨c0, k0, m0, n0, u0, w0⟩ := Cond.arrayClass_spec (hg _ aw_int)
  obtain ⟨c1, k1, m1, n1, u1, w1⟩ := Cond.arrayClass_spec (hg _ aw_long)
  obtain ⟨c2, k2, m2, n2, u2, w2⟩ := Cond.arrayClass_spec (hg _ aw_boolean)
  obtain ⟨c3, k3, m3, n3, u3, w3⟩ := yAO_arr a3
  obtain ⟨c4, k4, m4, n4, u4, w4⟩ := yAO_arr a4
  obtain ⟨m5, c5, k5, n5, -, u5, w5, v5⟩ := Cond.arrayOver_spec a5
  obtain ⟨m6, c6, k6, n6, -, u6, w6, v6⟩ := Cond.arrayOver_spec a6
  obtain ⟨m7, c7, k7, n7, -, u7, w7, v7⟩ := Cond.arrayOver_spec a7
  obtain ⟨m8, c8, k8, n8, -, u8, w8, v8⟩ := Cond.arrayOver_spec a8
  refine ⟨(fun i => (D i).1, fun i => (D i).2), fun k => match k with | 0 => c0 | 1 => c1 | 2 => c2 | 3 => c3 | 4 => c4 | 5 => c5 | 6 => c6 | 7 => c7 | _ => c8, ⟨fun ci q hq => hD ci q hq, fun k q hq => ?_⟩, va_Nw.of rfl (ht 513 (.declares yN_hear) (by decide +kernel)), va_Nw.of rfl (ht 677 (.declares yN_forget) (by decide +kernel)), va_Nw.of rfl (ht 734 (.declares yN_told) (by decide +kernel)), fun ty hty => ?_⟩
  · have hk : k < 9 := (List.getElem?_eq_some_iff.mp hq).1
    rcases (show k = 0 ∨ k = 1 ∨ k = 2 ∨ k = 3 ∨ k = 4 ∨ k = 5 ∨ k = 6 ∨ k = 7 ∨ k = 8 by omega) with rfl | rfl | rfl | rfl | rfl | rfl | rfl | rfl | rfl <;> cases hq
    · exact ⟨arrOf u0 w0, n0⟩
    · exact ⟨arrOf u1 w1, n1⟩
    · exact ⟨arrOf u2 w2, n2⟩
    · exact ⟨arrOf u3 w3, n3⟩
    · exact ⟨arrOf u4 w4, n4⟩
    · exact ⟨arrOf u5 w5, _, _, u5, w5, n5, v5⟩
    · exact ⟨arrOf u6 w6, _, _, u6, w6, n6, v6⟩
    · exact ⟨arrOf u7 w7, _, _, u7, w7, n7, v7⟩
    · exact ⟨arrOf u8 w8, _, _, u8, w8, n8, v8⟩
  · unfold yTys at hty
    simp only [List.mem_cons, List.not_mem_nil, or_false] at hty
    rcases hty with rfl | rfl | rfl | rfl | rfl | rfl
    · exact a5
    · exact a6
    · exact a7
    · exact a8
    · exact a3
    · exact a4
section CELL
variable {p : Program} {l : Launch} {e : Env} {R : Room} {s : State} {m : MethodId} {args : Array Value} {below : List Frame} {meth : Method} {c : Code} {cells slots nL bs sb : Nat} {Q : State → Prop} {sc : Cell}
variable {cc : ByteArray} {own : String} {D : va_G} {cA : Nat → ClassId} {pc : Nat} {L : List (Nat × Value)} {st : List Value} {Ln : Nat} {xs : Nat → Int32} {Ω : Heap → Prop}
theorem y_slen (C : xC p m c cc nL s args own meth R cells slots D cA) (hA : s.isArrayOf sc .int) (hΩ0 : ∀ H, Ω H → H[sb]? = some sc) (hsz : sc.slots.size = Ln) (hdg : decode cc pc = .ok (.arraylength, 1))
    (kk : XW p l e R s m args below meth c cells slots nL bs Q Ω (pc + 1) L (.int (nI Ln) :: st)) : XW p l e R s m args below meth c cells slots nL bs Q Ω pc L (.ref sb :: st) := fun H locs ls hΩ hs hL =>
  W.alen (n := nI Ln) C.1.1 C.1.2.1 (hΩ0 H hΩ) hA (by rw [hsz]; rfl) rfl rfl hdg (kk H locs ls hΩ hs hL)
theorem y_sld (C : xC p m c cc nL s args own meth R cells slots D cA) (hA : s.isArrayOf sc .int) (hkn : sc.vm ≠ .unknown) (hΩ0 : ∀ H, Ω H → H[sb]? = some sc) (hsz : sc.slots.size = Ln) (hv : ∀ j : Nat, j < Ln → sc.slots[j]? = some (.int (xs j))) {k : Nat} (hk : k < Ln) (hLn : Ln < 2147483648) (hdg : decode cc pc = .ok (.iaload, 1))
    (kk : XW p l e R s m args below meth c cells slots nL bs Q Ω (pc + 1) L (.int (xs k) :: st)) : XW p l e R s m args below meth c cells slots nL bs Q Ω pc L (.int (nI k) :: .ref sb :: st) := by
  intro H locs ls hΩ hs hL
  have hcl : (nI k).toNatClampNeg = k := nI_clamp (by omega)
  exact W.iald (v := .int (xs k)) C.1.1 C.1.2.1 (hΩ0 H hΩ) hA hkn (by rw [hsz, hcl]; exact fun q => q.elim (nI_pos (by omega)) (fun q => by omega)) (by rw [hcl]; exact hv k hk) rfl rfl hdg (kk H locs ls hΩ hs hL)
def cv (Ln : Nat) (xs : Nat → Int32) (k : Nat) : Int32 := if k < Ln then xs k else 0
def rm_cell : Room := { frames := 0, cells := 0, slots := 0, locals := 0 }
theorem k_cell {k : Nat} (hkn : sc.vm ≠ .unknown) (hΩ0 : ∀ H, Ω H → H[sb]? = some sc) (hsz : sc.slots.size = Ln) (hv : ∀ j : Nat, j < Ln → sc.slots[j]? = some (.int (xs j))) (hLn : Ln < 2147483648) (hk : k < 2147483648) :
    Met l yL_cell (Cond.code yL_cell cL_cell 2 (some .int) :: lw_g) rm_cell (va_Pc [.ref sb, .int (nI k)] (fun U => (xEnv D cA U ∧ U.isArrayOf sc .int) ∧ Ω U.heap)) (fun _ _ oc t => oc = .returned (some (.int (cv Ln xs k))) ∧ Ω t.heap) 0 0 (fun q => bs ≤ q) := by
  refine x_ofWF (cc := cL_cell) (maxL := 2) (ret := some .int) (by decide +kernel) rfl ?_
  intro p e s m args below meth c s₁ B hml hvv
  obtain ⟨rfl, ⟨hE, hA⟩, hΩ⟩ := hvv
  have hts := atoms_spec (ws := Cond.code yL_cell cL_cell 2 (some .int) :: lw_g) B.pre
  have hown : s.vm.findClass RL = some m.cls := findClass_of_methodNamed B.named
  have C : xC p m c cL_cell 2 s [Value.ref sb, .int (nI k)].toArray RL meth rm_cell 0 0 D cA := ⟨⟨B.exec, B.bytes, hml, hown, fun w hw => hts w (List.mem_cons_of_mem _ hw)⟩, B.notSynchronized, ⟨Nat.zero_le _, Nat.zero_le _⟩, hE⟩
  have hr : meth.sig.returnType = some .int := B.returns
  have K : XW p l e rm_cell s m [Value.ref sb, .int (nI k)].toArray below meth c 0 0 2 bs (xQ below [Value.ref sb, .int (nI k)].toArray s bs (some (.int (cv Ln xs k))) Ω 0 0) Ω 0 [(0, .ref sb), (1, .int (nI k))] [] := by
    refine x_iload_n C dL_cell_0 rfl (q := 1) rfl ?_
    refine x_aload_n C dL_cell_1 rfl (q := 0) rfl ?_
    refine y_slen C hA hΩ0 hsz dL_cell_2 ?_
    unfold cv
    by_cases h : k < Ln
    · rw [if_pos h]
      refine x_icmp_ge C (tgt := 12) (A := none) (B := some ()) (rr := ()) dL_cell_3 (by decide) (if_neg (nI_ge h hLn)) (fun _ h => by cases h) (fun _ _ => ?_)
      refine x_aload_n C dL_cell_6 rfl (q := 0) rfl ?_
      refine x_iload_n C dL_cell_7 rfl (q := 1) rfl ?_
      refine y_sld C hA hkn hΩ0 hsz hv h hLn dL_cell_8 ?_
      refine x_goto C (tgt := 13) dL_cell_9 (by decide) ?_
      exact xr_i C hr dL_cell_13 (fun _ h => h)
    · rw [if_neg h]
      refine x_icmp_ge C (tgt := 12) (A := some ()) (B := none) (rr := ()) dL_cell_3 (by decide) (if_pos (nI_le (by omega) hk)) (fun _ _ => ?_) (fun _ h => by cases h)
      refine x_iconst C (v := 0) dL_cell_12 (by decide) ?_
      exact xr_i C hr dL_cell_13 (fun _ h => h)
  rw [lg_entry_eq]
  exact K s.heap [] _ hΩ (fun q h => by cases h) (lv_entry [Value.ref sb, .int (nI k)] (Nat.le_of_ble_eq_true rfl))
theorem y_cell {k : Nat} (C : xC p m c cc nL s args RL meth R cells slots D cA) (hA : s.isArrayOf sc .int) (hkn : sc.vm ≠ .unknown) (hΩ0 : ∀ H, Ω H → H[sb]? = some sc) (hsz : sc.slots.size = Ln) (hv : ∀ j : Nat, j < Ln → sc.slots[j]? = some (.int (xs j))) (hLn : Ln < 2147483648) (hk : k < 2147483648) (hst : (st.map fun v => v.category).sum ≤ 8) (hR : 1 ≤ R.frames ∧ 21 ≤ R.locals) (hdg : decode cc pc = .ok (.invokestatic 9, 3))
    (kk : XW p l e R s m args below meth c cells slots nL bs Q Ω (pc + 3) L (.int (cv Ln xs k) :: st)) : XW p l e R s m args below meth c cells slots nL bs Q Ω pc L (.int (nI k) :: .ref sb :: st) := by
  intro H locs ls hΩ hs hL
  obtain ⟨w1, w2, w4, w5, w6⟩ := ws_L_9
  have hts := C.1.2.2.2.2
  have hG : GoodIn lw_g (Cond.code yL_cell cL_cell 2 (some .int) :: lw_g) := lw_g_good (fun w hw => by
    rcases List.mem_cons.mp hw with rfl | hw <;> assumption)
  exact x_run (mc := 0) (ms := 0) (rv := some (.int (cv Ln xs k))) (Ω' := Ω) hs hL (fun _ _ _ q => ⟨by simpa using q.1, q.2⟩) (va_runS C.1 (k_cell (D := D) (cA := cA) hkn hΩ0 hsz hv hLn hk) ⟨callB_of 2 hts hG rfl rfl rfl (hts _ w4) (hts _ w1) w6 hR, hts _ w2⟩ ⟨fun a U g mk q => ⟨q.1, ⟨xEnv.call q.2.1.1, q.2.1.2⟩, q.2.2⟩, fun U hU hW => ⟨rfl, ⟨C.2.2.2.warm hW, State.isArrayOf_alike hW.alike hA⟩, by rw [hU]; exact hΩ⟩⟩ rfl rfl hL.1 rfl (lv_room hst) hdg C.2.2.1) kk
end CELL
