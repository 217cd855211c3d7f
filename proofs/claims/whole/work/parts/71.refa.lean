/-! the reference's constructor -/
def g0 (f : Nat) : Value := if f ≤ 5 ∨ f = 29 ∨ (32 ≤ f ∧ f ≤ 35) then .int 0 else .null
def mdd (x : Int32) : Int32 := if 3 ≤ x then (if 5 ≤ x then 5 else 3) else 1
def rm_X11i : Room := { frames := 2, cells := 27, slots := 13817, locals := 60 }
def gF (z Am : Nat → Nat) (f : Nat) : Value := match f with
  | 0 => .int (nI (z 0)) | 1 => .int (nI (z 1)) | 2 => .int (nI (z 2)) | 3 => .int (nI (z 3)) | 4 => .int (nI (z 4)) | 5 => .int (nI (z 5))
  | 29 => .int 0 | 32 => .int 0 | 33 => .int 0 | 34 => .int 0 | 35 => .int 0
  | f => .ref (Am f)
def cl0 (cA : Nat → ClassId) (f : Nat) : va_E := match f with
  | 6 => .inl (cA 2, mlen 6, .inl (fun _ => 0))
  | 14 => .inl (cA 2, mlen 14, .inl (fun _ => 0))
  | 16 => .inl (cA 2, mlen 16, .inl (fun _ => 0))
  | 9 => .inl (cA 1, mlen 9, .inr (.inl (fun _ => 0)))
  | 15 => .inl (cA 1, mlen 15, .inr (.inl (fun _ => 0)))
  | f => .inl (cA 0, mlen f, .inl (fun _ => 0))
/-- the reference's whole world -/
def yR (M W : yM) (z : Nat → Nat) (o : Nat) (Am : Nat → Nat) (E : Nat → va_E) : Prop := yF b100 M W ∧ W o = some ((100, 0, 0), .inr (10, mfl (gF z Am))) ∧ ∀ f, ¬ mlen f = 0 → W (Am f) = some ((100 + f, 0, 0), E f)
theorem yR.upd {M W : yM} {z : Nat → Nat} {o : Nat} {Am : Nat → Nat} {E : Nat → va_E} (h : yR M W z o Am E) {f : Nat} (e' : va_E) (hf0 : 0 < f) (hf : ¬ mlen f = 0) : yR M (yU W (Am f) ((100 + f, 0, 0), e')) z o Am (fun i => if i = f then e' else E i) := by
  obtain ⟨h1, h2, h3⟩ := h
  have p2 := h3 f hf
  have hoa : ¬ o = Am f := y_ne h2 p2 (by show ¬ 100 = 100 + f; omega)
  refine ⟨h1.trans (yF.set p2 (decide_eq_true (by omega))), (yU_o _ _ hoa).trans h2, fun f' hf' => ?_⟩
  show yU W (Am f) ((100 + f, 0, 0), e') (Am f') = some ((100 + f', 0, 0), if f' = f then e' else E f')
  by_cases q : f' = f
  · rw [if_pos q, q]
    exact yU_s _ _ _
  · rw [if_neg q]
    have p4 := h3 f' hf'
    exact (yU_o _ _ (y_ne p4 p2 (by show ¬ 100 + f' = 100 + f; omega))).trans p4
theorem ite_ite (f : Nat) (x y : va_E) (E : Nat → va_E) : (fun i => if i = f then y else (fun i => if i = f then x else E i) i) = fun i => if i = f then y else E i := by
  funext i
  by_cases e : i = f
  · rw [if_pos e, if_pos e]
  · rw [if_neg e, if_neg e]
    exact if_neg e
theorem mlen_le {f : Nat} (h : ¬ mlen f = 0) : f ≤ 37 := by
  by_cases q : f ≤ 37
  · exact q
  · refine absurd ?_ h
    unfold mlen
    split <;> first | omega | rfl
section REFCTOR
variable {p : Program} {l : Launch} {e : Env} {s : State} {m : MethodId} {args : Array Value} {below : List Frame} {meth : Method} {c : Code} {bs sb : Nat} {Q : State → Prop} {sc : Cell} {M : yM} {D : va_G} {cA : Nat → ClassId} {o : Nat} {z : Nat → Nat} {x1 x2 x3 x4 x5 x6 : Int32}

theorem i_X11_a (C : xC p m c cX11_init 8 s args RX11 meth rm_X11i 0 0 D cA) (hnm : meth.name = "<init>") (hx : nrm x1 1 4 = nI (z 0) ∧ mdd x2 = nI (z 1) ∧ nrm x3 1 16 = nI (z 2) ∧ nrm x4 1 32 = nI (z 3) ∧ nrm x5 1 200 = nI (z 4) ∧ nrm x6 1 200 = nI (z 5)) (ho : M o = some ((100, 0, 0), .inr (10, mfl g0)))
    (kk : ∀ W Am, yR M W z o Am (cl0 cA) → XW p l e rm_X11i s m args below meth c 27 13817 8 bs Q (yW D bs sb sc W) 313 [(0, .ref o), (1, .int x1), (2, .int x2), (3, .int x3), (4, .int x4), (5, .int x5), (6, .int x6)] []) : XW p l e rm_X11i s m args below meth c 0 0 8 bs Q (yW D bs sb sc M) 0 [(0, .ref o), (1, .int x1), (2, .int x2), (3, .int x3), (4, .int x4), (5, .int x5), (6, .int x6)] [] := by
  obtain ⟨v0, v1, v2, v3, v4, v5⟩ := hx
  refine x_aload_n C dX11_init_0 rfl (q := 0) rfl ?_
  refine y_obj C ob_X11_1 ob_i ob_c (Nat.le_of_ble_eq_true rfl) (Nat.le_of_ble_eq_true rfl) (by decide) dX11_init_1 ?_
  have I0 : yMs M M o g0 (fun _ => none) := ⟨yF.refl _ _, ho, fun f a e h => by cases h⟩
  refine x_aload_n C dX11_init_4 rfl (q := 0) rfl ?_
  refine x_bipush C (v := nI 9) dX11_init_5 (by decide) ?_
  refine y_nap C hnm I0 6 2 (ty := .boolean) (n := 9) (cells' := 1) (slots' := 9) (9, .inl (fun _ => 0)) (by decide) rfl rfl (fun _ _ h => h) aw_boolean (fun _ => rfl) (by decide) (by decide) ⟨Nat.le_of_ble_eq_true rfl, Nat.le_of_ble_eq_true rfl⟩ rfl rfl (by decide) fl_X11_7_X11 rfl rfl (fun _ => rfl) (fun _ => rfl) dX11_init_7 dX11_init_9 (fun W1 a6 I1 => ?_)
  have C1 := C.grow (cells' := 1) (slots' := 9) (Nat.le_of_ble_eq_true rfl) (Nat.le_of_ble_eq_true rfl)
  refine x_aload_n C1 dX11_init_12 rfl (q := 0) rfl ?_
  refine x_bipush C1 (v := nI 9) dX11_init_13 (by decide) ?_
  refine y_nap C1 hnm I1 7 0 (ty := .int) (n := 9) (cells' := 2) (slots' := 18) (9, .inl (fun _ => 0)) (by decide) rfl rfl (fun _ _ h => h) aw_int (fun _ => rfl) (by decide) (by decide) ⟨Nat.le_of_ble_eq_true rfl, Nat.le_of_ble_eq_true rfl⟩ rfl rfl (by decide) fl_X11_13_X11 rfl rfl (fun _ => rfl) (fun _ => rfl) dX11_init_15 dX11_init_17 (fun W2 a7 I2 => ?_)
  have C2 := C.grow (cells' := 2) (slots' := 18) (Nat.le_of_ble_eq_true rfl) (Nat.le_of_ble_eq_true rfl)
  refine x_aload_n C2 dX11_init_20 rfl (q := 0) rfl ?_
  refine x_sipush C2 (v := nI 7200) dX11_init_21 (by decide) ?_
  refine y_nap C2 hnm I2 8 0 (ty := .int) (n := 7200) (cells' := 3) (slots' := 7218) (7200, .inl (fun _ => 0)) (by decide) rfl rfl (fun _ _ h => h) aw_int (fun _ => rfl) (by decide) (by decide) ⟨Nat.le_of_ble_eq_true rfl, Nat.le_of_ble_eq_true rfl⟩ rfl rfl (by decide) fl_X11_17_X11 rfl rfl (fun _ => rfl) (fun _ => rfl) dX11_init_24 dX11_init_26 (fun W3 a8 I3 => ?_)
  have C3 := C.grow (cells' := 3) (slots' := 7218) (Nat.le_of_ble_eq_true rfl) (Nat.le_of_ble_eq_true rfl)
  refine x_aload_n C3 dX11_init_29 rfl (q := 0) rfl ?_
  refine x_bipush C3 (v := nI 32) dX11_init_30 (by decide) ?_
  refine y_nap C3 hnm I3 9 1 (ty := .long) (n := 32) (cells' := 4) (slots' := 7250) (32, .inr (.inl (fun _ => 0))) (by decide) rfl rfl (fun _ _ h => h) aw_long (fun _ => rfl) (by decide) (by decide) ⟨Nat.le_of_ble_eq_true rfl, Nat.le_of_ble_eq_true rfl⟩ rfl rfl (by decide) fl_X11_20_X11 rfl rfl (fun _ => rfl) (fun _ => rfl) dX11_init_32 dX11_init_34 (fun W4 a9 I4 => ?_)
  have C4 := C.grow (cells' := 4) (slots' := 7250) (Nat.le_of_ble_eq_true rfl) (Nat.le_of_ble_eq_true rfl)
  refine x_aload_n C4 dX11_init_37 rfl (q := 0) rfl ?_
  refine x_bipush C4 (v := nI 32) dX11_init_38 (by decide) ?_
  refine y_nap C4 hnm I4 10 0 (ty := .int) (n := 32) (cells' := 5) (slots' := 7282) (32, .inl (fun _ => 0)) (by decide) rfl rfl (fun _ _ h => h) aw_int (fun _ => rfl) (by decide) (by decide) ⟨Nat.le_of_ble_eq_true rfl, Nat.le_of_ble_eq_true rfl⟩ rfl rfl (by decide) fl_X11_24_X11 rfl rfl (fun _ => rfl) (fun _ => rfl) dX11_init_40 dX11_init_42 (fun W5 a10 I5 => ?_)
  have C5 := C.grow (cells' := 5) (slots' := 7282) (Nat.le_of_ble_eq_true rfl) (Nat.le_of_ble_eq_true rfl)
  refine x_aload_n C5 dX11_init_45 rfl (q := 0) rfl ?_
  refine x_bipush C5 (v := nI 32) dX11_init_46 (by decide) ?_
  refine y_nap C5 hnm I5 11 0 (ty := .int) (n := 32) (cells' := 6) (slots' := 7314) (32, .inl (fun _ => 0)) (by decide) rfl rfl (fun _ _ h => h) aw_int (fun _ => rfl) (by decide) (by decide) ⟨Nat.le_of_ble_eq_true rfl, Nat.le_of_ble_eq_true rfl⟩ rfl rfl (by decide) fl_X11_27_X11 rfl rfl (fun _ => rfl) (fun _ => rfl) dX11_init_48 dX11_init_50 (fun W6 a11 I6 => ?_)
  have C6 := C.grow (cells' := 6) (slots' := 7314) (Nat.le_of_ble_eq_true rfl) (Nat.le_of_ble_eq_true rfl)
  refine x_aload_n C6 dX11_init_53 rfl (q := 0) rfl ?_
  refine x_bipush C6 (v := nI 16) dX11_init_54 (by decide) ?_
  refine y_nap C6 hnm I6 12 0 (ty := .int) (n := 16) (cells' := 7) (slots' := 7330) (16, .inl (fun _ => 0)) (by decide) rfl rfl (fun _ _ h => h) aw_int (fun _ => rfl) (by decide) (by decide) ⟨Nat.le_of_ble_eq_true rfl, Nat.le_of_ble_eq_true rfl⟩ rfl rfl (by decide) fl_X11_30_X11 rfl rfl (fun _ => rfl) (fun _ => rfl) dX11_init_56 dX11_init_58 (fun W7 a12 I7 => ?_)
  have C7 := C.grow (cells' := 7) (slots' := 7330) (Nat.le_of_ble_eq_true rfl) (Nat.le_of_ble_eq_true rfl)
  refine x_aload_n C7 dX11_init_61 rfl (q := 0) rfl ?_
  refine x_bipush C7 (v := nI 16) dX11_init_62 (by decide) ?_
  refine y_nap C7 hnm I7 13 0 (ty := .int) (n := 16) (cells' := 8) (slots' := 7346) (16, .inl (fun _ => 0)) (by decide) rfl rfl (fun _ _ h => h) aw_int (fun _ => rfl) (by decide) (by decide) ⟨Nat.le_of_ble_eq_true rfl, Nat.le_of_ble_eq_true rfl⟩ rfl rfl (by decide) fl_X11_33_X11 rfl rfl (fun _ => rfl) (fun _ => rfl) dX11_init_64 dX11_init_66 (fun W8 a13 I8 => ?_)
  have C8 := C.grow (cells' := 8) (slots' := 7346) (Nat.le_of_ble_eq_true rfl) (Nat.le_of_ble_eq_true rfl)
  refine x_aload_n C8 dX11_init_69 rfl (q := 0) rfl ?_
  refine x_sipush C8 (v := nI 512) dX11_init_70 (by decide) ?_
  refine y_nap C8 hnm I8 14 2 (ty := .boolean) (n := 512) (cells' := 9) (slots' := 7858) (512, .inl (fun _ => 0)) (by decide) rfl rfl (fun _ _ h => h) aw_boolean (fun _ => rfl) (by decide) (by decide) ⟨Nat.le_of_ble_eq_true rfl, Nat.le_of_ble_eq_true rfl⟩ rfl rfl (by decide) fl_X11_36_X11 rfl rfl (fun _ => rfl) (fun _ => rfl) dX11_init_73 dX11_init_75 (fun W9 a14 I9 => ?_)
  have C9 := C.grow (cells' := 9) (slots' := 7858) (Nat.le_of_ble_eq_true rfl) (Nat.le_of_ble_eq_true rfl)
  refine x_aload_n C9 dX11_init_78 rfl (q := 0) rfl ?_
  refine x_sipush C9 (v := nI 512) dX11_init_79 (by decide) ?_
  refine y_nap C9 hnm I9 15 1 (ty := .long) (n := 512) (cells' := 10) (slots' := 8370) (512, .inr (.inl (fun _ => 0))) (by decide) rfl rfl (fun _ _ h => h) aw_long (fun _ => rfl) (by decide) (by decide) ⟨Nat.le_of_ble_eq_true rfl, Nat.le_of_ble_eq_true rfl⟩ rfl rfl (by decide) fl_X11_39_X11 rfl rfl (fun _ => rfl) (fun _ => rfl) dX11_init_82 dX11_init_84 (fun W10 a15 I10 => ?_)
  have C10 := C.grow (cells' := 10) (slots' := 8370) (Nat.le_of_ble_eq_true rfl) (Nat.le_of_ble_eq_true rfl)
  refine x_aload_n C10 dX11_init_87 rfl (q := 0) rfl ?_
  refine x_bipush C10 (v := nI 64) dX11_init_88 (by decide) ?_
  refine y_nap C10 hnm I10 16 2 (ty := .boolean) (n := 64) (cells' := 11) (slots' := 8434) (64, .inl (fun _ => 0)) (by decide) rfl rfl (fun _ _ h => h) aw_boolean (fun _ => rfl) (by decide) (by decide) ⟨Nat.le_of_ble_eq_true rfl, Nat.le_of_ble_eq_true rfl⟩ rfl rfl (by decide) fl_X11_42_X11 rfl rfl (fun _ => rfl) (fun _ => rfl) dX11_init_90 dX11_init_92 (fun W11 a16 I11 => ?_)
  have C11 := C.grow (cells' := 11) (slots' := 8434) (Nat.le_of_ble_eq_true rfl) (Nat.le_of_ble_eq_true rfl)
  refine x_aload_n C11 dX11_init_95 rfl (q := 0) rfl ?_
  refine x_bipush C11 (v := nI 64) dX11_init_96 (by decide) ?_
  refine y_nap C11 hnm I11 17 0 (ty := .int) (n := 64) (cells' := 12) (slots' := 8498) (64, .inl (fun _ => 0)) (by decide) rfl rfl (fun _ _ h => h) aw_int (fun _ => rfl) (by decide) (by decide) ⟨Nat.le_of_ble_eq_true rfl, Nat.le_of_ble_eq_true rfl⟩ rfl rfl (by decide) fl_X11_45_X11 rfl rfl (fun _ => rfl) (fun _ => rfl) dX11_init_98 dX11_init_100 (fun W12 a17 I12 => ?_)
  have C12 := C.grow (cells' := 12) (slots' := 8498) (Nat.le_of_ble_eq_true rfl) (Nat.le_of_ble_eq_true rfl)
  refine x_aload_n C12 dX11_init_103 rfl (q := 0) rfl ?_
  refine x_bipush C12 (v := nI 64) dX11_init_104 (by decide) ?_
  refine y_nap C12 hnm I12 18 0 (ty := .int) (n := 64) (cells' := 13) (slots' := 8562) (64, .inl (fun _ => 0)) (by decide) rfl rfl (fun _ _ h => h) aw_int (fun _ => rfl) (by decide) (by decide) ⟨Nat.le_of_ble_eq_true rfl, Nat.le_of_ble_eq_true rfl⟩ rfl rfl (by decide) fl_X11_48_X11 rfl rfl (fun _ => rfl) (fun _ => rfl) dX11_init_106 dX11_init_108 (fun W13 a18 I13 => ?_)
  have C13 := C.grow (cells' := 13) (slots' := 8562) (Nat.le_of_ble_eq_true rfl) (Nat.le_of_ble_eq_true rfl)
  refine x_aload_n C13 dX11_init_111 rfl (q := 0) rfl ?_
  refine x_bipush C13 (v := nI 80) dX11_init_112 (by decide) ?_
  refine y_nap C13 hnm I13 19 0 (ty := .int) (n := 80) (cells' := 14) (slots' := 8642) (80, .inl (fun _ => 0)) (by decide) rfl rfl (fun _ _ h => h) aw_int (fun _ => rfl) (by decide) (by decide) ⟨Nat.le_of_ble_eq_true rfl, Nat.le_of_ble_eq_true rfl⟩ rfl rfl (by decide) fl_X11_51_X11 rfl rfl (fun _ => rfl) (fun _ => rfl) dX11_init_114 dX11_init_116 (fun W14 a19 I14 => ?_)
  have C14 := C.grow (cells' := 14) (slots' := 8642) (Nat.le_of_ble_eq_true rfl) (Nat.le_of_ble_eq_true rfl)
  refine x_aload_n C14 dX11_init_119 rfl (q := 0) rfl ?_
  refine x_bipush C14 (v := nI 80) dX11_init_120 (by decide) ?_
  refine y_nap C14 hnm I14 20 0 (ty := .int) (n := 80) (cells' := 15) (slots' := 8722) (80, .inl (fun _ => 0)) (by decide) rfl rfl (fun _ _ h => h) aw_int (fun _ => rfl) (by decide) (by decide) ⟨Nat.le_of_ble_eq_true rfl, Nat.le_of_ble_eq_true rfl⟩ rfl rfl (by decide) fl_X11_54_X11 rfl rfl (fun _ => rfl) (fun _ => rfl) dX11_init_122 dX11_init_124 (fun W15 a20 I15 => ?_)
  have C15 := C.grow (cells' := 15) (slots' := 8722) (Nat.le_of_ble_eq_true rfl) (Nat.le_of_ble_eq_true rfl)
  refine x_aload_n C15 dX11_init_127 rfl (q := 0) rfl ?_
  refine x_bipush C15 (v := nI 80) dX11_init_128 (by decide) ?_
  refine y_nap C15 hnm I15 21 0 (ty := .int) (n := 80) (cells' := 16) (slots' := 8802) (80, .inl (fun _ => 0)) (by decide) rfl rfl (fun _ _ h => h) aw_int (fun _ => rfl) (by decide) (by decide) ⟨Nat.le_of_ble_eq_true rfl, Nat.le_of_ble_eq_true rfl⟩ rfl rfl (by decide) fl_X11_57_X11 rfl rfl (fun _ => rfl) (fun _ => rfl) dX11_init_130 dX11_init_132 (fun W16 a21 I16 => ?_)
  have C16 := C.grow (cells' := 16) (slots' := 8802) (Nat.le_of_ble_eq_true rfl) (Nat.le_of_ble_eq_true rfl)
  refine x_aload_n C16 dX11_init_135 rfl (q := 0) rfl ?_
  refine x_bipush C16 (v := nI 80) dX11_init_136 (by decide) ?_
  refine y_nap C16 hnm I16 22 0 (ty := .int) (n := 80) (cells' := 17) (slots' := 8882) (80, .inl (fun _ => 0)) (by decide) rfl rfl (fun _ _ h => h) aw_int (fun _ => rfl) (by decide) (by decide) ⟨Nat.le_of_ble_eq_true rfl, Nat.le_of_ble_eq_true rfl⟩ rfl rfl (by decide) fl_X11_60_X11 rfl rfl (fun _ => rfl) (fun _ => rfl) dX11_init_138 dX11_init_140 (fun W17 a22 I17 => ?_)
  have C17 := C.grow (cells' := 17) (slots' := 8882) (Nat.le_of_ble_eq_true rfl) (Nat.le_of_ble_eq_true rfl)
  refine x_aload_n C17 dX11_init_143 rfl (q := 0) rfl ?_
  refine x_sipush C17 (v := nI 320) dX11_init_144 (by decide) ?_
  refine y_nap C17 hnm I17 23 0 (ty := .int) (n := 320) (cells' := 18) (slots' := 9202) (320, .inl (fun _ => 0)) (by decide) rfl rfl (fun _ _ h => h) aw_int (fun _ => rfl) (by decide) (by decide) ⟨Nat.le_of_ble_eq_true rfl, Nat.le_of_ble_eq_true rfl⟩ rfl rfl (by decide) fl_X11_63_X11 rfl rfl (fun _ => rfl) (fun _ => rfl) dX11_init_147 dX11_init_149 (fun W18 a23 I18 => ?_)
  have C18 := C.grow (cells' := 18) (slots' := 9202) (Nat.le_of_ble_eq_true rfl) (Nat.le_of_ble_eq_true rfl)
  refine x_aload_n C18 dX11_init_152 rfl (q := 0) rfl ?_
  refine x_sipush C18 (v := nI 320) dX11_init_153 (by decide) ?_
  refine y_nap C18 hnm I18 24 0 (ty := .int) (n := 320) (cells' := 19) (slots' := 9522) (320, .inl (fun _ => 0)) (by decide) rfl rfl (fun _ _ h => h) aw_int (fun _ => rfl) (by decide) (by decide) ⟨Nat.le_of_ble_eq_true rfl, Nat.le_of_ble_eq_true rfl⟩ rfl rfl (by decide) fl_X11_66_X11 rfl rfl (fun _ => rfl) (fun _ => rfl) dX11_init_156 dX11_init_158 (fun W19 a24 I19 => ?_)
  have C19 := C.grow (cells' := 19) (slots' := 9522) (Nat.le_of_ble_eq_true rfl) (Nat.le_of_ble_eq_true rfl)
  refine x_aload_n C19 dX11_init_161 rfl (q := 0) rfl ?_
  refine x_sipush C19 (v := nI 320) dX11_init_162 (by decide) ?_
  refine y_nap C19 hnm I19 25 0 (ty := .int) (n := 320) (cells' := 20) (slots' := 9842) (320, .inl (fun _ => 0)) (by decide) rfl rfl (fun _ _ h => h) aw_int (fun _ => rfl) (by decide) (by decide) ⟨Nat.le_of_ble_eq_true rfl, Nat.le_of_ble_eq_true rfl⟩ rfl rfl (by decide) fl_X11_69_X11 rfl rfl (fun _ => rfl) (fun _ => rfl) dX11_init_165 dX11_init_167 (fun W20 a25 I20 => ?_)
  have C20 := C.grow (cells' := 20) (slots' := 9842) (Nat.le_of_ble_eq_true rfl) (Nat.le_of_ble_eq_true rfl)
  refine x_aload_n C20 dX11_init_170 rfl (q := 0) rfl ?_
  refine x_sipush C20 (v := nI 320) dX11_init_171 (by decide) ?_
  refine y_nap C20 hnm I20 26 0 (ty := .int) (n := 320) (cells' := 21) (slots' := 10162) (320, .inl (fun _ => 0)) (by decide) rfl rfl (fun _ _ h => h) aw_int (fun _ => rfl) (by decide) (by decide) ⟨Nat.le_of_ble_eq_true rfl, Nat.le_of_ble_eq_true rfl⟩ rfl rfl (by decide) fl_X11_72_X11 rfl rfl (fun _ => rfl) (fun _ => rfl) dX11_init_174 dX11_init_176 (fun W21 a26 I21 => ?_)
  have C21 := C.grow (cells' := 21) (slots' := 10162) (Nat.le_of_ble_eq_true rfl) (Nat.le_of_ble_eq_true rfl)
  refine x_aload_n C21 dX11_init_179 rfl (q := 0) rfl ?_
  refine x_sipush C21 (v := nI 320) dX11_init_180 (by decide) ?_
  refine y_nap C21 hnm I21 27 0 (ty := .int) (n := 320) (cells' := 22) (slots' := 10482) (320, .inl (fun _ => 0)) (by decide) rfl rfl (fun _ _ h => h) aw_int (fun _ => rfl) (by decide) (by decide) ⟨Nat.le_of_ble_eq_true rfl, Nat.le_of_ble_eq_true rfl⟩ rfl rfl (by decide) fl_X11_75_X11 rfl rfl (fun _ => rfl) (fun _ => rfl) dX11_init_183 dX11_init_185 (fun W22 a27 I22 => ?_)
  have C22 := C.grow (cells' := 22) (slots' := 10482) (Nat.le_of_ble_eq_true rfl) (Nat.le_of_ble_eq_true rfl)
  refine x_aload_n C22 dX11_init_188 rfl (q := 0) rfl ?_
  refine x_sipush C22 (v := nI 320) dX11_init_189 (by decide) ?_
  refine y_nap C22 hnm I22 28 0 (ty := .int) (n := 320) (cells' := 23) (slots' := 10802) (320, .inl (fun _ => 0)) (by decide) rfl rfl (fun _ _ h => h) aw_int (fun _ => rfl) (by decide) (by decide) ⟨Nat.le_of_ble_eq_true rfl, Nat.le_of_ble_eq_true rfl⟩ rfl rfl (by decide) fl_X11_78_X11 rfl rfl (fun _ => rfl) (fun _ => rfl) dX11_init_192 dX11_init_194 (fun W23 a28 I23 => ?_)
  have C23 := C.grow (cells' := 23) (slots' := 10802) (Nat.le_of_ble_eq_true rfl) (Nat.le_of_ble_eq_true rfl)
  refine x_aload_n C23 dX11_init_197 rfl (q := 0) rfl ?_
  refine x_sipush C23 (v := nI 1400) dX11_init_198 (by decide) ?_
  refine y_nap C23 hnm I23 30 0 (ty := .int) (n := 1400) (cells' := 24) (slots' := 12202) (1400, .inl (fun _ => 0)) (by decide) rfl rfl (fun _ _ h => h) aw_int (fun _ => rfl) (by decide) (by decide) ⟨Nat.le_of_ble_eq_true rfl, Nat.le_of_ble_eq_true rfl⟩ rfl rfl (by decide) fl_X11_81_X11 rfl rfl (fun _ => rfl) (fun _ => rfl) dX11_init_201 dX11_init_203 (fun W24 a30 I24 => ?_)
  have C24 := C.grow (cells' := 24) (slots' := 12202) (Nat.le_of_ble_eq_true rfl) (Nat.le_of_ble_eq_true rfl)
  refine x_aload_n C24 dX11_init_206 rfl (q := 0) rfl ?_
  refine x_sipush C24 (v := nI 1600) dX11_init_207 (by decide) ?_
  refine y_nap C24 hnm I24 31 0 (ty := .int) (n := 1600) (cells' := 25) (slots' := 13802) (1600, .inl (fun _ => 0)) (by decide) rfl rfl (fun _ _ h => h) aw_int (fun _ => rfl) (by decide) (by decide) ⟨Nat.le_of_ble_eq_true rfl, Nat.le_of_ble_eq_true rfl⟩ rfl rfl (by decide) fl_X11_84_X11 rfl rfl (fun _ => rfl) (fun _ => rfl) dX11_init_210 dX11_init_212 (fun W25 a31 I25 => ?_)
  have C25 := C.grow (cells' := 25) (slots' := 13802) (Nat.le_of_ble_eq_true rfl) (Nat.le_of_ble_eq_true rfl)
  refine x_aload_n C25 dX11_init_215 rfl (q := 0) rfl ?_
  refine x_bipush C25 (v := nI 7) dX11_init_216 (by decide) ?_
  refine y_nap C25 hnm I25 36 0 (ty := .int) (n := 7) (cells' := 26) (slots' := 13809) (7, .inl (fun _ => 0)) (by decide) rfl rfl (fun _ _ h => h) aw_int (fun _ => rfl) (by decide) (by decide) ⟨Nat.le_of_ble_eq_true rfl, Nat.le_of_ble_eq_true rfl⟩ rfl rfl (by decide) fl_X11_87_X11 rfl rfl (fun _ => rfl) (fun _ => rfl) dX11_init_218 dX11_init_220 (fun W26 a36 I26 => ?_)
  have C26 := C.grow (cells' := 26) (slots' := 13809) (Nat.le_of_ble_eq_true rfl) (Nat.le_of_ble_eq_true rfl)
  refine x_aload_n C26 dX11_init_223 rfl (q := 0) rfl ?_
  refine x_bipush C26 (v := nI 8) dX11_init_224 (by decide) ?_
  refine y_nap C26 hnm I26 37 0 (ty := .int) (n := 8) (cells' := 27) (slots' := 13817) (8, .inl (fun _ => 0)) (by decide) rfl rfl (fun _ _ h => h) aw_int (fun _ => rfl) (by decide) (by decide) ⟨Nat.le_of_ble_eq_true rfl, Nat.le_of_ble_eq_true rfl⟩ rfl rfl (by decide) fl_X11_90_X11 rfl rfl (fun _ => rfl) (fun _ => rfl) dX11_init_226 dX11_init_228 (fun W27 a37 I27 => ?_)
  have C27 := C.grow (cells' := 27) (slots' := 13817) (Nat.le_of_ble_eq_true rfl) (Nat.le_of_ble_eq_true rfl)
  refine x_aload_n C27 dX11_init_231 rfl (q := 0) rfl ?_
  refine x_iload_n C27 dX11_init_232 rfl (q := 1) rfl ?_
  refine x_iconst C27 (v := 1) dX11_init_233 (by decide) ?_
  refine x_iconst C27 (v := 4) dX11_init_234 (by decide) ?_
  refine x_callS_i C27 (k_near x1 1 4) ws_X11_93 rfl (Nat.le_of_ble_eq_true rfl) ⟨⟨rfl, rfl⟩, Nat.le_of_ble_eq_true rfl, Nat.le_of_ble_eq_true rfl⟩ dX11_init_235 rfl ?_
  rw [v0]
  refine y_mput C27 hnm I27 0 (by decide) fl_X11_97_X11 rfl rfl rfl rfl dX11_init_238 (fun W28 I28 => ?_)
  refine x_aload_n C27 dX11_init_241 rfl (q := 0) rfl ?_
  refine x_iload_n C27 dX11_init_242 rfl (q := 2) rfl ?_
  refine x_iconst C27 (v := 3) dX11_init_243 (by decide) ?_
  refine x_join (pc' := 261) (L' := [(0, .ref o), (1, .int x1), (2, .int x2), (3, .int x3), (4, .int x4), (5, .int x5), (6, .int x6)]) (st' := [.int (nI (z 1)), .ref o]) (Ω' := yW D bs sb sc W28) ?_ (fun hj => ?_)
  case refine_2 =>
    unfold mdd at v1
    refine x_icmp_ge C27 (tgt := 251) (A := some ()) (B := some ()) (rr := ()) dX11_init_244 (by decide) (by rw [ite_self]) (fun hc _ => ?_) (fun hc _ => ?_)
    · rw [if_pos hc] at v1
      refine x_iload_n C27 dX11_init_251 rfl (q := 2) rfl ?_
      refine x_iconst C27 (v := 5) dX11_init_252 (by decide) ?_
      refine x_icmp_ge C27 (tgt := 260) (A := some ()) (B := some ()) (rr := ()) dX11_init_253 (by decide) (by rw [ite_self]) (fun hc2 _ => ?_) (fun hc2 _ => ?_)
      · rw [if_pos hc2] at v1
        refine x_iconst C27 (v := 5) dX11_init_260 (by decide) ?_
        rw [v1]
        exact hj
      · rw [if_neg hc2] at v1
        refine x_iconst C27 (v := 3) dX11_init_256 (by decide) ?_
        rw [v1]
        exact x_goto C27 (tgt := 261) dX11_init_257 (by decide) hj
    · rw [if_neg hc] at v1
      refine x_iconst C27 (v := 1) dX11_init_247 (by decide) ?_
      rw [v1]
      exact x_goto C27 (tgt := 261) dX11_init_248 (by decide) hj
  refine y_mput C27 hnm I28 1 (by decide) fl_X11_101_X11 rfl rfl rfl rfl dX11_init_261 (fun W29 I29 => ?_)
  refine x_aload_n C27 dX11_init_264 rfl (q := 0) rfl ?_
  refine x_iload_n C27 dX11_init_265 rfl (q := 3) rfl ?_
  refine x_iconst C27 (v := 1) dX11_init_266 (by decide) ?_
  refine x_bipush C27 (v := 16) dX11_init_267 (by decide) ?_
  refine x_callS_i C27 (k_near x3 1 16) ws_X11_93 rfl (Nat.le_of_ble_eq_true rfl) ⟨⟨rfl, rfl⟩, Nat.le_of_ble_eq_true rfl, Nat.le_of_ble_eq_true rfl⟩ dX11_init_269 rfl ?_
  rw [v2]
  refine y_mput C27 hnm I29 2 (by decide) fl_X11_104_X11 rfl rfl rfl rfl dX11_init_272 (fun W30 I30 => ?_)
  refine x_aload_n C27 dX11_init_275 rfl (q := 0) rfl ?_
  refine x_iload C27 dX11_init_276 (q := 4) rfl ?_
  refine x_iconst C27 (v := 1) dX11_init_278 (by decide) ?_
  refine x_bipush C27 (v := 32) dX11_init_279 (by decide) ?_
  refine x_callS_i C27 (k_near x4 1 32) ws_X11_93 rfl (Nat.le_of_ble_eq_true rfl) ⟨⟨rfl, rfl⟩, Nat.le_of_ble_eq_true rfl, Nat.le_of_ble_eq_true rfl⟩ dX11_init_281 rfl ?_
  rw [v3]
  refine y_mput C27 hnm I30 3 (by decide) fl_X11_107_X11 rfl rfl rfl rfl dX11_init_284 (fun W31 I31 => ?_)
  refine x_aload_n C27 dX11_init_287 rfl (q := 0) rfl ?_
  refine x_iload C27 dX11_init_288 (q := 5) rfl ?_
  refine x_iconst C27 (v := 1) dX11_init_290 (by decide) ?_
  refine x_sipush C27 (v := 200) dX11_init_291 (by decide) ?_
  refine x_callS_i C27 (k_near x5 1 200) ws_X11_93 rfl (Nat.le_of_ble_eq_true rfl) ⟨⟨rfl, rfl⟩, Nat.le_of_ble_eq_true rfl, Nat.le_of_ble_eq_true rfl⟩ dX11_init_294 rfl ?_
  rw [v4]
  refine y_mput C27 hnm I31 4 (by decide) fl_X11_110_X11 rfl rfl rfl rfl dX11_init_297 (fun W32 I32 => ?_)
  refine x_aload_n C27 dX11_init_300 rfl (q := 0) rfl ?_
  refine x_iload C27 dX11_init_301 (q := 6) rfl ?_
  refine x_iconst C27 (v := 1) dX11_init_303 (by decide) ?_
  refine x_sipush C27 (v := 200) dX11_init_304 (by decide) ?_
  refine x_callS_i C27 (k_near x6 1 200) ws_X11_93 rfl (Nat.le_of_ble_eq_true rfl) ⟨⟨rfl, rfl⟩, Nat.le_of_ble_eq_true rfl, Nat.le_of_ble_eq_true rfl⟩ dX11_init_307 rfl ?_
  rw [v5]
  refine y_mput C27 hnm I32 5 (by decide) fl_X11_113_X11 rfl rfl rfl rfl dX11_init_310 (fun W33 I33 => ?_)
  refine kk W33 (fun f => match f with | 6 => a6 | 7 => a7 | 8 => a8 | 9 => a9 | 10 => a10 | 11 => a11 | 12 => a12 | 13 => a13 | 14 => a14 | 15 => a15 | 16 => a16 | 17 => a17 | 18 => a18 | 19 => a19 | 20 => a20 | 21 => a21 | 22 => a22 | 23 => a23 | 24 => a24 | 25 => a25 | 26 => a26 | 27 => a27 | 28 => a28 | 30 => a30 | 31 => a31 | 36 => a36 | 37 => a37 | _ => 0) ⟨I33.1, I33.2.1, fun f hf => ?_⟩
  have hf37 := mlen_le hf
  rcases (show f = 0 ∨ f = 1 ∨ f = 2 ∨ f = 3 ∨ f = 4 ∨ f = 5 ∨ f = 6 ∨ f = 7 ∨ f = 8 ∨ f = 9 ∨ f = 10 ∨ f = 11 ∨ f = 12 ∨ f = 13 ∨ f = 14 ∨ f = 15 ∨ f = 16 ∨ f = 17 ∨ f = 18 ∨ f = 19 ∨ f = 20 ∨ f = 21 ∨ f = 22 ∨ f = 23 ∨ f = 24 ∨ f = 25 ∨ f = 26 ∨ f = 27 ∨ f = 28 ∨ f = 29 ∨ f = 30 ∨ f = 31 ∨ f = 32 ∨ f = 33 ∨ f = 34 ∨ f = 35 ∨ f = 36 ∨ f = 37 by omega) with rfl | rfl | rfl | rfl | rfl | rfl | rfl | rfl | rfl | rfl | rfl | rfl | rfl | rfl | rfl | rfl | rfl | rfl | rfl | rfl | rfl | rfl | rfl | rfl | rfl | rfl | rfl | rfl | rfl | rfl | rfl | rfl | rfl | rfl | rfl | rfl | rfl | rfl
  · exact absurd rfl hf
  · exact absurd rfl hf
  · exact absurd rfl hf
  · exact absurd rfl hf
  · exact absurd rfl hf
  · exact absurd rfl hf
  · exact (I33.2.2 6 _ _ rfl).2
  · exact (I33.2.2 7 _ _ rfl).2
  · exact (I33.2.2 8 _ _ rfl).2
  · exact (I33.2.2 9 _ _ rfl).2
  · exact (I33.2.2 10 _ _ rfl).2
  · exact (I33.2.2 11 _ _ rfl).2
  · exact (I33.2.2 12 _ _ rfl).2
  · exact (I33.2.2 13 _ _ rfl).2
  · exact (I33.2.2 14 _ _ rfl).2
  · exact (I33.2.2 15 _ _ rfl).2
  · exact (I33.2.2 16 _ _ rfl).2
  · exact (I33.2.2 17 _ _ rfl).2
  · exact (I33.2.2 18 _ _ rfl).2
  · exact (I33.2.2 19 _ _ rfl).2
  · exact (I33.2.2 20 _ _ rfl).2
  · exact (I33.2.2 21 _ _ rfl).2
  · exact (I33.2.2 22 _ _ rfl).2
  · exact (I33.2.2 23 _ _ rfl).2
  · exact (I33.2.2 24 _ _ rfl).2
  · exact (I33.2.2 25 _ _ rfl).2
  · exact (I33.2.2 26 _ _ rfl).2
  · exact (I33.2.2 27 _ _ rfl).2
  · exact (I33.2.2 28 _ _ rfl).2
  · exact absurd rfl hf
  · exact (I33.2.2 30 _ _ rfl).2
  · exact (I33.2.2 31 _ _ rfl).2
  · exact absurd rfl hf
  · exact absurd rfl hf
  · exact absurd rfl hf
  · exact absurd rfl hf
  · exact (I33.2.2 36 _ _ rfl).2
  · exact (I33.2.2 37 _ _ rfl).2
end REFCTOR
