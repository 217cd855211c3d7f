/-! View's constructor -/
theorem y_canon {M : yM} {o a : Nat} {q q' : yK × va_E} {A : yK × va_E} (h : ¬ a = o) : yU (yU (yU M o q) a A) o q' = yU (yU M a A) o q' := by
  funext x
  by_cases x1 : x = o
  · subst x1; rw [yU_s, yU_s]
  · rw [yU_o _ _ x1, yU_o _ _ x1]
    by_cases x2 : x = a
    · subst x2; rw [yU_s, yU_s]
    · rw [yU_o _ _ x2, yU_o _ _ x2, yU_o _ _ x1]
theorem y_self {M : yM} {o : Nat} {q : yK × va_E} (h : M o = some q) : yU M o q = M := by
  funext x
  by_cases x1 : x = o
  · subst x1; rw [yU_s, h]
  · rw [yU_o _ _ x1]
def dX9 : List Value := [.int 0, .int 0, .int 0, .int 0, .int 0, .null, .null, .null, .null, .null, .null]
def rm_X9i (n : Nat) : Room := { frames := 1, cells := 0 + 1 + 1 + 1 + 1 + 1 + 1, slots := 0 + n + n + n + n + n + n, locals := 40 }
section VIEW
variable {l : Launch} {D : va_G} {cA : Nat → ClassId} {bs sb o n : Nat} {sc : Cell} {M : yM} {key : yK}
theorem k_X9 (k5 k6 k7 k8 k9 k10 : yK) (v : Int32) (hn : n < 1000) (ho : M o = some (key, .inr (8, dX9))) : xMet l D cA bs yX9_init cX9_init 3 none (rm_X9i n) [.ref o, .int v, .int (nI n)] (yW D bs sb sc M)
    (fun H => ∃ a5 a6 a7 a8 a9 a10, (M a5 = none ∧ M a6 = none ∧ M a7 = none ∧ M a8 = none ∧ M a9 = none ∧ M a10 = none ∧ ¬ a5 = a6 ∧ ¬ a5 = a7 ∧ ¬ a5 = a8 ∧ ¬ a5 = a9 ∧ ¬ a5 = a10 ∧ ¬ a6 = a7 ∧ ¬ a6 = a8 ∧ ¬ a6 = a9 ∧ ¬ a6 = a10 ∧ ¬ a7 = a8 ∧ ¬ a7 = a9 ∧ ¬ a7 = a10 ∧ ¬ a8 = a9 ∧ ¬ a8 = a10 ∧ ¬ a9 = a10) ∧ yW D bs sb sc (yU (yU (yU (yU (yU (yU (yU (yU (yU M a5 (k5, .inl (cA 0, n, .inl (fun _ => 0)))) a6 (k6, .inl (cA 0, n, .inl (fun _ => 0)))) a7 (k7, .inl (cA 0, n, .inl (fun _ => 0)))) a8 (k8, .inl (cA 0, n, .inl (fun _ => 0)))) a9 (k9, .inl (cA 0, n, .inl (fun _ => 0)))) a10 (k10, .inl (cA 0, n, .inl (fun _ => 0)))) o (key, .inr (8, [.int v, .int 0, .int v, .int 0, .int 0, .ref a5, .ref a6, .ref a7, .ref a8, .ref a9, .ref a10]))) a5 (k5, .inl (cA 0, n, .inl (fun j => if j < n then -1 else (fun _ => 0) j)))) a7 (k7, .inl (cA 0, n, .inl (fun j => if j < n then -1 else (fun _ => 0) j)))) H) none (0 + 1 + 1 + 1 + 1 + 1 + 1) (0 + n + n + n + n + n + n) := by
  refine xMet.of RX9 rfl (by decide +kernel) (Nat.le_of_ble_eq_true rfl) ?_
  intro p e s m args below meth c C hr hnm
  refine x_sub (L' := [(0, .ref o), (1, .int v), (2, .int (nI n))]) [0, 1, 2] rfl ?_
  refine x_aload_n C dX9_init_0 rfl (q := 0) rfl ?_
  refine y_obj C ob_X9_3 ob_i ob_c (Nat.le_of_ble_eq_true rfl) (Nat.le_of_ble_eq_true rfl) (by decide) dX9_init_1 ?_
  refine x_aload_n C dX9_init_4 rfl (q := 0) rfl ?_
  refine x_iload_n C dX9_init_5 rfl (q := 1) rfl ?_
  refine y_putF C cl_X9 ho (k := 0) (by decide) fl_X9_9_X9 rfl hnm rfl rfl rfl (Nat.le_of_ble_eq_true rfl) dX9_init_6 ?_
  refine x_aload_n C dX9_init_9 rfl (q := 0) rfl ?_
  refine x_iload_n C dX9_init_10 rfl (q := 1) rfl ?_
  refine y_put C cl_X9 (yU_s _ _ _) (k := 2) (by decide) fl_X9_15_X9 rfl rfl rfl (Nat.le_of_ble_eq_true rfl) dX9_init_11 ?_
  rw [yU_yU]
  refine x_aload_n C dX9_init_14 rfl (q := 0) rfl ?_
  refine x_iload_n C dX9_init_15 rfl (q := 2) rfl ?_
  refine y_newa (a0 := (n, .inl (fun _ => 0))) C k5 0 rfl rfl (fun _ _ h => h) aw_int (fun _ => rfl) (by omega) (by show n * 4 ≤ _; omega) ⟨by show 0 + 1 ≤ 0 + 1 + 1 + 1 + 1 + 1 + 1; omega, by show 0 + n ≤ 0 + n + n + n + n + n + n; omega⟩ dX9_init_16 (fun a5 h5 => ?_)
  have C1 := C.grow (cells' := 0 + 1) (slots' := 0 + n) (by show 0 + 1 ≤ 0 + 1 + 1 + 1 + 1 + 1 + 1; omega) (by show 0 + n ≤ 0 + n + n + n + n + n + n; omega)
  obtain ⟨o5, h5⟩ := yU_none h5
  refine y_putF C1 cl_X9 ((yU_o _ _ (fun e => o5 e.symm)).trans (yU_s _ _ _)) (k := 5) (by decide) fl_X9_18_X9 rfl hnm rfl rfl rfl (Nat.le_of_ble_eq_true rfl) dX9_init_18 ?_
  rw [y_canon o5]
  refine x_aload_n C1 dX9_init_21 rfl (q := 0) rfl ?_
  refine x_iload_n C1 dX9_init_22 rfl (q := 2) rfl ?_
  refine y_newa (a0 := (n, .inl (fun _ => 0))) C1 k6 0 rfl rfl (fun _ _ h => h) aw_int (fun _ => rfl) (by omega) (by show n * 4 ≤ _; omega) ⟨by show 0 + 1 + 1 ≤ 0 + 1 + 1 + 1 + 1 + 1 + 1; omega, by show 0 + n + n ≤ 0 + n + n + n + n + n + n; omega⟩ dX9_init_23 (fun a6 h6 => ?_)
  have C2 := C.grow (cells' := 0 + 1 + 1) (slots' := 0 + n + n) (by show 0 + 1 + 1 ≤ 0 + 1 + 1 + 1 + 1 + 1 + 1; omega) (by show 0 + n + n ≤ 0 + n + n + n + n + n + n; omega)
  obtain ⟨o6, h6⟩ := yU_none h6
  obtain ⟨d6_5, h6⟩ := yU_none h6
  refine y_putF C2 cl_X9 ((yU_o _ _ (fun e => o6 e.symm)).trans (yU_s _ _ _)) (k := 6) (by decide) fl_X9_22_X9 rfl hnm rfl rfl rfl (Nat.le_of_ble_eq_true rfl) dX9_init_25 ?_
  rw [y_canon o6]
  refine x_aload_n C2 dX9_init_28 rfl (q := 0) rfl ?_
  refine x_iload_n C2 dX9_init_29 rfl (q := 2) rfl ?_
  refine y_newa (a0 := (n, .inl (fun _ => 0))) C2 k7 0 rfl rfl (fun _ _ h => h) aw_int (fun _ => rfl) (by omega) (by show n * 4 ≤ _; omega) ⟨by show 0 + 1 + 1 + 1 ≤ 0 + 1 + 1 + 1 + 1 + 1 + 1; omega, by show 0 + n + n + n ≤ 0 + n + n + n + n + n + n; omega⟩ dX9_init_30 (fun a7 h7 => ?_)
  have C3 := C.grow (cells' := 0 + 1 + 1 + 1) (slots' := 0 + n + n + n) (by show 0 + 1 + 1 + 1 ≤ 0 + 1 + 1 + 1 + 1 + 1 + 1; omega) (by show 0 + n + n + n ≤ 0 + n + n + n + n + n + n; omega)
  obtain ⟨o7, h7⟩ := yU_none h7
  obtain ⟨d7_6, h7⟩ := yU_none h7
  obtain ⟨d7_5, h7⟩ := yU_none h7
  refine y_putF C3 cl_X9 ((yU_o _ _ (fun e => o7 e.symm)).trans (yU_s _ _ _)) (k := 7) (by decide) fl_X9_25_X9 rfl hnm rfl rfl rfl (Nat.le_of_ble_eq_true rfl) dX9_init_32 ?_
  rw [y_canon o7]
  refine x_aload_n C3 dX9_init_35 rfl (q := 0) rfl ?_
  refine x_iload_n C3 dX9_init_36 rfl (q := 2) rfl ?_
  refine y_newa (a0 := (n, .inl (fun _ => 0))) C3 k8 0 rfl rfl (fun _ _ h => h) aw_int (fun _ => rfl) (by omega) (by show n * 4 ≤ _; omega) ⟨by show 0 + 1 + 1 + 1 + 1 ≤ 0 + 1 + 1 + 1 + 1 + 1 + 1; omega, by show 0 + n + n + n + n ≤ 0 + n + n + n + n + n + n; omega⟩ dX9_init_37 (fun a8 h8 => ?_)
  have C4 := C.grow (cells' := 0 + 1 + 1 + 1 + 1) (slots' := 0 + n + n + n + n) (by show 0 + 1 + 1 + 1 + 1 ≤ 0 + 1 + 1 + 1 + 1 + 1 + 1; omega) (by show 0 + n + n + n + n ≤ 0 + n + n + n + n + n + n; omega)
  obtain ⟨o8, h8⟩ := yU_none h8
  obtain ⟨d8_7, h8⟩ := yU_none h8
  obtain ⟨d8_6, h8⟩ := yU_none h8
  obtain ⟨d8_5, h8⟩ := yU_none h8
  refine y_putF C4 cl_X9 ((yU_o _ _ (fun e => o8 e.symm)).trans (yU_s _ _ _)) (k := 8) (by decide) fl_X9_28_X9 rfl hnm rfl rfl rfl (Nat.le_of_ble_eq_true rfl) dX9_init_39 ?_
  rw [y_canon o8]
  refine x_aload_n C4 dX9_init_42 rfl (q := 0) rfl ?_
  refine x_iload_n C4 dX9_init_43 rfl (q := 2) rfl ?_
  refine y_newa (a0 := (n, .inl (fun _ => 0))) C4 k9 0 rfl rfl (fun _ _ h => h) aw_int (fun _ => rfl) (by omega) (by show n * 4 ≤ _; omega) ⟨by show 0 + 1 + 1 + 1 + 1 + 1 ≤ 0 + 1 + 1 + 1 + 1 + 1 + 1; omega, by show 0 + n + n + n + n + n ≤ 0 + n + n + n + n + n + n; omega⟩ dX9_init_44 (fun a9 h9 => ?_)
  have C5 := C.grow (cells' := 0 + 1 + 1 + 1 + 1 + 1) (slots' := 0 + n + n + n + n + n) (by show 0 + 1 + 1 + 1 + 1 + 1 ≤ 0 + 1 + 1 + 1 + 1 + 1 + 1; omega) (by show 0 + n + n + n + n + n ≤ 0 + n + n + n + n + n + n; omega)
  obtain ⟨o9, h9⟩ := yU_none h9
  obtain ⟨d9_8, h9⟩ := yU_none h9
  obtain ⟨d9_7, h9⟩ := yU_none h9
  obtain ⟨d9_6, h9⟩ := yU_none h9
  obtain ⟨d9_5, h9⟩ := yU_none h9
  refine y_putF C5 cl_X9 ((yU_o _ _ (fun e => o9 e.symm)).trans (yU_s _ _ _)) (k := 9) (by decide) fl_X9_31_X9 rfl hnm rfl rfl rfl (Nat.le_of_ble_eq_true rfl) dX9_init_46 ?_
  rw [y_canon o9]
  refine x_aload_n C5 dX9_init_49 rfl (q := 0) rfl ?_
  refine x_iload_n C5 dX9_init_50 rfl (q := 2) rfl ?_
  refine y_newa (a0 := (n, .inl (fun _ => 0))) C5 k10 0 rfl rfl (fun _ _ h => h) aw_int (fun _ => rfl) (by omega) (by show n * 4 ≤ _; omega) ⟨by show 0 + 1 + 1 + 1 + 1 + 1 + 1 ≤ 0 + 1 + 1 + 1 + 1 + 1 + 1; omega, by show 0 + n + n + n + n + n + n ≤ 0 + n + n + n + n + n + n; omega⟩ dX9_init_51 (fun a10 h10 => ?_)
  have C6 := C.grow (cells' := 0 + 1 + 1 + 1 + 1 + 1 + 1) (slots' := 0 + n + n + n + n + n + n) (by show 0 + 1 + 1 + 1 + 1 + 1 + 1 ≤ 0 + 1 + 1 + 1 + 1 + 1 + 1; omega) (by show 0 + n + n + n + n + n + n ≤ 0 + n + n + n + n + n + n; omega)
  obtain ⟨o10, h10⟩ := yU_none h10
  obtain ⟨d10_9, h10⟩ := yU_none h10
  obtain ⟨d10_8, h10⟩ := yU_none h10
  obtain ⟨d10_7, h10⟩ := yU_none h10
  obtain ⟨d10_6, h10⟩ := yU_none h10
  obtain ⟨d10_5, h10⟩ := yU_none h10
  refine y_putF C6 cl_X9 ((yU_o _ _ (fun e => o10 e.symm)).trans (yU_s _ _ _)) (k := 10) (by decide) fl_X9_34_X9 rfl hnm rfl rfl rfl (Nat.le_of_ble_eq_true rfl) dX9_init_53 ?_
  rw [y_canon o10]
  refine x_aload_n C6 dX9_init_56 rfl (q := 0) rfl ?_
  refine y_get C6 cl_X9 (yU_s _ _ _) (k := 5) (by decide) fl_X9_18_X9 (v := .ref a5) rfl dX9_init_57 ?_
  refine x_iconst C6 (v := -1) dX9_init_60 (by decide) ?_
  refine x_callS_v C6 (k_fill (by omega) ((yU_o _ _ o5).trans ((yU_o _ _ (fun e => d10_5 e.symm)).trans ((yU_o _ _ (fun e => d9_5 e.symm)).trans ((yU_o _ _ (fun e => d8_5 e.symm)).trans ((yU_o _ _ (fun e => d7_5 e.symm)).trans ((yU_o _ _ (fun e => d6_5 e.symm)).trans (yU_s _ _ _)))))))) ws_X9_37 rfl (Nat.le_of_ble_eq_true rfl) ⟨⟨rfl, rfl⟩, Nat.le_of_ble_eq_true rfl, Nat.le_of_ble_eq_true rfl⟩ dX9_init_61 rfl ?_
  refine x_aload_n C6 dX9_init_64 rfl (q := 0) rfl ?_
  refine y_get C6 cl_X9 ((yU_o _ _ (fun e => o5 e.symm)).trans (yU_s _ _ _)) (k := 7) (by decide) fl_X9_25_X9 (v := .ref a7) rfl dX9_init_65 ?_
  refine x_iconst C6 (v := -1) dX9_init_68 (by decide) ?_
  refine x_callS_v C6 (k_fill (by omega) ((yU_o _ _ d7_5).trans ((yU_o _ _ o7).trans ((yU_o _ _ (fun e => d10_7 e.symm)).trans ((yU_o _ _ (fun e => d9_7 e.symm)).trans ((yU_o _ _ (fun e => d8_7 e.symm)).trans (yU_s _ _ _))))))) ws_X9_37 rfl (Nat.le_of_ble_eq_true rfl) ⟨⟨rfl, rfl⟩, Nat.le_of_ble_eq_true rfl, Nat.le_of_ble_eq_true rfl⟩ dX9_init_69 rfl ?_
  exact xr_v C6 hr dX9_init_72 (fun H h => ⟨a5, a6, a7, a8, a9, a10, ⟨h5, h6, h7, h8, h9, h10, fun e => d6_5 e.symm, fun e => d7_5 e.symm, fun e => d8_5 e.symm, fun e => d9_5 e.symm, fun e => d10_5 e.symm, fun e => d7_6 e.symm, fun e => d8_6 e.symm, fun e => d9_6 e.symm, fun e => d10_6 e.symm, fun e => d8_7 e.symm, fun e => d9_7 e.symm, fun e => d10_7 e.symm, fun e => d9_8 e.symm, fun e => d10_8 e.symm, fun e => d10_9 e.symm⟩, h⟩)
end VIEW
