/-! the leaf constructors -/
theorem yU_none {M : yM} {a b : Nat} {q : yK × va_E} (h : yU M a q b = none) : ¬ b = a ∧ M b = none := by
  by_cases e : b = a
  · subst e
    rw [yU_s] at h
    cases h
  · rw [yU_o _ _ e] at h
    exact ⟨e, h⟩
def dX3 : List Value := [.int 0, .int 0, .int 0, .int 0, .int 0, .int 0, .int 0, .null, .null]
def dX8 : List Value := [.null, .null]
def rm_X3i (n : Nat) : Room := { frames := 1, cells := 0 + 1 + 1, slots := 0 + n + n, locals := 30 }
section LEAF
variable {l : Launch} {D : va_G} {cA : Nat → ClassId} {bs sb o n : Nat} {sc : Cell} {M : yM} {key : yK}
theorem k_X3 (k1 k2 : yK) (hn : n < 1000) (ho : M o = some (key, .inr (3, dX3))) : xMet l D cA bs yX3_init cX3_init 2 none (rm_X3i n) [.ref o, .int (nI n)] (yW D bs sb sc M)
    (fun H => ∃ a b, (M a = none ∧ M b = none ∧ ¬ a = b) ∧ yW D bs sb sc (yU (yU (yU M a (k1, .inl (cA 0, n, .inl (fun _ => 0)))) b (k2, .inl (cA 0, n, .inl (fun _ => 0)))) o (key, .inr (3, [.int 0, .int 0, .int 0, .int 0, .int 0, .int 0, .int 0, .ref a, .ref b]))) H) none (0 + 1 + 1) (0 + n + n) := by
  refine xMet.of RX3 rfl (by decide +kernel) (Nat.le_of_ble_eq_true rfl) ?_
  intro p e s m args below meth c C hr hnm
  refine x_sub (L' := [(0, .ref o), (1, .int (nI n))]) [0, 1] rfl ?_
  refine x_aload_n C dX3_init_0 rfl (q := 0) rfl ?_
  refine y_obj C ob_X3_3 ob_i ob_c (Nat.le_of_ble_eq_true rfl) (Nat.le_of_ble_eq_true rfl) (by decide) dX3_init_1 ?_
  refine x_aload_n C dX3_init_4 rfl (q := 0) rfl ?_
  refine x_iload_n C dX3_init_5 rfl (q := 1) rfl ?_
  refine y_newa (a0 := (n, .inl (fun _ => 0))) C k1 0 rfl rfl (fun _ _ h => h) aw_int (fun _ => rfl) (by omega) (by show n * 4 ≤ _; omega) ⟨by show 0 + 1 ≤ 0 + 1 + 1; omega, by show 0 + n ≤ 0 + n + n; omega⟩ dX3_init_6 (fun a ha => ?_)
  have C1 := C.grow (cells' := 0 + 1) (slots' := 0 + n) (by show 0 + 1 ≤ 0 + 1 + 1; omega) (by show 0 + n ≤ 0 + n + n; omega)
  have hoa : ¬ o = a := fun q => by rw [q, ha] at ho; cases ho
  refine y_putF C1 cl_X3 ((yU_o _ _ hoa).trans ho) (k := 7) (by decide) fl_X3_9_X3 rfl hnm rfl rfl rfl (by decide) dX3_init_8 ?_
  refine x_aload_n C1 dX3_init_11 rfl (q := 0) rfl ?_
  refine x_iload_n C1 dX3_init_12 rfl (q := 1) rfl ?_
  refine y_newa (a0 := (n, .inl (fun _ => 0))) C1 k2 0 rfl rfl (fun _ _ h => h) aw_int (fun _ => rfl) (by omega) (by show n * 4 ≤ _; omega) ⟨by show 0 + 1 + 1 ≤ 0 + 1 + 1; omega, by show 0 + n + n ≤ 0 + n + n; omega⟩ dX3_init_13 (fun b hb => ?_)
  have C2 := C.grow (cells' := 0 + 1 + 1) (slots' := 0 + n + n) (Nat.le_refl _) (Nat.le_refl _)
  obtain ⟨hbo, hb⟩ := yU_none hb
  obtain ⟨hba, hb⟩ := yU_none hb
  refine y_putF C2 cl_X3 ((yU_o _ _ (fun q => hbo q.symm)).trans (yU_s _ _ _)) (k := 8) (by decide) fl_X3_15_X3 rfl hnm rfl rfl rfl (Nat.le_of_ble_eq_true rfl) dX3_init_15 ?_
  refine xr_v C2 hr dX3_init_18 (fun H h => ⟨a, b, ⟨ha, hb, fun q => hba q.symm⟩, ?_⟩)
  refine cast (congrArg (fun M' => yW D bs sb sc M' H) ?_) h
  funext x
  by_cases x1 : x = o
  · simp only [yU, if_pos x1]
    rfl
  · simp only [yU, if_neg x1]
end LEAF
