/-! more leaf constructors -/
def rm_X2i (n : Nat) : Room := { frames := 1, cells := 0 + 1 + n, slots := 0 + n + n * 4, locals := 30 }
section LEAF2
variable {l : Launch} {D : va_G} {cA : Nat → ClassId} {bs sb o n : Nat} {sc : Cell} {M : yM} {key : yK}
theorem k_X8 (k1 k2 : yK) {q : Nat} {kq : yK} {szs : List Value} (hn : n < 1000) (ho : M o = some (key, .inr (7, [.null, .null]))) (hq : M q = some (kq, .inr (6, szs))) (hs2 : szs[2]? = some (.int (nI n))) : xMet l D cA bs yX8_init cX8_init 2 none (rm_X3i n) [.ref o, .ref q] (yW D bs sb sc M)
    (fun H => ∃ a b, (M a = none ∧ M b = none ∧ ¬ a = b) ∧ yW D bs sb sc (yU (yU (yU M a (k1, .inl (cA 0, n, .inl (fun _ => 0)))) b (k2, .inl (cA 0, n, .inl (fun _ => 0)))) o (key, .inr (7, [.ref a, .ref b]))) H) none (0 + 1 + 1) (0 + n + n) := by
  refine xMet.of RX8 rfl (by decide +kernel) (Nat.le_of_ble_eq_true rfl) ?_
  intro p e s m args below meth c C hr hnm
  have hqo : ¬ q = o := fun e => by
    rw [e, ho] at hq
    cases hq
  refine x_sub (L' := [(0, .ref o), (1, .ref q)]) [0, 1] rfl ?_
  refine x_aload_n C dX8_init_0 rfl (q := 0) rfl ?_
  refine y_obj C ob_X8_3 ob_i ob_c (Nat.le_of_ble_eq_true rfl) (Nat.le_of_ble_eq_true rfl) (by decide) dX8_init_1 ?_
  refine x_aload_n C dX8_init_4 rfl (q := 0) rfl ?_
  refine x_aload_n C dX8_init_5 rfl (q := 1) rfl ?_
  refine y_get C cl_X7 hq (k := 2) (by decide) fl_X8_9_X7 hs2 dX8_init_6 ?_
  refine y_newa (a0 := (n, .inl (fun _ => 0))) C k1 0 rfl rfl (fun _ _ h => h) aw_int (fun _ => rfl) (by omega) (by show n * 4 ≤ _; omega) ⟨by show 0 + 1 ≤ 0 + 1 + 1; omega, by show 0 + n ≤ 0 + n + n; omega⟩ dX8_init_9 (fun a ha => ?_)
  have C1 := C.grow (cells' := 0 + 1) (slots' := 0 + n) (by show 0 + 1 ≤ 0 + 1 + 1; omega) (by show 0 + n ≤ 0 + n + n; omega)
  have hoa : ¬ o = a := fun e => by rw [e, ha] at ho; cases ho
  have hqa : ¬ q = a := fun e => by rw [e, ha] at hq; cases hq
  refine y_putF C1 cl_X8 ((yU_o _ _ hoa).trans ho) (k := 0) (by decide) fl_X8_15_X8 rfl hnm rfl rfl rfl (Nat.le_of_ble_eq_true rfl) dX8_init_11 ?_
  refine x_aload_n C1 dX8_init_14 rfl (q := 0) rfl ?_
  refine x_aload_n C1 dX8_init_15 rfl (q := 1) rfl ?_
  refine y_get C1 cl_X7 ((yU_o _ _ hqo).trans ((yU_o _ _ hqa).trans hq)) (k := 2) (by decide) fl_X8_9_X7 hs2 dX8_init_16 ?_
  refine y_newa (a0 := (n, .inl (fun _ => 0))) C1 k2 0 rfl rfl (fun _ _ h => h) aw_int (fun _ => rfl) (by omega) (by show n * 4 ≤ _; omega) ⟨by show 0 + 1 + 1 ≤ 0 + 1 + 1; omega, by show 0 + n + n ≤ 0 + n + n; omega⟩ dX8_init_19 (fun b hb => ?_)
  have C2 := C.grow (cells' := 0 + 1 + 1) (slots' := 0 + n + n) (Nat.le_refl _) (Nat.le_refl _)
  obtain ⟨hbo, hb⟩ := yU_none hb
  obtain ⟨hba, hb⟩ := yU_none hb
  refine y_putF C2 cl_X8 ((yU_o _ _ (fun e => hbo e.symm)).trans (yU_s _ _ _)) (k := 1) (by decide) fl_X8_21_X8 rfl hnm rfl rfl rfl (Nat.le_of_ble_eq_true rfl) dX8_init_21 ?_
  refine xr_v C2 hr dX8_init_24 (fun H h => ⟨a, b, ⟨ha, hb, fun e => hba e.symm⟩, ?_⟩)
  refine cast (congrArg (fun M' => yW D bs sb sc M' H) ?_) h
  funext x
  by_cases x1 : x = o
  · simp only [yU, if_pos x1]
    rfl
  · simp only [yU, if_neg x1]
theorem k_X2 (k1 : yK) (ik : Nat → yK) (hn : n < 1000) (ho : M o = some (key, .inr (2, [.null, .int 0]))) : xMet l D cA bs yX2_init cX2_init 2 none (rm_X2i n) [.ref o, .int (nI n)] (yW D bs sb sc M)
    (fun H => ∃ a, (∀ b, a ≤ b → M b = none) ∧ yW D bs sb sc (yU (fun b => if b = a then some (k1, .inl (cA 3, n, .inr (.inr (.inr (.inr (fun i => if i < n then some (a + 1 + i) else none)))))) else if a < b ∧ b < a + 1 + n then some (ik (b - (a + 1)), .inl (cA 0, 4, .inl (fun _ => 0))) else M b) o (key, .inr (2, [.ref a, .int 0]))) H) none (0 + 1 + n) (0 + n + n * 4) := by
  refine xMet.of RX2 rfl (by decide +kernel) (Nat.le_of_ble_eq_true rfl) ?_
  intro p e s m args below meth c C hr hnm
  refine x_sub (L' := [(0, .ref o), (1, .int (nI n))]) [0, 1] rfl ?_
  refine x_aload_n C dX2_init_0 rfl (q := 0) rfl ?_
  refine y_obj C ob_X2_3 ob_i ob_c (Nat.le_of_ble_eq_true rfl) (Nat.le_of_ble_eq_true rfl) (by decide) dX2_init_1 ?_
  refine x_aload_n C dX2_init_4 rfl (q := 0) rfl ?_
  refine x_iload_n C dX2_init_5 rfl (q := 1) rfl ?_
  refine x_iconst C (v := 4) dX2_init_6 (by decide) ?_
  refine y_mna (k := 4) (cAo := cA 3) (cAi := cA 0) (zz := (4, .inl (fun _ => 0))) (ty := .int) C k1 ik (C.2.2.2.1.2 3 (cA 3, .array .int) rfl).2 (C.2.2.2.1.2 0 (cA 0, .int) rfl).2 cw_X2_9 (by decide) aw_int (by omega) (by omega) (by omega) (by decide) (by omega) rfl rfl ⟨by show 0 + (1 + n) ≤ 0 + 1 + n; omega, by show 0 + (n + n * 4) ≤ 0 + n + n * 4; omega⟩ (fun _ => rfl) dX2_init_7 (fun a ha => ?_)
  have C1 := C.grow (cells' := 0 + 1 + n) (slots' := 0 + n + n * 4) (Nat.le_refl _) (Nat.le_refl _)
  have hoa : o < a := by
    by_cases q : a ≤ o
    · rw [ha o q] at ho; cases ho
    · omega
  have hM : (fun b => if b = a then some (k1, .inl (cA 3, n, .inr (.inr (.inr (.inr (fun i => if i < n then some (a + 1 + i) else none)))))) else if a < b ∧ b < a + 1 + n then some (ik (b - (a + 1)), .inl (cA 0, 4, .inl (fun _ => 0))) else M b : yM) o = some (key, .inr (2, [.null, .int 0])) := by
    show (if o = a then _ else if a < o ∧ o < a + 1 + n then _ else M o) = _
    rw [if_neg (by omega), if_neg (by omega)]
    exact ho
  refine y_putF C1 cl_X2 hM (k := 0) (by decide) fl_X2_11_X2 rfl hnm rfl rfl rfl (Nat.le_of_ble_eq_true rfl) dX2_init_11 ?_
  exact xr_v C1 hr dX2_init_14 (fun H h => ⟨a, ha, h⟩)
end LEAF2
