/-! Node's constructor, for a shard and for an acceptor -/
def dX6 : List Value := [.int 0, .null, .null, .null, .int 0, .null, .null, .null, .null]
def dX0 : List Value := [.int 0, .null, .null, .null, .int 0, .null, .int 0, .null]
def rm_X4i (n : Nat) : Room := { frames := 2, cells := 0 + 1 + (0 + 1 + n), slots := 0 + 2 + (0 + n + n * 4), locals := 60 }
section NODE
variable {l : Launch} {D : va_G} {cA : Nat → ClassId} {bs sb o n : Nat} {sc : Cell} {M : yM} {key : yK}
theorem k_X4_X6 {num : Int32} {q pl : Nat} {kq : yK} {szs : List Value} (kl k1 : yK) (ik : Nat → yK) (hn : n < 1000) (ho : M o = some (key, .inr (5, dX6))) (hq : M q = some (kq, .inr (6, szs))) (hs5 : szs[5]? = some (.int (nI n))) : xMet l D cA bs yX4_init cX4_init 4 none (rm_X4i n) [.ref o, .int num, .ref q, .ref pl] (yW D bs sb sc M)
    (fun H => ∃ g a, (M g = none ∧ ¬ g = o ∧ g < a ∧ ∀ b, a ≤ b → M b = none) ∧ yW D bs sb sc (yU (yU (yMna (yU M g (kl, .inr (2, [.null, .int 0]))) k1 ik (cA 3) (cA 0) n (4, .inl (fun _ => 0)) a) g (kl, .inr (2, [.ref a, .int 0]))) o (key, .inr (5, [.int num, .ref q, .ref pl, .ref g, .int 1, .null, .null, .null, .null]))) H) none (0 + 1 + (0 + 1 + n)) (0 + 2 + (0 + n + n * 4)) := by
  refine xMet.of RX4 rfl (by decide +kernel) (Nat.le_of_ble_eq_true rfl) ?_
  intro p e s m args below meth c C hr hnm
  have hqo : ¬ q = o := fun e => by
    rw [e, ho] at hq
    cases hq
  refine x_sub (L' := [(0, .ref o), (1, .int num), (2, .ref q), (3, .ref pl)]) [0, 1, 2, 3] rfl ?_
  refine x_aload_n C dX4_init_0 rfl (q := 0) rfl ?_
  refine y_obj C ob_X4_1 ob_i ob_c (Nat.le_of_ble_eq_true rfl) (Nat.le_of_ble_eq_true rfl) (by decide) dX4_init_1 ?_
  refine x_aload_n C dX4_init_4 rfl (q := 0) rfl ?_
  refine x_iconst C (v := 1) dX4_init_5 (by decide) ?_
  refine y_put C cl_X6 ho (k := 4) (by decide) fl_X4_7_X6 rfl rfl rfl (Nat.le_of_ble_eq_true rfl) dX4_init_6 ?_
  refine x_aload_n C dX4_init_9 rfl (q := 0) rfl ?_
  refine x_iload_n C dX4_init_10 rfl (q := 1) rfl ?_
  refine y_putF C cl_X6 (yU_s _ _ _) (k := 0) (by decide) fl_X4_13_X6 rfl hnm rfl rfl rfl (Nat.le_of_ble_eq_true rfl) dX4_init_11 ?_
  refine x_aload_n C dX4_init_14 rfl (q := 0) rfl ?_
  refine x_aload_n C dX4_init_15 rfl (q := 2) rfl ?_
  refine y_putF C cl_X6 (yU_s _ _ _) (k := 1) (by decide) fl_X4_17_X6 rfl hnm rfl rfl rfl (Nat.le_of_ble_eq_true rfl) dX4_init_16 ?_
  refine x_aload_n C dX4_init_19 rfl (q := 0) rfl ?_
  refine x_aload_n C dX4_init_20 rfl (q := 3) rfl ?_
  refine y_putF C cl_X6 (yU_s _ _ _) (k := 2) (by decide) fl_X4_21_X6 rfl hnm rfl rfl rfl (Nat.le_of_ble_eq_true rfl) dX4_init_21 ?_
  simp only [yU_yU]
  refine x_aload_n C dX4_init_24 rfl (q := 0) rfl ?_
  refine y_new C cl_X2 kl (fs := [.null, .int 0]) (fun j hj => by rcases (show j = 0 ∨ j = 1 by omega) with rfl | rfl <;> rfl) cw_X4_25 cn_X2 cz_X2 ⟨by show 0 + 1 ≤ 0 + 1 + (0 + 1 + n); omega, by show 0 + 2 ≤ 0 + 2 + (0 + n + n * 4); omega⟩ dX4_init_25 (fun g hg => ?_)
  have C1 := C.grow (cells' := 0 + 1) (slots' := 0 + 2) (by show 0 + 1 ≤ 0 + 1 + (0 + 1 + n); omega) (by show 0 + 2 ≤ 0 + 2 + (0 + n + n * 4); omega)
  obtain ⟨hgo, hg⟩ := yU_none hg
  have hgq : ¬ q = g := fun e => by rw [e, hg] at hq; cases hq
  refine x_dup C1 dX4_init_28 rfl ?_
  refine x_aload_n C1 dX4_init_29 rfl (q := 2) rfl ?_
  refine y_get C1 cl_X7 ((yU_o _ _ hgq).trans ((yU_o _ _ hqo).trans hq)) (k := 5) (by decide) fl_X4_27_X7 hs5 dX4_init_30 ?_
  refine x_callI C1 (k_X2 (n := n) k1 ik hn (yU_s _ _ _)) wi_X4_32 rfl (Nat.le_of_ble_eq_true rfl) ⟨⟨rfl, rfl⟩, Nat.le_of_ble_eq_true rfl, Nat.le_of_ble_eq_true rfl⟩ dX4_init_33 ⟨Nat.le_refl _, Nat.le_refl _⟩ rfl ?_
  have C2 := C.grow (cells' := 0 + 1 + (0 + 1 + n)) (slots' := 0 + 2 + (0 + n + n * 4)) (Nat.le_refl _) (Nat.le_refl _)
  refine y_ex (fun a => ?_)
  refine y_and (fun ha => ?_)
  have hoa : o < a := by
    by_cases x : a ≤ o
    · have := ha o x
      rw [yU_o _ _ (fun e => hgo e.symm), yU_s] at this; cases this
    · omega
  have hga : g < a := by
    by_cases x : a ≤ g
    · have := ha g x
      rw [yU_s] at this; cases this
    · omega
  refine y_putF C2 cl_X6 ((yU_o _ _ (fun e => hgo e.symm)).trans ((yMna_o (key := k1) (ik := ik) (co := cA 3) (ci := cA 0) (n := n) (zz := (4, .inl (fun _ => 0))) hoa).trans ((yU_o _ _ (fun e => hgo e.symm)).trans (yU_s _ _ _)))) (k := 3) (by decide) fl_X4_35_X6 rfl hnm rfl rfl rfl (Nat.le_of_ble_eq_true rfl) dX4_init_36 ?_
  refine xr_v C2 hr dX4_init_39 (fun H h => ⟨g, a, ⟨hg, hgo, hga, fun b hb => (yU_none (yU_none (ha b hb)).2).2⟩, ?_⟩)
  refine cast (congrArg (fun M' => yW D bs sb sc M' H) ?_) h
  funext x
  by_cases x1 : x = o
  · simp only [yU, if_pos x1]
    rfl
  · simp only [yU, yMna, if_neg x1]
theorem k_X4_X0 {num : Int32} {q pl : Nat} {kq : yK} {szs : List Value} (kl k1 : yK) (ik : Nat → yK) (hn : n < 1000) (ho : M o = some (key, .inr (0, dX0))) (hq : M q = some (kq, .inr (6, szs))) (hs5 : szs[5]? = some (.int (nI n))) : xMet l D cA bs yX4_init cX4_init 4 none (rm_X4i n) [.ref o, .int num, .ref q, .ref pl] (yW D bs sb sc M)
    (fun H => ∃ g a, (M g = none ∧ ¬ g = o ∧ g < a ∧ ∀ b, a ≤ b → M b = none) ∧ yW D bs sb sc (yU (yU (yMna (yU M g (kl, .inr (2, [.null, .int 0]))) k1 ik (cA 3) (cA 0) n (4, .inl (fun _ => 0)) a) g (kl, .inr (2, [.ref a, .int 0]))) o (key, .inr (0, [.int num, .ref q, .ref pl, .ref g, .int 1, .null, .int 0, .null]))) H) none (0 + 1 + (0 + 1 + n)) (0 + 2 + (0 + n + n * 4)) := by
  refine xMet.of RX4 rfl (by decide +kernel) (Nat.le_of_ble_eq_true rfl) ?_
  intro p e s m args below meth c C hr hnm
  have hqo : ¬ q = o := fun e => by
    rw [e, ho] at hq
    cases hq
  refine x_sub (L' := [(0, .ref o), (1, .int num), (2, .ref q), (3, .ref pl)]) [0, 1, 2, 3] rfl ?_
  refine x_aload_n C dX4_init_0 rfl (q := 0) rfl ?_
  refine y_obj C ob_X4_1 ob_i ob_c (Nat.le_of_ble_eq_true rfl) (Nat.le_of_ble_eq_true rfl) (by decide) dX4_init_1 ?_
  refine x_aload_n C dX4_init_4 rfl (q := 0) rfl ?_
  refine x_iconst C (v := 1) dX4_init_5 (by decide) ?_
  refine y_put C cl_X0 ho (k := 4) (by decide) fl_X4_7_X0 rfl rfl rfl (Nat.le_of_ble_eq_true rfl) dX4_init_6 ?_
  refine x_aload_n C dX4_init_9 rfl (q := 0) rfl ?_
  refine x_iload_n C dX4_init_10 rfl (q := 1) rfl ?_
  refine y_putF C cl_X0 (yU_s _ _ _) (k := 0) (by decide) fl_X4_13_X0 rfl hnm rfl rfl rfl (Nat.le_of_ble_eq_true rfl) dX4_init_11 ?_
  refine x_aload_n C dX4_init_14 rfl (q := 0) rfl ?_
  refine x_aload_n C dX4_init_15 rfl (q := 2) rfl ?_
  refine y_putF C cl_X0 (yU_s _ _ _) (k := 1) (by decide) fl_X4_17_X0 rfl hnm rfl rfl rfl (Nat.le_of_ble_eq_true rfl) dX4_init_16 ?_
  refine x_aload_n C dX4_init_19 rfl (q := 0) rfl ?_
  refine x_aload_n C dX4_init_20 rfl (q := 3) rfl ?_
  refine y_putF C cl_X0 (yU_s _ _ _) (k := 2) (by decide) fl_X4_21_X0 rfl hnm rfl rfl rfl (Nat.le_of_ble_eq_true rfl) dX4_init_21 ?_
  simp only [yU_yU]
  refine x_aload_n C dX4_init_24 rfl (q := 0) rfl ?_
  refine y_new C cl_X2 kl (fs := [.null, .int 0]) (fun j hj => by rcases (show j = 0 ∨ j = 1 by omega) with rfl | rfl <;> rfl) cw_X4_25 cn_X2 cz_X2 ⟨by show 0 + 1 ≤ 0 + 1 + (0 + 1 + n); omega, by show 0 + 2 ≤ 0 + 2 + (0 + n + n * 4); omega⟩ dX4_init_25 (fun g hg => ?_)
  have C1 := C.grow (cells' := 0 + 1) (slots' := 0 + 2) (by show 0 + 1 ≤ 0 + 1 + (0 + 1 + n); omega) (by show 0 + 2 ≤ 0 + 2 + (0 + n + n * 4); omega)
  obtain ⟨hgo, hg⟩ := yU_none hg
  have hgq : ¬ q = g := fun e => by rw [e, hg] at hq; cases hq
  refine x_dup C1 dX4_init_28 rfl ?_
  refine x_aload_n C1 dX4_init_29 rfl (q := 2) rfl ?_
  refine y_get C1 cl_X7 ((yU_o _ _ hgq).trans ((yU_o _ _ hqo).trans hq)) (k := 5) (by decide) fl_X4_27_X7 hs5 dX4_init_30 ?_
  refine x_callI C1 (k_X2 (n := n) k1 ik hn (yU_s _ _ _)) wi_X4_32 rfl (Nat.le_of_ble_eq_true rfl) ⟨⟨rfl, rfl⟩, Nat.le_of_ble_eq_true rfl, Nat.le_of_ble_eq_true rfl⟩ dX4_init_33 ⟨Nat.le_refl _, Nat.le_refl _⟩ rfl ?_
  have C2 := C.grow (cells' := 0 + 1 + (0 + 1 + n)) (slots' := 0 + 2 + (0 + n + n * 4)) (Nat.le_refl _) (Nat.le_refl _)
  refine y_ex (fun a => ?_)
  refine y_and (fun ha => ?_)
  have hoa : o < a := by
    by_cases x : a ≤ o
    · have := ha o x
      rw [yU_o _ _ (fun e => hgo e.symm), yU_s] at this; cases this
    · omega
  have hga : g < a := by
    by_cases x : a ≤ g
    · have := ha g x
      rw [yU_s] at this; cases this
    · omega
  refine y_putF C2 cl_X0 ((yU_o _ _ (fun e => hgo e.symm)).trans ((yMna_o (key := k1) (ik := ik) (co := cA 3) (ci := cA 0) (n := n) (zz := (4, .inl (fun _ => 0))) hoa).trans ((yU_o _ _ (fun e => hgo e.symm)).trans (yU_s _ _ _)))) (k := 3) (by decide) fl_X4_35_X0 rfl hnm rfl rfl rfl (Nat.le_of_ble_eq_true rfl) dX4_init_36 ?_
  refine xr_v C2 hr dX4_init_39 (fun H h => ⟨g, a, ⟨hg, hgo, hga, fun b hb => (yU_none (yU_none (ha b hb)).2).2⟩, ?_⟩)
  refine cast (congrArg (fun M' => yW D bs sb sc M' H) ?_) h
  funext x
  by_cases x1 : x = o
  · simp only [yU, if_pos x1]
    rfl
  · simp only [yU, yMna, if_neg x1]
end NODE
