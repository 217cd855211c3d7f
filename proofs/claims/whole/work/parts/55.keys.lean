/-! Keys' constructor -/
def yMna (M : yM) (key : yK) (ik : Nat → yK) (co ci : ClassId) (n : Nat) (zz : vp_A) (a : Nat) : yM := fun b => if b = a then some (key, .inl (co, n, .inr (.inr (.inr (.inr (fun i => if i < n then some (a + 1 + i) else none)))))) else if a < b ∧ b < a + 1 + n then some (ik (b - (a + 1)), .inl (ci, zz)) else M b
theorem yMna_none {M : yM} {key : yK} {ik : Nat → yK} {co ci : ClassId} {n : Nat} {zz : vp_A} {a b : Nat} (h : yMna M key ik co ci n zz a b = none) : ¬ (a ≤ b ∧ b < a + 1 + n) ∧ M b = none := by
  unfold yMna at h
  by_cases h1 : b = a
  · rw [if_pos h1] at h; cases h
  · rw [if_neg h1] at h
    by_cases h2 : a < b ∧ b < a + 1 + n
    · rw [if_pos h2] at h; cases h
    · rw [if_neg h2] at h
      exact ⟨fun q => h2 ⟨by omega, q.2⟩, h⟩
theorem yMna_o {M : yM} {key : yK} {ik : Nat → yK} {co ci : ClassId} {n : Nat} {zz : vp_A} {a b : Nat} (h : b < a) : yMna M key ik co ci n zz a b = M b := by
  unfold yMna
  rw [if_neg (by omega), if_neg (by omega)]
theorem y_inI (k : Nat) (c : ClassId) : Jvm.Free.Multi.innerC c k (defaultValue .int) = vp_cell c (k, .inl (fun _ => 0)) := by
  show ({ cls := c, slots := Array.replicate k (.int 0), vm := .none } : Cell) = _
  rw [arrV_new]
  rfl
theorem y_inL (k : Nat) (c : ClassId) : Jvm.Free.Multi.innerC c k (defaultValue .long) = vp_cell c (k, .inr (.inl (fun _ => 0))) := by
  show ({ cls := c, slots := Array.replicate k (.long 0), vm := .none } : Cell) = _
  rw [arrV_new]
  rfl
section KEYS
variable {l : Launch} {D : va_G} {cA : Nat → ClassId} {bs sb o t k : Nat} {sc : Cell} {M : yM} {key : yK}
theorem k_X1 (k6 k7 k9 : yK) (ik8 ik10 : Nat → yK) {q : Nat} {kq : yK} {szs : List Value} (hn : t < 1000) (hkn : k < 1000) (ho : M o = some (key, .inr (1, [.null, .null, .null, .null]))) (hq : M q = some (kq, .inr (6, szs))) (hs2 : szs[2]? = some (.int (nI t))) (hs3 : szs[3]? = some (.int (nI k))) : xMet l D cA bs yX1_init cX1_init 2 none (rm_X1i t k) [.ref o, .ref q] (yW D bs sb sc M)
    (fun H => ∃ a b c, (M a = none ∧ a < b ∧ (∀ x, b ≤ x → M x = none) ∧ b + t < c) ∧ yW D bs sb sc (yU (yMna (yMna (yU M a (k6, .inl (cA 1, k, .inr (.inl (fun _ => 0))))) k7 ik8 (cA 3) (cA 0) t (k, .inl (fun _ => 0)) b) k9 ik10 (cA 4) (cA 1) t (k, .inr (.inl (fun _ => 0))) c) o (key, .inr (1, [.ref a, .ref q, .ref b, .ref c]))) H) none (0 + 1 + 1 + t + 1 + t) (0 + k + t + t * k + t + t * k) := by
  refine xMet.of RX1 rfl (by decide +kernel) (Nat.le_of_ble_eq_true rfl) ?_
  intro p e s m args below meth c C hr hnm
  have hqo : ¬ q = o := fun e => by
    rw [e, ho] at hq
    cases hq
  have hoq : ¬ o = q := fun e => hqo e.symm
  refine x_sub (L' := [(0, .ref o), (1, .ref q)]) [0, 1] rfl ?_
  refine x_aload_n C dX1_init_0 rfl (q := 0) rfl ?_
  refine y_obj C ob_X1_3 ob_i ob_c (Nat.le_of_ble_eq_true rfl) (Nat.le_of_ble_eq_true rfl) (by decide) dX1_init_1 ?_
  refine x_aload_n C dX1_init_4 rfl (q := 0) rfl ?_
  refine x_aload_n C dX1_init_5 rfl (q := 1) rfl ?_
  refine y_putF C cl_X1 ho (k := 1) (by decide) fl_X1_9_X1 rfl hnm rfl rfl rfl (Nat.le_of_ble_eq_true rfl) dX1_init_6 ?_
  have g1 := (yU_o M (key, .inr (1, ([.null, .null, .null, .null] : List Value).set 1 (.ref q))) hqo).trans hq
  refine x_aload_n C dX1_init_9 rfl (q := 0) rfl ?_
  refine x_aload_n C dX1_init_10 rfl (q := 1) rfl ?_
  refine y_get C cl_X7 g1 (k := 3) (by decide) fl_X1_15_X7 hs3 dX1_init_11 ?_
  refine y_newa (a0 := (k, .inr (.inl (fun _ => 0)))) C k6 1 rfl rfl (fun _ _ h => h) aw_long (fun _ => rfl) (by omega) (by show k * 8 ≤ _; omega) ⟨by show 0 + 1 ≤ 0 + 1 + 1 + t + 1 + t; omega, by show 0 + k ≤ 0 + k + t + t * k + t + t * k; omega⟩ dX1_init_14 (fun a ha => ?_)
  have C1 := C.grow (cells' := 0 + 1) (slots' := 0 + k) (by show 0 + 1 ≤ 0 + 1 + 1 + t + 1 + t; omega) (by show 0 + k ≤ 0 + k + t + t * k + t + t * k; omega)
  obtain ⟨hao, ha⟩ := yU_none ha
  have hoa : ¬ o = a := fun e => hao e.symm
  have hqa : ¬ q = a := fun e => by rw [e, ha] at hq; cases hq
  refine y_putF C1 cl_X1 ((yU_o _ _ hoa).trans (yU_s _ _ _)) (k := 0) (by decide) fl_X1_21_X1 rfl hnm rfl rfl rfl (Nat.le_of_ble_eq_true rfl) dX1_init_16 ?_
  refine x_aload_n C1 dX1_init_19 rfl (q := 0) rfl ?_
  refine x_aload_n C1 dX1_init_20 rfl (q := 1) rfl ?_
  refine y_get C1 cl_X7 ((yU_o _ _ hqo).trans ((yU_o _ _ hqa).trans g1)) (k := 2) (by decide) fl_X1_25_X7 hs2 dX1_init_21 ?_
  refine x_aload_n C1 dX1_init_24 rfl (q := 1) rfl ?_
  refine y_get C1 cl_X7 ((yU_o _ _ hqo).trans ((yU_o _ _ hqa).trans g1)) (k := 3) (by decide) fl_X1_15_X7 hs3 dX1_init_25 ?_
  refine y_mna (k := k) (cAo := cA 3) (cAi := cA 0) (zz := (k, .inl (fun _ => 0))) (ty := .int) C1 k7 ik8 (C.2.2.2.1.2 3 (cA 3, .array .int) rfl).2 (C.2.2.2.1.2 0 (cA 0, .int) rfl).2 cw_X1_28 (by decide) aw_int (by omega) (by omega) (by omega) (by show k * 4 ≤ _; omega) (by omega) rfl rfl ⟨by show 0 + 1 + (1 + t) ≤ 0 + 1 + 1 + t + 1 + t; omega, by show 0 + k + (t + t * k) ≤ 0 + k + t + t * k + t + t * k; omega⟩ (y_inI k) dX1_init_28 (fun b hb => ?_)
  have C2 := C.grow (cells' := 0 + 1 + 1 + t) (slots' := 0 + k + t + t * k) (by show 0 + 1 + 1 + t ≤ 0 + 1 + 1 + t + 1 + t; omega) (by show 0 + k + t + t * k ≤ 0 + k + t + t * k + t + t * k; omega)
  have hbo : o < b := by
    by_cases x : b ≤ o
    · have := hb o x
      rw [yU_s] at this; cases this
    · omega
  have hba : a < b := by
    by_cases x : b ≤ a
    · have := hb a x
      rw [yU_o _ _ hao, yU_s] at this; cases this
    · omega
  have hbM : ∀ x, b ≤ x → M x = none := fun x hx => (yU_none (yU_none (yU_none (hb x hx)).2).2).2
  have hbq : q < b := by
    by_cases x : b ≤ q
    · rw [hbM q x] at hq; cases hq
    · omega
  refine y_putF C2 cl_X1 ((yMna_o (M := _) (key := k7) (ik := ik8) (co := cA 3) (ci := cA 0) (n := t) (zz := (k, .inl (fun _ => 0))) hbo).trans (yU_s _ _ _)) (k := 2) (by decide) fl_X1_30_X1 rfl hnm rfl rfl rfl (Nat.le_of_ble_eq_true rfl) dX1_init_32 ?_
  have gq := (yU_o (yMna (yU (yU (yU M o (key, .inr (1, ([.null, .null, .null, .null] : List Value).set 1 (.ref q)))) a (k6, .inl (cA 1, k, .inr (.inl (fun _ => 0))))) o (key, .inr (1, (([.null, .null, .null, .null] : List Value).set 1 (.ref q)).set 0 (.ref a)))) k7 ik8 (cA 3) (cA 0) t (k, .inl (fun _ => 0)) b) (key, .inr (1, ((([.null, .null, .null, .null] : List Value).set 1 (.ref q)).set 0 (.ref a)).set 2 (.ref b))) hqo).trans ((yMna_o hbq).trans ((yU_o _ _ hqo).trans ((yU_o _ _ hqa).trans g1)))
  refine x_aload_n C2 dX1_init_35 rfl (q := 0) rfl ?_
  refine x_aload_n C2 dX1_init_36 rfl (q := 1) rfl ?_
  refine y_get C2 cl_X7 gq (k := 2) (by decide) fl_X1_25_X7 hs2 dX1_init_37 ?_
  refine x_aload_n C2 dX1_init_40 rfl (q := 1) rfl ?_
  refine y_get C2 cl_X7 gq (k := 3) (by decide) fl_X1_15_X7 hs3 dX1_init_41 ?_
  refine y_mna (k := k) (cAo := cA 4) (cAi := cA 1) (zz := (k, .inr (.inl (fun _ => 0)))) (ty := .long) C2 k9 ik10 (C.2.2.2.1.2 4 (cA 4, .array .long) rfl).2 (C.2.2.2.1.2 1 (cA 1, .long) rfl).2 cw_X1_33 (by decide) aw_long (by omega) (by omega) (by omega) (by show k * 8 ≤ _; omega) (by omega) rfl rfl ⟨by show 0 + 1 + 1 + t + (1 + t) ≤ 0 + 1 + 1 + t + 1 + t; omega, by show 0 + k + t + t * k + (t + t * k) ≤ 0 + k + t + t * k + t + t * k; omega⟩ (y_inL k) dX1_init_44 (fun cc hc => ?_)
  have C3 := C.grow (cells' := 0 + 1 + 1 + t + 1 + t) (slots' := 0 + k + t + t * k + t + t * k) (Nat.le_refl _) (Nat.le_refl _)
  have hco : o < cc := by
    by_cases x : cc ≤ o
    · have := hc o x
      rw [yU_s] at this; cases this
    · omega
  have hcb : b + t < cc := by
    by_cases x : cc ≤ b + t
    · have h0 := (yU_none (hc (b + t) x)).2
      exact absurd ⟨Nat.le_add_right _ _, by omega⟩ (yMna_none (M := _) (key := k7) (ik := ik8) (co := cA 3) (ci := cA 0) (n := t) (zz := (k, .inl (fun _ => 0))) h0).1
    · omega
  refine y_putF C3 cl_X1 ((yMna_o (M := _) (key := k9) (ik := ik10) (co := cA 4) (ci := cA 1) (n := t) (zz := (k, .inr (.inl (fun _ => 0)))) hco).trans (yU_s _ _ _)) (k := 3) (by decide) fl_X1_35_X1 rfl hnm rfl rfl rfl (Nat.le_of_ble_eq_true rfl) dX1_init_48 ?_
  refine xr_v C3 hr dX1_init_51 (fun H h => ⟨a, b, cc, ⟨ha, hba, hbM, hcb⟩, ?_⟩)
  refine cast (congrArg (fun M' => yW D bs sb sc M' H) ?_) h
  funext x
  by_cases x1 : x = o
  · simp only [yU, if_pos x1]
    rfl
  · simp only [yU, yMna, if_neg x1]
end KEYS
