/-! Pool's constructor, whole -/
def rm_X5k (n w : Nat) : Room := { frames := 2, cells := 0 + 1 + 3 * (w + 2), slots := 0 + w + (9 + (n + n)) * (w + 2), locals := 60 }
section POOL3
variable {l : Launch} {D : va_G} {cA : Nat → ClassId} {bs sb o n w : Nat} {sc : Cell} {M : yM} {key : yK}
theorem k_X5 {q : Nat} {kq kar : yK} {szs : List Value} (hn : n < 1000) (hw : w < 1000) (ho : M o = some (key, .inr (4, [.null, .null, .null, .null, .int 0, .int 0, .int 0]))) (hq : M q = some (kq, .inr (6, szs))) (hs0 : szs[0]? = some (.int (nI n))) (hs4 : szs[4]? = some (.int (nI w))) : xMet l D cA bs yX5_init cX5_init 3 none (rm_X5k n w) [.ref o, .ref q] (yW D bs sb sc M)
    (fun H => ∃ W ar ad a1 a2 dr d1 d2 hd e1 e2, (yPl cA M W o ar n w w key kar [.ref q, .ref ar, .ref dr, .ref hd, .int 0, .int 0, .int 0] ad a1 a2 ∧ yMsg cA W n w dr d1 d2 ∧ yMsg cA W n (w + 1) hd e1 e2) ∧ yW D bs sb sc W H) none (0 + 1 + 3 * (w + 2)) (0 + w + (9 + (n + n)) * (w + 2)) := by
  refine xMet.of RX5 rfl (by decide +kernel) (Nat.le_of_ble_eq_true rfl) ?_
  intro p e s m args below meth c C hr hnm
  have hqo : ¬ q = o := fun e => by
    rw [e, ho] at hq
    cases hq
  generalize hT : 9 + (n + n) = T
  have hMC : (rm_X5k n w).cells = 0 + 1 + 3 * (w + 2) := rfl
  have hMS : (rm_X5k n w).slots = 0 + w + T * (w + 2) := by rw [← hT]; rfl
  refine x_sub (L' := [(0, .ref o), (1, .ref q)]) [0, 1] rfl ?_
  refine x_aload_n C dX5_init_0 rfl (q := 0) rfl ?_
  refine y_obj C ob_X5_1 ob_i ob_c (Nat.le_of_ble_eq_true rfl) (Nat.le_of_ble_eq_true rfl) (by decide) dX5_init_1 ?_
  refine x_aload_n C dX5_init_4 rfl (q := 0) rfl ?_
  refine x_aload_n C dX5_init_5 rfl (q := 1) rfl ?_
  refine y_putF C cl_X5 ho (k := 0) (by decide) fl_X5_7_X5 rfl hnm rfl rfl rfl (Nat.le_of_ble_eq_true rfl) dX5_init_6 ?_
  refine x_aload_n C dX5_init_9 rfl (q := 0) rfl ?_
  refine x_aload_n C dX5_init_10 rfl (q := 1) rfl ?_
  refine y_get C cl_X7 ((yU_o _ _ hqo).trans hq) (k := 4) (by decide) fl_X5_13_X7 hs4 dX5_init_11 ?_
  refine y_newq C kar 5 rfl cw_X5_19 (by decide) (by omega) (by omega) ⟨by rw [hMC]; omega, by rw [hMS]; exact Nat.le_add_right _ _⟩ dX5_init_14 (fun ar har => ?_)
  obtain ⟨haro, har⟩ := yU_none har
  have C1 := C.grow (cells' := 0 + 1) (slots' := 0 + w) (by rw [hMC]; omega) (by rw [hMS]; exact Nat.le_add_right _ _)
  refine y_putF C1 cl_X5 ((yU_o _ _ (fun e => haro e.symm)).trans (yU_s _ _ _)) (k := 1) (by decide) fl_X5_21_X5 rfl hnm rfl rfl rfl (Nat.le_of_ble_eq_true rfl) dX5_init_17 ?_
  rw [y_canon haro]
  refine x_iconst C1 (v := 0) dX5_init_20 (by decide) ?_
  refine x_istore_n C1 (L' := [(2, .int 0), (0, .ref o), (1, .ref q)]) dX5_init_21 rfl (by decide) rfl ?_
  have hl : ∀ (j k cells slots : Nat) (W : yM) (ad a1 a2 : Nat → Nat), k + j = w → cells + 3 * (j + 2) = 0 + 1 + 3 * (w + 2) → slots + T * (j + 2) = 0 + w + T * (w + 2) → yPl cA M W o ar n w k key kar [.ref q, .ref ar, .null, .null, .int 0, .int 0, .int 0] ad a1 a2 →
      XW p l e (rm_X5k n w) s m args below meth c cells slots 3 bs (xQ below args s bs none (fun H => ∃ W ar ad a1 a2 dr d1 d2 hd e1 e2, (yPl cA M W o ar n w w key kar [.ref q, .ref ar, .ref dr, .ref hd, .int 0, .int 0, .int 0] ad a1 a2 ∧ yMsg cA W n w dr d1 d2 ∧ yMsg cA W n (w + 1) hd e1 e2) ∧ yW D bs sb sc W H) (0 + 1 + 3 * (w + 2)) (0 + w + T * (w + 2))) (yW D bs sb sc W) 22 [(0, .ref o), (1, .ref q), (2, .int (nI k))] [] := by
    intro j
    induction j with
    | zero =>
      intro k cells slots W ad a1 a2 hk hc hs hP
      have hk : k = w := by omega
      subst hk
      have e9 : slots + 9 + (0 + n + n) + 9 + (0 + n + n) = 0 + k + T * (k + 2) := by rw [← hs, ← hT]; omega
      have e8 : cells + 1 + (0 + 1 + 1) + 1 + (0 + 1 + 1) = 0 + 1 + 3 * (k + 2) := by omega
      have D0 := C.grow (cells' := cells) (slots' := slots) (by rw [hMC]; omega) (by rw [hMS]; omega)
      have D1 := C.grow (cells' := cells + 1 + (0 + 1 + 1)) (slots' := slots + 9 + (0 + n + n)) (by rw [hMC]; omega) (by rw [hMS]; omega)
      have D2 := C.grow (cells' := cells + 1 + (0 + 1 + 1) + 1 + (0 + 1 + 1)) (slots' := slots + 9 + (0 + n + n) + 9 + (0 + n + n)) (by rw [hMC]; omega) (by rw [hMS]; omega)
      refine x_iload_n D0 dX5_init_22 rfl (q := 2) rfl ?_
      refine x_aload_n D0 dX5_init_23 rfl (q := 0) rfl ?_
      refine y_get D0 cl_X5 hP.2.1 (k := 1) (by decide) fl_X5_21_X5 rfl dX5_init_24 ?_
      refine y_alen D0 5 rfl hP.2.2.2.2.1 dX5_init_27 ?_
      refine x_icmp_ge D0 (tgt := 54) (A := some ()) (B := none) (rr := ()) dX5_init_28 (by decide) (if_pos (nI_le (Nat.le_refl _) (by omega))) (fun _ _ => ?_) (fun _ h => by cases h)
      refine x_aload_n D0 dX5_init_54 rfl (q := 0) rfl ?_
      refine y_msg D0 k 1 hn (hP.1 q _ hq hqo) hs0 ⟨by rw [hMC]; omega, by rw [hMS]; omega⟩ ⟨Nat.le_of_ble_eq_true rfl, Nat.le_of_ble_eq_true rfl⟩ rfl (fun _ => Nat.le_of_ble_eq_true rfl) dX5_init_55 dX5_init_58 dX5_init_59 dX5_init_60 dX5_init_63 (fun W1 dr d1 d2 _ hm hg => ?_)
      have hP1 := yPl_grow hP hg
      refine y_putF D1 cl_X5 hP1.2.1 (k := 2) (by decide) fl_X5_31_X5 rfl hnm rfl rfl rfl (Nat.le_of_ble_eq_true rfl) dX5_init_66 ?_
      have hP2 := yPl_set hP1 [.ref q, .ref ar, .ref dr, .null, .int 0, .int 0, .int 0]
      have hm2 := yMsg_set (fs' := [.ref q, .ref ar, .ref dr, .null, .int 0, .int 0, .int 0]) hP1.2.1 hm
      refine x_aload_n D1 dX5_init_69 rfl (q := 0) rfl ?_
      refine y_msg D1 (k + 1) 1 hn (hP2.1 q _ hq hqo) hs0 ⟨by rw [hMC]; omega, by rw [hMS]; omega⟩ ⟨Nat.le_of_ble_eq_true rfl, Nat.le_of_ble_eq_true rfl⟩ rfl (fun _ => Nat.le_of_ble_eq_true rfl) dX5_init_70 dX5_init_73 dX5_init_74 dX5_init_75 dX5_init_78 (fun W2 hd e1 e2 _ hm3 hg2 => ?_)
      have hP3 := yPl_grow hP2 hg2
      refine y_put D2 cl_X5 hP3.2.1 (k := 3) (by decide) fl_X5_35_X5 rfl rfl rfl (Nat.le_of_ble_eq_true rfl) dX5_init_81 ?_
      have hP4 := yPl_set hP3 [.ref q, .ref ar, .ref dr, .ref hd, .int 0, .int 0, .int 0]
      have hm4 := yMsg_set (fs' := [.ref q, .ref ar, .ref dr, .ref hd, .int 0, .int 0, .int 0]) hP3.2.1 hm3
      have hm5 := yMsg_set (fs' := [.ref q, .ref ar, .ref dr, .ref hd, .int 0, .int 0, .int 0]) hP3.2.1 (hm2.keep ⟨(hg2 _ _ hm2.1).trans hm2.1.symm, (hg2 _ _ hm2.2.1).trans hm2.2.1.symm, (hg2 _ _ hm2.2.2).trans hm2.2.2.symm⟩)
      rw [← e8, ← e9]
      exact xr_v D2 hr dX5_init_84 (fun H h => ⟨_, ar, ad, a1, a2, dr, d1, d2, hd, e1, e2, ⟨hP4, hm5, hm4⟩, h⟩)
    | succ j ih =>
      intro k cells slots W ad a1 a2 hk hc hs hP
      have hTj : T * (j + 1 + 2) = T * (j + 2) + T := Nat.mul_succ T (j + 2)
      have D0 := C.grow (cells' := cells) (slots' := slots) (by rw [hMC]; omega) (by rw [hMS]; omega)
      have D1 := C.grow (cells' := cells + 1 + (0 + 1 + 1)) (slots' := slots + 9 + (0 + n + n)) (by rw [hMC]; omega) (by rw [hMS]; omega)
      refine x_iload_n D0 dX5_init_22 rfl (q := 2) rfl ?_
      refine x_aload_n D0 dX5_init_23 rfl (q := 0) rfl ?_
      refine y_get D0 cl_X5 hP.2.1 (k := 1) (by decide) fl_X5_21_X5 rfl dX5_init_24 ?_
      refine y_alen D0 5 rfl hP.2.2.2.2.1 dX5_init_27 ?_
      refine x_icmp_ge D0 (tgt := 54) (A := none) (B := some ()) (rr := ()) dX5_init_28 (by decide) (if_neg (nI_ge (show k < w by omega) (by omega))) (fun _ h => by cases h) (fun _ _ => ?_)
      refine x_aload_n D0 dX5_init_31 rfl (q := 0) rfl ?_
      refine y_get D0 cl_X5 hP.2.1 (k := 1) (by decide) fl_X5_21_X5 rfl dX5_init_32 ?_
      refine x_iload_n D0 dX5_init_35 rfl (q := 2) rfl ?_
      refine y_msg D0 k 1 hn (hP.1 q _ hq hqo) hs0 ⟨by rw [hMC]; omega, by rw [hMS]; omega⟩ ⟨Nat.le_of_ble_eq_true rfl, Nat.le_of_ble_eq_true rfl⟩ rfl (fun _ => Nat.le_of_ble_eq_true rfl) dX5_init_36 dX5_init_39 dX5_init_40 dX5_init_41 dX5_init_44 (fun W1 a b c' ha hm hg => ?_)
      have hP1 := yPl_grow hP hg
      refine y_aast D1 5 rfl cl_X3 hP1.2.2.2.2.1 hm.1 (show k < w by omega) (by omega) dX5_init_47 ?_
      refine x_iinc D1 (v := nI (k + 1)) (L' := [(2, .int (nI (k + 1))), (0, .ref o), (1, .ref q)]) dX5_init_48 (k := 2) rfl (by rw [nI_succ]; rfl) (by decide) rfl ?_
      refine x_goto D1 (tgt := 22) dX5_init_51 (by decide) ?_
      exact x_sub [1, 2, 0] rfl (ih (k + 1) _ _ _ _ _ _ (by omega) (by omega) (by rw [← hT] at hs hTj ⊢; omega) (yPl_add hP ha hm hg))
  refine x_sub (L' := [(0, .ref o), (1, .ref q), (2, .int (nI 0))]) [1, 2, 0] rfl (hl w 0 _ _ _ (fun _ => 0) (fun _ => 0) (fun _ => 0) (by omega) (by omega) (by omega) ⟨fun x q' hx hxo => ?_, yU_s _ _ _, fun e => haro e.symm, har, ?_, fun i hi => by omega⟩)
  · have : ¬ x = ar := fun e => by rw [e, har] at hx; cases hx
    exact (yU_o _ _ hxo).trans ((yU_o _ _ this).trans hx)
  · refine (yU_o _ _ haro).trans ((yU_s _ _ _).trans ?_)
    rfl
end POOL3
