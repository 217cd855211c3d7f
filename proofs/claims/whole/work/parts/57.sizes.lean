/-! the sizes -/
def nrs (x hi : Int32) : Int32 := if 1 < (if x < hi then x else hi) then (if x < hi then x else hi) else 1
def odd (x : Int32) : Int32 := if 2 < x then (if 4 < x then 5 else 3) else 1
def rm_min : Room := { frames := 0, cells := 0, slots := 0, locals := 0 }
def rm_near : Room := { frames := 1, cells := 0, slots := 0, locals := 30 }
def rm_X7i : Room := { frames := 2, cells := 0, slots := 0, locals := 60 }
section SIZES
variable {l : Launch} {D : va_G} {cA : Nat → ClassId} {bs sb o : Nat} {sc : Cell} {M : yM} {key : yK} {Ω : Heap → Prop}
theorem k_min (x1 x2 : Int32) : xMet l D cA bs yJ9_min_7cf53 cJ9_min_7cf53 2 (some .int) rm_min [.int x1, .int x2] Ω Ω (some (.int (if x2 < x1 then x2 else x1))) 0 0 := by
  refine xMet.of RJ9 rfl (by decide +kernel) (Nat.le_of_ble_eq_true rfl) ?_
  intro p e s m args below meth c C hr hnm
  generalize hv : (if x2 < x1 then x2 else x1) = rF
  have h : (if x2 < x1 then some x2 else some x1) = some rF := by
    rw [← hv]
    by_cases q : x2 < x1
    · rw [if_pos q, if_pos q]
    · rw [if_neg q, if_neg q]
  refine x_sub (L' := [(0, .int x1), (1, .int x2)]) [0, 1] rfl ?_
  refine x_iload_n C dJ9_min_7cf53_0 rfl (q := 0) rfl ?_
  refine x_iload_n C dJ9_min_7cf53_1 rfl (q := 1) rfl ?_
  refine x_icmp_gt C (tgt := 9) dJ9_min_7cf53_2 (by decide) h (fun hc1 h => ?_) (fun hc1 h => ?_)
  · refine x_iload_n C dJ9_min_7cf53_9 rfl (q := 1) rfl ?_
    cases h
    exact xr_i C hr dJ9_min_7cf53_10 (fun _ h => h)
  · refine x_iload_n C dJ9_min_7cf53_5 rfl (q := 0) rfl ?_
    refine x_goto C (tgt := 10) dJ9_min_7cf53_6 (by decide) ?_
    cases h
    exact xr_i C hr dJ9_min_7cf53_10 (fun _ h => h)
theorem k_nearest (x hi : Int32) : xMet l D cA bs yX7_nearest cX7_nearest 2 (some .int) rm_near [.int x, .int hi] Ω Ω (some (.int (nrs x hi))) 0 0 := by
  refine xMet.of RX7 rfl (by decide +kernel) (Nat.le_of_ble_eq_true rfl) ?_
  intro p e s m args below meth c C hr hnm
  refine x_sub (L' := [(0, .int x), (1, .int hi)]) [0, 1] rfl ?_
  refine x_iconst C (v := 1) dX7_nearest_0 (by decide) ?_
  refine x_iload_n C dX7_nearest_1 rfl (q := 1) rfl ?_
  refine x_iload_n C dX7_nearest_2 rfl (q := 0) rfl ?_
  refine x_callS_i C (k_min hi x) ws_X7_36 rfl (Nat.le_of_ble_eq_true rfl) ⟨⟨rfl, rfl⟩, Nat.le_of_ble_eq_true rfl, Nat.le_of_ble_eq_true rfl⟩ dX7_nearest_3 rfl ?_
  have hq : f_J9_max_7cf53 1 (if x < hi then x else hi) = some (nrs x hi) := by
    unfold f_J9_max_7cf53 nrs
    by_cases q : (1 : Int32) < (if x < hi then x else hi)
    · rw [if_pos q, if_pos q]
    · rw [if_neg q, if_neg q]
  refine x_callS_i C (m_J9_max_7cf53 hq) ws_X7_41 rfl (Nat.le_of_ble_eq_true rfl) ⟨⟨rfl, rfl⟩, Nat.le_of_ble_eq_true rfl, Nat.le_of_ble_eq_true rfl⟩ dX7_nearest_6 rfl ?_
  exact xr_i C hr dX7_nearest_9 (fun _ h => h)
theorem k_odd (x : Int32) : xMet l D cA bs yX7_nearestOdd cX7_nearestOdd 1 (some .int) rm_min [.int x] Ω Ω (some (.int (odd x))) 0 0 := by
  refine xMet.of RX7 rfl (by decide +kernel) (Nat.le_of_ble_eq_true rfl) ?_
  intro p e s m args below meth c C hr hnm
  have h : (if 2 < x then (if 4 < x then some (5 : Int32) else some 3) else some 1) = some (odd x) := by
    unfold odd
    by_cases q : 2 < x
    · rw [if_pos q, if_pos q]
      by_cases q2 : 4 < x
      · rw [if_pos q2, if_pos q2]
      · rw [if_neg q2, if_neg q2]
    · rw [if_neg q, if_neg q]
  generalize odd x = rF at h
  refine x_sub (L' := [(0, .int x)]) [0] rfl ?_
  refine x_iload_n C dX7_nearestOdd_0 rfl (q := 0) rfl ?_
  refine x_iconst C (v := 2) dX7_nearestOdd_1 (by decide) ?_
  refine x_icmp_gt C (tgt := 7) dX7_nearestOdd_2 (by decide) h (fun hc1 h => ?_) (fun hc1 h => ?_)
  · refine x_iload_n C dX7_nearestOdd_7 rfl (q := 0) rfl ?_
    refine x_iconst C (v := 4) dX7_nearestOdd_8 (by decide) ?_
    refine x_icmp_gt C (tgt := 16) dX7_nearestOdd_9 (by decide) h (fun hc1 h => ?_) (fun hc1 h => ?_)
    · refine x_iconst C (v := 5) dX7_nearestOdd_16 (by decide) ?_
      cases h
      exact xr_i C hr dX7_nearestOdd_17 (fun _ h => h)
    · refine x_iconst C (v := 3) dX7_nearestOdd_12 (by decide) ?_
      refine x_goto C (tgt := 17) dX7_nearestOdd_13 (by decide) ?_
      cases h
      exact xr_i C hr dX7_nearestOdd_17 (fun _ h => h)
  · refine x_iconst C (v := 1) dX7_nearestOdd_5 (by decide) ?_
    cases h
    exact xr_i C hr dX7_nearestOdd_6 (fun _ h => h)
theorem k_X7 (x1 x2 x3 x4 x5 x6 : Int32) (ho : M o = some (key, .inr (6, [.int 0, .int 0, .int 0, .int 0, .int 0, .int 0]))) : xMet l D cA bs yX7_init cX7_init 7 none rm_X7i [.ref o, .int x1, .int x2, .int x3, .int x4, .int x5, .int x6] (yW D bs sb sc M)
    (yW D bs sb sc (yU M o (key, .inr (6, [.int (nrs x1 4), .int (odd x2), .int (nrs x3 16), .int (nrs x4 32), .int (nrs x5 200), .int (nrs x6 200)])))) none 0 0 := by
  refine xMet.of RX7 rfl (by decide +kernel) (Nat.le_of_ble_eq_true rfl) ?_
  intro p e s m args below meth c C hr hnm
  refine x_sub (L' := [(0, .ref o), (1, .int x1), (2, .int x2), (3, .int x3), (4, .int x4), (5, .int x5), (6, .int x6)]) [0, 1, 2, 3, 4, 5, 6] rfl ?_
  refine x_aload_n C dX7_init_0 rfl (q := 0) rfl ?_
  refine y_obj C ob_X7_1 ob_i ob_c (Nat.le_of_ble_eq_true rfl) (Nat.le_of_ble_eq_true rfl) (by decide) dX7_init_1 ?_
  refine x_aload_n C dX7_init_4 rfl (q := 0) rfl ?_
  refine x_iload_n C dX7_init_5 rfl (q := 1) rfl ?_
  refine x_iconst C (v := 4) dX7_init_6 (by decide) ?_
  refine x_callS_i C (k_nearest x1 4) ws_X7_7 rfl (Nat.le_of_ble_eq_true rfl) ⟨⟨rfl, rfl⟩, Nat.le_of_ble_eq_true rfl, Nat.le_of_ble_eq_true rfl⟩ dX7_init_7 rfl ?_
  refine y_putF C cl_X7 ho (k := 0) (by decide) fl_X7_13_X7 rfl hnm rfl rfl rfl (Nat.le_of_ble_eq_true rfl) dX7_init_10 ?_
  refine x_aload_n C dX7_init_13 rfl (q := 0) rfl ?_
  refine x_iload_n C dX7_init_14 rfl (q := 2) rfl ?_
  refine x_callS_i C (k_odd x2) ws_X7_17 rfl (Nat.le_of_ble_eq_true rfl) ⟨⟨rfl, rfl⟩, Nat.le_of_ble_eq_true rfl, Nat.le_of_ble_eq_true rfl⟩ dX7_init_15 rfl ?_
  refine y_putF C cl_X7 (yU_s _ _ _) (k := 1) (by decide) fl_X7_21_X7 rfl hnm rfl rfl rfl (Nat.le_of_ble_eq_true rfl) dX7_init_18 ?_
  refine x_aload_n C dX7_init_21 rfl (q := 0) rfl ?_
  refine x_iload_n C dX7_init_22 rfl (q := 3) rfl ?_
  refine x_bipush C (v := 16) dX7_init_23 (by decide) ?_
  refine x_callS_i C (k_nearest x3 16) ws_X7_7 rfl (Nat.le_of_ble_eq_true rfl) ⟨⟨rfl, rfl⟩, Nat.le_of_ble_eq_true rfl, Nat.le_of_ble_eq_true rfl⟩ dX7_init_25 rfl ?_
  refine y_putF C cl_X7 (yU_s _ _ _) (k := 2) (by decide) fl_X7_24_X7 rfl hnm rfl rfl rfl (Nat.le_of_ble_eq_true rfl) dX7_init_28 ?_
  refine x_aload_n C dX7_init_31 rfl (q := 0) rfl ?_
  refine x_iload C dX7_init_32 (q := 4) rfl ?_
  refine x_bipush C (v := 32) dX7_init_34 (by decide) ?_
  refine x_callS_i C (k_nearest x4 32) ws_X7_7 rfl (Nat.le_of_ble_eq_true rfl) ⟨⟨rfl, rfl⟩, Nat.le_of_ble_eq_true rfl, Nat.le_of_ble_eq_true rfl⟩ dX7_init_36 rfl ?_
  refine y_putF C cl_X7 (yU_s _ _ _) (k := 3) (by decide) fl_X7_27_X7 rfl hnm rfl rfl rfl (Nat.le_of_ble_eq_true rfl) dX7_init_39 ?_
  refine x_aload_n C dX7_init_42 rfl (q := 0) rfl ?_
  refine x_iload C dX7_init_43 (q := 5) rfl ?_
  refine x_sipush C (v := 200) dX7_init_45 (by decide) ?_
  refine x_callS_i C (k_nearest x5 200) ws_X7_7 rfl (Nat.le_of_ble_eq_true rfl) ⟨⟨rfl, rfl⟩, Nat.le_of_ble_eq_true rfl, Nat.le_of_ble_eq_true rfl⟩ dX7_init_48 rfl ?_
  refine y_putF C cl_X7 (yU_s _ _ _) (k := 4) (by decide) fl_X7_30_X7 rfl hnm rfl rfl rfl (Nat.le_of_ble_eq_true rfl) dX7_init_51 ?_
  refine x_aload_n C dX7_init_54 rfl (q := 0) rfl ?_
  refine x_iload C dX7_init_55 (q := 6) rfl ?_
  refine x_sipush C (v := 200) dX7_init_57 (by decide) ?_
  refine x_callS_i C (k_nearest x6 200) ws_X7_7 rfl (Nat.le_of_ble_eq_true rfl) ⟨⟨rfl, rfl⟩, Nat.le_of_ble_eq_true rfl, Nat.le_of_ble_eq_true rfl⟩ dX7_init_60 rfl ?_
  refine y_putF C cl_X7 (yU_s _ _ _) (k := 5) (by decide) fl_X7_33_X7 rfl hnm rfl rfl rfl (Nat.le_of_ble_eq_true rfl) dX7_init_63 ?_
  simp only [yU_yU]
  exact xr_v C hr dX7_init_66 (fun _ h => h)
end SIZES
