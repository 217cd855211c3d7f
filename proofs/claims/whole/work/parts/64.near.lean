/-! the reference's sizes -/
def nrm (x lo hi : Int32) : Int32 := if lo ≤ x then (if x ≤ hi then x else hi) else lo
theorem k_near {l : Launch} {D : va_G} {cA : Nat → ClassId} {bs : Nat} {Ω : Heap → Prop} (x lo hi : Int32) : xMet l D cA bs yX11_near cX11_near 3 (some .int) rm_min [.int x, .int lo, .int hi] Ω Ω (some (.int (nrm x lo hi))) 0 0 := by
  refine xMet.of RX11 rfl (by decide +kernel) (Nat.le_of_ble_eq_true rfl) ?_
  intro p e s m args below meth c C hr hnm
  have h : (if lo ≤ x then (if x ≤ hi then some x else some hi) else some lo) = some (nrm x lo hi) := by
    unfold nrm
    by_cases q : lo ≤ x
    · rw [if_pos q, if_pos q]
      by_cases q2 : x ≤ hi
      · rw [if_pos q2, if_pos q2]
      · rw [if_neg q2, if_neg q2]
    · rw [if_neg q, if_neg q]
  generalize nrm x lo hi = rF at h
  refine x_sub (L' := [(0, .int x), (1, .int lo), (2, .int hi)]) [0, 1, 2] rfl ?_
  refine x_iload_n C dX11_near_0 rfl (q := 0) rfl ?_
  refine x_iload_n C dX11_near_1 rfl (q := 1) rfl ?_
  refine x_icmp_ge C (tgt := 9) dX11_near_2 (by decide) h (fun hc1 h => ?_) (fun hc1 h => ?_)
  · refine x_iload_n C dX11_near_9 rfl (q := 0) rfl ?_
    refine x_iload_n C dX11_near_10 rfl (q := 2) rfl ?_
    refine x_icmp_le C (tgt := 18) dX11_near_11 (by decide) h (fun hc1 h => ?_) (fun hc1 h => ?_)
    · refine x_iload_n C dX11_near_18 rfl (q := 0) rfl ?_
      cases h
      exact xr_i C hr dX11_near_19 (fun _ h => h)
    · refine x_iload_n C dX11_near_14 rfl (q := 2) rfl ?_
      refine x_goto C (tgt := 19) dX11_near_15 (by decide) ?_
      cases h
      exact xr_i C hr dX11_near_19 (fun _ h => h)
  · refine x_iload_n C dX11_near_5 rfl (q := 1) rfl ?_
    refine x_goto C (tgt := 19) dX11_near_6 (by decide) ?_
    cases h
    exact xr_i C hr dX11_near_19 (fun _ h => h)
theorem nrs_e (x : Int32) {h : Nat} (h1 : 1 ≤ h) (hh : h < 1000) : ∃ N, 1 ≤ N ∧ N ≤ h ∧ nrs x (nI h) = nI N ∧ nrm x 1 (nI h) = nI N := by
  have e1 : (1 : Int32).toInt = 1 := by decide
  have eh : (nI h).toInt = (h : Int) := nI_toInt (by omega)
  unfold nrs nrm
  by_cases c : (1 : Int32) ≤ x
  · have c0 := c
    rw [Int32.le_iff_toInt_le, e1] at c0
    rw [if_pos c]
    by_cases d : x ≤ nI h
    · have hx0 : ¬ x < 0 := fun q => by rw [Int32.lt_iff_toInt_lt, Int32.toInt_zero] at q; omega
      obtain ⟨j, j1, rfl⟩ := nI_of2 (M := nI h) (n := h) eh hx0 d
      rw [nI_toInt (by omega)] at c0
      have er : (if nI j < nI h then nI j else nI h) = nI j := by
        by_cases q : j < h
        · rw [if_pos (nI_lt q (by omega))]
        · rw [if_neg (nI_nlt (by omega) (by omega)), show j = h by omega]
      rw [if_pos d, er]
      refine ⟨j, by omega, j1, ?_, rfl⟩
      by_cases q : j = 1
      · subst q; decide
      · rw [if_pos (show (1 : Int32) < nI j from nI_lt (a := 1) (by omega) (by omega))]
    · have d0 := d
      rw [Int32.le_iff_toInt_le, eh] at d0
      have hn : ¬ x < nI h := fun q => by rw [Int32.lt_iff_toInt_lt, eh] at q; omega
      rw [if_neg d, if_neg hn]
      refine ⟨h, h1, Nat.le_refl _, ?_, rfl⟩
      by_cases q : h = 1
      · subst q; decide
      · rw [if_pos (show (1 : Int32) < nI h from nI_lt (a := 1) (by omega) (by omega))]
  · have c0 := c
    rw [Int32.le_iff_toInt_le, e1] at c0
    have hl : x < nI h := by rw [Int32.lt_iff_toInt_lt, eh]; omega
    have hn : ¬ (1 : Int32) < x := fun q => by rw [Int32.lt_iff_toInt_lt, e1] at q; omega
    rw [if_neg c, if_pos hl, if_neg hn]
    exact ⟨1, Nat.le_refl _, h1, rfl, rfl⟩
