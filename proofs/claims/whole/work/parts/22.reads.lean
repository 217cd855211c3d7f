/-! calls that only tell -/
section PAIR2
variable {z : Nat → Nat} {bb w : Nat} {σ : Sg} {τ : Tg}
theorem i_lt0 {x : Int32} {n : Nat} (hn : n < 2147483648) (h : x < 0) : x < nI n := by
  rw [Int32.lt_iff_toInt_lt, Int32.toInt_zero] at h
  rw [Int32.lt_iff_toInt_lt, nI_toInt hn]
  omega
theorem accAt (hz : zOK z) (x : Int32) : (f_X10_acceptorAt z σ x = some none ∧ f_X11_isAcceptor z τ x = some 0) ∨ ∃ a, a < z 1 ∧ x = nI (z 0 + a) ∧ f_X10_acceptorAt z σ x = some (some a) ∧ f_X11_isAcceptor z τ x = some 1 := by
  have hzz := hz
  unfold zOK at hzz
  unfold f_X10_acceptorAt f_X11_isAcceptor f_X7_client f_X11_in
  simp only [nI_add, bnd1_e]
  rw [sub1 (by omega)]
  rcases ixc x (n := z 0 + z 1) (by omega) with h | h | ⟨j, h1, rfl, h3, h4⟩
  · refine Or.inl ⟨if_pos (i_lt0 (by omega) h.1), ?_⟩
    rw [if_pos (i_lt0 (by omega) h.1)]
    simp only [bnd1_e, gdb_0]
  · have e1 : ¬ x < nI (z 0) := by
      have := h.2
      rw [Int32.le_iff_toInt_le, nI_toInt (by omega)] at this
      rw [Int32.lt_iff_toInt_lt, nI_toInt (by omega)]
      omega
    have e2 : nI (z 0 + z 1 - 1) < x := by
      have := h.2
      rw [Int32.le_iff_toInt_le, nI_toInt (by omega)] at this
      rw [Int32.lt_iff_toInt_lt, nI_toInt (by omega)]
      omega
    refine Or.inl ⟨by rw [if_neg e1, if_pos h.2], ?_⟩
    rw [if_neg e1, if_pos e2]
    simp only [bnd1_e, gdb_0]
  · by_cases hj : j < z 0
    · refine Or.inl ⟨if_pos (nI_lt hj (by omega)), ?_⟩
      rw [if_pos (nI_lt hj (by omega))]
      simp only [bnd1_e, gdb_0]
    · refine Or.inr ⟨j - z 0, by omega, by rw [show z 0 + (j - z 0) = j by omega], ?_, ?_⟩
      · rw [if_neg (nI_nlt (by omega) (by omega)), if_neg h4, pk_sub (by omega), gdx_n (by omega) (by omega)]
      · rw [if_neg (nI_nlt (by omega) (by omega)), if_neg (nI_nlt (by omega) (by omega))]
        simp only [bnd1_e, gdb_1]
theorem nodAt (hz : zOK z) (x : Int32) : (f_X10_nodeAt z σ x = some none ∧ f_X11_isNode z τ x = some 0) ∨ (∃ s, s < z 0 ∧ x = nI s ∧ f_X10_nodeAt z σ x = some (some (.inl s)) ∧ f_X11_isNode z τ x = some 1) ∨ ∃ a, a < z 1 ∧ x = nI (z 0 + a) ∧ f_X10_nodeAt z σ x = some (some (.inr a)) ∧ f_X11_isNode z τ x = some 1 := by
  have hzz := hz
  unfold zOK at hzz
  unfold f_X10_nodeAt f_X11_isNode
  rw [nI_add, in_e (by omega) (by omega), gdb_ite]
  rcases ixc x (n := z 0 + z 1) (by omega) with h | h | ⟨j, h1, rfl, h3, h4⟩
  · refine Or.inl ⟨?_, if_pos h.1⟩
    rw [if_pos h.1]
    rcases accAt (σ := σ) (τ := τ) hz x with e | ⟨a, ha, rfl, e⟩
    · rw [e.1]; rfl
    · exact absurd h.1 (nI_pos (by omega))
  · refine Or.inl ⟨?_, by rw [if_neg h.1, if_pos h.2]⟩
    have e1 : nI (z 0) ≤ x := by
      have := h.2
      rw [Int32.le_iff_toInt_le, nI_toInt (by omega)] at this
      rw [Int32.le_iff_toInt_le, nI_toInt (by omega)]
      omega
    rw [if_neg h.1, if_pos e1]
    rcases accAt (σ := σ) (τ := τ) hz x with e | ⟨a, ha, rfl, e⟩
    · rw [e.1]; rfl
    · exact absurd h.2 (nI_ge (by omega) (by omega))
  · by_cases hj : j < z 0
    · refine Or.inr (Or.inl ⟨j, hj, rfl, ?_, by rw [if_neg h3, if_neg h4]⟩)
      rw [if_neg h3, if_neg (nI_ge hj (by omega)), gdx_n hj (by omega)]
    · refine Or.inr (Or.inr ⟨j - z 0, by omega, by rw [show z 0 + (j - z 0) = j by omega], ?_, by rw [if_neg h3, if_neg h4]⟩)
      rw [if_neg h3, if_pos (nI_le (by omega) (by omega))]
      rcases accAt (σ := σ) (τ := τ) hz (nI j) with e | ⟨a, ha, hja, e⟩
      · exfalso
        have e2 := e.2
        unfold f_X11_isAcceptor f_X11_in at e2
        rw [nI_add, sub1 (by omega), if_neg (nI_nlt (by omega) (by omega)), if_neg (nI_nlt (by omega) (by omega))] at e2
        simp only [bnd1_e, gdb_1] at e2
        cases e2
      · have : j = z 0 + a := (nI_eq (by omega) (by omega)).mp hja
        subst this
        rw [e.1]
        show gdr a (z 1) (fun k4 => some (some (Sum.inr k4))) = _
        rw [gdr_n ha]
        congr 3
        omega
theorem p_readStatus (h : Rel z bb w σ τ) : ∃ r, f_X10_readStatus z σ = some r ∧ f_X11_readStatus z τ = some r := ⟨_, rfl, by show some _ = _; rw [h.2.1.2.2.2]⟩
theorem p_pending (h : Rel z bb w σ τ) : ∃ r, f_X10_pending z σ = some r ∧ f_X11_pending z τ = some r := ⟨_, rfl, by show some _ = _; rw [h.1.2.2, h.1.2.1]⟩
theorem p_outcome (hz : zOK z) (h : Rel z bb w σ τ) (x : Int32) : ∃ r, f_X10_outcome z σ x = some r ∧ f_X11_outcome z τ x = some r := by
  have hzz := hz
  unfold zOK at hzz
  unfold f_X10_outcome f_X11_outcome
  rw [isTxn_M (σ := σ) hz]
  rcases isTxn_c (σ := σ) hz x with e | ⟨t, ht, rfl, e⟩
  · simp only [e, bnd1_e, if_true]
    exact ⟨_, rfl, rfl⟩
  · obtain ⟨g1, g2⟩ := h.2.2.1 t ht
    simp (disch := omega) only [e, bnd1_e, letv_e, ml12, gdx_n, g1, i10, if_false]
    exact ⟨_, rfl, rfl⟩
theorem p_committedValue (hz : zOK z) (h : Rel z bb w σ τ) (x : Int32) : ∃ r, f_X10_committedValue z σ x = some r ∧ f_X11_committedValue z τ x = some r := by
  have hzz := hz
  unfold zOK at hzz
  unfold f_X10_committedValue f_X11_committedValue
  rw [isKey_M (σ := σ) hz]
  rcases isKey_c (σ := σ) hz x with e | ⟨t, ht, rfl, e⟩
  · simp only [e, bnd1_e, if_true]
    exact ⟨_, rfl, rfl⟩
  · have g1 := h.2.2.2.1 t ht
    simp (disch := omega) only [e, bnd1_e, letv_e, ml9, gdx_n, g1, i10, if_false]
    exact ⟨_, rfl, rfl⟩
/-- how many of a list of ints are v -/
def cnt (p : Nat → Bool) : Nat → Nat
  | 0 => 0
  | n + 1 => cnt p n + if p n then 1 else 0
theorem in_X (hz : zOK z) (v : Int32) : ∀ (n k : Nat) (y : Nat), k ≤ z 2 → z 2 < k + n → f_X8_in_L14 z σ v (nI (z 2)) n (nI y) (nI k) = some (nI (y + cnt (fun i => decide (σ.1 3 0 0 i = v)) (z 2) - cnt (fun i => decide (σ.1 3 0 0 i = v)) k)) := by
  have hzz := hz
  unfold zOK at hzz
  have hm : ∀ a b, a ≤ b → cnt (fun i => decide (σ.1 3 0 0 i = v)) a ≤ cnt (fun i => decide (σ.1 3 0 0 i = v)) b := by
    intro a b hab
    induction b with
    | zero => rw [show a = 0 by omega]; exact Nat.le_refl _
    | succ b ih =>
      by_cases h : a = b + 1
      · subst h; exact Nat.le_refl _
      · exact Nat.le_trans (ih (by omega)) (by rw [cnt]; omega)
  intro n
  induction n with
  | zero => intro k y h1 h2; omega
  | succ n ih =>
    intro k y h1 h2
    rw [f_X8_in_L14]
    by_cases hk : k < z 2
    · rw [if_neg (nI_ge hk (by omega))]
      simp (disch := omega) only [gdx_n, letv_e, add1]
      have hc := hm (k + 1) (z 2) (by omega)
      by_cases hv : σ.1 3 0 0 k = v
      · rw [if_pos hv, ih (k + 1) (y + 1) (by omega) (by omega)]
        have e : cnt (fun i => decide (σ.1 3 0 0 i = v)) (k + 1) = cnt (fun i => decide (σ.1 3 0 0 i = v)) k + 1 := by rw [cnt]; simp [hv]
        congr 2; omega
      · rw [if_neg hv, ih (k + 1) y (by omega) (by omega)]
        have e : cnt (fun i => decide (σ.1 3 0 0 i = v)) (k + 1) = cnt (fun i => decide (σ.1 3 0 0 i = v)) k := by rw [cnt]; simp [hv]
        congr 2; omega
    · have : k = z 2 := by omega
      subst this
      rw [if_pos (nI_le (Nat.le_refl _) (by omega))]
      congr 2; omega
end PAIR2
