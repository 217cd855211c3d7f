/-! every script of calls answers alike -/
section LAWS
variable {z : Nat → Nat} {w : Nat} {σ : Sg} {τ : Tg} {xs : Nat → Int32} {Ln : Nat}
theorem cmp_0 (x : Int64) : lg_cmp x x = 0 := by
  unfold lg_cmp
  rw [if_neg (fun q => by have q2 : x < x := q; rw [Int64.lt_iff_toInt_lt] at q2; omega)]
  simp
theorem law_1 (hz : zOK z) (hLn : Ln ≤ 2566) : ∀ (n k w : Nat) (σ : Sg) (τ : Tg), Rel z k w σ τ → k ≤ Ln + 5 → Ln + 10 < k + n → f_law_L z xs Ln n (nI k) σ τ = some 1 := by
  intro n
  induction n with
  | zero => intro k w σ τ h h1 h2; omega
  | succ n ih =>
    intro k w σ τ h h1 h2
    rw [f_law_L]
    by_cases hk : (nI Ln) - 5 < nI k
    · rw [if_pos hk]
    have hk5 : k + 5 ≤ Ln := by
      have e : (nI Ln - nI 5).toInt = (Ln : Int) - ((5 : Nat) : Int) := pk_sub_toInt (by omega) (by omega)
      by_cases q : k + 5 ≤ Ln
      · exact q
      · refine absurd ?_ hk
        show nI Ln - nI 5 < nI k
        rw [Int32.lt_iff_toInt_lt, e, nI_toInt (by omega)]
        omega
    have nx : ∀ (w' : Nat) (σ' : Sg) (τ' : Tg), Rel z (k + 5) w' σ' τ' → (letv (nI k + 5) fun v => f_law_L z xs Ln n v σ' τ') = some 1 := by
      intro w' σ' τ' h'
      rw [letv_e, add5]
      exact ih (k + 5) w' σ' τ' h' (by omega) (by omega)
    rw [if_neg hk, gdx_n (show k < Ln by omega) (by omega), letv_e, letv_e]
    by_cases c0 : xs k &&& 31 = 0
    · rw [if_pos c0]
      simp (disch := omega) only [add1, add2, add3, add4, gdx_n, letv_e]
      obtain ⟨r, σ', τ', e1, e2, e3⟩ := p_begin hz h (xs (k + 1))
      rw [e1, e2, bnd2_e, bnd2_e, if_pos rfl]
      exact nx w σ' τ' (e3.mono (by omega))
    rw [if_neg c0]
    by_cases c1 : xs k &&& 31 = 1
    · rw [if_pos c1]
      simp (disch := omega) only [add1, add2, add3, add4, gdx_n, letv_e]
      obtain ⟨r, σ', τ', e1, e2, e3⟩ := p_read hz h (xs (k + 1)) (xs (k + 2))
      rw [e1, e2, bnd2_e, bnd2_e, if_pos (cmp_0 r)]
      exact nx w σ' τ' (e3.mono (by omega))
    rw [if_neg c1]
    by_cases c2 : xs k &&& 31 = 2
    · rw [if_pos c2]
      obtain ⟨r, e1, e2⟩ := p_readStatus (z := z) h
      rw [e1, e2, bnd1_e, bnd1_e, if_pos rfl]
      exact nx w σ τ (h.mono (by omega))
    rw [if_neg c2]
    by_cases c3 : xs k &&& 31 = 3
    · rw [if_pos c3]
      simp (disch := omega) only [add1, add2, add3, add4, gdx_n, letv_e]
      obtain ⟨r, σ', τ', e1, e2, e3⟩ := p_write hz h (xs (k + 1)) (xs (k + 2)) ((((xs (k + 3)).toInt64) <<< ((32).toInt64 &&& 63)) ||| (((xs (k + 4)).toInt64) &&& 4294967295))
      rw [e1, e2, bnd2_e, bnd2_e, if_pos rfl]
      exact nx w σ' τ' (e3.mono (by omega))
    rw [if_neg c3]
    by_cases c4 : xs k &&& 31 = 4
    · rw [if_pos c4]
      simp (disch := omega) only [add1, add2, add3, add4, gdx_n, letv_e]
      obtain ⟨r, w', σ', τ', e1, e2, e3⟩ := p_requestCommit hz h (xs (k + 1))
      rw [e1, e2, bnd2_e, bnd2_e, if_pos rfl]
      exact nx w' σ' τ' (e3.mono (by omega))
    rw [if_neg c4]
    by_cases c5 : xs k &&& 31 = 5
    · rw [if_pos c5]
      simp (disch := omega) only [add1, add2, add3, add4, gdx_n, letv_e]
      obtain ⟨r, σ', τ', e1, e2, e3⟩ := p_abort hz h (xs (k + 1))
      rw [e1, e2, bnd2_e, bnd2_e, if_pos rfl]
      exact nx w σ' τ' (e3.mono (by omega))
    rw [if_neg c5]
    by_cases c6 : xs k &&& 31 = 6
    · rw [if_pos c6]
      simp (disch := omega) only [add1, add2, add3, add4, gdx_n, letv_e]
      obtain ⟨r, e1, e2⟩ := p_outcome hz h (xs (k + 1))
      rw [e1, e2, bnd1_e, bnd1_e, if_pos rfl]
      exact nx w σ τ (h.mono (by omega))
    rw [if_neg c6]
    by_cases c7 : xs k &&& 31 = 7
    · rw [if_pos c7]
      simp (disch := omega) only [add1, add2, add3, add4, gdx_n, letv_e]
      obtain ⟨r, e1, e2⟩ := p_committedValue hz h (xs (k + 1))
      rw [e1, e2, bnd1_e, bnd1_e, if_pos (cmp_0 r)]
      exact nx w σ τ (h.mono (by omega))
    rw [if_neg c7]
    by_cases c8 : xs k &&& 31 = 8
    · rw [if_pos c8]
      simp (disch := omega) only [add1, add2, add3, add4, gdx_n, letv_e]
      obtain ⟨r, w', σ', τ', e1, e2, e3⟩ := p_deliver hz (by omega) h (xs (k + 1))
      rw [e1, e2, bnd2_e, bnd2_e, if_pos rfl]
      exact nx w' σ' τ' (e3.mono (by omega))
    rw [if_neg c8]
    by_cases c9 : xs k &&& 31 = 9
    · rw [if_pos c9]
      simp (disch := omega) only [add1, add2, add3, add4, gdx_n, letv_e]
      obtain ⟨r, w', σ', τ', e1, e2, e3⟩ := p_drop hz h (xs (k + 1))
      rw [e1, e2, bnd2_e, bnd2_e, if_pos rfl]
      exact nx w' σ' τ' (e3.mono (by omega))
    rw [if_neg c9]
    by_cases c10 : xs k &&& 31 = 10
    · rw [if_pos c10]
      simp (disch := omega) only [add1, add2, add3, add4, gdx_n, letv_e]
      obtain ⟨r, w', σ', τ', e1, e2, e3⟩ := p_twice hz h (xs (k + 1))
      rw [e1, e2, bnd2_e, bnd2_e, if_pos rfl]
      exact nx w' σ' τ' (e3.mono (by omega))
    rw [if_neg c10]
    by_cases c11 : xs k &&& 31 = 11
    · rw [if_pos c11]
      simp (disch := omega) only [add1, add2, add3, add4, gdx_n, letv_e]
      obtain ⟨r, w', σ', τ', e1, e2, e3⟩ := p_timeout hz (by omega) h (xs (k + 1)) (xs (k + 2))
      rw [e1, e2, bnd2_e, bnd2_e, if_pos rfl]
      exact nx w' σ' τ' e3
    rw [if_neg c11]
    by_cases c12 : xs k &&& 31 = 12
    · rw [if_pos c12]
      simp (disch := omega) only [add1, add2, add3, add4, gdx_n, letv_e]
      obtain ⟨r, σ', τ', e1, e2, e3⟩ := p_crash hz h (xs (k + 1))
      rw [e1, e2, bnd2_e, bnd2_e, if_pos rfl]
      exact nx w σ' τ' (e3.mono (by omega))
    rw [if_neg c12]
    by_cases c13 : xs k &&& 31 = 13
    · rw [if_pos c13]
      simp (disch := omega) only [add1, add2, add3, add4, gdx_n, letv_e]
      obtain ⟨r, σ', τ', e1, e2, e3⟩ := p_restart hz h (xs (k + 1))
      rw [e1, e2, bnd2_e, bnd2_e, if_pos rfl]
      exact nx w σ' τ' (e3.mono (by omega))
    rw [if_neg c13]
    by_cases c14 : xs k &&& 31 = 14
    · rw [if_pos c14]
      obtain ⟨r, e1, e2⟩ := p_pending (z := z) h
      rw [e1, e2, bnd1_e, bnd1_e, if_pos rfl]
      exact nx w σ τ (h.mono (by omega))
    rw [if_neg c14]
    by_cases c15 : xs k &&& 31 = 15
    · rw [if_pos c15]
      simp (disch := omega) only [add1, add2, add3, add4, gdx_n, letv_e]
      obtain ⟨r, w', σ', τ', e1, e2, e3⟩ := p_play hz (by omega) h ((((xs (k + 1)).toInt64) <<< ((32).toInt64 &&& 63)) ||| (((xs (k + 2)).toInt64) &&& 4294967295)) (xs (k + 3))
      rw [e1, e2, bnd2_e, bnd2_e, if_pos rfl]
      exact nx w' σ' τ' (e3.mono (by omega))
    rw [if_neg c15]
    by_cases c16 : xs k &&& 31 = 16
    · rw [if_pos c16]
      simp (disch := omega) only [add1, add2, add3, add4, gdx_n, letv_e]
      obtain ⟨r, e1, e2⟩ := p_message hz h (xs (k + 1)) (xs (k + 2))
      rw [e1, e2, bnd1_e, bnd1_e, if_pos rfl]
      exact nx w σ τ (h.mono (by omega))
    rw [if_neg c16]
    by_cases c17 : xs k &&& 31 = 17
    · rw [if_pos c17]
      simp (disch := omega) only [add1, add2, add3, add4, gdx_n, letv_e]
      obtain ⟨r, e1, e2⟩ := p_lock hz h (xs (k + 1)) (xs (k + 2))
      rw [e1, e2, bnd1_e, bnd1_e, if_pos rfl]
      exact nx w σ τ (h.mono (by omega))
    rw [if_neg c17]
    by_cases c18 : xs k &&& 31 = 18
    · rw [if_pos c18]
      simp (disch := omega) only [add1, add2, add3, add4, gdx_n, letv_e]
      obtain ⟨r, e1, e2⟩ := p_node hz h (xs (k + 1)) (xs (k + 2))
      rw [e1, e2, bnd1_e, bnd1_e, if_pos rfl]
      exact nx w σ τ (h.mono (by omega))
    rw [if_neg c18]
    by_cases c19 : xs k &&& 31 = 19
    · rw [if_pos c19]
      simp (disch := omega) only [add1, add2, add3, add4, gdx_n, letv_e]
      obtain ⟨r, e1, e2⟩ := p_entry hz h (xs (k + 1)) (xs (k + 2)) (xs (k + 3))
      rw [e1, e2, bnd1_e, bnd1_e, if_pos rfl]
      exact nx w σ τ (h.mono (by omega))
    rw [if_neg c19]
    by_cases c20 : xs k &&& 31 = 20
    · rw [if_pos c20]
      simp (disch := omega) only [add1, add2, add3, add4, gdx_n, letv_e]
      obtain ⟨r, e1, e2⟩ := p_ballot hz h (xs (k + 1)) (xs (k + 2)) (xs (k + 3))
      rw [e1, e2, bnd1_e, bnd1_e, if_pos rfl]
      exact nx w σ τ (h.mono (by omega))
    rw [if_neg c20]
    by_cases c21 : xs k &&& 31 = 21
    · rw [if_pos c21]
      simp (disch := omega) only [add1, add2, add3, add4, gdx_n, letv_e]
      obtain ⟨r, e1, e2⟩ := p_accepted hz h (xs (k + 1)) (xs (k + 2)) (xs (k + 3)) (xs (k + 4))
      rw [e1, e2, bnd1_e, bnd1_e, if_pos rfl]
      exact nx w σ τ (h.mono (by omega))
    rw [if_neg c21]
    by_cases c22 : xs k &&& 31 = 22
    · rw [if_pos c22]
      simp (disch := omega) only [add1, add2, add3, add4, gdx_n, letv_e]
      obtain ⟨r, e1, e2⟩ := p_count hz h (xs (k + 1))
      rw [e1, e2, bnd1_e, bnd1_e, if_pos rfl]
      exact nx w σ τ (h.mono (by omega))
    rw [if_neg c22]
    exact nx w σ τ (h.mono (by omega))
end LAWS
