section RWR
variable {z : Nat → Nat} {bb w : Nat} {σ : Sg} {τ : Tg}
theorem accX_8 (t k s : Nat) (W : Int32) (t' k' : Nat) : (accX σ t k s W).1 8 t' 0 k' = if t' = t ∧ k' = k then (if W < σ.1 8 t 0 k then σ.1 8 t 0 k else W) else σ.1 8 t' 0 k' := by
  unfold accX
  simp only [upI]
  simp
theorem accX_21 (t k s : Nat) (W : Int32) (s' t' : Nat) : (accX σ t k s W).1 21 s' 0 t' = if s' = s ∧ t' = t then 1 else σ.1 21 s' 0 t' := by
  unfold accX
  simp only [upI]
  simp
theorem accT {t k s : Nat} (W e : Int32) (ht : t < z 2) (h : gT z (σ.1 3) (σ.1 4) (τ.1 12) (τ.1 13)) : gT z ((accX σ t k s W).1 3) ((accX σ t k s W).1 4) ((accM τ t k s e).1 12) ((accM τ t k s e).1 13) := by
  intro t' ht'
  obtain ⟨h1, h2⟩ := h t' ht'
  obtain ⟨h3, h4⟩ := h t ht
  refine ⟨h1, ?_⟩
  have e1 : (accM τ t k s e).1 13 t' = if t' = t then τ.1 13 t ||| (1 <<< (nI s &&& 31)) else τ.1 13 t' := by
    unfold accM
    simp only [tpI]
    simp
  have e2 : (accX σ t k s W).1 4 0 0 t' = if t' = t then σ.1 4 0 0 t ||| (1 <<< (nI s &&& 31)) else σ.1 4 0 0 t' := by
    unfold accX
    simp only [upI]
    simp
  rw [e1, e2, h4, h2]
theorem accS {t k s : Nat} (W e : Int32) (ht : t < z 2) (hz : zOK z) (h : gS z (σ.1 21) (τ.1 16)) : gS z ((accX σ t k s W).1 21) ((accM τ t k s e).1 16) := by
  have hzz := hz
  unfold zOK at hzz
  intro s' t' hs' ht'
  obtain ⟨h1, h2⟩ := h s' t' hs' ht'
  rw [accX_21]
  have e1 : (accM τ t k s e).1 16 (16 * s' + t') = if 16 * s' + t' = 16 * s + t then 1 else τ.1 16 (16 * s' + t') := by
    unfold accM
    simp only [tpI]
    simp
  rw [e1]
  by_cases q : s' = s ∧ t' = t
  · rw [if_pos (by rw [q.1, q.2]), if_pos q]
    exact ⟨rfl, Or.inr rfl⟩
  · rw [if_neg (fun r => q (by omega)), if_neg q]
    exact ⟨h1, h2⟩
theorem accO {t k : Nat} (W : Int32) (h : gO z (σ.1 21) (σ.1 8)) : gO z ((accX σ t k (k % z 0) W).1 21) ((accX σ t k (k % z 0) W).1 8) := by
  intro s' t' k' hs' ht' hk' hks r
  rw [accX_21] at r
  rw [accX_8]
  by_cases q : s' = k % z 0 ∧ t' = t
  · rw [if_pos q] at r
    exact absurd r (by decide)
  · rw [if_neg q] at r
    rw [if_neg (fun x => q ⟨by rw [← hks, x.2], x.1⟩)]
    exact h s' t' k' hs' ht' hk' hks r
theorem bt_set (v : Int32) {t : Nat} (ht : t < 32) {i : Nat} (hi : i < 32) : bt (v ||| (1 <<< (nI t &&& 31))) i = (bt v i || decide (i = t)) := by
  rw [b_or, bt_one t ht i hi]
theorem accL2 {t k s : Nat} (W e : Int32) (hz : zOK z) (ht : t < z 2) (hW : W = 1 ∨ W = 2) (h : gL z (σ.1 8) (τ.1 10) (τ.1 11) (τ.1 14)) : (∀ t' k', t' < z 2 → k' < z 3 → (accX σ t k s W).1 8 t' 0 k' = 0 ∨ (accX σ t k s W).1 8 t' 0 k' = 1 ∨ (accX σ t k s W).1 8 t' 0 k' = 2) ∧
    (k < z 3 → ∀ k' i, k' < z 3 → i < 32 → bt ((accM τ t k s e).1 10 k') i = decide (i < z 2 ∧ ¬ (accX σ t k s W).1 8 i 0 k' = 0)) := by
  have hzz := hz
  unfold zOK at hzz
  obtain ⟨l1, l2, l3, l4⟩ := h
  refine ⟨fun t' k' h1 h2 => ?_, fun hk k' i h1 h2 => ?_⟩
  · rw [accX_8]
    split
    next q =>
      split
      · rw [q.2] at h2
        exact l1 t k ht h2
      · rcases hW with rfl | rfl
        · exact Or.inr (Or.inl rfl)
        · exact Or.inr (Or.inr rfl)
    next => exact l1 t' k' h1 h2
  · have e1 : (accM τ t k s e).1 10 k' = if k' = k then τ.1 10 k ||| (1 <<< (nI t &&& 31)) else τ.1 10 k' := by
      unfold accM
      simp only [tpI]
      simp
    rw [e1, accX_8]
    by_cases q : k' = k
    · subst q
      rw [if_pos rfl, bt_set _ (by omega) h2, l2 k' i h1 h2]
      by_cases q2 : i = t
      · subst q2
        have n0 : ¬ (if W < σ.1 8 i 0 k' then σ.1 8 i 0 k' else W) = 0 := by
          rcases l1 i k' ht h1 with r | r | r <;> rcases hW with rfl | rfl <;> rw [r] <;> decide
        simp [ht, n0]
      · simp [q2]
    · rw [if_neg q, l2 k' i h1 h2]
      simp [q]
theorem accRel1 (hz : zOK z) {t k : Nat} (ht : t < z 2) (hk : k < z 3) (h : Rel z bb w σ τ) : Rel z bb w (accX σ t k (k % z 0) 1) (accM τ t k (k % z 0) (τ.1 11 k)) := by
  have hzz := hz
  unfold zOK at hzz
  obtain ⟨h1, h2, h3, h4, h5, h6, h7, h8, h9⟩ := h
  obtain ⟨m1, m2⟩ := accL2 (s := k % z 0) (k := k) 1 (τ.1 11 k) hz ht (Or.inl rfl) h5
  have h5' := h5
  obtain ⟨l1, l2, l3, l4⟩ := h5'
  have two : ∀ t' k', t' < z 2 → k' < z 3 → ((accX σ t k (k % z 0) 1).1 8 t' 0 k' = 2 ↔ σ.1 8 t' 0 k' = 2) := by
    intro t' k' ht' hk'
    rw [accX_8]
    by_cases q : t' = t ∧ k' = k
    · rw [if_pos q, q.1, q.2]
      rcases l1 t k ht hk with r | r | r <;> rw [r] <;> decide
    · rw [if_neg q]
  have e11 : (accM τ t k (k % z 0) (τ.1 11 k)).1 11 = τ.1 11 := by
    funext q
    unfold accM
    simp only [tpI]
    simp
    intro r
    rw [r]
  refine ⟨h1, h2, accT 1 _ ht h3, h4, ⟨m1, m2 hk, fun k' hk' => ?_, fun t' k' ht' hk' => ?_⟩, fun t' k' ht' hk' r => ?_, accS 1 _ ht hz h7, accO 1 h8, h9⟩
  · obtain ⟨q1, q2⟩ := l3 k' hk'
    rw [e11]
    refine ⟨fun t' ht' => ?_, q2⟩
    rw [two t' k' ht' hk']
    exact q1 t' ht'
  · have := l4 t' k' ht' hk'
    show τ.1 14 (32 * t' + k') = _
    rw [this]
    by_cases q : σ.1 8 t' 0 k' = 2
    · rw [if_pos q, if_pos ((two t' k' ht' hk').mpr q)]
    · rw [if_neg q, if_neg (fun r => q ((two t' k' ht' hk').mp r))]
  · exact h6 t' k' ht' hk' ((two t' k' ht' hk').mp r)
theorem accRel2 (hz : zOK z) {t k : Nat} (ht : t < z 2) (hk : k < z 3) (h : Rel z bb w σ τ) (hc : ¬ confl z σ t k 2) (v : Int64) : Rel z bb w (upL (accX σ t k (k % z 0) 2) 10 t 0 k v) (tpL (tpI (accM τ t k (k % z 0) (nI t)) 14 (32 * t + k) 1) 15 (32 * t + k) v) := by
  have hzz := hz
  unfold zOK at hzz
  obtain ⟨h1, h2, h3, h4, h5, h6, h7, h8, h9⟩ := h
  obtain ⟨m1, m2⟩ := accL2 (s := k % z 0) (k := k) 2 (nI t) hz ht (Or.inr rfl) h5
  have h5' := h5
  obtain ⟨l1, l2, l3, l4⟩ := h5'
  have two : ∀ t' k', t' < z 2 → k' < z 3 → ((accX σ t k (k % z 0) 2).1 8 t' 0 k' = 2 ↔ ((t' = t ∧ k' = k) ∨ σ.1 8 t' 0 k' = 2)) := by
    intro t' k' ht' hk'
    rw [accX_8]
    by_cases q : t' = t ∧ k' = k
    · rw [if_pos q]
      exact ⟨fun _ => Or.inl q, fun _ => by rcases l1 t k ht hk with r | r | r <;> rw [r] <;> decide⟩
    · rw [if_neg q]
      simp [q]
  have e11 : ∀ k', (accM τ t k (k % z 0) (nI t)).1 11 k' = if k' = k then nI t else τ.1 11 k' := by
    intro q
    unfold accM
    simp only [tpI]
    simp
  refine ⟨h1, h2, accT 2 (nI t) ht h3, h4, ⟨m1, m2 hk, fun k' hk' => ?_, fun t' k' ht' hk' => ?_⟩, fun t' k' ht' hk' r => ?_, accS 2 (nI t) ht hz h7, accO 2 h8, h9⟩
  · obtain ⟨q1, q2⟩ := l3 k' hk'
    show (∀ t', t' < z 2 → ((accM τ t k (k % z 0) (nI t)).1 11 k' = nI t' ↔ (accX σ t k (k % z 0) 2).1 8 t' 0 k' = 2)) ∧ ((accM τ t k (k % z 0) (nI t)).1 11 k' = -1 ∨ ∃ t', t' < z 2 ∧ (accM τ t k (k % z 0) (nI t)).1 11 k' = nI t')
    rw [e11]
    by_cases q : k' = k
    · subst q
      rw [if_pos rfl]
      refine ⟨fun t' ht' => ?_, Or.inr ⟨t, ht, rfl⟩⟩
      rw [two t' k' ht' hk']
      constructor
      · intro r
        exact Or.inl ⟨((nI_eq (by omega) (by omega)).mp r).symm, rfl⟩
      · rintro (r | r)
        · rw [r.1]
        · by_cases e : t' = t
          · rw [e]
          · exact absurd ⟨t', ht', e, Or.inl r⟩ hc
    · rw [if_neg q]
      refine ⟨fun t' ht' => ?_, q2⟩
      rw [two t' k' ht' hk']
      simp only [q, and_false, false_or]
      exact q1 t' ht'
  · show (if 14 = 14 ∧ 32 * t' + k' = 32 * t + k then 1 else τ.1 14 (32 * t' + k')) = if (accX σ t k (k % z 0) 2).1 8 t' 0 k' = 2 then 1 else 0
    by_cases q : t' = t ∧ k' = k
    · rw [if_pos ⟨rfl, by rw [q.1, q.2]⟩, if_pos ((two t' k' ht' hk').mpr (Or.inl q))]
    · rw [if_neg (fun r => q (by omega)), l4 t' k' ht' hk']
      by_cases q2 : σ.1 8 t' 0 k' = 2
      · rw [if_pos q2, if_pos ((two t' k' ht' hk').mpr (Or.inr q2))]
      · rw [if_neg q2, if_neg (fun r => by
          rcases (two t' k' ht' hk').mp r with x | x
          · exact q x
          · exact q2 x)]
  · show (if 15 = 15 ∧ 32 * t' + k' = 32 * t + k then v else τ.2 15 (32 * t' + k')) = (if 10 = 10 ∧ t' = t ∧ 0 = 0 ∧ k' = k then v else σ.2.1 10 t' 0 k')
    by_cases q : t' = t ∧ k' = k
    · rw [if_pos ⟨rfl, by rw [q.1, q.2]⟩, if_pos ⟨rfl, q.1, rfl, q.2⟩]
    · rw [if_neg (fun r => q (by omega)), if_neg (fun r => q ⟨r.2.1, r.2.2.2⟩)]
      rcases (two t' k' ht' hk').mp r with x | x
      · exact absurd x q
      · exact h6 t' k' ht' hk' x
theorem Rel.rs (h : Rel z bb w σ τ) (r : Int32) : Rel z bb w (upI σ 0 0 0 6 r) (tpI τ 0 35 r) := by
  obtain ⟨h1, h2, h3⟩ := h
  refine ⟨h1, ?_, h3⟩
  obtain ⟨c1, c2, c3, c4⟩ := h2
  exact ⟨c1, c2, c3, rfl⟩
theorem p_read (hz : zOK z) (h : Rel z bb w σ τ) (x1 x2 : Int32) : ∃ r σ' τ', f_X10_read z σ x1 x2 = some (r, σ') ∧ f_X11_read z τ x1 x2 = some (r, τ') ∧ Rel z bb w σ' τ' := by
  have hzz := hz
  unfold zOK at hzz
  unfold f_X10_read f_X11_read
  rw [isTxn_M (σ := σ) hz, isKey_M (σ := σ) hz]
  rcases isTxn_c (σ := σ) hz x1 with e | ⟨t, ht, rfl, e⟩
  · have ea : f_X10_access z σ x1 x2 1 = some (-1, σ) := by
      unfold f_X10_access
      rw [e]; rfl
    rw [ea, e, bnd1_e, bnd2_e, if_pos rfl]
    exact ⟨_, _, _, rfl, rfl, h.rs (-1)⟩
  rcases isKey_c (σ := σ) hz x2 with e2 | ⟨k, hk, rfl, e2⟩
  · have ea : f_X10_access z σ (nI t) x2 1 = some (-1, σ) := by
      unfold f_X10_access
      rw [e, e2]; rfl
    rw [ea, e, e2]
    exact ⟨_, _, _, rfl, rfl, h.rs (-1)⟩
  rw [e, e2, bnd1_e, bnd1_e, if_neg (by decide), if_neg (by decide)]
  rcases access_e hz ht hk h 1 0 (Or.inl ⟨rfl, rfl⟩) with ⟨r, r1, a1, a2⟩ | ⟨hc, a1, a2⟩
  · rw [a1, a2, bnd2_e, bnd2_e]
    have v1 : (upI σ 0 0 0 6 r).1 0 0 0 6 = r := by simp [upI]
    have v2 : (tpI τ 0 35 r).1 0 35 = r := by simp [tpI]
    simp only [letv_e, v1, v2, if_neg r1]
    exact ⟨_, _, _, rfl, rfl, h.rs r⟩
  · rw [a1, a2, bnd2_e, bnd2_e]
    have hR := (accRel1 hz ht hk h).rs 1
    rw [if_pos rfl]
    generalize hσ : accX σ t k (k % z 0) 1 = σ1 at hR ⊢
    generalize hτ : accM τ t k (k % z 0) (τ.1 11 k) = τ1 at hR ⊢
    have v1 : (upI σ1 0 0 0 6 1).1 0 0 0 6 = 1 := by simp [upI]
    have v2 : (tpI τ1 0 35 1).1 0 35 = 1 := by simp [tpI]
    simp only [letv_e, v1, v2, if_true]
    generalize hσ2 : upI σ1 0 0 0 6 1 = σ2 at hR ⊢
    generalize hτ2 : tpI τ1 0 35 1 = τ2 at hR ⊢
    obtain ⟨l1, l2, l3, l4⟩ := hR.2.2.2.2.1
    have n := hR.2.2.2.2.2.1 t k ht hk
    have hv := hR.2.2.2.1 k hk
    have i := l4 t k ht hk
    unfold f_X1_seenBy
    rw [mul32, nI_add, gdx_n (n := mlen 14) (show 32 * t + k < 512 by omega) (by decide)]
    simp (disch := omega) only [gdx_n, letv_e, ml9, ml15, i]
    by_cases q : σ2.1 8 t 0 k = 2
    · rw [if_pos q, if_pos q, if_neg (by decide), n q, bnd1_e]
      exact ⟨_, _, _, rfl, rfl, hR⟩
    · rw [if_neg q, if_neg q, if_pos rfl, hv, bnd1_e]
      exact ⟨_, _, _, rfl, rfl, hR⟩
theorem p_write (hz : zOK z) (h : Rel z bb w σ τ) (x1 x2 : Int32) (v : Int64) : ∃ r σ' τ', f_X10_write z σ x1 x2 v = some (r, σ') ∧ f_X11_write z τ x1 x2 v = some (r, τ') ∧ Rel z bb w σ' τ' := by
  have hzz := hz
  unfold zOK at hzz
  unfold f_X10_write f_X11_write
  rw [isTxn_M (σ := σ) hz, isKey_M (σ := σ) hz]
  rcases isTxn_c (σ := σ) hz x1 with e | ⟨t, ht, rfl, e⟩
  · have ea : f_X10_access z σ x1 x2 2 = some (-1, σ) := by
      unfold f_X10_access
      rw [e]; rfl
    rw [ea, e]
    exact ⟨_, _, _, rfl, rfl, h⟩
  rcases isKey_c (σ := σ) hz x2 with e2 | ⟨k, hk, rfl, e2⟩
  · have ea : f_X10_access z σ (nI t) x2 2 = some (-1, σ) := by
      unfold f_X10_access
      rw [e, e2]; rfl
    rw [ea, e, e2]
    exact ⟨_, _, _, rfl, rfl, h⟩
  rw [e, e2, bnd1_e, bnd1_e, if_neg (by decide), if_neg (by decide)]
  rcases access_e hz ht hk h 2 1 (Or.inr ⟨rfl, rfl⟩) with ⟨r, r1, a1, a2⟩ | ⟨hc, a1, a2⟩
  · rw [a1, a2, bnd2_e, bnd2_e, if_neg r1, if_neg r1]
    exact ⟨_, _, _, rfl, rfl, h⟩
  · rw [a1, a2, bnd2_e, bnd2_e, if_pos rfl, if_pos rfl, if_neg (by decide)]
    unfold f_X1_renew
    rw [mul32, nI_add, gdx_n (n := mlen 14) (show 32 * t + k < 512 by omega) (by decide), letv_e, gdx_n (n := mlen 15) (show 32 * t + k < 512 by omega) (by decide), gdx_n ht (by omega), gdx_n hk (by omega)]
    exact ⟨_, _, _, rfl, rfl, accRel2 hz ht hk h hc v⟩
end RWR
