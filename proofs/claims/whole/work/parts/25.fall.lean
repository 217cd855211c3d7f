/-! abort, crash, restart -/
section FALL
variable {z : Nat → Nat} {bb w : Nat} {σ : Sg} {τ : Tg}
theorem abort_L (hz : zOK z) {t : Nat} (ht : t < z 2) : ∀ (n k : Nat) (σ : Sg) (τ : Tg), Rel z bb w σ τ → k ≤ z 0 → z 0 < k + n →
    ∃ σ' τ', f_X10_abort_L46 z (nI t) (nI (z 0)) n (nI k) σ = some σ' ∧ f_X11_abort_L31 z (nI t) n (nI k) τ = some τ' ∧ Rel z bb w σ' τ' := by
  have hzz := hz
  unfold zOK at hzz
  intro n
  induction n with
  | zero => intro k σ τ h h1 h2; omega
  | succ n ih =>
    intro k σ τ h h1 h2
    rw [f_X10_abort_L46, f_X11_abort_L31]
    by_cases hk : k < z 0
    · rw [if_neg (nI_ge hk (by omega)), if_neg (nI_ge hk (by omega))]
      obtain ⟨u1, u2⟩ := h.2.2.2.2.2.2.2.2.2.1.1 k hk
      obtain ⟨s1, s2⟩ := h.2.2.2.2.2.2.1 k t hk ht
      simp (disch := omega) only [gdx_n, letv_e, add1, ml6, ml16, mul16, nI_add, u1, s1]
      by_cases hu : σ.1 17 k 0 4 = 0
      · rw [if_pos hu, if_pos hu]
        exact ih (k + 1) σ τ h (by omega) (by omega)
      · rw [if_neg hu, if_neg hu]
        by_cases hs : σ.1 21 k 0 t = 0
        · rw [if_pos hs]
          have e : f_X6_endSession z σ k (nI t) = some σ := by
            unfold f_X6_endSession
            simp (disch := omega) only [gdx_n, letv_e]
            rw [if_pos hs]
          rw [e, bnd1_e]
          exact ih (k + 1) σ τ h (by omega) (by omega)
        · rw [if_neg hs]
          obtain ⟨g1, g8, a, b, c, d, e1, e2, hR⟩ := pEnd hz hk ht h
          rw [e1, e2, bnd1_e, bnd1_e]
          exact ih (k + 1) _ _ hR (by omega) (by omega)
    · have : k = z 0 := by omega
      subst this
      rw [if_pos (nI_le (Nat.le_refl _) (by omega)), if_pos (nI_le (Nat.le_refl _) (by omega))]
      exact ⟨_, _, rfl, rfl, h⟩
/-- a transaction's state changes on both sides -/
theorem Rel.st (h : Rel z bb w σ τ) {t : Nat} (ht : t < z 2) (v : Int32) : Rel z bb w (upI σ 3 0 0 t v) (tpI τ 12 t v) := by
  obtain ⟨h1, h2, h3, h4⟩ := h
  refine ⟨h1, h2, fun u hu => ?_, h4⟩
  obtain ⟨k1, k2⟩ := h3 u hu
  by_cases hut : u = t
  · subst hut
    exact ⟨by simp [tpI, upI], k2⟩
  · exact ⟨by simp only [tpI, upI]; rw [if_neg (by simp [hut]), if_neg (by simp [hut])]; exact k1, k2⟩
theorem p_abort (hz : zOK z) (h : Rel z bb w σ τ) (x : Int32) : ∃ r σ' τ', f_X10_abort z σ x = some (r, σ') ∧ f_X11_abort z τ x = some (r, τ') ∧ Rel z bb w σ' τ' := by
  have hzz := hz
  unfold zOK at hzz
  unfold f_X10_abort f_X11_abort
  rw [isTxn_M (σ := σ) hz]
  rcases isTxn_c (σ := σ) hz x with e | ⟨t, ht, rfl, e⟩
  · simp only [e, bnd1_e, if_true]
    exact ⟨_, _, _, rfl, rfl, h⟩
  · obtain ⟨g1, g2⟩ := h.2.2.1 t ht
    simp (disch := omega) only [e, bnd1_e, letv_e, ml12, gdx_n, g1, i10, if_false]
    by_cases hq : σ.1 3 0 0 t = 1
    · rw [if_pos hq, if_pos hq]
      obtain ⟨σ', τ', e1, e2, hR⟩ := abort_L hz ht FU 0 _ _ (h.st ht 4) (Nat.zero_le _) (by have := FU_big; omega)
      rw [show (0 : Int32) = nI 0 from rfl, e1, e2, bnd1_e, bnd1_e]
      exact ⟨_, _, _, rfl, rfl, hR⟩
    · rw [if_neg hq, if_neg hq]
      exact ⟨_, _, _, rfl, rfl, h⟩
/-- a node's being up changes on both sides -/
theorem Rel.upS (h : Rel z bb w σ τ) {s : Nat} (hs : s < z 0) {v : Int32} (hv : v = 0 ∨ v = 1) : Rel z bb w (upI σ 17 s 0 4 v) (tpI τ 6 s v) := by
  obtain ⟨h1, h2, h3, h4, h5, h6, h7, h8, h9, h10, h11⟩ := h
  refine ⟨h1, h2, h3, h4, h5, h6, h7, h8, h9, ⟨fun s' hs' => ?_, fun a ha => ?_⟩, h11⟩
  · obtain ⟨k1, k2⟩ := h10.1 s' hs'
    by_cases e : s' = s
    · subst e
      refine ⟨by simp [tpI, upI], ?_⟩
      have : (upI σ 17 s' 0 4 v).1 17 s' 0 4 = v := by simp [upI]
      rw [this]; exact hv
    · have : (upI σ 17 s 0 4 v).1 17 s' 0 4 = σ.1 17 s' 0 4 := by simp [upI, e]
      rw [this]
      exact ⟨by simp only [tpI]; rw [if_neg (by simp [e])]; exact k1, k2⟩
  · obtain ⟨k1, k2⟩ := h10.2 a ha
    exact ⟨by simp only [tpI]; rw [if_neg (by simp; omega)]; exact k1, k2⟩
theorem Rel.upA (h : Rel z bb w σ τ) {a : Nat} (ha : a < z 1) {v : Int32} (hv : v = 0 ∨ v = 1) : Rel z bb w (upI σ 25 a 0 4 v) (tpI τ 6 (z 0 + a) v) := by
  obtain ⟨h1, h2, h3, h4, h5, h6, h7, h8, h9, h10, h11⟩ := h
  refine ⟨h1, h2, h3, h4, h5, h6, h7, h8, h9, ⟨fun s' hs' => ?_, fun a' ha' => ?_⟩, h11⟩
  · obtain ⟨k1, k2⟩ := h10.1 s' hs'
    exact ⟨by simp only [tpI]; rw [if_neg (by simp; omega)]; exact k1, k2⟩
  · obtain ⟨k1, k2⟩ := h10.2 a' ha'
    by_cases e : a' = a
    · subst e
      refine ⟨by simp [tpI, upI], ?_⟩
      have : (upI σ 25 a' 0 4 v).1 25 a' 0 4 = v := by simp [upI]
      rw [this]; exact hv
    · have : (upI σ 25 a 0 4 v).1 25 a' 0 4 = σ.1 25 a' 0 4 := by simp [upI, e]
      rw [this]
      exact ⟨by simp only [tpI]; rw [if_neg (by simp; omega)]; exact k1, k2⟩
theorem p_restart (hz : zOK z) (h : Rel z bb w σ τ) (x : Int32) : ∃ r σ' τ', f_X10_restart z σ x = some (r, σ') ∧ f_X11_restart z τ x = some (r, τ') ∧ Rel z bb w σ' τ' := by
  have hzz := hz
  unfold zOK at hzz
  unfold f_X10_restart f_X11_restart
  rcases nodAt (σ := σ) (τ := τ) hz x with ⟨e1, e2⟩ | ⟨s, hs, rfl, e1, e2⟩ | ⟨a, ha, rfl, e1, e2⟩
  · simp only [e1, e2, bnd1_e, if_true]
    exact ⟨_, _, _, rfl, rfl, h⟩
  · simp only [e1, e2, bnd1_e, oS, i10, if_false]
    rw [gdr_n hs]
    obtain ⟨u1, u2⟩ := h.2.2.2.2.2.2.2.2.2.1.1 s hs
    simp (disch := omega) only [gdx_n, ml6, letv_e, u1]
    by_cases hu : σ.1 17 s 0 4 = 0
    · rw [if_pos hu, if_pos hu, bnd1_e]
      exact ⟨_, _, _, rfl, rfl, h.upS hs (Or.inr rfl)⟩
    · rw [if_neg hu, if_neg hu, bnd1_e]
      refine ⟨_, _, _, rfl, rfl, ?_⟩
      have h1 : σ.1 17 s 0 4 = 1 := u2.resolve_left hu
      have := h.upS hs (v := 1) (Or.inr rfl)
      have e : upI σ 17 s 0 4 1 = σ := by
        rw [upI_F]
        have : (fun i' j' k' => if i' = s ∧ j' = 0 ∧ k' = 4 then 1 else σ.1 17 i' j' k') = σ.1 17 := by
          funext i' j' k'
          split
          next q => rw [q.1, q.2.1, q.2.2, h1]
          next => rfl
        rw [this, setF_id]
      rw [e] at this
      exact this
  · simp only [e1, e2, bnd1_e, oS, i10, if_false]
    rw [gdr_n ha]
    obtain ⟨u1, u2⟩ := h.2.2.2.2.2.2.2.2.2.1.2 a ha
    simp (disch := omega) only [gdx_n, ml6, letv_e, u1]
    by_cases hu : σ.1 25 a 0 4 = 0
    · rw [if_pos hu, if_pos hu, bnd1_e]
      exact ⟨_, _, _, rfl, rfl, h.upA ha (Or.inr rfl)⟩
    · rw [if_neg hu, if_neg hu, bnd1_e]
      refine ⟨_, _, _, rfl, rfl, ?_⟩
      have h1 : σ.1 25 a 0 4 = 1 := u2.resolve_left hu
      have := h.upA ha (v := 1) (Or.inr rfl)
      have e : upI σ 25 a 0 4 1 = σ := by
        rw [upI_F]
        have : (fun i' j' k' => if i' = a ∧ j' = 0 ∧ k' = 4 then 1 else σ.1 25 i' j' k') = σ.1 25 := by
          funext i' j' k'
          split
          next q => rw [q.1, q.2.1, q.2.2, h1]
          next => rfl
        rw [this, setF_id]
      rw [e] at this
      exact this
/-- a shard falls: its sessions -/
theorem crash_L (hz : zOK z) {s : Nat} (hs : s < z 0) : ∀ (n k : Nat) (σ : Sg) (τ : Tg), Rel z bb w σ τ → k ≤ z 2 → z 2 < k + n →
    ∃ σ' τ', f_X6_forget_L2 z s n (nI k) σ = some σ' ∧ f_X11_crash_L50 z (nI s) n (nI k) τ = some τ' ∧ Rel z bb w σ' τ' := by
  have hzz := hz
  unfold zOK at hzz
  intro n
  induction n with
  | zero => intro k σ τ h h1 h2; omega
  | succ n ih =>
    intro k σ τ h h1 h2
    rw [f_X6_forget_L2, f_X11_crash_L50]
    by_cases hk : k < z 2
    · rw [if_neg (nI_ge hk (by omega)), if_neg (nI_ge hk (by omega))]
      obtain ⟨s1, s2⟩ := h.2.2.2.2.2.2.1 s k hs hk
      obtain ⟨d1, d2, d3⟩ := h.2.2.2.2.2.2.2.2.1 s k hs hk
      simp (disch := omega) only [gdx_n, letv_e, add1, ml16, ml17, ml18, mul16, nI_add, s1, d1, d2]
      have end0 : σ.1 21 s 0 k = 0 → f_X6_endSession z σ s (nI k) = some σ := fun q => by
        unfold f_X6_endSession
        simp (disch := omega) only [gdx_n, letv_e]
        rw [if_pos q]
      by_cases hv : σ.1 22 s 0 k = 1
      · rw [if_pos hv, if_pos hv]
        by_cases hd : σ.1 23 s 0 k = 0
        · rw [if_pos hd, bnd1_e, if_neg (by decide), if_pos hd]
          by_cases q : σ.1 21 s 0 k = 0
          · rw [if_pos q]
            exact ih (k + 1) σ τ h (by omega) (by omega)
          · rw [if_neg q]
            exact ih (k + 1) σ τ h (by omega) (by omega)
        · rw [if_neg hd, bnd1_e, if_pos rfl, if_neg hd]
          by_cases q : σ.1 21 s 0 k = 0
          · rw [if_pos q, end0 q, bnd1_e]
            exact ih (k + 1) σ τ h (by omega) (by omega)
          · rw [if_neg q]
            obtain ⟨g1, g8, a, b, c, d, e1, e2, hR⟩ := pEnd hz hs hk h
            rw [e1, e2, bnd1_e, bnd1_e]
            exact ih (k + 1) _ _ hR (by omega) (by omega)
      · rw [if_neg hv, if_neg hv, bnd1_e, if_pos rfl]
        by_cases q : σ.1 21 s 0 k = 0
        · rw [if_pos q, end0 q, bnd1_e]
          exact ih (k + 1) σ τ h (by omega) (by omega)
        · rw [if_neg q]
          obtain ⟨g1, g8, a, b, c, d, e1, e2, hR⟩ := pEnd hz hs hk h
          rw [e1, e2, bnd1_e, bnd1_e]
          exact ih (k + 1) _ _ hR (by omega) (by omega)
    · have : k = z 2 := by omega
      subst this
      rw [if_pos (nI_le (Nat.le_refl _) (by omega)), if_pos (nI_le (Nat.le_refl _) (by omega))]
      exact ⟨_, _, rfl, rfl, h⟩
/-- the reference's begins: four places of four rows, one of a fifth -/
def setB (τ : Tg) (a b c d : Nat → Int32) : Tg := (fun f => if f = 25 then a else if f = 26 then b else if f = 27 then c else if f = 28 then d else τ.1 f, τ.2)
theorem setB_id (τ : Tg) : setB τ (τ.1 25) (τ.1 26) (τ.1 27) (τ.1 28) = τ := by
  unfold setB
  refine Prod.ext (funext fun f => ?_) rfl
  show (if f = 25 then τ.1 25 else if f = 26 then τ.1 26 else if f = 27 then τ.1 27 else if f = 28 then τ.1 28 else τ.1 f) = τ.1 f
  split
  next h => rw [h]
  split
  next h => rw [h]
  split
  next h => rw [h]
  split
  next h => rw [h]
  rfl
theorem setB_up (τ : Tg) (a b c d : Nat → Int32) (k : Nat) (x y u v : Int32) : tpI (tpI (tpI (tpI (setB τ a b c d) 25 k x) 26 k y) 27 k u) 28 k v = setB τ (fun q => if q = k then x else a q) (fun q => if q = k then y else b q) (fun q => if q = k then u else c q) (fun q => if q = k then v else d q) := by
  unfold tpI setB
  refine Prod.ext (funext fun f => funext fun q => ?_) rfl
  by_cases h1 : f = 25
  · subst h1; simp
  by_cases h2 : f = 26
  · subst h2; simp
  by_cases h3 : f = 27
  · subst h3; simp
  by_cases h4 : f = 28
  · subst h4; simp
  simp [h1, h2, h3, h4]
theorem begins_L {i : Nat} (hi : i < 80) : ∀ (n k : Nat) (a b c d : Nat → Int32), k ≤ 4 * i + 4 → 4 * i + 4 < k + n →
    f_X11_begins_L11 z (nI i) n (nI k) (setB τ a b c d) = some (setB τ (fun q => if k ≤ q ∧ q < 4 * i + 4 then 0 else a q) (fun q => if k ≤ q ∧ q < 4 * i + 4 then 0 else b q) (fun q => if k ≤ q ∧ q < 4 * i + 4 then -1 else c q) (fun q => if k ≤ q ∧ q < 4 * i + 4 then 0 else d q)) := by
  intro n
  induction n with
  | zero => intro k a b c d h1 h2; omega
  | succ n ih =>
    intro k a b c d h1 h2
    rw [f_X11_begins_L11]
    simp only [mul4, add4]
    by_cases hk : k < 4 * i + 4
    · rw [if_neg (nI_ge hk (by omega))]
      simp (disch := omega) only [gdx_n, letv_e, add1, ml25, ml26, ml27, ml28]
      rw [setB_up, ih (k + 1) _ _ _ _ (by omega) (by omega)]
      have f1 : ∀ (v : Int32) (g : Nat → Int32), (fun q => if k + 1 ≤ q ∧ q < 4 * i + 4 then v else (if q = k then v else g q)) = (fun q => if k ≤ q ∧ q < 4 * i + 4 then v else g q) := by
        intro v g
        funext q
        by_cases e : q = k
        · subst e
          rw [if_neg (fun r => by omega), if_pos rfl, if_pos ⟨Nat.le_refl _, hk⟩]
        · rw [if_neg (c := q = k) e]
          by_cases e2 : k ≤ q ∧ q < 4 * i + 4
          · rw [if_pos e2, if_pos ⟨by omega, e2.2⟩]
          · rw [if_neg e2, if_neg (fun r => e2 ⟨by omega, r.2⟩)]
      rw [f1, f1, f1, f1]
    · rw [if_pos (nI_le (by omega) (by omega))]
      have f1 : ∀ (v : Int32) (g : Nat → Int32), (fun q => if k ≤ q ∧ q < 4 * i + 4 then v else g q) = g := fun v g => funext fun q => if_neg (fun r => by omega)
      rw [f1, f1, f1, f1]
theorem begins_e {i : Nat} (hi : i < 80) : f_X11_begins z τ (nI i) = some (setT (setB τ (fun q => if q / 4 = i then 0 else τ.1 25 q) (fun q => if q / 4 = i then 0 else τ.1 26 q) (fun q => if q / 4 = i then -1 else τ.1 27 q) (fun q => if q / 4 = i then 0 else τ.1 28 q)) 22 (fun q => if q = i then 0 else τ.1 22 q)) := by
  unfold f_X11_begins
  simp (disch := omega) only [gdx_n, letv_e, ml22, mul4]
  have h := begins_L (z := z) (τ := tpI τ 22 i 0) hi FU (4 * i) (τ.1 25) (τ.1 26) (τ.1 27) (τ.1 28) (by omega) (by have := FU_big; omega)
  have e : setB (tpI τ 22 i 0) (τ.1 25) (τ.1 26) (τ.1 27) (τ.1 28) = tpI τ 22 i 0 := setB_id (tpI τ 22 i 0)
  rw [e] at h
  rw [h, bnd1_e]
  have f1 : ∀ (v : Int32) (g : Nat → Int32), (fun q => if 4 * i ≤ q ∧ q < 4 * i + 4 then v else g q) = (fun q => if q / 4 = i then v else g q) := by
    intro v g
    funext q
    by_cases e2 : q / 4 = i
    · rw [if_pos e2, if_pos (by omega)]
    · rw [if_neg e2, if_neg (by omega)]
  rw [f1, f1, f1, f1, tpI_T]
  congr 1
  unfold setB setT
  refine Prod.ext (funext fun f => ?_) rfl
  by_cases h1 : f = 22
  · subst h1; simp
  · simp [h1]
end FALL
