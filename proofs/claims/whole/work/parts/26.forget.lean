/-! an acceptor forgets -/
def setX (σ : Sg) (g27 g30 g31 g32 g33 : Nat → Nat → Nat → Int32) : Sg := (fun f => if f = 27 then g27 else if f = 30 then g30 else if f = 31 then g31 else if f = 32 then g32 else if f = 33 then g33 else σ.1 f, σ.2)
theorem setX_id (σ : Sg) : setX σ (σ.1 27) (σ.1 30) (σ.1 31) (σ.1 32) (σ.1 33) = σ := by
  unfold setX
  refine Prod.ext (funext fun f => ?_) rfl
  show (if f = 27 then σ.1 27 else if f = 30 then σ.1 30 else if f = 31 then σ.1 31 else if f = 32 then σ.1 32 else if f = 33 then σ.1 33 else σ.1 f) = σ.1 f
  split
  next h => rw [h]
  split
  next h => rw [h]
  split
  next h => rw [h]
  split
  next h => rw [h]
  split
  next h => rw [h]
  rfl
def setV (τ : Tg) (a20 a21 a22 a25 a26 a27 a28 : Nat → Int32) : Tg := (fun f => if f = 20 then a20 else if f = 21 then a21 else if f = 22 then a22 else if f = 25 then a25 else if f = 26 then a26 else if f = 27 then a27 else if f = 28 then a28 else τ.1 f, τ.2)
theorem setV_id (τ : Tg) : setV τ (τ.1 20) (τ.1 21) (τ.1 22) (τ.1 25) (τ.1 26) (τ.1 27) (τ.1 28) = τ := by
  unfold setV
  refine Prod.ext (funext fun f => ?_) rfl
  show (if f = 20 then τ.1 20 else if f = 21 then τ.1 21 else if f = 22 then τ.1 22 else if f = 25 then τ.1 25 else if f = 26 then τ.1 26 else if f = 27 then τ.1 27 else if f = 28 then τ.1 28 else τ.1 f) = τ.1 f
  split
  next h => rw [h]
  split
  next h => rw [h]
  split
  next h => rw [h]
  split
  next h => rw [h]
  split
  next h => rw [h]
  split
  next h => rw [h]
  split
  next h => rw [h]
  rfl
section FORGET
variable {z : Nat → Nat} {bb w : Nat} {σ : Sg} {τ : Tg}
theorem lead_X (hz : zOK z) {a t : Nat} (b : Int32) (g27 g30 g31 g32 g33 : Nat → Nat → Nat → Int32) : f_X9_lead z (setX σ g27 g30 g31 g32 g33) a t b = some (setX σ (fun i j k => if i = a ∧ j = t ∧ k = 4 then 0 else if i = a ∧ j = t ∧ k = 2 then b else g27 i j k)
    (fun i j k => if i = a ∧ j = t ∧ k < z 0 then -1 else g30 i j k) (fun i j k => if i = a ∧ j = t ∧ k < z 0 then 0 else g31 i j k) (fun i j k => if i = a ∧ j = t ∧ k < z 0 then 0 else g32 i j k) (fun i j k => if i = a ∧ j = t ∧ k < z 0 then 0 else g33 i j k)) := by
  have hzz := hz
  unfold zOK at hzz
  unfold f_X9_lead
  simp only [letv_e]
  rw [gdd_t (by omega), gdd_t (by omega), gdd_t (by omega), gdd_t (by omega)]
  refine congrArg some ?_
  unfold upI fillI setX
  refine Prod.ext (funext fun f => funext fun i => funext fun j => funext fun k => ?_) rfl
  by_cases h1 : f = 27
  · subst h1; simp
  by_cases h2 : f = 30
  · subst h2; simp
  by_cases h3 : f = 31
  · subst h3; simp
  by_cases h4 : f = 32
  · subst h4; simp
  by_cases h5 : f = 33
  · subst h5; simp
  simp [h1, h2, h3, h4, h5]
/-- what an acceptor leads at first -/
def led0 (a : Nat) : Int32 := if a = 0 then 0 else -1
theorem forget_X (hz : zOK z) {a t : Nat} (g27 g30 g31 g32 g33 : Nat → Nat → Nat → Int32) : f_X9_forget z (setX σ g27 g30 g31 g32 g33) a t = some (setX σ (fun i j k => if i = a ∧ j = t ∧ k = 4 then 0 else if i = a ∧ j = t ∧ k = 2 then led0 a else if i = a ∧ j = t ∧ k = 3 then 0 else g27 i j k)
    (fun i j k => if i = a ∧ j = t ∧ k < z 0 then -1 else g30 i j k) (fun i j k => if i = a ∧ j = t ∧ k < z 0 then 0 else g31 i j k) (fun i j k => if i = a ∧ j = t ∧ k < z 0 then 0 else g32 i j k) (fun i j k => if i = a ∧ j = t ∧ k < z 0 then 0 else g33 i j k)) := by
  unfold f_X9_forget
  have e : upI (setX σ g27 g30 g31 g32 g33) 27 a t 3 0 = setX σ (fun i j k => if i = a ∧ j = t ∧ k = 3 then 0 else g27 i j k) g30 g31 g32 g33 := by
    unfold upI setX
    refine Prod.ext (funext fun f => funext fun i => funext fun j => funext fun k => ?_) rfl
    by_cases h1 : f = 27
    · subst h1; simp
    · simp [h1]
  rw [letv_e, e, lead_X hz, bnd1_e]
  rfl
theorem forget_XL (hz : zOK z) {a : Nat} : ∀ (n k : Nat) (g27 g30 g31 g32 g33 : Nat → Nat → Nat → Int32), k ≤ z 2 → z 2 < k + n →
    f_X0_forget_L10 z a (nI (z 2)) n (nI k) (setX σ g27 g30 g31 g32 g33) = some (setX σ (fun i j c => if i = a ∧ k ≤ j ∧ j < z 2 ∧ c = 4 then 0 else if i = a ∧ k ≤ j ∧ j < z 2 ∧ c = 2 then led0 a else if i = a ∧ k ≤ j ∧ j < z 2 ∧ c = 3 then 0 else g27 i j c)
      (fun i j c => if i = a ∧ k ≤ j ∧ j < z 2 ∧ c < z 0 then -1 else g30 i j c) (fun i j c => if i = a ∧ k ≤ j ∧ j < z 2 ∧ c < z 0 then 0 else g31 i j c) (fun i j c => if i = a ∧ k ≤ j ∧ j < z 2 ∧ c < z 0 then 0 else g32 i j c) (fun i j c => if i = a ∧ k ≤ j ∧ j < z 2 ∧ c < z 0 then 0 else g33 i j c)) := by
  have hzz := hz
  unfold zOK at hzz
  intro n
  induction n with
  | zero => intro k _ _ _ _ _ h1 h2; omega
  | succ n ih =>
    intro k g27 g30 g31 g32 g33 h1 h2
    rw [f_X0_forget_L10]
    by_cases hk : k < z 2
    · rw [if_neg (nI_ge hk (by omega))]
      simp (disch := omega) only [gdx_n, letv_e, add1]
      rw [forget_X hz, bnd1_e, ih (k + 1) _ _ _ _ _ (by omega) (by omega)]
      have f1 : ∀ (v : Int32) (g : Nat → Nat → Nat → Int32), (fun i j c => if i = a ∧ k + 1 ≤ j ∧ j < z 2 ∧ c < z 0 then v else (if i = a ∧ j = k ∧ c < z 0 then v else g i j c)) = (fun i j c => if i = a ∧ k ≤ j ∧ j < z 2 ∧ c < z 0 then v else g i j c) := by
        intro v g
        funext i j c
        by_cases e : i = a ∧ k ≤ j ∧ j < z 2 ∧ c < z 0
        · rw [if_pos e]
          by_cases e2 : j = k
          · rw [if_neg (fun r => by omega), if_pos ⟨e.1, e2, e.2.2.2⟩]
          · rw [if_pos ⟨e.1, by omega, e.2.2⟩]
        · rw [if_neg e, if_neg (fun r => e ⟨r.1, by omega, r.2.2⟩), if_neg (fun r => e ⟨r.1, by omega, by omega, r.2.2⟩)]
      have f2 : (fun i j c => if i = a ∧ k + 1 ≤ j ∧ j < z 2 ∧ c = 4 then 0 else if i = a ∧ k + 1 ≤ j ∧ j < z 2 ∧ c = 2 then led0 a else if i = a ∧ k + 1 ≤ j ∧ j < z 2 ∧ c = 3 then 0 else (if i = a ∧ j = k ∧ c = 4 then 0 else if i = a ∧ j = k ∧ c = 2 then led0 a else if i = a ∧ j = k ∧ c = 3 then 0 else g27 i j c)) = (fun i j c => if i = a ∧ k ≤ j ∧ j < z 2 ∧ c = 4 then 0 else if i = a ∧ k ≤ j ∧ j < z 2 ∧ c = 2 then led0 a else if i = a ∧ k ≤ j ∧ j < z 2 ∧ c = 3 then 0 else g27 i j c) := by
        funext i j c
        by_cases e : i = a ∧ k ≤ j ∧ j < z 2
        · obtain ⟨q1, q2, q3⟩ := e
          by_cases e2 : j = k
          · subst e2
            have n1 : ¬ j + 1 ≤ j := by omega
            simp [q1, q3, n1, hk]
          · have p1 : k + 1 ≤ j := by omega
            simp only [q1, q2, q3, p1, e2, true_and, false_and, if_false]
        · have a1 : ∀ P : Prop, (i = a ∧ k ≤ j ∧ j < z 2 ∧ P) ↔ False := fun P => ⟨fun r => e ⟨r.1, r.2.1, r.2.2.1⟩, False.elim⟩
          have a2 : ∀ P : Prop, (i = a ∧ k + 1 ≤ j ∧ j < z 2 ∧ P) ↔ False := fun P => ⟨fun r => e ⟨r.1, by omega, r.2.2.1⟩, False.elim⟩
          have a3 : ∀ P : Prop, (i = a ∧ j = k ∧ P) ↔ False := fun P => ⟨fun r => e ⟨r.1, by omega, by omega⟩, False.elim⟩
          simp only [a1, a2, a3, if_false]
      rw [f1, f1, f1, f1, f2]
    · have : k = z 2 := by omega
      subst this
      rw [if_pos (nI_le (Nat.le_refl _) (by omega))]
      have a1 : ∀ (i j : Nat) (P : Prop), (i = a ∧ z 2 ≤ j ∧ j < z 2 ∧ P) ↔ False := fun i j P => ⟨fun r => by omega, False.elim⟩
      simp only [a1, if_false]
theorem forget_Xe (hz : zOK z) {a : Nat} : f_X0_forget z σ a = some (setX σ (fun i j c => if i = a ∧ j < z 2 ∧ c = 4 then 0 else if i = a ∧ j < z 2 ∧ c = 2 then led0 a else if i = a ∧ j < z 2 ∧ c = 3 then 0 else σ.1 27 i j c)
      (fun i j c => if i = a ∧ j < z 2 ∧ c < z 0 then -1 else σ.1 30 i j c) (fun i j c => if i = a ∧ j < z 2 ∧ c < z 0 then 0 else σ.1 31 i j c) (fun i j c => if i = a ∧ j < z 2 ∧ c < z 0 then 0 else σ.1 32 i j c) (fun i j c => if i = a ∧ j < z 2 ∧ c < z 0 then 0 else σ.1 33 i j c)) := by
  have hzz := hz
  unfold zOK at hzz
  unfold f_X0_forget
  have h := forget_XL (σ := σ) hz (a := a) FU 0 (σ.1 27) (σ.1 30) (σ.1 31) (σ.1 32) (σ.1 33) (Nat.zero_le _) (by have := FU_big; omega)
  rw [setX_id] at h
  rw [letv_e, show f_X0_forget_L10 z a (nI (z 2)) FU 0 σ = _ from h, bnd1_e]
  simp only [Nat.zero_le, true_and]
theorem forget_ML {a : Nat} (ha : a < 5) : ∀ (n k : Nat) (a20 a21 a22 a25 a26 a27 a28 : Nat → Int32), k ≤ 16 * a + 16 → 16 * a + 16 < k + n →
    f_X11_forget_L5 z (nI a) n (nI k) (setV τ a20 a21 a22 a25 a26 a27 a28) = some (setV τ (fun q => if k ≤ q ∧ q < 16 * a + 16 then led0 a else a20 q) (fun q => if k ≤ q ∧ q < 16 * a + 16 then 0 else a21 q) (fun q => if k ≤ q ∧ q < 16 * a + 16 then 0 else a22 q)
      (fun q => if k ≤ q / 4 ∧ q / 4 < 16 * a + 16 then 0 else a25 q) (fun q => if k ≤ q / 4 ∧ q / 4 < 16 * a + 16 then 0 else a26 q) (fun q => if k ≤ q / 4 ∧ q / 4 < 16 * a + 16 then -1 else a27 q) (fun q => if k ≤ q / 4 ∧ q / 4 < 16 * a + 16 then 0 else a28 q)) := by
  intro n
  induction n with
  | zero => intro k _ _ _ _ _ _ _ h1 h2; omega
  | succ n ih =>
    intro k a20 a21 a22 a25 a26 a27 a28 h1 h2
    rw [f_X11_forget_L5]
    simp only [mul16, add16]
    by_cases hk : k < 16 * a + 16
    · rw [if_neg (nI_ge hk (by omega)), begins_e (by omega), bnd1_e]
      simp (disch := omega) only [gdx_n, letv_e, add1, ml20, ml21]
      have e0 : (if nI a = 0 then some (0 : Int32) else some (-1)) = some (led0 a) := by
        unfold led0
        by_cases q : a = 0
        · subst q; rfl
        · rw [if_neg (nI_ne0 (by omega) (by omega)), if_neg q]
      rw [e0, bnd1_e]
      have e : tpI (tpI (setT (setB (setV τ a20 a21 a22 a25 a26 a27 a28) (fun q => if q / 4 = k then 0 else a25 q) (fun q => if q / 4 = k then 0 else a26 q) (fun q => if q / 4 = k then -1 else a27 q) (fun q => if q / 4 = k then 0 else a28 q)) 22 (fun q => if q = k then 0 else a22 q)) 21 k 0) 20 k (led0 a) =
          setV τ (fun q => if q = k then led0 a else a20 q) (fun q => if q = k then 0 else a21 q) (fun q => if q = k then 0 else a22 q) (fun q => if q / 4 = k then 0 else a25 q) (fun q => if q / 4 = k then 0 else a26 q) (fun q => if q / 4 = k then -1 else a27 q) (fun q => if q / 4 = k then 0 else a28 q) := by
        unfold tpI setT setB setV
        refine Prod.ext (funext fun f => funext fun q => ?_) rfl
        by_cases h1 : f = 20
        · subst h1; simp
        by_cases h2 : f = 21
        · subst h2; simp
        by_cases h3 : f = 22
        · subst h3; simp
        by_cases h4 : f = 25
        · subst h4; simp
        by_cases h5 : f = 26
        · subst h5; simp
        by_cases h6 : f = 27
        · subst h6; simp
        by_cases h7 : f = 28
        · subst h7; simp
        simp [h1, h2, h3, h4, h5, h6, h7]
      have e2 : (setV τ a20 a21 a22 a25 a26 a27 a28).1 25 = a25 := rfl
      have e3 : (setV τ a20 a21 a22 a25 a26 a27 a28).1 26 = a26 := rfl
      have e4 : (setV τ a20 a21 a22 a25 a26 a27 a28).1 27 = a27 := rfl
      have e5 : (setV τ a20 a21 a22 a25 a26 a27 a28).1 28 = a28 := rfl
      have e6 : (setV τ a20 a21 a22 a25 a26 a27 a28).1 22 = a22 := rfl
      rw [e2, e3, e4, e5, e6, e, ih (k + 1) _ _ _ _ _ _ _ (by omega) (by omega)]
      have f1 : ∀ (v : Int32) (g : Nat → Int32), (fun q => if k + 1 ≤ q ∧ q < 16 * a + 16 then v else (if q = k then v else g q)) = (fun q => if k ≤ q ∧ q < 16 * a + 16 then v else g q) := by
        intro v g
        funext q
        by_cases e : k ≤ q ∧ q < 16 * a + 16
        · rw [if_pos e]
          by_cases e2 : q = k
          · rw [if_neg (fun r => by omega), if_pos e2]
          · rw [if_pos ⟨by omega, e.2⟩]
        · rw [if_neg e, if_neg (fun r => e ⟨by omega, r.2⟩), if_neg (fun r => e (by omega))]
      have f2 : ∀ (v : Int32) (g : Nat → Int32), (fun q => if k + 1 ≤ q / 4 ∧ q / 4 < 16 * a + 16 then v else (if q / 4 = k then v else g q)) = (fun q => if k ≤ q / 4 ∧ q / 4 < 16 * a + 16 then v else g q) := by
        intro v g
        funext q
        by_cases e : k ≤ q / 4 ∧ q / 4 < 16 * a + 16
        · rw [if_pos e]
          by_cases e2 : q / 4 = k
          · rw [if_neg (fun r => by omega), if_pos e2]
          · rw [if_pos ⟨by omega, e.2⟩]
        · rw [if_neg e, if_neg (fun r => e ⟨by omega, r.2⟩), if_neg (fun r => e (by omega))]
      rw [f1, f1, f1, f2, f2, f2, f2]
    · have : k = 16 * a + 16 := by omega
      subst this
      rw [if_pos (nI_le (Nat.le_refl _) (by omega))]
      have f1 : ∀ (v : Int32) (g : Nat → Int32), (fun q => if 16 * a + 16 ≤ q ∧ q < 16 * a + 16 then v else g q) = g := fun v g => funext fun q => if_neg (fun r => by omega)
      have f2 : ∀ (v : Int32) (g : Nat → Int32), (fun q => if 16 * a + 16 ≤ q / 4 ∧ q / 4 < 16 * a + 16 then v else g q) = g := fun v g => funext fun q => if_neg (fun r => by omega)
      rw [f1, f1, f1, f2, f2, f2, f2]
theorem forget_Me {a : Nat} (ha : a < 5) : f_X11_forget z τ (nI a) = some (setV τ (fun q => if q / 16 = a then led0 a else τ.1 20 q) (fun q => if q / 16 = a then 0 else τ.1 21 q) (fun q => if q / 16 = a then 0 else τ.1 22 q)
      (fun q => if q / 64 = a then 0 else τ.1 25 q) (fun q => if q / 64 = a then 0 else τ.1 26 q) (fun q => if q / 64 = a then -1 else τ.1 27 q) (fun q => if q / 64 = a then 0 else τ.1 28 q)) := by
  unfold f_X11_forget
  have h := forget_ML (z := z) (τ := τ) ha FU (16 * a) (τ.1 20) (τ.1 21) (τ.1 22) (τ.1 25) (τ.1 26) (τ.1 27) (τ.1 28) (by omega) (by have := FU_big; omega)
  rw [setV_id] at h
  rw [letv_e, mul16, h, bnd1_e]
  have f1 : ∀ (v : Int32) (g : Nat → Int32), (fun q => if 16 * a ≤ q ∧ q < 16 * a + 16 then v else g q) = (fun q => if q / 16 = a then v else g q) := by
    intro v g
    funext q
    by_cases e : q / 16 = a
    · rw [if_pos e, if_pos (by omega)]
    · rw [if_neg e, if_neg (by omega)]
  have f2 : ∀ (v : Int32) (g : Nat → Int32), (fun q => if 16 * a ≤ q / 4 ∧ q / 4 < 16 * a + 16 then v else g q) = (fun q => if q / 64 = a then v else g q) := by
    intro v g
    funext q
    by_cases e : q / 64 = a
    · rw [if_pos e, if_pos (by omega)]
    · rw [if_neg e, if_neg (by omega)]
  rw [f1, f1, f1, f2, f2, f2, f2]
theorem led0_nb (a : Nat) : led0 a = -1 ∨ nb bb (led0 a) := by
  unfold led0
  by_cases h : a = 0
  · rw [if_pos h]; exact Or.inr ⟨0, Nat.zero_le _, rfl⟩
  · rw [if_neg h]; exact Or.inl rfl
theorem p_forget (hz : zOK z) {a : Nat} (ha : a < z 1) (h : Rel z bb w σ τ) : ∃ σ' τ', f_X0_forget z σ a = some σ' ∧ f_X11_forget z τ (nI a) = some τ' ∧ Rel z bb w σ' τ' := by
  have hzz := hz
  unfold zOK at hzz
  refine ⟨_, _, forget_Xe hz, forget_Me (by omega), ?_⟩
  obtain ⟨h1, h2, h3, h4, h5, h6, h7, h8, h9, h10, h11, h12, h13, h14, h15, h16⟩ := h
  refine ⟨h1, h2, h3, h4, h5, h6, h7, h8, h9, h10, h11, fun i j hi hj => ?_, h13, fun i j c hi hj hc => ?_, fun i j c hi hj hc => ?_, h16⟩
  · obtain ⟨b1, b2, b3, b4, b5, b6, b7⟩ := h12 i j hi hj
    have d : (16 * i + j) / 16 = i := by omega
    show nb bb (if i = a ∧ j < z 2 ∧ 1 = 4 then 0 else if i = a ∧ j < z 2 ∧ 1 = 2 then led0 a else if i = a ∧ j < z 2 ∧ 1 = 3 then 0 else σ.1 27 i j 1) ∧
      ((if i = a ∧ j < z 2 ∧ 2 = 4 then 0 else if i = a ∧ j < z 2 ∧ 2 = 2 then led0 a else if i = a ∧ j < z 2 ∧ 2 = 3 then 0 else σ.1 27 i j 2) = -1 ∨ nb bb (if i = a ∧ j < z 2 ∧ 2 = 4 then 0 else if i = a ∧ j < z 2 ∧ 2 = 2 then led0 a else if i = a ∧ j < z 2 ∧ 2 = 3 then 0 else σ.1 27 i j 2)) ∧
      nb 31 (if i = a ∧ j < z 2 ∧ 4 = 4 then 0 else if i = a ∧ j < z 2 ∧ 4 = 2 then led0 a else if i = a ∧ j < z 2 ∧ 4 = 3 then 0 else σ.1 27 i j 4) ∧
      τ.1 19 (16 * i + j) = (if i = a ∧ j < z 2 ∧ 1 = 4 then 0 else if i = a ∧ j < z 2 ∧ 1 = 2 then led0 a else if i = a ∧ j < z 2 ∧ 1 = 3 then 0 else σ.1 27 i j 1) ∧
      (if (16 * i + j) / 16 = a then led0 a else τ.1 20 (16 * i + j)) = (if i = a ∧ j < z 2 ∧ 2 = 4 then 0 else if i = a ∧ j < z 2 ∧ 2 = 2 then led0 a else if i = a ∧ j < z 2 ∧ 2 = 3 then 0 else σ.1 27 i j 2) ∧
      (if (16 * i + j) / 16 = a then 0 else τ.1 21 (16 * i + j)) = (if i = a ∧ j < z 2 ∧ 3 = 4 then 0 else if i = a ∧ j < z 2 ∧ 3 = 2 then led0 a else if i = a ∧ j < z 2 ∧ 3 = 3 then 0 else σ.1 27 i j 3) ∧
      (if (16 * i + j) / 16 = a then 0 else τ.1 22 (16 * i + j)) = (if i = a ∧ j < z 2 ∧ 4 = 4 then 0 else if i = a ∧ j < z 2 ∧ 4 = 2 then led0 a else if i = a ∧ j < z 2 ∧ 4 = 3 then 0 else σ.1 27 i j 4)
    rw [d]
    by_cases e : i = a
    · subst e
      simp only [hj, true_and, if_true, show (1 = 4) = False from by simp, show (1 = 2) = False from by simp, show (1 = 3) = False from by simp, show (2 = 4) = False from by simp, show (2 = 3) = False from by simp, show (3 = 4) = False from by simp, show (3 = 2) = False from by simp, if_false]
      exact ⟨b1, led0_nb i, ⟨0, by omega, rfl⟩, b4, trivial⟩
    · simp only [e, false_and, if_false]
      exact ⟨b1, b2, b3, b4, b5, b6, b7⟩
  · obtain ⟨b1, b2, b3⟩ := h14 i j c hi hj hc
    have d : (4 * (16 * i + j) + c) / 64 = i := by omega
    show (if (4 * (16 * i + j) + c) / 64 = a then -1 else τ.1 27 (4 * (16 * i + j) + c)) = (if i = a ∧ j < z 2 ∧ c < z 0 then -1 else σ.1 30 i j c) ∧ (if (4 * (16 * i + j) + c) / 64 = a then 0 else τ.1 28 (4 * (16 * i + j) + c)) = (if i = a ∧ j < z 2 ∧ c < z 0 then 0 else σ.1 31 i j c) ∧ vb bb (if i = a ∧ j < z 2 ∧ c < z 0 then -1 else σ.1 30 i j c) (if i = a ∧ j < z 2 ∧ c < z 0 then 0 else σ.1 31 i j c)
    rw [d]
    by_cases e : i = a
    · subst e
      simp only [hj, hc, true_and, if_true]
      exact Or.inl ⟨rfl, rfl⟩
    · simp only [e, false_and, if_false]
      exact ⟨b1, b2, b3⟩
  · obtain ⟨b1, b2, b3, b4⟩ := h15 i j c hi hj hc
    have d : (4 * (16 * i + j) + c) / 64 = i := by omega
    show (if (4 * (16 * i + j) + c) / 64 = a then 0 else τ.1 25 (4 * (16 * i + j) + c)) = (if i = a ∧ j < z 2 ∧ c < z 0 then 0 else σ.1 32 i j c) ∧ (if (4 * (16 * i + j) + c) / 64 = a then 0 else τ.1 26 (4 * (16 * i + j) + c)) = (if i = a ∧ j < z 2 ∧ c < z 0 then 0 else σ.1 33 i j c) ∧ nb 31 (if i = a ∧ j < z 2 ∧ c < z 0 then 0 else σ.1 32 i j c) ∧ nb 31 (if i = a ∧ j < z 2 ∧ c < z 0 then 0 else σ.1 33 i j c)
    rw [d]
    by_cases e : i = a
    · subst e
      simp only [hj, hc, true_and, if_true]
      exact ⟨⟨0, by omega, rfl⟩, ⟨0, by omega, rfl⟩⟩
    · simp only [e, false_and, if_false]
      exact ⟨b1, b2, b3, b4⟩
theorem p_crash (hz : zOK z) (h : Rel z bb w σ τ) (x : Int32) : ∃ r σ' τ', f_X10_crash z σ x = some (r, σ') ∧ f_X11_crash z τ x = some (r, τ') ∧ Rel z bb w σ' τ' := by
  have hzz := hz
  unfold zOK at hzz
  unfold f_X10_crash f_X11_crash
  rcases nodAt (σ := σ) (τ := τ) hz x with ⟨e1, e2⟩ | ⟨s, hs, rfl, e1, e2⟩ | ⟨a, ha, rfl, e1, e2⟩
  · simp only [e1, e2, bnd1_e, if_true]
    exact ⟨_, _, _, rfl, rfl, h⟩
  · simp only [e1, e2, bnd1_e, oS, i10, if_false]
    rw [gdr_n hs]
    obtain ⟨u1, u2⟩ := h.2.2.2.2.2.2.2.2.2.1.1 s hs
    simp (disch := omega) only [gdx_n, ml6, letv_e, u1]
    by_cases hu : σ.1 17 s 0 4 = 0
    · rw [if_pos hu, if_pos hu]
      exact ⟨_, _, _, rfl, rfl, h⟩
    · rw [if_neg hu, if_neg hu, if_pos (nI_lt hs (by omega))]
      obtain ⟨σ', τ', q1, q2, hR⟩ := crash_L hz hs FU 0 _ _ (h.upS hs (v := 0) (Or.inl rfl)) (Nat.zero_le _) (by have := FU_big; omega)
      unfold f_X6_forget
      rw [show f_X6_forget_L2 z s FU 0 (upI σ 17 s 0 4 0) = _ from q1, show f_X11_crash_L50 z (nI s) FU 0 (tpI τ 6 s 0) = _ from q2]
      simp only [bnd1_e]
      exact ⟨_, _, _, rfl, rfl, hR⟩
  · simp only [e1, e2, bnd1_e, oS, i10, if_false]
    rw [gdr_n ha]
    obtain ⟨u1, u2⟩ := h.2.2.2.2.2.2.2.2.2.1.2 a ha
    simp (disch := omega) only [gdx_n, ml6, letv_e, u1]
    by_cases hu : σ.1 25 a 0 4 = 0
    · rw [if_pos hu, if_pos hu]
      exact ⟨_, _, _, rfl, rfl, h⟩
    · rw [if_neg hu, if_neg hu, if_neg (nI_nlt (by omega) (by omega)), pk_sub (by omega), show z 0 + a - z 0 = a by omega]
      obtain ⟨σ', τ', q1, q2, hR⟩ := p_forget hz ha (h.upA ha (v := 0) (Or.inl rfl))
      rw [q1, q2]
      simp only [bnd1_e]
      exact ⟨_, _, _, rfl, rfl, hR⟩
end FORGET
