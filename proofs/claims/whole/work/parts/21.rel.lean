/-! the relation between the class's state σ and the reference's τ: w messages, ballots at most bb -/
def gW (z : Nat → Nat) (w : Nat) (s11 : Nat → Nat → Nat → Int32) (t0 : Nat → Int32) : Prop := w ≤ z 4 ∧ s11 0 0 4 = nI w ∧ t0 29 = nI w
def gC (s0 s11 : Nat → Nat → Nat → Int32) (t0 : Nat → Int32) : Prop := t0 32 = s11 0 0 5 ∧ t0 33 = s11 0 0 6 ∧ t0 34 = s0 0 0 7 ∧ t0 35 = s0 0 0 6
def gT (z : Nat → Nat) (s3 s4 : Nat → Nat → Nat → Int32) (t12 t13 : Nat → Int32) : Prop := ∀ t, t < z 2 → t12 t = s3 0 0 t ∧ t13 t = s4 0 0 t
def gV (z : Nat → Nat) (l6 : Nat → Nat → Nat → Int64) (u9 : Nat → Int64) : Prop := ∀ k, k < z 3 → u9 k = l6 0 0 k
def gL (z : Nat → Nat) (s8 : Nat → Nat → Nat → Int32) (t10 t11 t14 : Nat → Int32) : Prop :=
  (∀ t k, t < z 2 → k < z 3 → s8 t 0 k = 0 ∨ s8 t 0 k = 1 ∨ s8 t 0 k = 2) ∧ (∀ k i, k < z 3 → i < 32 → bt (t10 k) i = decide (i < z 2 ∧ ¬ s8 i 0 k = 0)) ∧
  (∀ k, k < z 3 → (∀ t, t < z 2 → (t11 k = nI t ↔ s8 t 0 k = 2)) ∧ (t11 k = -1 ∨ ∃ t, t < z 2 ∧ t11 k = nI t)) ∧ ∀ t k, t < z 2 → k < z 3 → t14 (32 * t + k) = if s8 t 0 k = 2 then 1 else 0
def gN (z : Nat → Nat) (s8 : Nat → Nat → Nat → Int32) (l10 : Nat → Nat → Nat → Int64) (u15 : Nat → Int64) : Prop := ∀ t k, t < z 2 → k < z 3 → s8 t 0 k = 2 → u15 (32 * t + k) = l10 t 0 k
def gS (z : Nat → Nat) (s21 : Nat → Nat → Nat → Int32) (t16 : Nat → Int32) : Prop := ∀ s t, s < z 0 → t < z 2 → t16 (16 * s + t) = s21 s 0 t ∧ (s21 s 0 t = 0 ∨ s21 s 0 t = 1)
def gO (z : Nat → Nat) (s21 s8 : Nat → Nat → Nat → Int32) : Prop := ∀ s t k, s < z 0 → t < z 2 → k < z 3 → k % z 0 = s → s21 s 0 t = 0 → s8 t 0 k = 0
def gD (z : Nat → Nat) (s22 s23 : Nat → Nat → Nat → Int32) (t17 t18 : Nat → Int32) : Prop := ∀ s t, s < z 0 → t < z 2 → t17 (16 * s + t) = s22 s 0 t ∧ t18 (16 * s + t) = s23 s 0 t ∧ (s22 s 0 t = 0 ∨ s22 s 0 t = 1 ∨ s22 s 0 t = 2)
def gU (z : Nat → Nat) (s17 s25 : Nat → Nat → Nat → Int32) (t6 : Nat → Int32) : Prop := (∀ s, s < z 0 → t6 s = s17 s 0 4 ∧ (s17 s 0 4 = 0 ∨ s17 s 0 4 = 1)) ∧ ∀ a, a < z 1 → t6 (z 0 + a) = s25 a 0 4 ∧ (s25 a 0 4 = 0 ∨ s25 a 0 4 = 1)
def gG (z : Nat → Nat) (s18 s20 : Nat → Nat → Nat → Int32) (t7 t8 : Nat → Int32) : Prop := ∀ n, n < z 0 + z 1 → ∃ q, q ≤ z 5 ∧ s18 n 0 1 = nI q ∧ t7 n = nI q ∧ ∀ i c, i < q → c < 4 → t8 (800 * n + 4 * i + c) = s20 n i c
def nb (bb : Nat) (x : Int32) : Prop := ∃ b, b ≤ bb ∧ x = nI b
def vb (bb : Nat) (b v : Int32) : Prop := (b = -1 ∧ v = 0) ∨ (nb bb b ∧ (v = 1 ∨ v = 2))
def gP (z : Nat → Nat) (bb : Nat) (s27 : Nat → Nat → Nat → Int32) (t19 t20 t21 t22 : Nat → Int32) : Prop := ∀ a t, a < z 1 → t < z 2 → nb bb (s27 a t 1) ∧ (s27 a t 2 = -1 ∨ nb bb (s27 a t 2)) ∧ nb 31 (s27 a t 4) ∧
  t19 (16 * a + t) = s27 a t 1 ∧ t20 (16 * a + t) = s27 a t 2 ∧ t21 (16 * a + t) = s27 a t 3 ∧ t22 (16 * a + t) = s27 a t 4
def gA (z : Nat → Nat) (bb : Nat) (s28 s29 : Nat → Nat → Nat → Int32) (t23 t24 : Nat → Int32) : Prop := ∀ a t s, a < z 1 → t < z 2 → s < z 0 → t23 (4 * (16 * a + t) + s) = s28 a t s ∧ t24 (4 * (16 * a + t) + s) = s29 a t s ∧ vb bb (s28 a t s) (s29 a t s)
def gY (z : Nat → Nat) (s32 s33 : Nat → Nat → Nat → Int32) (t25 t26 : Nat → Int32) : Prop := ∀ a t s, a < z 1 → t < z 2 → s < z 0 → t25 (4 * (16 * a + t) + s) = s32 a t s ∧ t26 (4 * (16 * a + t) + s) = s33 a t s ∧ nb 31 (s32 a t s) ∧ nb 31 (s33 a t s)
def gQ (z : Nat → Nat) (r11 r12 : Nat → Nat) : Prop := (∀ k, k < z 4 → r12 k < z 4 + 2 ∧ ¬ r12 k = z 4 ∧ ¬ r12 k = r11 3) ∧ (r11 3 < z 4 + 2 ∧ ¬ r11 3 = z 4) ∧ ∀ i j, i < z 4 → j < z 4 → r12 i = r12 j → i = j
/-- a message's own sense -/
def mW (z : Nat → Nat) (bb : Nat) (msg tb tv : Nat → Int32) : Prop := (∃ t, t < z 2 ∧ msg 2 = nI t) ∧ nb bb (msg 3) ∧
  ((msg 0 = 1 ∧ ∃ s, s < z 0 ∧ msg 1 = nI s) ∨
   (msg 0 = 2 ∧ (∃ a, a < z 1 ∧ msg 1 = nI (z 0 + a)) ∧ (∃ s, s < z 0 ∧ msg 4 = nI s) ∧ (msg 5 = 1 ∨ msg 5 = 2)) ∨
   (msg 0 = 3 ∧ (∃ a, a < z 1 ∧ msg 1 = nI (z 0 + a)) ∧ (∃ s, s < z 0 ∧ msg 4 = nI s) ∧ (msg 5 = 1 ∨ msg 5 = 2) ∧ ∃ a, a < z 1 ∧ msg 6 = nI (z 0 + a)) ∨
   (msg 0 = 4 ∧ ∃ a, a < z 1 ∧ msg 1 = nI (z 0 + a)) ∨
   (msg 0 = 5 ∧ (∃ a, a < z 1 ∧ msg 1 = nI (z 0 + a)) ∧ (∃ a, a < z 1 ∧ msg 6 = nI (z 0 + a)) ∧ ∀ s, s < z 0 → vb bb (tb s) (tv s)) ∨
   (msg 0 = 6 ∧ ((∃ s, s < z 0 ∧ msg 1 = nI s) ∨ msg 1 = nI (z 0 + z 1)) ∧ (msg 5 = 3 ∨ msg 5 = 4)))
def gM (z : Nat → Nat) (bb w : Nat) (r12 : Nat → Nat) (s13 s14 s15 : Nat → Nat → Nat → Int32) (t30 t31 : Nat → Int32) : Prop := ∀ i, i < w → (∀ c, c < 7 → t30 (7 * i + c) = s13 (r12 i) 0 c) ∧
  (s13 (r12 i) 0 0 = 5 → ∀ s, s < z 0 → t31 (8 * i + s) = s14 (r12 i) 0 s ∧ t31 (8 * i + 4 + s) = s15 (r12 i) 0 s) ∧ mW z bb (s13 (r12 i) 0) (s14 (r12 i) 0) (s15 (r12 i) 0)
def Rel (z : Nat → Nat) (bb w : Nat) (σ : Sg) (τ : Tg) : Prop :=
  gW z w (σ.1 11) (τ.1 0) ∧ gC (σ.1 0) (σ.1 11) (τ.1 0) ∧ gT z (σ.1 3) (σ.1 4) (τ.1 12) (τ.1 13) ∧ gV z (σ.2.1 6) (τ.2 9) ∧ gL z (σ.1 8) (τ.1 10) (τ.1 11) (τ.1 14) ∧ gN z (σ.1 8) (σ.2.1 10) (τ.2 15) ∧
  gS z (σ.1 21) (τ.1 16) ∧ gO z (σ.1 21) (σ.1 8) ∧ gD z (σ.1 22) (σ.1 23) (τ.1 17) (τ.1 18) ∧ gU z (σ.1 17) (σ.1 25) (τ.1 6) ∧ gG z (σ.1 18) (σ.1 20) (τ.1 7) (τ.1 8) ∧
  gP z bb (σ.1 27) (τ.1 19) (τ.1 20) (τ.1 21) (τ.1 22) ∧ gA z bb (σ.1 28) (σ.1 29) (τ.1 23) (τ.1 24) ∧ gA z bb (σ.1 30) (σ.1 31) (τ.1 27) (τ.1 28) ∧ gY z (σ.1 32) (σ.1 33) (τ.1 25) (τ.1 26) ∧
  gQ z (σ.2.2 11) (σ.2.2 12) ∧ gM z bb w (σ.2.2 12) (σ.1 13) (σ.1 14) (σ.1 15) (τ.1 30) (τ.1 31)
theorem nb.mono {a b : Nat} {x : Int32} (h : nb a x) (hab : a ≤ b) : nb b x := by
  obtain ⟨q, h1, h2⟩ := h
  exact ⟨q, by omega, h2⟩
theorem vb.mono {a b : Nat} {x v : Int32} (h : vb a x v) (hab : a ≤ b) : vb b x v := h.imp id (fun q => ⟨q.1.mono hab, q.2⟩)
theorem mW.mono {z : Nat → Nat} {a b : Nat} {msg tb tv : Nat → Int32} (h : mW z a msg tb tv) (hab : a ≤ b) : mW z b msg tb tv := by
  obtain ⟨h1, h2, h3⟩ := h
  refine ⟨h1, h2.mono hab, ?_⟩
  rcases h3 with h | h | h | h | h | h
  · exact Or.inl h
  · exact Or.inr (Or.inl h)
  · exact Or.inr (Or.inr (Or.inl h))
  · exact Or.inr (Or.inr (Or.inr (Or.inl h)))
  · exact Or.inr (Or.inr (Or.inr (Or.inr (Or.inl ⟨h.1, h.2.1, h.2.2.1, fun s hs => (h.2.2.2 s hs).mono hab⟩))))
  · exact Or.inr (Or.inr (Or.inr (Or.inr (Or.inr h))))
theorem Rel.mono {z : Nat → Nat} {a b w : Nat} {σ : Sg} {τ : Tg} (h : Rel z a w σ τ) (hab : a ≤ b) : Rel z b w σ τ := by
  obtain ⟨h1, h2, h3, h4, h5, h6, h7, h8, h9, h10, h11, h12, h13, h14, h15, h16, h17⟩ := h
  refine ⟨h1, h2, h3, h4, h5, h6, h7, h8, h9, h10, h11, fun x t hx ht => ?_, fun x t s hx ht hs => ?_, fun x t s hx ht hs => ?_, h15, h16, fun i hi => ?_⟩
  · obtain ⟨g1, g2, g3⟩ := h12 x t hx ht
    exact ⟨g1.mono hab, g2.imp id (fun q => q.mono hab), g3⟩
  · obtain ⟨g1, g2, g3⟩ := h13 x t s hx ht hs
    exact ⟨g1, g2, g3.mono hab⟩
  · obtain ⟨g1, g2, g3⟩ := h14 x t s hx ht hs
    exact ⟨g1, g2, g3.mono hab⟩
  · obtain ⟨g1, g2, g3⟩ := h17 i hi
    exact ⟨g1, g2, g3.mono hab⟩
section PAIR1
variable {z : Nat → Nat} {bb w : Nat} {σ : Sg} {τ : Tg}
/-- an index told by the caller: out of its bounds, or a number -/
theorem ixc (x : Int32) {n : Nat} (hn : n < 2147483648) : (x < 0 ∧ ¬ nI n ≤ x) ∨ (¬ x < 0 ∧ nI n ≤ x) ∨ ∃ j, j < n ∧ x = nI j ∧ ¬ x < 0 ∧ ¬ nI n ≤ x := by
  rcases pk_ix x hn with h | h | ⟨j, h1, h2⟩
  · refine Or.inl ⟨h, fun q => ?_⟩
    rw [Int32.lt_iff_toInt_lt, Int32.toInt_zero] at h
    rw [Int32.le_iff_toInt_le, nI_toInt hn] at q
    omega
  · refine Or.inr (Or.inl ⟨fun q => ?_, h⟩)
    rw [Int32.lt_iff_toInt_lt, Int32.toInt_zero] at q
    rw [Int32.le_iff_toInt_le, nI_toInt hn] at h
    omega
  · refine Or.inr (Or.inr ⟨j, h1, h2, ?_, ?_⟩)
    · rw [h2]; exact nI_pos (by omega)
    · rw [h2]; exact nI_ge h1 hn
theorem in_e {x : Int32} {n : Nat} (h1 : 1 ≤ n) (hn : n < 2147483648) : f_X11_in x 0 (nI n - 1) = if x < 0 then some 0 else if nI n ≤ x then some 0 else some 1 := by
  rw [sub1 h1]
  unfold f_X11_in
  by_cases h : x < 0
  · rw [if_pos h, if_pos h]
  · rw [if_neg h, if_neg h]
    have e : nI (n - 1) < x ↔ nI n ≤ x := by
      rw [Int32.lt_iff_toInt_lt, Int32.le_iff_toInt_le, nI_toInt hn, nI_toInt (by omega)]
      omega
    by_cases q : nI n ≤ x
    · rw [if_pos (e.mpr q), if_pos q]
    · rw [if_neg (fun r => q (e.mp r)), if_neg q]
theorem gdb_ite {c d : Prop} [Decidable c] [Decidable d] : bnd1 (if c then some (0 : Int32) else if d then some 0 else some 1) (fun r => gdb r (some r)) = if c then some 0 else if d then some 0 else some 1 := by
  by_cases h : c
  · simp only [if_pos h, bnd1_e, gdb_0]
  · by_cases h2 : d
    · simp only [if_neg h, if_pos h2, bnd1_e, gdb_0]
    · simp only [if_neg h, if_neg h2, bnd1_e, gdb_1]
theorem isTxn_M (hz : zOK z) (x : Int32) : f_X11_isTxn z τ x = f_X10_isTxn z σ x := by
  unfold f_X11_isTxn f_X10_isTxn
  rw [in_e hz.2.2.2.2.1 (by have := hz.2.2.2.2.2.1; omega), gdb_ite]
theorem isKey_M (hz : zOK z) (x : Int32) : f_X11_isKey z τ x = f_X10_isKey z σ x := by
  unfold f_X11_isKey f_X10_isKey
  rw [in_e hz.2.2.2.2.2.2.1 (by have := hz.2.2.2.2.2.2.2.1; omega), gdb_ite]
theorem isTxn_c (hz : zOK z) (x : Int32) : f_X10_isTxn z σ x = some 0 ∨ ∃ t, t < z 2 ∧ x = nI t ∧ f_X10_isTxn z σ x = some 1 := by
  unfold f_X10_isTxn
  rcases ixc x (n := z 2) (by have := hz.2.2.2.2.2.1; omega) with h | h | ⟨t, h1, h2, h3, h4⟩
  · rw [if_pos h.1]; exact Or.inl rfl
  · rw [if_neg h.1, if_pos h.2]; exact Or.inl rfl
  · rw [if_neg h3, if_neg h4]; exact Or.inr ⟨t, h1, h2, rfl⟩
theorem isKey_c (hz : zOK z) (x : Int32) : f_X10_isKey z σ x = some 0 ∨ ∃ t, t < z 3 ∧ x = nI t ∧ f_X10_isKey z σ x = some 1 := by
  unfold f_X10_isKey
  rcases ixc x (n := z 3) (by have := hz.2.2.2.2.2.2.2.1; omega) with h | h | ⟨t, h1, h2, h3, h4⟩
  · rw [if_pos h.1]; exact Or.inl rfl
  · rw [if_neg h.1, if_pos h.2]; exact Or.inl rfl
  · rw [if_neg h3, if_neg h4]; exact Or.inr ⟨t, h1, h2, rfl⟩
/-- begin -/
theorem p_begin (hz : zOK z) (h : Rel z bb w σ τ) (x : Int32) : ∃ r σ' τ', f_X10_begin z σ x = some (r, σ') ∧ f_X11_begin z τ x = some (r, τ') ∧ Rel z bb w σ' τ' := by
  have hzz := hz
  unfold zOK at hzz
  unfold f_X10_begin f_X11_begin
  rw [isTxn_M (σ := σ) hz]
  rcases isTxn_c (σ := σ) hz x with e | ⟨t, ht, rfl, e⟩
  · simp only [e, bnd1_e, if_true]
    exact ⟨_, _, _, rfl, rfl, h⟩
  · obtain ⟨h1, h2, h3, h4⟩ := h
    obtain ⟨g1, g2⟩ := h3 t ht
    simp (disch := omega) only [e, bnd1_e, letv_e, ml12, gdx_n, g1, i10, if_false]
    by_cases hq : σ.1 3 0 0 t = 0
    · simp only [hq, if_true]
      refine ⟨_, _, _, rfl, rfl, h1, h2, fun u hu => ?_, h4⟩
      obtain ⟨k1, k2⟩ := h3 u hu
      by_cases hut : u = t
      · subst hut
        exact ⟨by simp [tpI, upI], k2⟩
      · exact ⟨by simp only [tpI, upI]; rw [if_neg (by simp [hut]), if_neg (by simp [hut])]; exact k1, k2⟩
    · simp only [if_neg hq]
      exact ⟨_, _, _, rfl, rfl, h1, h2, h3, h4⟩
end PAIR1
