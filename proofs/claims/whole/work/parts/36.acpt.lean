/-! a leader hears that a vote was accepted -/
def Ps1 (z : Nat → Nat) (bb mi : Nat) (σ : Sg) (τ : Tg) (oX : Option Sg) (oM : Option Tg) : Prop := ∃ w' σ' τ', oX = some σ' ∧ oM = some τ' ∧ Rel z bb w' σ' τ' ∧ σ'.1 13 mi = σ.1 13 mi ∧ τ'.1 36 = τ.1 36
section ACPT
variable {z : Nat → Nat} {bb w : Nat} {σ : Sg} {τ : Tg}
theorem mj (hz : zOK z) {x : Int32} (hx : nb 31 x) (σ : Sg) (τ : Tg) : (f_X7_isMajority z σ x = some 0 ∧ f_X11_isMajority z τ x = some 0) ∨ (f_X7_isMajority z σ x = some 1 ∧ f_X11_isMajority z τ x = some 1) := by
  obtain ⟨q, q1, rfl⟩ := hx
  obtain ⟨e1, e2⟩ := majo (σ := σ) (τ := τ) (q := q) hz (by omega)
  rw [e1, e2]
  by_cases c : z 1 < 2 * pop5 q
  · rw [if_pos c]; exact Or.inr ⟨rfl, rfl⟩
  · rw [if_neg c]; exact Or.inl ⟨rfl, rfl⟩
theorem endM_1 (hz : zOK z) (h : Rel z bb w σ τ) {a t : Nat} (ha : a < z 1) (ht : t < z 2) (x1 : Int32) : ∀ (n k : Nat) (y : Int32), k ≤ z 0 → z 0 < k + n → ∃ v, f_X11_accept_L139 z τ x1 (nI t) (nI (16 * a + t)) n y 1 (nI k) = some (v, 1) := by
  have hzz := hz
  unfold zOK at hzz
  intro n
  induction n with
  | zero => intro k y h1 h2; omega
  | succ n ih =>
    intro k y h1 h2
    rw [f_X11_accept_L139]
    by_cases hk : k < z 0
    · obtain ⟨y1, y2, y3, y4⟩ := h.2.2.2.2.2.2.2.2.2.2.2.2.2.2.1 a t k ha ht hk
      rw [if_neg (nI_ge hk (by omega)), touches_M hz h ht (by omega), bnd1_e]
      by_cases hb : bt (σ.1 4 0 0 t) k = true
      · rw [if_pos hb, if_neg (show ¬ (1 : Int32) = 0 by decide)]
        by_cases hy : y = 0
        · rw [if_pos hy, bnd1_e, if_neg (show ¬ (1 : Int32) = 0 by decide), letv_e, add1]
          exact ih (k + 1) _ (by omega) (by omega)
        · rw [if_neg hy, mul4, nI_add, gdx_n (n := mlen 25) (show 4 * (16 * a + t) + k < 320 by omega) (by decide), letv_e, y1]
          rcases mj hz y3 σ τ with ⟨_, m2⟩ | ⟨_, m2⟩
          · rw [m2, bnd1_e, if_pos rfl, bnd1_e, if_neg (show ¬ (1 : Int32) = 0 by decide), letv_e, add1]
            exact ih (k + 1) _ (by omega) (by omega)
          · rw [m2, bnd1_e, if_neg (show ¬ (1 : Int32) = 0 by decide), bnd1_e, if_neg (show ¬ (1 : Int32) = 0 by decide), letv_e, add1]
            exact ih (k + 1) _ (by omega) (by omega)
      · rw [if_neg hb, if_pos rfl, letv_e, add1]
        exact ih (k + 1) _ (by omega) (by omega)
    · have : k = z 0 := by omega
      subst this
      rw [if_pos (nI_le (Nat.le_refl _) (by omega))]
      exact ⟨_, rfl⟩
theorem endM_0 (hz : zOK z) (h : Rel z bb w σ τ) {a t : Nat} (ha : a < z 1) (ht : t < z 2) (x1 : Int32) : ∀ (n k : Nat) (y : Int32), (y = 0 ∨ y = 1) → k ≤ z 0 → z 0 < k + n → ∃ u v r, f_X11_accept_L139 z τ x1 (nI t) (nI (16 * a + t)) n y 0 (nI k) = some (u, v) ∧ f_X0_endOf_L5 z σ a (nI t) t n y (nI k) = some r ∧ ((v = 1 ∧ r = 4) ∨ (v = 0 ∧ u = 1 ∧ r = 3) ∨ (v = 0 ∧ u = 0 ∧ r = 0)) := by
  have hzz := hz
  unfold zOK at hzz
  intro n
  induction n with
  | zero => intro k y hy h1 h2; omega
  | succ n ih =>
    intro k y hy h1 h2
    rw [f_X11_accept_L139, f_X0_endOf_L5]
    by_cases hk : k < z 0
    · obtain ⟨y1, y2, y3, y4⟩ := h.2.2.2.2.2.2.2.2.2.2.2.2.2.2.1 a t k ha ht hk
      rw [if_neg (nI_ge hk (by omega)), if_neg (nI_ge hk (by omega)), touches_M hz h ht (by omega), touches_X hz ht (by omega), bnd1_e, bnd1_e]
      by_cases hb : bt (σ.1 4 0 0 t) k = true
      · rw [if_pos hb, if_neg (show ¬ (1 : Int32) = 0 by decide), if_neg (show ¬ (1 : Int32) = 0 by decide), gdx_n hk (by omega), letv_e, mul4, nI_add]
        have i320 : 4 * (16 * a + t) + k < 320 := by omega
        rcases hy with rfl | rfl
        · simp only [bnd1_e, if_true, letv_e]
          rw [gdx_n (n := mlen 26) (show 4 * (16 * a + t) + k < 320 from i320) (by decide), y2]
          rcases mj hz y4 σ τ with ⟨m1, m2⟩ | ⟨m1, m2⟩
          · rw [m1, m2]
            simp only [bnd1_e, letv_e, if_true, add1, i10, if_false]
            exact ih (k + 1) _ (Or.inl rfl) (by omega) (by omega)
          · rw [m1, m2]
            simp only [bnd1_e, letv_e, if_true, add1, i10, if_false]
            obtain ⟨v, e⟩ := endM_1 hz h ha ht x1 n (k + 1) 0 (by omega) (by omega)
            exact ⟨_, _, _, e, rfl, Or.inl ⟨rfl, rfl⟩⟩
        · simp only [if_true, i10, if_false, letv_e]
          rw [gdx_n (n := mlen 25) (show 4 * (16 * a + t) + k < 320 from i320) (by decide), y1]
          rcases mj hz y3 σ τ with ⟨n1, n2⟩ | ⟨n1, n2⟩
          · rw [n2]
            simp only [bnd1_e, letv_e, if_true, add1, i10, if_false]
            rw [gdx_n (n := mlen 26) (show 4 * (16 * a + t) + k < 320 from i320) (by decide), y2]
            rcases mj hz y4 σ τ with ⟨m1, m2⟩ | ⟨m1, m2⟩
            · rw [m1, m2]
              simp only [bnd1_e, letv_e, if_true, add1, i10, if_false]
              rw [gdx_n hk (by omega), n1]
              simp only [bnd1_e, letv_e, if_true, add1, i10, if_false]
              exact ih (k + 1) _ (Or.inl rfl) (by omega) (by omega)
            · rw [m1, m2]
              simp only [bnd1_e, letv_e, if_true, add1, i10, if_false]
              obtain ⟨v, e⟩ := endM_1 hz h ha ht x1 n (k + 1) 0 (by omega) (by omega)
              exact ⟨_, _, _, e, rfl, Or.inl ⟨rfl, rfl⟩⟩
          · rw [n2]
            simp only [bnd1_e, letv_e, if_true, add1, i10, if_false]
            rw [gdx_n (n := mlen 26) (show 4 * (16 * a + t) + k < 320 from i320) (by decide), y2]
            rcases mj hz y4 σ τ with ⟨m1, m2⟩ | ⟨m1, m2⟩
            · rw [m1, m2]
              simp only [bnd1_e, letv_e, if_true, add1, i10, if_false]
              rw [gdx_n hk (by omega), n1]
              simp only [bnd1_e, letv_e, if_true, add1, i10, if_false]
              exact ih (k + 1) _ (Or.inr rfl) (by omega) (by omega)
            · rw [m1, m2]
              simp only [bnd1_e, letv_e, if_true, add1, i10, if_false]
              obtain ⟨v, e⟩ := endM_1 hz h ha ht x1 n (k + 1) 1 (by omega) (by omega)
              exact ⟨_, _, _, e, rfl, Or.inl ⟨rfl, rfl⟩⟩
      · rw [if_neg hb, if_pos rfl, if_pos rfl, letv_e, letv_e, add1]
        exact ih (k + 1) _ hy (by omega) (by omega)
    · have : k = z 0 := by omega
      subst this
      rw [if_pos (nI_le (Nat.le_refl _) (by omega)), if_pos (nI_le (Nat.le_refl _) (by omega))]
      rcases hy with rfl | rfl
      · exact ⟨_, _, _, rfl, rfl, Or.inr (Or.inr ⟨rfl, rfl, rfl⟩)⟩
      · exact ⟨_, _, _, rfl, rfl, Or.inr (Or.inl ⟨rfl, rfl, rfl⟩)⟩
theorem acp_3 (x1 x2 x3 : Int32) : ∀ (n : Nat) (y : Int32) (T : Tg), f_X11_accept_L254_3 z x1 x2 x3 n y T = f_X11_accept_L254 z x1 x2 x3 n y T := by
  intro n
  induction n with
  | zero => intro y T; rfl
  | succ n ih =>
    intro y T
    rw [f_X11_accept_L254_3, f_X11_accept_L254]
    simp only [ih]
theorem postE_L (hz : zOK z) {a t : Nat} (ha : a < z 1) (ht : t < z 2) {r : Int32} (hr : r = 3 ∨ r = 4) : ∀ (n k w : Nat) (σ : Sg) (τ : Tg), Rel z bb w σ τ → Dft z σ 6 (nI t) 0 0 r (nI (z 0 + a)) → τ.1 21 (16 * a + t) = r → k ≤ z 0 → z 0 < k + n →
    ∃ w' σ' τ', f_X0_postEnd_L27 z a (nI t) n (nI k) σ = some σ' ∧ f_X11_accept_L254 z (nI (z 0 + a)) (nI t) (nI (16 * a + t)) n (nI k) τ = some τ' ∧ Rel z bb w' σ' τ' ∧ Kx z σ σ' ∧ Km τ τ' := by
  have hzz := hz
  unfold zOK at hzz
  intro n
  induction n with
  | zero => intro k w σ τ h hd h21 h1 h2; omega
  | succ n ih =>
    intro k w σ τ h hd h21 h1 h2
    rw [f_X0_postEnd_L27, f_X11_accept_L254]
    by_cases hk : k < z 0
    · rw [if_neg (nI_ge hk (by omega)), if_neg (nI_ge hk (by omega)), touches_X hz ht (by omega), touches_M hz h ht (by omega), bnd1_e, bnd1_e]
      by_cases hb : bt (σ.1 4 0 0 t) k = true
      · rw [if_pos hb, if_neg (show ¬ (1 : Int32) = 0 by decide), if_neg (show ¬ (1 : Int32) = 0 by decide), gdx_n (n := mlen 21) (show 16 * a + t < 80 by omega) (by decide), letv_e, h21]
        obtain ⟨r', rm, w1, σ1, τ1, e1, e2, e3, e4, e5⟩ := p_pst hz h hd (nI k) (by decide) (fun tb tv => ⟨⟨t, ht, rfl⟩, ⟨0, by omega, rfl⟩, Or.inr (Or.inr (Or.inr (Or.inr (Or.inr ⟨rfl, Or.inl ⟨k, hk, rfl⟩, hr⟩))))⟩)
        rw [e1, e2, bnd2_e, bnd2_e, letv_e, letv_e, add1]
        obtain ⟨w2, σ2, τ2, f1, f2, f3, f4, f5⟩ := ih (k + 1) w1 σ1 τ1 e3 (hd.kx h e4) (by rw [e5.2 21 (by omega) (by omega)]; exact h21) (by omega) (by omega)
        exact ⟨w2, σ2, τ2, f1, f2, f3, e4.trans f4, e5.trans f5⟩
      · rw [if_neg hb, if_pos rfl, if_pos rfl, letv_e, letv_e, add1]
        exact ih (k + 1) w σ τ h hd h21 (by omega) (by omega)
    · have : k = z 0 := by omega
      subst this
      rw [if_pos (nI_le (Nat.le_refl _) (by omega)), if_pos (nI_le (Nat.le_refl _) (by omega))]
      exact ⟨w, σ, τ, rfl, rfl, h, Kx.refl _, Km.refl _⟩
theorem p_postEnd (hz : zOK z) {σ0 : Sg} {τ0 : Tg} (h : Rel z bb w σ τ) {a t : Nat} (ha : a < z 1) (ht : t < z 2) {mi : Nat} (k13 : σ.1 13 mi = σ0.1 13 mi) (k36 : τ.1 36 = τ0.1 36) (hm1 : ∀ i, i < z 4 → ¬ mi = σ.2.2 12 i) (hm2 : ¬ mi = z 4) {r : Int32} (hr : r = 3 ∨ r = 4) (h21 : τ.1 21 (16 * a + t) = r) :
    Ps1 z bb mi σ0 τ0 (f_X0_postEnd z σ a (nI t) r) (bnd1 (f_X11_accept_L254 z (nI (z 0 + a)) (nI t) (nI (16 * a + t)) FU 0 τ) fun (s82 : Tg) => gdx (nI (16 * a + t)) (mlen 21) fun k96 => letv (s82.1 21 k96) fun v97 => bnd2 (f_X11_post z s82 6 ((nI (z 0)) + (nI (z 1))) (nI t) 0 0 v97 (nI (z 0 + a))) fun _ s100 => some (s100)) := by
  have hzz := hz
  unfold zOK at hzz
  unfold f_X0_postEnd
  rw [startDraft_e, bnd1_e, letv_e, (drf_up _ _ _ _ _ _ _).2.2]
  obtain ⟨w1, σ1, τ1, e1, e2, e3, e4, e5⟩ := postE_L hz ha ht hr FU 0 w _ τ (h.drf 6 (nI t) 0 0 r (nI (z 0 + a))) (drf_D _ _ _ _ _ _) h21 (Nat.zero_le _) (by have := FU_big; omega)
  rw [show f_X0_postEnd_L27 z a (nI t) FU 0 _ = some σ1 from e1, show f_X11_accept_L254 z (nI (z 0 + a)) (nI t) (nI (16 * a + t)) FU 0 τ = some τ1 from e2, bnd1_e, bnd1_e, show f_X7_client z σ1 = some (nI (z 0 + z 1)) by unfold f_X7_client; rw [nI_add], bnd1_e,
    gdx_n (n := mlen 21) (show 16 * a + t < 80 by omega) (by decide), letv_e, e5.2 21 (by omega) (by omega), h21, nI_add]
  have hd1 : Dft z σ1 6 (nI t) 0 0 r (nI (z 0 + a)) := (drf_D _ _ _ _ _ _).kx (h.drf 6 (nI t) 0 0 r (nI (z 0 + a))) e4
  obtain ⟨r', rm, w2, σ2, τ2, f1, f2, f3, f4, f5⟩ := p_pst hz e3 hd1 (nI (z 0 + z 1)) (by decide) (fun tb tv => ⟨⟨t, ht, rfl⟩, ⟨0, by omega, rfl⟩, Or.inr (Or.inr (Or.inr (Or.inr (Or.inr ⟨rfl, Or.inr rfl, hr⟩))))⟩)
  rw [f1, f2, bnd2_e, bnd2_e]
  refine ⟨w2, σ2, τ2, rfl, rfl, f3, ?_, ?_⟩
  · rw [((e4.trans f4).keep hm1).1, drf_o _ _ _ _ _ _ hm2, k13]
  · rw [(e5.trans f5).2 36 (by omega) (by omega), k36]
end ACPT
