/-! drafts and rounds of messages -/
theorem mW.congr {z : Nat → Nat} {bb : Nat} {f g tb tv : Nat → Int32} (hc : ∀ c, c < 7 → f c = g c) (h : mW z bb f tb tv) : mW z bb g tb tv := by
  unfold mW at h ⊢
  rw [hc 0 (by omega), hc 1 (by omega), hc 2 (by omega), hc 3 (by omega), hc 4 (by omega), hc 5 (by omega), hc 6 (by omega)] at h
  exact h
def drf (z : Nat → Nat) (σ : Sg) (x0 x2 x3 x4 x5 x6 : Int32) : Sg := setF σ 13 (fun m j c => if m = z 4 ∧ j = 0 ∧ c < 7 ∧ ¬ c = 1 then row7 x0 0 x2 x3 x4 x5 x6 c else σ.1 13 m j c)
def Dft (z : Nat → Nat) (σ : Sg) (x0 x2 x3 x4 x5 x6 : Int32) : Prop := ∀ c, c < 7 → ¬ c = 1 → σ.1 13 (z 4) 0 c = row7 x0 0 x2 x3 x4 x5 x6 c
theorem row7_0 (x1 x2 x3 x4 x5 x6 x7 : Int32) : row7 x1 x2 x3 x4 x5 x6 x7 0 = x1 := rfl
theorem Kx.keep {z : Nat → Nat} {σ σ' : Sg} (h : Kx z σ σ') {mi : Nat} (hm : ∀ i, i < z 4 → ¬ mi = σ.2.2 12 i) : σ'.1 13 mi = σ.1 13 mi ∧ σ'.1 14 mi = σ.1 14 mi ∧ σ'.1 15 mi = σ.1 15 mi :=
  ⟨funext fun j => funext fun c => (h.2.2 mi j c hm).1, funext fun j => funext fun c => (h.2.2 mi j c hm).2.1, funext fun j => funext fun c => (h.2.2 mi j c hm).2.2⟩
section DRAFT
variable {z : Nat → Nat} {bb w : Nat} {σ : Sg} {τ : Tg}
theorem drf_D (x0 x2 x3 x4 x5 x6 : Int32) : Dft z (drf z σ x0 x2 x3 x4 x5 x6) x0 x2 x3 x4 x5 x6 := by
  intro c hc h1
  show (if z 4 = z 4 ∧ 0 = 0 ∧ c < 7 ∧ ¬ c = 1 then row7 x0 0 x2 x3 x4 x5 x6 c else σ.1 13 (z 4) 0 c) = _
  have p : z 4 = z 4 ∧ 0 = 0 ∧ c < 7 ∧ ¬ c = 1 := ⟨rfl, rfl, hc, h1⟩
  rw [if_pos p]
theorem drf_o (x0 x2 x3 x4 x5 x6 : Int32) {m : Nat} (hm : ¬ m = z 4) : (drf z σ x0 x2 x3 x4 x5 x6).1 13 m = σ.1 13 m := by
  funext j c
  show (if m = z 4 ∧ j = 0 ∧ c < 7 ∧ ¬ c = 1 then row7 x0 0 x2 x3 x4 x5 x6 c else σ.1 13 m j c) = _
  rw [if_neg (fun q => hm q.1)]
theorem startDraft_e (x1 x2 x3 : Int32) : f_X5_startDraft z σ x1 x2 x3 = some (drf z σ x1 x2 0 0 0 x3) := by
  unfold f_X5_startDraft drf
  simp only [letv_e, upI_F, setF_at, setF_setF]
  refine congrArg (fun g => some (setF σ 13 g)) ?_
  funext m j c
  by_cases e : m = z 4 ∧ j = 0
  · obtain ⟨e1, e2⟩ := e
    subst e1; subst e2
    by_cases h7 : c < 7
    · rcases (show c = 0 ∨ c = 1 ∨ c = 2 ∨ c = 3 ∨ c = 4 ∨ c = 5 ∨ c = 6 by omega) with rfl | rfl | rfl | rfl | rfl | rfl | rfl <;> simp [row7]
    · have n0 : ∀ q, q < 7 → ¬ c = q := fun q hq r => h7 (by omega)
      simp only [true_and, n0 6 (by omega), n0 5 (by omega), n0 4 (by omega), n0 3 (by omega), n0 2 (by omega), n0 1 (by omega), n0 0 (by omega), if_false, h7, false_and]
  · have a1 : ∀ P : Prop, (m = z 4 ∧ j = 0 ∧ P) ↔ False := fun P => ⟨fun r => e ⟨r.1, r.2.1⟩, False.elim⟩
    simp only [a1, if_false]
theorem drf_up (x0 x2 x3 x4 x5 x6 v : Int32) : upI (drf z σ x0 x2 x3 x4 x5 x6) 13 (z 4) 0 3 v = drf z σ x0 x2 v x4 x5 x6 ∧ upI (drf z σ x0 x2 x3 x4 x5 x6) 13 (z 4) 0 4 v = drf z σ x0 x2 x3 v x5 x6 ∧ upI (drf z σ x0 x2 x3 x4 x5 x6) 13 (z 4) 0 5 v = drf z σ x0 x2 x3 x4 v x6 := by
  unfold drf
  simp only [upI_setF]
  refine ⟨?_, ?_, ?_⟩ <;>
  · refine congrArg (setF σ 13) ?_
    funext m j c
    by_cases e : m = z 4 ∧ j = 0
    · obtain ⟨e1, e2⟩ := e
      subst e1; subst e2
      by_cases h7 : c < 7
      · rcases (show c = 0 ∨ c = 1 ∨ c = 2 ∨ c = 3 ∨ c = 4 ∨ c = 5 ∨ c = 6 by omega) with rfl | rfl | rfl | rfl | rfl | rfl | rfl <;> simp [row7]
      · have n0 : ∀ q, q < 7 → ¬ c = q := fun q hq r => h7 (by omega)
        simp only [true_and, n0 5 (by omega), n0 4 (by omega), n0 3 (by omega), if_false, h7, false_and]
    · have a1 : ∀ P : Prop, (m = z 4 ∧ j = 0 ∧ P) ↔ False := fun P => ⟨fun r => e ⟨r.1, r.2.1⟩, False.elim⟩
      simp only [a1, if_false]
theorem startVote_e (x1 x2 x3 x4 x5 x6 : Int32) : f_X5_startDraftOfVote z σ x1 x2 x3 x4 x5 x6 = some (drf z σ x1 x2 x4 x5 x6 x3) := by
  unfold f_X5_startDraftOfVote
  rw [startDraft_e, bnd1_e]
  simp only [letv_e, (drf_up _ _ _ _ _ _ _).1, (drf_up _ _ _ _ _ _ _).2.1, (drf_up _ _ _ _ _ _ _).2.2]
/-- messages off the pool do not matter -/
theorem Rel.pool (h : Rel z bb w σ τ) {σ' : Sg} (h2 : σ'.2 = σ.2) (h1 : ∀ f, ¬ f = 13 → ¬ f = 14 → ¬ f = 15 → σ'.1 f = σ.1 f) (hm : ∀ m, ¬ m = z 4 → σ'.1 13 m = σ.1 13 m ∧ σ'.1 14 m = σ.1 14 m ∧ σ'.1 15 m = σ.1 15 m) : Rel z bb w σ' τ := by
  obtain ⟨a1, a2, a3, a4, a5, a6, a7, a8, a9, a10, a11, a12, a13, a14, a15, a16, a17⟩ := h
  have hf : ∀ f, (¬ f = 13 ∧ ¬ f = 14 ∧ ¬ f = 15) → σ'.1 f = σ.1 f := fun f q => h1 f q.1 q.2.1 q.2.2
  unfold Rel
  rw [h2, hf 0 (by omega), hf 3 (by omega), hf 4 (by omega), hf 8 (by omega), hf 11 (by omega), hf 17 (by omega), hf 18 (by omega), hf 20 (by omega), hf 21 (by omega), hf 22 (by omega), hf 23 (by omega), hf 25 (by omega), hf 27 (by omega), hf 28 (by omega), hf 29 (by omega), hf 30 (by omega), hf 31 (by omega), hf 32 (by omega), hf 33 (by omega)]
  refine ⟨a1, a2, a3, a4, a5, a6, a7, a8, a9, a10, a11, a12, a13, a14, a15, a16, fun i hi => ?_⟩
  have hw := a1.1
  obtain ⟨b1, b2, b3⟩ := hm _ (a16.1 i (by omega)).2.1
  rw [b1, b2, b3]
  exact a17 i hi
theorem Rel.drf (h : Rel z bb w σ τ) (x0 x2 x3 x4 x5 x6 : Int32) : Rel z bb w (drf z σ x0 x2 x3 x4 x5 x6) τ := by
  refine h.pool rfl (fun f h1 _ _ => if_neg h1) (fun m hm => ⟨drf_o _ _ _ _ _ _ hm, ?_, ?_⟩)
  · rfl
  · rfl
theorem Rel.npl (h : Rel z bb w σ τ) : ∀ i, i < z 4 → ¬ z 4 = σ.2.2 12 i := fun i hi q => (h.2.2.2.2.2.2.2.2.2.2.2.2.2.2.2.1.1 i hi).2.1 q.symm
theorem Rel.nhd (h : Rel z bb w σ τ) : ∀ i, i < z 4 → ¬ σ.2.2 11 3 = σ.2.2 12 i := fun i hi q => (h.2.2.2.2.2.2.2.2.2.2.2.2.2.2.2.1.1 i hi).2.2 q.symm
theorem Dft.kx {σ' : Sg} {x0 x2 x3 x4 x5 x6 : Int32} (hd : Dft z σ x0 x2 x3 x4 x5 x6) (h : Rel z bb w σ τ) (k : Kx z σ σ') : Dft z σ' x0 x2 x3 x4 x5 x6 := by
  intro c hc h1
  rw [(k.keep h.npl).1]
  exact hd c hc h1
/-- the draft is posted -/
theorem p_pst (hz : zOK z) (h : Rel z bb w σ τ) {x0 x2 x3 x4 x5 x6 : Int32} (hd : Dft z σ x0 x2 x3 x4 x5 x6) (to : Int32) (h5 : ¬ x0 = 5) (hW : ∀ tb tv, mW z bb (row7 x0 to x2 x3 x4 x5 x6) tb tv) :
    ∃ r rm w' σ' τ', f_X5_post z σ (z 4) to = some (r, σ') ∧ f_X11_post z τ x0 to x2 x3 x4 x5 x6 = some (rm, τ') ∧ Rel z bb w' σ' τ' ∧ Kx z σ σ' ∧ Km τ τ' := by
  have d0 : σ.1 13 (z 4) 0 0 = x0 := hd 0 (by omega) (by omega)
  have hW' : mW z bb (fun c => if c = 1 then to else σ.1 13 (z 4) 0 c) (σ.1 14 (z 4) 0) (σ.1 15 (z 4) 0) := by
    refine (hW _ _).congr (fun c hc => ?_)
    by_cases h1 : c = 1
    · subst h1; rfl
    · rw [if_neg h1, hd c hc h1]
      unfold row7
      by_cases h0 : c = 0
      · rw [if_pos h0, if_pos h0]
      · rw [if_neg h0, if_neg h0, if_neg h1, if_neg h1]
  obtain ⟨σ', τ', e1, e2, e3, e4, e5⟩ := p_post hz h (mi := z 4) (fun i _ hi => h.npl i hi) to hW' (τ.1 31) (fun _ _ => rfl) (fun _ q => absurd (d0.symm.trans q) h5)
  have d2 : σ.1 13 (z 4) 0 2 = x2 := hd 2 (by omega) (by omega)
  have d3 : σ.1 13 (z 4) 0 3 = x3 := hd 3 (by omega) (by omega)
  have d4 : σ.1 13 (z 4) 0 4 = x4 := hd 4 (by omega) (by omega)
  have d5 : σ.1 13 (z 4) 0 5 = x5 := hd 5 (by omega) (by omega)
  have d6 : σ.1 13 (z 4) 0 6 = x6 := hd 6 (by omega) (by omega)
  rw [d0, d2, d3, d4, d5, d6] at e2
  have t31 : τ'.1 31 = τ.1 31 := e5.2 31 (by omega) (by omega)
  rw [← t31, setT_id] at e3
  exact ⟨_, _, _, σ', τ', e1, e2, e3, e4, e5⟩
theorem postAll_L (hz : zOK z) {x0 x2 x3 x4 x5 x6 : Int32} (h5 : ¬ x0 = 5) (hW : ∀ a, a < z 1 → ∀ tb tv, mW z bb (row7 x0 (nI (z 0 + a)) x2 x3 x4 x5 x6) tb tv) : ∀ (n k w : Nat) (σ : Sg) (τ : Tg), Rel z bb w σ τ → Dft z σ x0 x2 x3 x4 x5 x6 → k ≤ z 1 → z 1 < k + n →
    ∃ w' σ' τ', f_X5_postDraftToAcceptors_L2 z n (nI k) σ = some σ' ∧ f_X11_postAll_L3 z x0 x2 x3 x4 x5 x6 n (nI k) τ = some τ' ∧ Rel z bb w' σ' τ' ∧ Kx z σ σ' ∧ Km τ τ' := by
  have hzz := hz
  unfold zOK at hzz
  intro n
  induction n with
  | zero => intro k w σ τ h hd h1 h2; omega
  | succ n ih =>
    intro k w σ τ h hd h1 h2
    rw [f_X5_postDraftToAcceptors_L2, f_X11_postAll_L3]
    by_cases hk : k < z 1
    · rw [if_neg (nI_ge hk (by omega)), if_neg (nI_ge hk (by omega)), nI_add]
      obtain ⟨r, rm, w1, σ1, τ1, e1, e2, e3, e4, e5⟩ := p_pst hz h hd (nI (z 0 + k)) h5 (hW k hk)
      rw [e1, e2, bnd2_e, bnd2_e, letv_e, letv_e, add1]
      obtain ⟨w2, σ2, τ2, f1, f2, f3, f4, f5⟩ := ih (k + 1) w1 σ1 τ1 e3 (hd.kx h e4) (by omega) (by omega)
      exact ⟨w2, σ2, τ2, f1, f2, f3, e4.trans f4, e5.trans f5⟩
    · have : k = z 1 := by omega
      subst this
      rw [if_pos (nI_le (Nat.le_refl _) (by omega)), if_pos (nI_le (Nat.le_refl _) (by omega))]
      exact ⟨w, σ, τ, rfl, rfl, h, Kx.refl _, Km.refl _⟩
theorem p_postAll (hz : zOK z) (h : Rel z bb w σ τ) {x0 x2 x3 x4 x5 x6 : Int32} (hd : Dft z σ x0 x2 x3 x4 x5 x6) (h5 : ¬ x0 = 5) (hW : ∀ a, a < z 1 → ∀ tb tv, mW z bb (row7 x0 (nI (z 0 + a)) x2 x3 x4 x5 x6) tb tv) :
    ∃ w' σ' τ', f_X5_postDraftToAcceptors z σ = some σ' ∧ f_X11_postAll z τ x0 x2 x3 x4 x5 x6 = some τ' ∧ Rel z bb w' σ' τ' ∧ Kx z σ σ' ∧ Km τ τ' := by
  have hzz := hz
  unfold zOK at hzz
  unfold f_X5_postDraftToAcceptors f_X11_postAll
  obtain ⟨w2, σ2, τ2, f1, f2, f3, f4, f5⟩ := postAll_L hz h5 hW FU 0 w σ τ h hd (Nat.zero_le _) (by have := FU_big; omega)
  rw [show f_X5_postDraftToAcceptors_L2 z FU 0 σ = some σ2 from f1, show f_X11_postAll_L3 z x0 x2 x3 x4 x5 x6 FU 0 τ = some τ2 from f2, bnd1_e, bnd1_e]
  exact ⟨w2, σ2, τ2, rfl, rfl, f3, f4, f5⟩
/-- to the shards touched -/
theorem reqC_L (hz : zOK z) {t : Nat} (ht : t < z 2) : ∀ (n k w : Nat) (y : Int32) (σ : Sg) (τ : Tg), Rel z bb w σ τ → Dft z σ 1 (nI t) 0 0 0 (nI (z 0 + z 1)) → k ≤ z 0 → z 0 < k + n →
    ∃ r w' σ' τ', f_X10_requestCommit_L70 z (nI t) n y (nI k) σ = some (r, σ') ∧ f_X11_requestCommit_L46 z (nI t) n y (nI k) τ = some (r, τ') ∧ Rel z bb w' σ' τ' := by
  have hzz := hz
  unfold zOK at hzz
  intro n
  induction n with
  | zero => intro k w y σ τ h hd h1 h2; omega
  | succ n ih =>
    intro k w y σ τ h hd h1 h2
    rw [f_X10_requestCommit_L70, f_X11_requestCommit_L46]
    by_cases hk : k < z 0
    · rw [if_neg (nI_ge hk (by omega)), if_neg (nI_ge hk (by omega)), touches_X hz ht (by omega), touches_M hz h ht (by omega), bnd1_e, bnd1_e]
      by_cases hb : bt (σ.1 4 0 0 t) k = true
      · rw [if_pos hb, if_neg (by decide), if_neg (by decide), nI_add]
        obtain ⟨r, rm, w1, σ1, τ1, e1, e2, e3, e4, e5⟩ := p_pst hz h hd (nI k) (by decide) (fun tb tv => ⟨⟨t, ht, rfl⟩, ⟨0, by omega, rfl⟩, Or.inl ⟨rfl, k, hk, rfl⟩⟩)
        rw [e1, e2, bnd2_e, bnd2_e, letv_e, letv_e, letv_e, letv_e, add1]
        exact ih (k + 1) w1 _ σ1 τ1 e3 (hd.kx h e4) (by omega) (by omega)
      · rw [if_neg hb, if_pos rfl, if_pos rfl, letv_e, letv_e, add1]
        exact ih (k + 1) w _ σ τ h hd (by omega) (by omega)
    · have : k = z 0 := by omega
      subst this
      rw [if_pos (nI_le (Nat.le_refl _) (by omega)), if_pos (nI_le (Nat.le_refl _) (by omega))]
      exact ⟨y, w, σ, τ, rfl, rfl, h⟩
theorem p_requestCommit (hz : zOK z) (h : Rel z bb w σ τ) (x : Int32) : ∃ r w' σ' τ', f_X10_requestCommit z σ x = some (r, σ') ∧ f_X11_requestCommit z τ x = some (r, τ') ∧ Rel z bb w' σ' τ' := by
  have hzz := hz
  unfold zOK at hzz
  unfold f_X10_requestCommit f_X11_requestCommit
  rw [isTxn_M (σ := σ) hz]
  rcases isTxn_c (σ := σ) hz x with e | ⟨t, ht, rfl, e⟩
  · simp only [e, bnd1_e, if_true]
    exact ⟨_, _, _, _, rfl, rfl, h⟩
  · obtain ⟨g1, g2⟩ := h.2.2.1 t ht
    simp only [e, bnd1_e, i10, if_false]
    rw [gdx_n (n := mlen 12) (show t < 16 by omega) (by decide), gdx_n ht (by omega), letv_e, letv_e, g1]
    by_cases hq : σ.1 3 0 0 t = 1
    · rw [if_pos hq, if_pos hq, gdx_n (n := mlen 13) (show t < 16 by omega) (by decide), letv_e, g2]
      have hn : f_X8_touchesNone z σ (nI t) = some (if σ.1 4 0 0 t = 0 then 1 else 0) := by
        unfold f_X8_touchesNone
        rw [gdx_n ht (by omega), letv_e]
        by_cases q : σ.1 4 0 0 t = 0
        · rw [if_pos q, if_pos q]
        · rw [if_neg q, if_neg q]
      rw [hn, bnd1_e]
      have key : ∀ v : Int32, (∃ r w' σ' τ', (letv (upI σ 3 0 0 t v) fun s14 => bnd1 (f_X7_client z s14) fun r16 => bnd1 (f_X5_startDraft z s14 1 (nI t) r16) fun s18 => bnd2 (f_X10_requestCommit_L70 z (nI t) FU 0 0 s18) fun (v22 : Int32) (s23 : Sg) => some (v22, s23)) = some (r, σ') ∧ (letv (tpI τ 12 t v) fun s14 => bnd2 (f_X11_requestCommit_L46 z (nI t) FU 0 0 s14) fun (v18 : Int32) (s19 : Tg) => some (v18, s19)) = some (r, τ') ∧ Rel z bb w' σ' τ') := by
        intro v
        rw [letv_e, letv_e, show f_X7_client z (upI σ 3 0 0 t v) = some (nI (z 0 + z 1)) by unfold f_X7_client; rw [nI_add], bnd1_e, startDraft_e, bnd1_e]
        obtain ⟨r, w2, σ2, τ2, f1, f2, f3⟩ := reqC_L hz ht FU 0 w 0 _ _ ((h.st ht v).drf 1 (nI t) 0 0 0 (nI (z 0 + z 1))) (drf_D _ _ _ _ _ _) (Nat.zero_le _) (by have := FU_big; omega)
        rw [show f_X10_requestCommit_L70 z (nI t) FU 0 0 _ = some (r, σ2) from f1, show f_X11_requestCommit_L46 z (nI t) FU 0 0 _ = some (r, τ2) from f2, bnd2_e, bnd2_e]
        exact ⟨r, w2, σ2, τ2, rfl, rfl, f3⟩
      by_cases q : σ.1 4 0 0 t = 0
      · rw [if_pos q, if_pos q, if_neg (by decide), bnd1_e, bnd1_e, gdx_n ht (by omega), gdx_n (n := mlen 12) (show t < 16 by omega) (by decide)]
        exact key 3
      · rw [if_neg q, if_neg q, if_pos rfl, bnd1_e, bnd1_e, gdx_n ht (by omega), gdx_n (n := mlen 12) (show t < 16 by omega) (by decide)]
        exact key 2
    · rw [if_neg hq, if_neg hq]
      exact ⟨_, _, _, _, rfl, rfl, h⟩
end DRAFT
