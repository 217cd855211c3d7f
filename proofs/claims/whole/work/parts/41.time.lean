/-! timeout and play, whole -/
section TIME2
variable {z : Nat → Nat} {bb w : Nat} {σ : Sg} {τ : Tg}
theorem chainX {S0 S1 T U F : Prop} [Decidable S0] [Decidable S1] [Decidable T] [Decidable U] [Decidable F] {α : Type} (r : Int32 × α) (B : Option (Int32 × α)) (h : ¬ (¬ S0 ∧ ¬ S1 ∧ ¬ T ∧ ¬ U ∧ F)) : (if S0 then some r else if S1 then some r else if (if T then (1 : Int32) else 0) = 0 then bnd2 (if U then some r else if F then B else some r) (fun a b => some (a, b)) else some r) = some r := by
  by_cases h0 : S0
  · rw [if_pos h0]
  by_cases h1 : S1
  · rw [if_neg h0, if_pos h1]
  by_cases h2 : T
  · rw [if_neg h0, if_neg h1, if_pos h2, if_neg (by decide)]
  by_cases h3 : U
  · rw [if_neg h0, if_neg h1, if_neg h2, if_pos rfl, if_pos h3]; rfl
  by_cases h4 : F
  · exact absurd ⟨h0, h1, h2, h3, h4⟩ h
  · rw [if_neg h0, if_neg h1, if_neg h2, if_pos rfl, if_neg h3, if_neg h4]; rfl
theorem chainM {S0 S1 T U F : Prop} [Decidable S0] [Decidable S1] [Decidable T] [Decidable U] [Decidable F] {α : Type} (r : Int32 × α) (B : Option (Int32 × α)) (h : ¬ (¬ S0 ∧ ¬ S1 ∧ ¬ T ∧ ¬ U ∧ F)) : (if U then some r else if F then (if S0 then some r else if S1 then some r else if T then some r else B) else some r) = some r := by
  by_cases h3 : U
  · rw [if_pos h3]
  by_cases h4 : F
  · rw [if_neg h3, if_pos h4]
    by_cases h0 : S0
    · rw [if_pos h0]
    by_cases h1 : S1
    · rw [if_neg h0, if_pos h1]
    by_cases h2 : T
    · rw [if_neg h0, if_neg h1, if_pos h2]
    · exact absurd ⟨h0, h1, h2, h3, h4⟩ h
  · rw [if_neg h3, if_neg h4]
theorem max_e {x y : Int32} (hbb : bb < 50000) (hy : nb bb y) (hx : x = -1 ∨ nb bb x) : ∃ m, m ≤ bb ∧ (bnd1 (f_J9_max_7cf53 x y) fun r12 => f_J9_max_7cf53 0 r12) = some (nI m) ∧ (if x ≤ y then y else x) = nI m := by
  obtain ⟨p, p1, rfl⟩ := hy
  have m0 : ∀ m, m ≤ bb → f_J9_max_7cf53 0 (nI m) = some (nI m) := by
    intro m hm
    unfold f_J9_max_7cf53
    by_cases c : (0 : Int32) < nI m
    · rw [if_pos c]
    · rw [if_neg c]
      by_cases e : m = 0
      · subst e; rfl
      · exact absurd (show (0 : Int32) < nI m from nI_lt (a := 0) (by omega) (by omega)) c
  rcases hx with rfl | ⟨q, q1, rfl⟩
  · have h1 : (-1 : Int32) < nI p := by
      rw [Int32.lt_iff_toInt_lt, nI_toInt (by omega)]
      have : (-1 : Int32).toInt = -1 := by decide
      omega
    have h2 : (-1 : Int32) ≤ nI p := by
      rw [Int32.le_iff_toInt_le, nI_toInt (by omega)]
      have : (-1 : Int32).toInt = -1 := by decide
      omega
    refine ⟨p, p1, ?_, if_pos h2⟩
    rw [show f_J9_max_7cf53 (-1) (nI p) = some (nI p) by unfold f_J9_max_7cf53; rw [if_pos h1], bnd1_e, m0 p p1]
  · by_cases c : q < p
    · refine ⟨p, p1, ?_, if_pos (nI_le (by omega) (by omega))⟩
      rw [show f_J9_max_7cf53 (nI q) (nI p) = some (nI p) by unfold f_J9_max_7cf53; rw [if_pos (nI_lt c (by omega))], bnd1_e, m0 p p1]
    · refine ⟨q, q1, ?_, ?_⟩
      · rw [show f_J9_max_7cf53 (nI q) (nI p) = some (nI q) by unfold f_J9_max_7cf53; rw [if_neg (nI_nlt (by omega) (by omega))], bnd1_e, m0 q q1]
      · by_cases e : p = q
        · subst e
          rw [if_pos (nI_le (Nat.le_refl _) (by omega))]
        · rw [if_neg (nI_ge (by omega) (by omega))]
theorem p_timeout (hz : zOK z) (hbb : bb < 40000) (h : Rel z bb w σ τ) (x1 x2 : Int32) : ∃ r w' σ' τ', f_X10_timeout z σ x1 x2 = some (r, σ') ∧ f_X11_timeout z τ x1 x2 = some (r, τ') ∧ Rel z (bb + 5) w' σ' τ' := by
  have hzz := hz
  unfold zOK at hzz
  unfold f_X10_timeout f_X11_timeout
  rcases accAt (σ := σ) (τ := τ) hz x1 with ⟨e1, e2⟩ | ⟨a, ha, rfl, e1, e2⟩
  · rw [e1, e2, bnd1_e, bnd1_e, if_pos rfl]
    exact ⟨_, _, _, _, rfl, rfl, h.mono (by omega)⟩
  rw [e1, e2, bnd1_e, bnd1_e, if_neg (show ¬ (1 : Int32) = 0 by decide)]
  show ∃ r w' σ' τ', (gdr a (z 1) fun k3 => bnd1 (f_X10_isTxn z σ x2) fun r5 => if r5 = 0 then (some ((-1), σ)) else (gdx x2 (z 2) fun k7 => letv (σ.1 3 0 0 k7) fun v8 => if v8 = 0 then (some (0, σ)) else (if v8 = 1 then (some (0, σ)) else (bnd1 (f_X8_touchesNone z σ x2) fun r12 => if r12 = 0 then (bnd2 (f_X0_takeOver z σ k3 x2) fun r15 s16 => some (r15, s16)) else (some (0, σ)))))) = some (r, σ') ∧ _
  rw [gdr_n ha, isTxn_M (σ := σ) hz]
  rcases isTxn_c (σ := σ) hz x2 with e | ⟨t, ht, rfl, e⟩
  · rw [e, bnd1_e, if_pos rfl, bnd1_e, if_pos rfl]
    exact ⟨_, _, _, _, rfl, rfl, h.mono (by omega)⟩
  rw [e, bnd1_e, if_neg (show ¬ (1 : Int32) = 0 by decide), bnd1_e, if_neg (show ¬ (1 : Int32) = 0 by decide)]
  have i80 : 16 * a + t < 80 := by omega
  obtain ⟨u1, u2⟩ := h.2.2.2.2.2.2.2.2.2.1.2 a ha
  obtain ⟨p1, p2, p3, p4, p5, p6, p7⟩ := h.2.2.2.2.2.2.2.2.2.2.2.1 a t ha ht
  obtain ⟨g1, g2⟩ := h.2.2.1 t ht
  obtain ⟨q, q0, q1, q2, q3⟩ := h.2.2.2.2.2.2.2.2.2.2.1 (z 0 + a) (by omega)
  obtain ⟨m, m1, m2, m3⟩ := max_e (bb := bb) (by omega) p1 p2
  obtain ⟨N, N1, N2, N3, N4⟩ := own_X (σ := σ) hz ha (show m < 100000 by omega)
  have hn : f_X8_touchesNone z σ (nI t) = some (if σ.1 4 0 0 t = 0 then 1 else 0) := by
    unfold f_X8_touchesNone
    rw [gdx_n ht (by omega), letv_e]
    by_cases q : σ.1 4 0 0 t = 0
    · rw [if_pos q, if_pos q]
    · rw [if_neg q, if_neg q]
  unfold f_X0_takeOver
  rw [gdx_n ht (by omega), letv_e, hn, bnd1_e, gdx_n ht (by omega), letv_e, letv_e]
  rw [pk_sub (by omega), show z 0 + a - z 0 = a by omega, mul16, nI_add, letv_e (nI (16 * a + t)), gdx_n (n := mlen 6) (show z 0 + a < 9 by omega) (by decide), letv_e (τ.1 6 (z 0 + a)), u1, gdx_n (n := mlen 21) (show 16 * a + t < 80 from i80) (by decide), letv_e (τ.1 21 (16 * a + t)), p6,
    gdx_n (n := mlen 12) (show t < 16 by omega) (by decide), letv_e (τ.1 12 t), g1, gdx_n (n := mlen 12) (show t < 16 by omega) (by decide), letv_e (τ.1 12 t), g1, gdx_n (n := mlen 13) (show t < 16 by omega) (by decide), letv_e (τ.1 13 t), g2]
  by_cases ok : ¬ σ.1 3 0 0 t = 0 ∧ ¬ σ.1 3 0 0 t = 1 ∧ ¬ σ.1 4 0 0 t = 0 ∧ ¬ σ.1 25 a 0 4 = 0 ∧ σ.1 27 a t 3 = 0
  · obtain ⟨o1, o2, o3, o4, o5⟩ := ok
    rw [if_neg o1, if_neg o2, if_neg o3, if_pos rfl, if_neg o4, if_pos o5, if_neg o4, if_pos o5, if_neg o1, if_neg o2, if_neg o3, full_e hz q1 q0, bnd1_e,
      gdx_n (n := mlen 20) (show 16 * a + t < 80 from i80) (by decide), letv_e (τ.1 20 (16 * a + t)), p5, gdx_n (n := mlen 19) (show 16 * a + t < 80 from i80) (by decide), letv_e (τ.1 19 (16 * a + t)), p4, gdx_n (n := mlen 19) (show 16 * a + t < 80 from i80) (by decide), letv_e (τ.1 19 (16 * a + t)), p4, gdx_n (n := mlen 20) (show 16 * a + t < 80 from i80) (by decide), letv_e (τ.1 20 (16 * a + t)), p5]
    have hit : ∀ K : Int32 → Option (Int32 × Tg), bnd1 (α := Int32) (if σ.1 27 a t 2 ≤ σ.1 27 a t 1 then some (σ.1 27 a t 1) else some (σ.1 27 a t 2)) K = K (nI m) := by
      intro K
      rw [← m3]
      by_cases c : σ.1 27 a t 2 ≤ σ.1 27 a t 1
      · rw [if_pos c, if_pos c]; rfl
      · rw [if_neg c, if_neg c]; rfl
    rw [hit, letv_e (nI a)]
    have hF := FU_big
    have haN : a ≤ N := by rw [← N3]; exact Nat.mod_le _ _
    rw [own_M hz (by omega) N1 N2 _ _ _ FU a (by rw [N3]; exact Nat.mod_eq_of_lt ha) haN (by omega), bnd1_e]
    by_cases c5 : q < z 5
    · have hb := (h.mono (show bb ≤ bb + 5 by omega)).begun hz ha ht c5 q1 (N := N) (by omega) (nI t) (nI N) 0 _ _ rfl rfl
      rw [if_pos c5, if_pos rfl, letv_e, letv_e]
      have hm2 : ∀ K : Int32 → Option (Int32 × Sg), (bnd1 (f_J9_max_7cf53 (σ.1 27 a t 2) (σ.1 27 a t 1)) fun r12 => bnd1 (f_J9_max_7cf53 0 r12) K) = K (nI m) := by
        intro K
        have e : (bnd1 (f_J9_max_7cf53 (σ.1 27 a t 2) (σ.1 27 a t 1)) fun r12 => bnd1 (f_J9_max_7cf53 0 r12) K) = bnd1 (bnd1 (f_J9_max_7cf53 (σ.1 27 a t 2) (σ.1 27 a t 1)) fun r12 => f_J9_max_7cf53 0 r12) K := by
          cases f_J9_max_7cf53 (σ.1 27 a t 2) (σ.1 27 a t 1) <;> rfl
        rw [e, m2, bnd1_e]
      have hl := lead_X (σ := σ) hz (a := a) (t := t) (nI N) (σ.1 27) (σ.1 30) (σ.1 31) (σ.1 32) (σ.1 33)
      rw [setX_id] at hl
      rw [hm2, N4, bnd1_e, hl, bnd1_e]
      generalize hL : setX σ (fun i j k => if i = a ∧ j = t ∧ k = 4 then 0 else if i = a ∧ j = t ∧ k = 2 then nI N else σ.1 27 i j k) (fun i j k => if i = a ∧ j = t ∧ k < z 0 then -1 else σ.1 30 i j k) (fun i j k => if i = a ∧ j = t ∧ k < z 0 then 0 else σ.1 31 i j k) (fun i j k => if i = a ∧ j = t ∧ k < z 0 then 0 else σ.1 32 i j k) (fun i j k => if i = a ∧ j = t ∧ k < z 0 then 0 else σ.1 33 i j k) = L at hb
      have hL18 : L.1 18 (z 0 + a) 0 1 = nI q := by rw [← hL]; exact q1
      have hP : f_X0_promise z L a (nI t) (nI N) = some (upI (setF (setF L 18 (pu18 (L.1 18) (z 0 + a) q)) 20 (pu20 (L.1 20) (z 0 + a) q 3 (nI t) (nI N) 0)) 27 a t 1 (nI N)) := by
        unfold f_X0_promise
        rw [put_e hz hL18 c5, bnd1_e, gdx_n ht (by omega), letv_e]
      rw [hP, bnd1_e, startDraft_e, bnd1_e, letv_e, (drf_up _ _ _ _ _ _ _).1]
      rw [writes_e hz (by omega) q2 c5, bnd2_e, if_neg (show ¬ (1 : Int32) = 0 by decide), gdx_n (n := mlen 19) (show 16 * a + t < 80 from i80) (by decide), letv_e (tpI _ _ _ _), gdx_n (n := mlen 20) (show 16 * a + t < 80 from i80) (by decide), letv_e (tpI _ _ _ _), begins_e i80, bnd1_e]
      obtain ⟨w', σ', τ', y1, y2, y3, y4, y5⟩ := p_postAll hz (hb.drf 4 (nI t) (nI N) 0 0 (nI (z 0 + a))) (drf_D _ _ _ _ _ _) (by decide) (fun a2 ha2 tb tv => ⟨⟨t, ht, rfl⟩, ⟨N, by omega, rfl⟩, Or.inr (Or.inr (Or.inr (Or.inl ⟨rfl, a2, ha2, rfl⟩)))⟩)
      rw [y1, y2, bnd1_e, bnd1_e, bnd2_e]
      exact ⟨_, _, _, _, rfl, rfl, y3⟩
    · have eq5 : q = z 5 := by omega
      rw [if_neg c5, if_neg (show ¬ (1 : Int32) = 0 by decide), bnd2_e, writes_f hz (by omega) (by rw [q2, eq5]), bnd2_e, if_pos rfl]
      exact ⟨_, _, _, _, rfl, rfl, h.mono (by omega)⟩
  · refine ⟨0, w, σ, τ, ?_, ?_, h.mono (by omega)⟩
    · exact chainX (0, σ) _ ok
    · exact chainM (0, τ) _ ok
theorem play_L (hz : zOK z) (hbb : bb < 50000) {c : Nat} (hc : c ≤ 400) : ∀ (n k w : Nat) (y : Int64) (σ : Sg) (τ : Tg), Rel z bb w σ τ → k ≤ c → c < k + n → ∃ r w' σ' τ', f_X10_play_L19 z (nI c) n y (nI k) σ = some (r, σ') ∧ f_X11_play_L19 z (nI c) n y (nI k) τ = some (r, τ') ∧ Rel z bb w' σ' τ' := by
  have hzz := hz
  unfold zOK at hzz
  intro n
  induction n with
  | zero => intro k w y σ τ h h1 h2; omega
  | succ n ih =>
    intro k w y σ τ h h1 h2
    have hw := h.1.1
    rw [f_X10_play_L19, f_X11_play_L19]
    by_cases hk : k < c
    · rw [if_neg (nI_ge hk (by omega)), if_neg (nI_ge hk (by omega))]
      simp only [letv_e]
      rw [h.1.2.1, h.1.2.2]
      by_cases hw0 : w = 0
      · subst hw0
        have e0 : nI 0 ≤ 0 := by decide
        rw [if_pos e0, if_pos e0]
        exact ⟨_, _, _, _, rfl, rfl, h⟩
      · have hn0 : ¬ nI w ≤ 0 := fun q => by
          rw [Int32.le_iff_toInt_le, nI_toInt (by omega), Int32.toInt_zero] at q
          omega
        rw [if_neg hn0, if_neg hn0]
        obtain ⟨j, j1, j2⟩ := pk_andE ((lushr ((y * 6364136223846793005) + 1442695040888963407) 32).toInt32) (m := 2147483647) 31 (by decide)
        rw [j2, gnz_n (by omega) (by omega), gnz_n (by omega) (by omega), pk_rem (by omega) (by omega) (by omega)]
        obtain ⟨r, w', σ', τ', g1, g2, g3⟩ := p_hand hz hbb h (i := j % w) (Nat.mod_lt _ (by omega))
        rw [g1, g2, bnd2_e, bnd2_e, add1]
        exact ih (k + 1) w' _ σ' τ' g3 (by omega) (by omega)
    · have : k = c := by omega
      subst this
      rw [if_pos (nI_le (Nat.le_refl _) (by omega)), if_pos (nI_le (Nat.le_refl _) (by omega))]
      exact ⟨_, _, _, _, rfl, rfl, h⟩
theorem p_play (hz : zOK z) (hbb : bb < 50000) (h : Rel z bb w σ τ) (x1 : Int64) (x2 : Int32) : ∃ r w' σ' τ', f_X10_play z σ x1 x2 = some (r, σ') ∧ f_X11_play z τ x1 x2 = some (r, τ') ∧ Rel z bb w' σ' τ' := by
  have hin : f_X11_in x2 0 400 = if x2 < 0 then some 0 else if x2 ≤ 400 then some 1 else some 0 := by
    unfold f_X11_in
    by_cases c : x2 < 0
    · rw [if_pos c, if_pos c]
    · rw [if_neg c, if_neg c]
      by_cases d : x2 ≤ 400
      · rw [if_pos d, if_neg (fun q => by
          rw [Int32.lt_iff_toInt_lt] at q
          rw [Int32.le_iff_toInt_le] at d
          omega)]
      · rw [if_neg d, if_pos (by
          rw [Int32.lt_iff_toInt_lt]
          rw [Int32.le_iff_toInt_le] at d
          omega)]
  unfold f_X10_play f_X11_play
  rw [hin]
  by_cases c : x2 < 0
  · rw [if_pos c, if_pos c, bnd1_e, if_pos rfl]
    exact ⟨_, _, _, _, rfl, rfl, h⟩
  · rw [if_neg c, if_neg c]
    by_cases d : x2 ≤ 400
    · rw [if_pos d, if_pos d, bnd1_e, if_neg (show ¬ (1 : Int32) = 0 by decide)]
      obtain ⟨j, j1, rfl⟩ := nI_of2 (M := 400) (n := 400) (by decide) c d
      obtain ⟨r, w', σ', τ', g1, g2, g3⟩ := play_L hz hbb j1 FU 0 w x1 σ τ h (Nat.zero_le _) (by have := FU_big; omega)
      rw [show f_X10_play_L19 z (nI j) FU x1 0 σ = some (r, σ') from g1, show f_X11_play_L19 z (nI j) FU x1 0 τ = some (r, τ') from g2, bnd2_e, bnd2_e]
      exact ⟨_, _, _, _, rfl, rfl, g3⟩
    · rw [if_neg d, if_neg d, bnd1_e, if_pos rfl]
      exact ⟨_, _, _, _, rfl, rfl, h⟩
end TIME2
