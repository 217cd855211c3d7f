/-! a shard hears the end -/
section ENDS
variable {z : Nat → Nat} {bb w : Nat} {σ : Sg} {τ : Tg}
theorem upL_setL (σ : Sg) (f i j k : Nat) (g : Nat → Nat → Nat → Int64) (v : Int64) : upL (setL σ f g) f i j k v = setL σ f (fun i' j' k' => if i' = i ∧ j' = j ∧ k' = k then v else g i' j' k') := by
  unfold upL setL
  refine Prod.ext rfl (Prod.ext (funext fun f' => funext fun i' => funext fun j' => funext fun k' => ?_) rfl)
  by_cases h : f' = f
  · subst h; simp
  · simp [h]
theorem setL_id (σ : Sg) (f : Nat) : setL σ f (σ.2.1 f) = σ := by
  unfold setL
  refine Prod.ext rfl (Prod.ext (funext fun f' => ?_) rfl)
  show (if f' = f then σ.2.1 f else σ.2.1 f') = σ.2.1 f'
  by_cases h : f' = f
  · rw [if_pos h, h]
  · rw [if_neg h]
theorem setL_at (σ : Sg) (f : Nat) (g : Nat → Nat → Nat → Int64) : (setL σ f g).2.1 f = g := if_pos rfl
theorem tpL_setU (τ : Tg) (f k : Nat) (g : Nat → Int64) (v : Int64) : tpL (setU τ f g) f k v = setU τ f (fun k' => if k' = k then v else g k') := by
  unfold tpL setU
  refine Prod.ext rfl (funext fun f' => funext fun k' => ?_)
  by_cases h : f' = f
  · subst h; simp
  · simp [h]
theorem setU_id (τ : Tg) (f : Nat) : setU τ f (τ.2 f) = τ := by
  unfold setU
  refine Prod.ext rfl (funext fun f' => ?_)
  show (if f' = f then τ.2 f else τ.2 f') = τ.2 f'
  by_cases h : f' = f
  · rw [if_pos h, h]
  · rw [if_neg h]
theorem setU_at (τ : Tg) (f : Nat) (g : Nat → Int64) : (setU τ f g).2 f = g := if_pos rfl
theorem inst_L (hz : zOK z) {s t : Nat} (hs : s < z 0) (ht : t < z 2) : ∀ (n k : Nat) (h : Nat → Nat → Nat → Int64), k ≤ z 3 → z 3 < k + n →
    f_X1_install_L2 z (nI t) (nI s) n (nI k) (setL σ 6 h) = some (setL σ 6 (fun i j k' => if i = 0 ∧ j = 0 ∧ k ≤ k' ∧ k' < z 3 ∧ k' % z 0 = s ∧ σ.1 8 t 0 k' = 2 then σ.2.1 10 t 0 k' else h i j k')) := by
  have hzz := hz
  unfold zOK at hzz
  intro n
  induction n with
  | zero => intro k h h1 h2; omega
  | succ n ih =>
    intro k h h1 h2
    rw [f_X1_install_L2]
    by_cases hk : k < z 3
    · have hm : k % z 0 < z 0 := Nat.mod_lt _ (by omega)
      rw [if_neg (nI_ge hk (by omega)), shardOf_e hz (by omega), bnd1_e]
      by_cases hq : k % z 0 = s
      · have hsb : f_X1_seenBy z (setL σ 6 h) (nI t) (nI k) = some (if σ.1 8 t 0 k = 2 then σ.2.1 10 t 0 k else h 0 0 k) := by
          unfold f_X1_seenBy
          rw [gdx_n ht (by omega), gdx_n hk (by omega), letv_e, show (setL σ 6 h).1 8 t 0 k = σ.1 8 t 0 k from rfl]
          by_cases c : σ.1 8 t 0 k = 2
          · rw [if_pos c, if_pos c, gdx_n ht (by omega), gdx_n hk (by omega), letv_e]
            rfl
          · rw [if_neg c, if_neg c, gdx_n hk (by omega), letv_e, setL_at]
        rw [if_pos (by rw [hq]), hsb, bnd1_e, gdx_n hk (by omega), letv_e, letv_e, add1, upL_setL, ih (k + 1) _ (by omega) (by omega)]
        refine congrArg (fun g => some (setL σ 6 g)) (funext fun i => funext fun j => funext fun k' => ?_)
        by_cases e : k' = k
        · subst e
          by_cases e2 : i = 0 ∧ j = 0
          · obtain ⟨rfl, rfl⟩ := e2
            simp [hk, hq]
            intro a
            omega
          · rw [if_neg (fun q => e2 ⟨q.1, q.2.1⟩), if_neg (fun q => e2 ⟨q.1, q.2.1⟩), if_neg (fun q => e2 ⟨q.1, q.2.1⟩)]
        · rw [if_neg (c := i = 0 ∧ j = 0 ∧ k' = k) (fun q => e q.2.2)]
          by_cases e2 : i = 0 ∧ j = 0 ∧ k ≤ k' ∧ k' < z 3 ∧ k' % z 0 = s ∧ σ.1 8 t 0 k' = 2
          · rw [if_pos e2, if_pos ⟨e2.1, e2.2.1, by omega, e2.2.2.2⟩]
          · rw [if_neg e2, if_neg (fun q => e2 ⟨q.1, q.2.1, by omega, q.2.2.2⟩)]
      · rw [if_neg (fun q => hq ((nI_eq (by omega) (by omega)).mp q)), letv_e, add1, ih (k + 1) _ (by omega) (by omega)]
        refine congrArg (fun g => some (setL σ 6 g)) (funext fun i => funext fun j => funext fun k' => ?_)
        by_cases e2 : i = 0 ∧ j = 0 ∧ k ≤ k' ∧ k' < z 3 ∧ k' % z 0 = s ∧ σ.1 8 t 0 k' = 2
        · have : k' ≠ k := fun q => by rw [q] at e2; exact hq e2.2.2.2.2.1
          rw [if_pos e2, if_pos ⟨e2.1, e2.2.1, by omega, e2.2.2.2⟩]
        · rw [if_neg e2, if_neg (fun q => e2 ⟨q.1, q.2.1, by omega, q.2.2.2⟩)]
    · have : k = z 3 := by omega
      subst this
      rw [if_pos (nI_le (Nat.le_refl _) (by omega))]
      refine congrArg (fun g => some (setL σ 6 g)) (funext fun i => funext fun j => funext fun k' => ?_)
      rw [if_neg (fun q => by omega)]
theorem inst_e (hz : zOK z) {s t : Nat} (hs : s < z 0) (ht : t < z 2) : f_X1_install z σ (nI t) (nI s) = some (setL σ 6 (fun i j k' => if i = 0 ∧ j = 0 ∧ 0 ≤ k' ∧ k' < z 3 ∧ k' % z 0 = s ∧ σ.1 8 t 0 k' = 2 then σ.2.1 10 t 0 k' else σ.2.1 6 i j k')) := by
  have hzz := hz
  unfold zOK at hzz
  unfold f_X1_install
  have h := inst_L (σ := σ) hz hs ht FU 0 (σ.2.1 6) (Nat.zero_le _) (by have := FU_big; omega)
  rw [setL_id] at h
  rw [show f_X1_install_L2 z (nI t) (nI s) FU 0 σ = _ from h, bnd1_e]
theorem endI_L (hz : zOK z) {s t : Nat} (hs : s < z 0) (ht : t < z 2) (h3 : τ.1 36 5 = 3) (h16 : ¬ τ.1 16 (16 * s + t) = 0) (x1 : Int32) : ∀ (n k : Nat) (h : Nat → Int64), k % z 0 = s → k < z 3 + z 0 → z 3 + z 0 < k + n →
    f_X11_end_L52 z x1 (nI t) (nI (16 * s + t)) n (nI k) (setU τ 9 h) = some (setU τ 9 (fun k' => if k ≤ k' ∧ k' < z 3 ∧ k' % z 0 = s ∧ ¬ τ.1 14 (32 * t + k') = 0 then τ.2 15 (32 * t + k') else h k')) := by
  have hzz := hz
  unfold zOK at hzz
  intro n
  induction n with
  | zero => intro k h h0 h1 h2; omega
  | succ n ih =>
    intro k h h0 h1 h2
    rw [f_X11_end_L52]
    by_cases hk : k < z 3
    · have e36 : (setU τ 9 h).1 36 5 = 3 := h3
      have e16 : ¬ (setU τ 9 h).1 16 (16 * s + t) = 0 := h16
      have hit : bnd1 (γ := Tg) (α := Int64) (if (setU τ 9 h).1 14 (32 * t + k) = 0 then (gdx (nI k) (mlen 9) fun k33 => letv ((setU τ 9 h).2 9 k33) fun v34 => some (v34)) else (gdx (nI (32 * t + k)) (mlen 15) fun k35 => letv ((setU τ 9 h).2 15 k35) fun v36 => some (v36))) = bnd1 (some (if τ.1 14 (32 * t + k) = 0 then h k else τ.2 15 (32 * t + k))) := by
        rw [show (setU τ 9 h).1 14 (32 * t + k) = τ.1 14 (32 * t + k) from rfl]
        by_cases c : τ.1 14 (32 * t + k) = 0
        · rw [if_pos c, if_pos c, gdx_n (n := mlen 9) (show k < 32 by omega) (by decide), letv_e, setU_at]
        · rw [if_neg c, if_neg c, gdx_n (n := mlen 15) (show 32 * t + k < 512 by omega) (by decide), letv_e]
          rfl
      rw [if_neg (nI_ge hk (by omega)), gdx_l (n := mlen 36) 5 (by decide) (by decide), letv_e, e36, if_pos rfl, gdx_n (n := mlen 16) (show 16 * s + t < 64 by omega) (by decide), letv_e, if_neg e16, mul32, nI_add, gdx_n (n := mlen 14) (show 32 * t + k < 512 by omega) (by decide), letv_e, hit, bnd1_e, gdx_n (n := mlen 9) (show k < 32 by omega) (by decide), letv_e, letv_e, nI_add, tpL_setU,
        ih (k + z 0) _ (mod_next hz h0) (by omega) (by omega)]
      refine congrArg (fun g => some (setU τ 9 g)) (funext fun k' => ?_)
      by_cases e : k' = k
      · subst e
        rw [if_neg (by omega), if_pos rfl]
        by_cases c : τ.1 14 (32 * t + k') = 0
        · rw [if_pos c, if_neg (fun q => q.2.2.2 c)]
        · rw [if_neg c, if_pos ⟨Nat.le_refl _, hk, h0, c⟩]
      · rw [if_neg (c := k' = k) e]
        by_cases c : k ≤ k' ∧ k' < z 3 ∧ k' % z 0 = s ∧ ¬ τ.1 14 (32 * t + k') = 0
        · have := mod_gap hz h0 c.2.2.1 c.1
          rw [if_pos c, if_pos ⟨by omega, c.2⟩]
        · rw [if_neg c, if_neg (fun q => c ⟨by omega, q.2⟩)]
    · rw [if_pos (nI_le (by omega) (by omega))]
      refine congrArg (fun g => some (setU τ 9 g)) (funext fun k' => ?_)
      rw [if_neg (by omega)]
theorem endI_e (hz : zOK z) {s t : Nat} (hs : s < z 0) (ht : t < z 2) (h3 : τ.1 36 5 = 3) (h16 : ¬ τ.1 16 (16 * s + t) = 0) : f_X11_end_L52 z (nI s) (nI t) (nI (16 * s + t)) FU (nI s) τ = some (setU τ 9 (fun k' => if s ≤ k' ∧ k' < z 3 ∧ k' % z 0 = s ∧ ¬ τ.1 14 (32 * t + k') = 0 then τ.2 15 (32 * t + k') else τ.2 9 k')) := by
  have hzz := hz
  unfold zOK at hzz
  have := endI_L (τ := τ) hz hs ht h3 h16 (nI s) FU s (τ.2 9) (Nat.mod_eq_of_lt hs) (by omega) (by have := FU_big; omega)
  rw [setU_id] at this
  exact this
theorem endI_no (hz : zOK z) {s t : Nat} (hs : s < z 0) (ht : t < z 2) (h : ¬ τ.1 36 5 = 3 ∨ τ.1 16 (16 * s + t) = 0) (x1 x2 y : Int32) : f_X11_end_L52 z x1 x2 (nI (16 * s + t)) FU y τ = some τ := by
  have hzz := hz
  unfold zOK at hzz
  have hF := FU_big
  rw [show FU = (FU - 1) + 1 by omega, f_X11_end_L52]
  by_cases c : nI (z 3) ≤ y
  · rw [if_pos c]
  · rw [if_neg c, gdx_l (n := mlen 36) 5 (by decide) (by decide), letv_e]
    by_cases d : τ.1 36 5 = 3
    · rw [if_pos d, gdx_n (n := mlen 16) (show 16 * s + t < 64 by omega) (by decide), letv_e, if_pos (h.resolve_left (fun q => q d))]
    · rw [if_neg d]
theorem Rel.inst (hz : zOK z) (h : Rel z bb w σ τ) {s t : Nat} (hs : s < z 0) (ht : t < z 2) : Rel z bb w (setL σ 6 (fun i j k' => if i = 0 ∧ j = 0 ∧ 0 ≤ k' ∧ k' < z 3 ∧ k' % z 0 = s ∧ σ.1 8 t 0 k' = 2 then σ.2.1 10 t 0 k' else σ.2.1 6 i j k')) (setU τ 9 (fun k' => if s ≤ k' ∧ k' < z 3 ∧ k' % z 0 = s ∧ ¬ τ.1 14 (32 * t + k') = 0 then τ.2 15 (32 * t + k') else τ.2 9 k')) := by
  obtain ⟨a1, a2, a3, a4, a5, a6, a7⟩ := h
  refine ⟨a1, a2, a3, fun k hk => ?_, a5, a6, a7⟩
  show (if s ≤ k ∧ k < z 3 ∧ k % z 0 = s ∧ ¬ τ.1 14 (32 * t + k) = 0 then τ.2 15 (32 * t + k) else τ.2 9 k) = if 0 = 0 ∧ 0 = 0 ∧ 0 ≤ k ∧ k < z 3 ∧ k % z 0 = s ∧ σ.1 8 t 0 k = 2 then σ.2.1 10 t 0 k else σ.2.1 6 0 0 k
  have l4 := a5.2.2.2 t k ht hk
  by_cases c : k % z 0 = s ∧ σ.1 8 t 0 k = 2
  · have hsk : s ≤ k := by rw [← c.1]; exact Nat.mod_le _ _
    rw [if_pos c.2] at l4
    rw [if_pos ⟨hsk, hk, c.1, by rw [l4]; decide⟩, if_pos ⟨rfl, rfl, Nat.zero_le _, hk, c⟩]
    exact a6 t k ht hk c.2
  · have hX : ¬ (0 = 0 ∧ 0 = 0 ∧ 0 ≤ k ∧ k < z 3 ∧ k % z 0 = s ∧ σ.1 8 t 0 k = 2) := fun q => c q.2.2.2.2
    have hM : ¬ (s ≤ k ∧ k < z 3 ∧ k % z 0 = s ∧ ¬ τ.1 14 (32 * t + k) = 0) := by
      intro q
      refine c ⟨q.2.2.1, ?_⟩
      by_cases d : σ.1 8 t 0 k = 2
      · exact d
      · rw [if_neg d] at l4
        exact absurd l4 q.2.2.2
    rw [if_neg hX, if_neg hM]
    exact a4 k hk
theorem Rel.ended (hz : zOK z) (h : Rel z bb w σ τ) {s t q : Nat} (hs : s < z 0) (ht : t < z 2) (hq : q < z 5) (h1 : σ.1 18 s 0 1 = nI q) (v : Int32) :
    Rel z bb w (setF (setF (upI σ 23 s 0 t v) 18 (pu18 (σ.1 18) s q)) 20 (pu20 (σ.1 20) s q 2 (nI t) v 0)) (tpI (setT (setT τ 7 (pt7 (τ.1 7) s q)) 8 (pt8 (τ.1 8) s q 2 (nI t) v 0)) 18 (16 * s + t) v) := by
  have hzz := hz
  unfold zOK at hzz
  obtain ⟨a1, a2, a3, a4, a5, a6, a7, a8, a9, a10, a11, a12, a13, a14, a15, a16, a17⟩ := h
  refine ⟨a1, a2, a3, a4, a5, a6, a7, a8, fun s' t' hs' ht' => ?_, a10, gG_put hz a11 (by omega) h1 hq 2 (nI t) v 0, a12, a13, a14, a15, a16, a17⟩
  obtain ⟨d1, d2, d3⟩ := a9 s' t' hs' ht'
  show τ.1 17 (16 * s' + t') = σ.1 22 s' 0 t' ∧ (if 18 = 18 ∧ 16 * s' + t' = 16 * s + t then v else τ.1 18 (16 * s' + t')) = (if 23 = 23 ∧ s' = s ∧ 0 = 0 ∧ t' = t then v else σ.1 23 s' 0 t') ∧ (σ.1 22 s' 0 t' = 0 ∨ σ.1 22 s' 0 t' = 1 ∨ σ.1 22 s' 0 t' = 2)
  by_cases e : s' = s ∧ t' = t
  · obtain ⟨rfl, rfl⟩ := e
    simp only [true_and, if_true]
    exact ⟨d1, d3⟩
  · have n1 : ¬ (16 * s' + t' = 16 * s + t) := fun r => e (by omega)
    simp only [true_and, n1, if_false]
    have n3 : ¬ (s' = s ∧ t' = t) := e
    rw [if_neg n3]
    exact ⟨d1, d2, d3⟩
theorem p_ended (hz : zOK z) {σ0 : Sg} {τ0 : Tg} (h : Rel z bb w σ τ) {mi : Nat} (k13 : σ.1 13 mi = σ0.1 13 mi) (k36 : τ.1 36 = τ0.1 36) {s t : Nat} (hs : s < z 0) (ht : t < z 2) :
    Pst z bb mi σ0 τ0 (bnd1 (f_X6_endSession z σ s (nI t)) fun s21 => some (1, s21)) (bnd1 (f_X11_endSession z τ (nI s) (nI t)) fun s41 => some (1, s41)) := by
  obtain ⟨g1, g8, a, b, c, d, e1, e2, e3⟩ := pEnd hz hs ht h
  rw [e1, e2, bnd1_e, bnd1_e]
  exact ⟨1, w, _, _, rfl, rfl, Or.inr rfl, e3, k13, k36⟩
theorem p_end (hz : zOK z) (h : Rel z bb w σ τ) {s t : Nat} (hs : s < z 0) (ht : t < z 2) {mi : Nat} {v : Int32} (hv : v = 3 ∨ v = 4) (h36 : τ.1 36 5 = v) : Pst z bb mi σ τ (f_X6_hearEnd z σ s (nI t) v) (f_X11_end z τ (nI s) (nI t)) := by
  have hzz := hz
  unfold zOK at hzz
  obtain ⟨d1, d2, d3⟩ := h.2.2.2.2.2.2.2.2.1 s t hs ht
  obtain ⟨s1, s2⟩ := h.2.2.2.2.2.2.1 s t hs ht
  obtain ⟨q, q0, q1, q2, q3⟩ := h.2.2.2.2.2.2.2.2.2.2.1 s (by omega)
  unfold f_X6_hearEnd f_X11_end
  have i16 : 16 * s + t < 64 := by omega
  rw [gdx_n ht (by omega), letv_e, letv_e, mul16, nI_add, gdx_n (n := mlen 18) (show 16 * s + t < 64 from i16) (by decide), letv_e, d2]
  by_cases c1 : σ.1 23 s 0 t = 0
  · rw [if_pos c1, if_pos c1, full_e hz q1 q0, bnd1_e, gdx_l (n := mlen 36) 5 (by decide) (by decide), letv_e, h36]
    by_cases c3 : q < z 5
    · have hr := h.ended hz hs ht c3 q1 v
      have h36' : (setT (setT τ 7 (pt7 (τ.1 7) s q)) 8 (pt8 (τ.1 8) s q 2 (nI t) v 0)).1 36 5 = v := h36
      have h21 : (setF (setF (upI σ 23 s 0 t v) 18 (pu18 (σ.1 18) s q)) 20 (pu20 (σ.1 20) s q 2 (nI t) v 0)).1 21 s 0 t = σ.1 21 s 0 t := rfl
      rw [if_pos c3, if_pos rfl, gdx_n ht (by omega), letv_e, show f_X2_put z (upI σ 23 s 0 t v) s 2 (nI t) v 0 = some (setF (setF (upI σ 23 s 0 t v) 18 (pu18 (σ.1 18) s q)) 20 (pu20 (σ.1 20) s q 2 (nI t) v 0)) from put_e (σ := upI σ 23 s 0 t v) hz q1 c3 2 (nI t) v 0, bnd1_e,
        writes_e hz (by omega) q2 c3, bnd2_e, if_neg (show ¬ (1 : Int32) = 0 by decide), gdx_l (n := mlen 36) 5 (by decide) (by decide), letv_e, h36', gdx_n (n := mlen 18) (show 16 * s + t < 64 from i16) (by decide), letv_e]
      generalize hσ : setF (setF (upI σ 23 s 0 t v) 18 (pu18 (σ.1 18) s q)) 20 (pu20 (σ.1 20) s q 2 (nI t) v 0) = σ1 at hr h21
      generalize hτ : tpI (setT (setT τ 7 (pt7 (τ.1 7) s q)) 8 (pt8 (τ.1 8) s q 2 (nI t) v 0)) 18 (16 * s + t) v = τ1 at hr
      have k13 : σ1.1 13 mi = σ.1 13 mi := by rw [← hσ]; rfl
      have k36 : τ1.1 36 = τ.1 36 := by rw [← hτ]; rfl
      have k16 : τ1.1 16 (16 * s + t) = σ.1 21 s 0 t := by rw [← hτ]; exact s1
      by_cases c4 : v = 3
      · rw [if_pos c4, gdx_n ht (by omega), letv_e, h21]
        by_cases c5 : σ.1 21 s 0 t = 0
        · rw [if_pos c5, bnd1_e, endI_no hz hs ht (Or.inr (by rw [k16, c5])), bnd1_e]
          exact p_ended hz hr k13 k36 hs ht
        · rw [if_neg c5, inst_e hz hs ht, bnd1_e, bnd1_e, endI_e hz hs ht (by rw [k36, h36, c4]) (by rw [k16]; exact c5), bnd1_e]
          exact p_ended hz (hr.inst hz hs ht) k13 k36 hs ht
      · rw [if_neg c4, bnd1_e, endI_no hz hs ht (Or.inl (by rw [k36, h36]; exact c4)), bnd1_e]
        exact p_ended hz hr k13 k36 hs ht
    · have eq5 : q = z 5 := by omega
      subst eq5
      rw [if_neg c3, if_neg (show ¬ (1 : Int32) = 0 by decide), writes_f hz (by omega) q2, bnd2_e, if_pos rfl]
      exact ⟨0, w, σ, τ, rfl, rfl, Or.inl rfl, h, rfl, rfl⟩
  · rw [if_neg c1, if_neg c1]
    exact ⟨1, w, σ, τ, rfl, rfl, Or.inr rfl, h, rfl, rfl⟩
end ENDS
