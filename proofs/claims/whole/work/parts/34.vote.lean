/-! an acceptor hears a vote -/
section VOTES
variable {z : Nat → Nat} {bb w : Nat} {σ : Sg} {τ : Tg}
theorem accOf_e (hz : zOK z) {b : Nat} (hb : b < 100000) : f_X7_acceptorOf z σ (nI b) = some (nI (z 0 + b % z 1)) := by
  have hzz := hz
  unfold zOK at hzz
  unfold f_X7_acceptorOf
  rw [gnz_n (by omega) (by omega), pk_rem (by omega) (by omega) (by omega), nI_add]
theorem accOf_M (hz : zOK z) {b : Nat} (hb : b < 100000) : nI (z 0) + (nI b - nI b / nI (z 1) * nI (z 1)) = nI (z 0 + b % z 1) := by
  have hzz := hz
  unfold zOK at hzz
  rw [pk_rem (by omega) (by omega) (by omega), nI_add]
theorem p_fin1 (hz : zOK z) {σ0 : Sg} {τ0 : Tg} (h : Rel z bb w σ τ) {mi : Nat} (k13 : σ.1 13 mi = σ0.1 13 mi) (k36 : τ.1 36 = τ0.1 36) (hm1 : ∀ i, i < z 4 → ¬ mi = σ.2.2 12 i) (hm2 : ¬ mi = z 4) {x0 to x2 x3 x4 x5 x6 : Int32} (h5 : ¬ x0 = 5) (hW : ∀ tb tv, mW z bb (row7 x0 to x2 x3 x4 x5 x6) tb tv) :
    Pst z bb mi σ0 τ0 (bnd2 (f_X5_post z (drf z σ x0 x2 x3 x4 x5 x6) (z 4) to) fun _ s47 => some (1, s47)) (bnd2 (f_X11_post z τ x0 to x2 x3 x4 x5 x6) fun _ s45 => some (1, s45)) := by
  obtain ⟨r, rm, w', σ', τ', e1, e2, e3, e4, e5⟩ := p_pst hz (h.drf x0 x2 x3 x4 x5 x6) (drf_D _ _ _ _ _ _) to h5 hW
  rw [e1, e2, bnd2_e, bnd2_e]
  refine ⟨1, w', σ', τ', rfl, rfl, Or.inr rfl, e3, ?_, ?_⟩
  · rw [(e4.keep hm1).1, drf_o _ _ _ _ _ _ hm2, k13]
  · rw [e5.2 36 (by omega) (by omega), k36]
theorem Rel.acc (hz : zOK z) (h : Rel z bb w σ τ) {a t s q b : Nat} (ha : a < z 1) (ht : t < z 2) (hs : s < z 0) (hq : q < z 5) (h1 : σ.1 18 (z 0 + a) 0 1 = nI q) (hb : b ≤ bb) {v : Int32} (hv : v = 1 ∨ v = 2) (r1 r2 r3 : Int32) :
    Rel z bb w (upI (upI (upI (setF (setF σ 18 (pu18 (σ.1 18) (z 0 + a) q)) 20 (pu20 (σ.1 20) (z 0 + a) q 4 r1 r2 r3)) 27 a t 1 (nI b)) 28 a t s (nI b)) 29 a t s v) (tpI (tpI (tpI (setT (setT τ 7 (pt7 (τ.1 7) (z 0 + a) q)) 8 (pt8 (τ.1 8) (z 0 + a) q 4 r1 r2 r3)) 19 (16 * a + t) (nI b)) 23 (4 * (16 * a + t) + s) (nI b)) 24 (4 * (16 * a + t) + s) v) := by
  have hzz := hz
  unfold zOK at hzz
  obtain ⟨a1, a2, a3, a4, a5, a6, a7, a8, a9, a10, a11, a12, a13, a14, a15, a16, a17⟩ := h
  refine ⟨a1, a2, a3, a4, a5, a6, a7, a8, a9, a10, gG_put hz a11 (by omega) h1 hq 4 r1 r2 r3, fun a' t' ha' ht' => ?_, fun a' t' s' ha' ht' hs' => ?_, a14, a15, a16, a17⟩
  · obtain ⟨b1, b2, b3, b4, b5, b6, b7⟩ := a12 a' t' ha' ht'
    have k : ∀ c, (upI (upI (upI (setF (setF σ 18 (pu18 (σ.1 18) (z 0 + a) q)) 20 (pu20 (σ.1 20) (z 0 + a) q 4 r1 r2 r3)) 27 a t 1 (nI b)) 28 a t s (nI b)) 29 a t s v).1 27 a' t' c = if 27 = 27 ∧ a' = a ∧ t' = t ∧ c = 1 then nI b else σ.1 27 a' t' c := fun c => rfl
    have k19 : (tpI (tpI (tpI (setT (setT τ 7 (pt7 (τ.1 7) (z 0 + a) q)) 8 (pt8 (τ.1 8) (z 0 + a) q 4 r1 r2 r3)) 19 (16 * a + t) (nI b)) 23 (4 * (16 * a + t) + s) (nI b)) 24 (4 * (16 * a + t) + s) v).1 19 (16 * a' + t') = if 19 = 19 ∧ 16 * a' + t' = 16 * a + t then nI b else τ.1 19 (16 * a' + t') := rfl
    have nc : ∀ c, ¬ c = 1 → ¬ (27 = 27 ∧ a' = a ∧ t' = t ∧ c = 1) := fun c hc r => hc r.2.2.2
    rw [k 1, k 2, k 3, k 4, k19, if_neg (nc 2 (by omega)), if_neg (nc 3 (by omega)), if_neg (nc 4 (by omega))]
    by_cases e : a' = a ∧ t' = t
    · obtain ⟨rfl, rfl⟩ := e
      simp only [true_and, if_true]
      exact ⟨⟨b, hb, rfl⟩, b2, b3, b5, b6, b7⟩
    · have n1 : ¬ (16 * a' + t' = 16 * a + t) := fun r => e (by omega)
      have n3 : ¬ (27 = 27 ∧ a' = a ∧ t' = t ∧ 1 = 1) := fun r => e ⟨r.2.1, r.2.2.1⟩
      have n4 : ¬ (19 = 19 ∧ 16 * a' + t' = 16 * a + t) := fun r => n1 r.2
      rw [if_neg n3, if_neg n4]
      exact ⟨b1, b2, b3, b4, b5, b6, b7⟩
  · obtain ⟨b1, b2, b3⟩ := a13 a' t' s' ha' ht' hs'
    show (if 23 = 23 ∧ 4 * (16 * a' + t') + s' = 4 * (16 * a + t) + s then nI b else τ.1 23 (4 * (16 * a' + t') + s')) = (if 28 = 28 ∧ a' = a ∧ t' = t ∧ s' = s then nI b else σ.1 28 a' t' s') ∧ (if 24 = 24 ∧ 4 * (16 * a' + t') + s' = 4 * (16 * a + t) + s then v else τ.1 24 (4 * (16 * a' + t') + s')) = (if 29 = 29 ∧ a' = a ∧ t' = t ∧ s' = s then v else σ.1 29 a' t' s') ∧ vb bb (if 28 = 28 ∧ a' = a ∧ t' = t ∧ s' = s then nI b else σ.1 28 a' t' s') (if 29 = 29 ∧ a' = a ∧ t' = t ∧ s' = s then v else σ.1 29 a' t' s')
    by_cases e : a' = a ∧ t' = t ∧ s' = s
    · obtain ⟨rfl, rfl, rfl⟩ := e
      simp only [true_and, if_true]
      exact Or.inr ⟨⟨b, hb, rfl⟩, hv⟩
    · have n1 : ¬ (4 * (16 * a' + t') + s' = 4 * (16 * a + t) + s) := fun r => e (by omega)
      have n2 : ¬ (28 = 28 ∧ a' = a ∧ t' = t ∧ s' = s) := fun r => e r.2
      have n3 : ¬ (29 = 29 ∧ a' = a ∧ t' = t ∧ s' = s) := fun r => e r.2
      have n4 : ¬ (23 = 23 ∧ 4 * (16 * a' + t') + s' = 4 * (16 * a + t) + s) := fun r => n1 r.2
      have n5 : ¬ (24 = 24 ∧ 4 * (16 * a' + t') + s' = 4 * (16 * a + t) + s) := fun r => n1 r.2
      rw [if_neg n2, if_neg n3, if_neg n4, if_neg n5]
      exact ⟨b1, b2, b3⟩
theorem p_hvote (hz : zOK z) (hbb : bb < 50000) (h : Rel z bb w σ τ) {a t s b : Nat} (ha : a < z 1) (ht : t < z 2) (hs : s < z 0) (hb : b ≤ bb) {mi : Nat} (hm1 : ∀ i, i < z 4 → ¬ mi = σ.2.2 12 i) (hm2 : ¬ mi = z 4) {v : Int32} (hv : v = 1 ∨ v = 2)
    (f2 : σ.1 13 mi 0 2 = nI t) (f3 : σ.1 13 mi 0 3 = nI b) (f4 : σ.1 13 mi 0 4 = nI s) (f5 : σ.1 13 mi 0 5 = v) (g3 : τ.1 36 3 = nI b) (g4 : τ.1 36 4 = nI s) (g5 : τ.1 36 5 = v) :
    Pst z bb mi σ τ (f_X0_hearVote z σ a mi t) (f_X11_vote z τ (nI (z 0 + a)) (nI t) (nI (16 * a + t))) := by
  have hzz := hz
  unfold zOK at hzz
  have i80 : 16 * a + t < 80 := by omega
  have i320 : 4 * (16 * a + t) + s < 320 := by omega
  have hmod : b % z 1 < z 1 := Nat.mod_lt _ (by omega)
  obtain ⟨p1, p2, p3, p4, p5, p6, p7⟩ := h.2.2.2.2.2.2.2.2.2.2.2.1 a t ha ht
  obtain ⟨c1, c2, c3⟩ := h.2.2.2.2.2.2.2.2.2.2.2.2.1 a t s ha ht hs
  obtain ⟨q, q0, q1, q2, q3⟩ := h.2.2.2.2.2.2.2.2.2.2.1 (z 0 + a) (by omega)
  have mw : ∀ tb tv, mW z bb (row7 3 (nI (z 0 + b % z 1)) (nI t) (nI b) (nI s) v (nI (z 0 + a))) tb tv := fun tb tv => ⟨⟨t, ht, rfl⟩, ⟨b, hb, rfl⟩, Or.inr (Or.inr (Or.inl ⟨rfl, ⟨_, hmod, rfl⟩, ⟨s, hs, rfl⟩, hv, ⟨a, ha, rfl⟩⟩))⟩
  unfold f_X0_hearVote f_X11_vote
  rw [letv_e, letv_e, f3, gdx_l (n := mlen 36) 3 (by decide) (by decide), letv_e (τ.1 36 3), g3, gdx_l (n := mlen 36) 4 (by decide) (by decide), letv_e (τ.1 36 4), g4, gdx_l (n := mlen 36) 5 (by decide) (by decide), letv_e (τ.1 36 5), g5, gdx_n (n := mlen 19) (show 16 * a + t < 80 from i80) (by decide), letv_e (τ.1 19 (16 * a + t)), p4]
  by_cases d1 : σ.1 27 a t 1 ≤ nI b
  · have hX : f_X9_hasAccepted z σ a t (nI b) (nI s) v = some (if σ.1 28 a t s = nI b ∧ σ.1 29 a t s = v then 1 else 0) := by
      unfold f_X9_hasAccepted
      rw [gdx_n hs (by omega), letv_e]
      by_cases e1 : σ.1 28 a t s = nI b
      · rw [if_pos e1, gdx_n hs (by omega), letv_e]
        by_cases e2 : σ.1 29 a t s = v
        · rw [if_pos e2, if_pos ⟨e1, e2⟩]
        · rw [if_neg e2, if_neg (fun r => e2 r.2)]
      · rw [if_neg e1, if_neg (fun r => e1 r.1)]
    rw [if_pos d1, if_pos d1, letv_e, letv_e, letv_e, f4, f5, hX, bnd1_e, mul4, nI_add, letv_e (nI (4 * (16 * a + t) + s)), gdx_n (n := mlen 23) (show 4 * (16 * a + t) + s < 320 from i320) (by decide), letv_e (τ.1 23 (4 * (16 * a + t) + s)), c1]
    have fin0 : Pst z bb mi σ τ (letv (σ.1 13 mi 0 2) fun v10 => letv (nI b) fun v11 => letv (nI s) fun v12 => letv v fun v13 => bnd1 (f_X5_startDraftOfVote z σ 3 v10 (nI (z 0 + a)) v11 v12 v13) fun s15 => letv (s15.1 13 mi 0 3) fun v16 => bnd1 (f_X7_acceptorOf z s15 v16) fun r18 => bnd2 (f_X5_post z s15 (z 4) r18) fun r20 s21 => some (1, s21))
        (gnz (nI (z 1)) <| bnd2 (f_X11_post z τ 3 ((nI (z 0)) + (nI b - nI b / (nI (z 1)) * (nI (z 1)))) (nI t) (nI b) (nI s) v (nI (z 0 + a))) fun r31 s32 => some (1, s32)) := by
      rw [letv_e, letv_e, letv_e, letv_e, f2, startVote_e, bnd1_e, letv_e, drf_o _ _ _ _ _ _ hm2, f3, accOf_e hz (by omega), bnd1_e, gnz_n (by omega) (by omega), accOf_M hz (by omega)]
      exact p_fin1 hz h rfl rfl hm1 hm2 (by decide) mw
    have finF : ¬ q < z 5 → bnd2 (f_X11_writes z τ (nI (z 0 + a)) 4 (nI t) (nI b) ((10 * nI s) + v)) (fun r15 s16 => if r15 = 0 then (some ((0 : Int32), s16)) else (gdx (nI (16 * a + t)) (mlen 19) fun k18 => letv (tpI s16 19 k18 (nI b)) fun s19 => gdx (nI (4 * (16 * a + t) + s)) (mlen 23) fun k20 => letv (tpI s19 23 k20 (nI b)) fun s21 => gdx (nI (4 * (16 * a + t) + s)) (mlen 24) fun k22 => letv (tpI s21 24 k22 v) fun s23 => gnz (nI (z 1)) <| bnd2 (f_X11_post z s23 3 ((nI (z 0)) + (nI b - nI b / (nI (z 1)) * (nI (z 1)))) (nI t) (nI b) (nI s) v (nI (z 0 + a))) fun r25 s26 => some (1, s26))) = some (0, τ) := by
      intro hq
      rw [writes_f hz (by omega) (by rw [q2]; congr 1; omega), bnd2_e, if_pos rfl]
    have finW : q < z 5 → Pst z bb mi σ τ (letv (σ.1 13 mi 0 2) fun v25 => letv (nI b) fun v26 => letv (nI s) fun v27 => letv v fun v28 => bnd1 (f_X2_put z σ (z 0 + a) 4 v25 v26 ((10 * v27) + v28)) fun s30 => letv (s30.1 13 mi 0 3) fun v31 => letv (s30.1 13 mi 0 4) fun v32 => letv (s30.1 13 mi 0 5) fun v33 => bnd1 (f_X9_take z s30 a t v31 v32 v33) fun s35 => letv (s35.1 13 mi 0 2) fun v36 => letv (s35.1 13 mi 0 3) fun v37 => letv (s35.1 13 mi 0 4) fun v38 => letv (s35.1 13 mi 0 5) fun v39 => bnd1 (f_X5_startDraftOfVote z s35 3 v36 (nI (z 0 + a)) v37 v38 v39) fun s41 => letv (s41.1 13 mi 0 3) fun v42 => bnd1 (f_X7_acceptorOf z s41 v42) fun r44 => bnd2 (f_X5_post z s41 (z 4) r44) fun r46 s47 => some (1, s47))
        (bnd2 (f_X11_writes z τ (nI (z 0 + a)) 4 (nI t) (nI b) ((10 * nI s) + v)) (fun r15 s16 => if r15 = 0 then (some ((0 : Int32), s16)) else (gdx (nI (16 * a + t)) (mlen 19) fun k18 => letv (tpI s16 19 k18 (nI b)) fun s19 => gdx (nI (4 * (16 * a + t) + s)) (mlen 23) fun k20 => letv (tpI s19 23 k20 (nI b)) fun s21 => gdx (nI (4 * (16 * a + t) + s)) (mlen 24) fun k22 => letv (tpI s21 24 k22 v) fun s23 => gnz (nI (z 1)) <| bnd2 (f_X11_post z s23 3 ((nI (z 0)) + (nI b - nI b / (nI (z 1)) * (nI (z 1)))) (nI t) (nI b) (nI s) v (nI (z 0 + a))) fun r25 s26 => some (1, s26)))) := by
      intro hq
      have hr := h.acc hz ha ht hs hq q1 hb hv (nI t) (nI b) (10 * nI s + v)
      rw [letv_e, letv_e, letv_e, letv_e, f2, put_e hz q1 hq, bnd1_e]
      generalize hA : setF (setF σ 18 (pu18 (σ.1 18) (z 0 + a) q)) 20 (pu20 (σ.1 20) (z 0 + a) q 4 (nI t) (nI b) (10 * nI s + v)) = A at hr
      have A13 : A.1 13 = σ.1 13 := by rw [← hA]; rfl
      have hT : f_X9_take z A a t (nI b) (nI s) v = some (upI (upI (upI A 27 a t 1 (nI b)) 28 a t s (nI b)) 29 a t s v) := by
        unfold f_X9_take
        rw [letv_e, gdx_n hs (by omega), letv_e, gdx_n hs (by omega), letv_e]
      rw [letv_e, letv_e, letv_e, A13, f3, f4, f5, hT, bnd1_e]
      generalize hB : upI (upI (upI A 27 a t 1 (nI b)) 28 a t s (nI b)) 29 a t s v = B at hr
      have B13 : B.1 13 = σ.1 13 := by rw [← hB, ← A13]; rfl
      have B22 : B.2.2 = σ.2.2 := by rw [← hB, ← hA]; rfl
      rw [letv_e, letv_e, letv_e, letv_e, B13, f2, f3, f4, f5, startVote_e, bnd1_e, letv_e, drf_o _ _ _ _ _ _ hm2, B13, f3, accOf_e hz (by omega), bnd1_e]
      rw [writes_e hz (by omega) q2 hq, bnd2_e, if_neg (show ¬ (1 : Int32) = 0 by decide), gdx_n (n := mlen 19) (show 16 * a + t < 80 from i80) (by decide), letv_e, gdx_n (n := mlen 23) (show 4 * (16 * a + t) + s < 320 from i320) (by decide), letv_e, gdx_n (n := mlen 24) (show 4 * (16 * a + t) + s < 320 from i320) (by decide), letv_e]
      generalize hC : tpI (tpI (tpI (setT (setT τ 7 (pt7 (τ.1 7) (z 0 + a) q)) 8 (pt8 (τ.1 8) (z 0 + a) q 4 (nI t) (nI b) (10 * nI s + v))) 19 (16 * a + t) (nI b)) 23 (4 * (16 * a + t) + s) (nI b)) 24 (4 * (16 * a + t) + s) v = C at hr
      have C36 : C.1 36 = τ.1 36 := by rw [← hC]; rfl
      rw [gnz_n (by omega) (by omega), accOf_M hz (by omega)]
      exact p_fin1 hz hr (by rw [B13]) C36 (by rw [B22]; exact hm1) hm2 (by decide) mw
    have fin1 : Pst z bb mi σ τ (bnd1 (f_X2_isFull z σ (z 0 + a)) fun r23 => if r23 = 0 then (letv (σ.1 13 mi 0 2) fun v25 => letv (nI b) fun v26 => letv (nI s) fun v27 => letv v fun v28 => bnd1 (f_X2_put z σ (z 0 + a) 4 v25 v26 ((10 * v27) + v28)) fun s30 => letv (s30.1 13 mi 0 3) fun v31 => letv (s30.1 13 mi 0 4) fun v32 => letv (s30.1 13 mi 0 5) fun v33 => bnd1 (f_X9_take z s30 a t v31 v32 v33) fun s35 => letv (s35.1 13 mi 0 2) fun v36 => letv (s35.1 13 mi 0 3) fun v37 => letv (s35.1 13 mi 0 4) fun v38 => letv (s35.1 13 mi 0 5) fun v39 => bnd1 (f_X5_startDraftOfVote z s35 3 v36 (nI (z 0 + a)) v37 v38 v39) fun s41 => letv (s41.1 13 mi 0 3) fun v42 => bnd1 (f_X7_acceptorOf z s41 v42) fun r44 => bnd2 (f_X5_post z s41 (z 4) r44) fun r46 s47 => some (1, s47)) else some (0, σ))
        (bnd2 (f_X11_writes z τ (nI (z 0 + a)) 4 (nI t) (nI b) ((10 * nI s) + v)) (fun r15 s16 => if r15 = 0 then (some ((0 : Int32), s16)) else (gdx (nI (16 * a + t)) (mlen 19) fun k18 => letv (tpI s16 19 k18 (nI b)) fun s19 => gdx (nI (4 * (16 * a + t) + s)) (mlen 23) fun k20 => letv (tpI s19 23 k20 (nI b)) fun s21 => gdx (nI (4 * (16 * a + t) + s)) (mlen 24) fun k22 => letv (tpI s21 24 k22 v) fun s23 => gnz (nI (z 1)) <| bnd2 (f_X11_post z s23 3 ((nI (z 0)) + (nI b - nI b / (nI (z 1)) * (nI (z 1)))) (nI t) (nI b) (nI s) v (nI (z 0 + a))) fun r25 s26 => some (1, s26)))) := by
      rw [full_e hz q1 q0, bnd1_e]
      by_cases hq : q < z 5
      · rw [if_pos hq, if_pos rfl]
        exact finW hq
      · rw [if_neg hq, if_neg (show ¬ (1 : Int32) = 0 by decide), finF hq]
        exact ⟨0, w, σ, τ, rfl, rfl, Or.inl rfl, h, rfl, rfl⟩
    by_cases e1 : σ.1 28 a t s = nI b
    · rw [if_pos e1, gdx_n (n := mlen 24) (show 4 * (16 * a + t) + s < 320 from i320) (by decide), letv_e (τ.1 24 (4 * (16 * a + t) + s)), c2]
      by_cases e2 : σ.1 29 a t s = v
      · rw [if_pos e2, if_pos (show σ.1 28 a t s = nI b ∧ σ.1 29 a t s = v from ⟨e1, e2⟩), if_neg (show ¬ (1 : Int32) = 0 by decide)]
        exact fin0
      · rw [if_neg e2, if_neg (show ¬ (σ.1 28 a t s = nI b ∧ σ.1 29 a t s = v) from fun r => e2 r.2), if_pos rfl]
        exact fin1
    · rw [if_neg e1, if_neg (show ¬ (σ.1 28 a t s = nI b ∧ σ.1 29 a t s = v) from fun r => e1 r.1), if_pos rfl]
      exact fin1
  · rw [if_neg d1, if_neg d1]
    exact ⟨1, w, σ, τ, rfl, rfl, Or.inr rfl, h, rfl, rfl⟩
end VOTES
