/-! delivery -/
section DLV
variable {z : Nat → Nat} {bb w : Nat} {σ : Sg} {τ : Tg}
theorem Pst.gdb {mi : Nat} {oX : Option (Int32 × Sg)} {oM : Option (Int32 × Tg)} (h : Pst z bb mi σ τ oX oM) : Pst z bb mi σ τ (bnd2 oX fun r s => gdb r <| some (r, s)) (bnd2 oM fun r s => gdb r <| some (r, s)) := by
  obtain ⟨r, w', σ', τ', rfl, rfl, e3, e4⟩ := h
  rw [bnd2_e, bnd2_e]
  rcases e3 with rfl | rfl
  · rw [gdb_0, gdb_0]
    exact ⟨0, w', σ', τ', rfl, rfl, Or.inl rfl, e4⟩
  · rw [gdb_1, gdb_1]
    exact ⟨1, w', σ', τ', rfl, rfl, Or.inr rfl, e4⟩
theorem Ps1.lift {mi : Nat} {oX : Option Sg} {oM : Option Tg} (h : Ps1 z bb mi σ τ oX oM) : Pst z bb mi σ τ (bnd1 oX fun s => some (1, s)) (bnd1 oM fun s => some (1, s)) := by
  obtain ⟨w', σ', τ', rfl, rfl, e4⟩ := h
  exact ⟨1, w', σ', τ', rfl, rfl, Or.inr rfl, e4⟩
theorem i_ne {a b : Nat} (h : ¬ a = b) (ha : a < 100) (hb : b < 100) : ¬ nI a = nI b := fun q => h ((nI_eq (by omega) (by omega)).mp q)
theorem p_hearS (hz : zOK z) (hbb : bb < 50000) (h : Rel z bb w σ τ) {mi s t : Nat} (hs : s < z 0) (ht : t < z 2) (hm1 : ∀ i, i < z 4 → ¬ mi = σ.2.2 12 i) (hm2 : ¬ mi = z 4) (hd : Hd z bb mi σ τ) (f1 : σ.1 13 mi 0 1 = nI s) (f2 : σ.1 13 mi 0 2 = nI t) :
    Pst z bb mi σ τ (f_X6_hear z σ s mi) (f_X11_does z τ (nI s) (nI t)) := by
  have hzz := hz
  unfold zOK at hzz
  obtain ⟨d1, d2, d3⟩ := hd
  obtain ⟨m1, m2, m3⟩ := d3
  have nA : ∀ a, ¬ nI s = nI (z 0 + a) ∨ 100 ≤ z 0 + a := fun a => by
    by_cases c : z 0 + a < 100
    · exact Or.inl (i_ne (by omega) (by omega) c)
    · exact Or.inr (by omega)
  have nA' : ∀ a, a < z 1 → σ.1 13 mi 0 1 = nI (z 0 + a) → False := fun a ha e => by
    rcases nA a with q | q
    · exact q (f1.symm.trans e)
    · omega
  unfold f_X6_hear f_X11_does
  rw [letv_e (σ.1 13 mi 0 0), letv_e (16 * (nI s - nI (z 0)) + nI t), gdx_0 (by decide) (by decide), letv_e (τ.1 36 0), d1 0 (by omega)]
  rcases m3 with ⟨q, -⟩ | ⟨q, ⟨a, ha, e⟩, -⟩ | ⟨q, ⟨a, ha, e⟩, -⟩ | ⟨q, ⟨a, ha, e⟩⟩ | ⟨q, ⟨a, ha, e⟩, -⟩ | ⟨q, -, e5⟩
  · rw [q, if_pos rfl, if_pos rfl, letv_e, f2]
    exact (p_prepare hz h hs ht hm1 hm2).gdb
  · exact (nA' a ha e).elim
  · exact (nA' a ha e).elim
  · exact (nA' a ha e).elim
  · exact (nA' a ha e).elim
  · rw [q, if_neg (show ¬ (6 : Int32) = 1 by decide), if_neg (show ¬ (6 : Int32) = 1 by decide), if_pos rfl, if_neg (show ¬ (6 : Int32) = 2 by decide), if_neg (show ¬ (6 : Int32) = 3 by decide), if_neg (show ¬ (6 : Int32) = 4 by decide), if_neg (show ¬ (6 : Int32) = 5 by decide), letv_e, letv_e, f2]
    exact (p_end hz h hs ht e5 (d1 5 (by omega))).gdb
theorem p_hearA (hz : zOK z) (hbb : bb < 50000) (h : Rel z bb w σ τ) {mi a t : Nat} (ha : a < z 1) (ht : t < z 2) (hm1 : ∀ i, i < z 4 → ¬ mi = σ.2.2 12 i) (hm2 : ¬ mi = z 4) (hd : Hd z bb mi σ τ) (f1 : σ.1 13 mi 0 1 = nI (z 0 + a)) (f2 : σ.1 13 mi 0 2 = nI t) :
    Pst z bb mi σ τ (f_X0_hear z σ a mi) (f_X11_does z τ (nI (z 0 + a)) (nI t)) := by
  have hzz := hz
  unfold zOK at hzz
  obtain ⟨d1, d2, d3⟩ := hd
  obtain ⟨m1, ⟨b, hb, m2⟩, m3⟩ := d3
  have nS : ∀ s, s < z 0 → σ.1 13 mi 0 1 = nI s → False := fun s hs e => i_ne (a := z 0 + a) (b := s) (by omega) (by omega) (by omega) (f1.symm.trans e)
  have nC : σ.1 13 mi 0 1 = nI (z 0 + z 1) → False := fun e => i_ne (a := z 0 + a) (b := z 0 + z 1) (by omega) (by omega) (by omega) (f1.symm.trans e)
  have g3 : τ.1 36 3 = nI b := (d1 3 (by omega)).trans m2
  unfold f_X0_hear f_X11_does
  rw [letv_e, f2, gdx_n ht (by omega), letv_e, pk_sub (by omega), show z 0 + a - z 0 = a by omega, mul16, nI_add, letv_e, gdx_0 (by decide) (by decide), letv_e, d1 0 (by omega)]
  rcases m3 with ⟨q, ⟨s, hs, e⟩⟩ | ⟨q, -, ⟨s, hs, e4⟩, e5⟩ | ⟨q, -, ⟨s, hs, e4⟩, e5, ⟨a2, ha2, e6⟩⟩ | ⟨q, -⟩ | ⟨q, -, ⟨a2, ha2, e6⟩, e7⟩ | ⟨q, e1, e5⟩
  · exact (nS s hs e).elim
  · rw [q, if_pos rfl, if_neg (show ¬ (2 : Int32) = 1 by decide), if_pos rfl]
    exact (p_hvote hz hbb h ha ht hs hb hm1 hm2 e5 f2 m2 e4 rfl g3 ((d1 4 (by omega)).trans e4) (d1 5 (by omega))).gdb
  · rw [q, if_neg (show ¬ (3 : Int32) = 2 by decide), if_pos rfl, if_neg (show ¬ (3 : Int32) = 1 by decide), if_neg (show ¬ (3 : Int32) = 2 by decide), if_pos rfl]
    exact (p_hacc hz h ha ht hs ha2 hm1 hm2 e5 f2 m2 e4 rfl e6 g3 ((d1 4 (by omega)).trans e4) (d1 5 (by omega)) ((d1 6 (by omega)).trans e6)).lift
  · rw [q, if_neg (show ¬ (4 : Int32) = 2 by decide), if_neg (show ¬ (4 : Int32) = 3 by decide), if_pos rfl, if_neg (show ¬ (4 : Int32) = 1 by decide), if_neg (show ¬ (4 : Int32) = 2 by decide), if_neg (show ¬ (4 : Int32) = 3 by decide), if_pos rfl]
    exact (p_hask hz hbb h ha ht hb hm1 hm2 f2 m2 g3).gdb
  · rw [q, if_neg (show ¬ (5 : Int32) = 2 by decide), if_neg (show ¬ (5 : Int32) = 3 by decide), if_neg (show ¬ (5 : Int32) = 4 by decide), if_pos rfl, if_neg (show ¬ (5 : Int32) = 1 by decide), if_neg (show ¬ (5 : Int32) = 2 by decide), if_neg (show ¬ (5 : Int32) = 3 by decide), if_neg (show ¬ (5 : Int32) = 4 by decide), if_pos rfl]
    exact (p_hprom hz hbb h ha ht hb ha2 hm1 hm2 f2 m2 e6 g3 ((d1 6 (by omega)).trans e6) (fun s hs => ⟨(d2 q s hs).1, (d2 q s hs).2, e7 s hs⟩)).lift
  · rcases e1 with ⟨s, hs, e⟩ | e
    · exact (nS s hs e).elim
    · exact (nC e).elim
theorem upI_same (σ : Sg) (f i j k : Nat) : upI σ f i j k (σ.1 f i j k) = σ := by
  unfold upI
  refine Prod.ext (funext fun f' => funext fun i' => funext fun j' => funext fun k' => ?_) rfl
  show (if f' = f ∧ i' = i ∧ j' = j ∧ k' = k then σ.1 f i j k else σ.1 f' i' j' k') = σ.1 f' i' j' k'
  by_cases c : f' = f ∧ i' = i ∧ j' = j ∧ k' = k
  · rw [if_pos c, c.1, c.2.1, c.2.2.1, c.2.2.2]
  · rw [if_neg c]
theorem node_s (hz : zOK z) {s : Nat} (hs : s < z 0) : f_X10_nodeAt z σ (nI s) = some (some (.inl s)) := by
  have hzz := hz
  unfold zOK at hzz
  unfold f_X10_nodeAt
  rw [if_neg (nI_pos (by omega)), if_neg (nI_ge hs (by omega)), gdx_n hs (by omega)]
theorem node_a (hz : zOK z) {a : Nat} (ha : a < z 1) : f_X10_nodeAt z σ (nI (z 0 + a)) = some (some (.inr a)) := by
  have hzz := hz
  unfold zOK at hzz
  have hA : f_X10_acceptorAt z σ (nI (z 0 + a)) = some (some a) := by
    unfold f_X10_acceptorAt
    rw [if_neg (nI_nlt (by omega) (by omega)), show f_X7_client z σ = some (nI (z 0 + z 1)) by unfold f_X7_client; rw [nI_add], bnd1_e, if_neg (nI_ge (by omega) (by omega)), pk_sub (by omega), show z 0 + a - z 0 = a by omega, gdx_n ha (by omega)]
  unfold f_X10_nodeAt
  rw [if_neg (nI_pos (by omega)), if_pos (nI_le (by omega) (by omega)), hA, bnd1_e]
  show gdr a (z 1) (fun k8 => some (some (Sum.inr k8))) = some (some (Sum.inr a))
  rw [gdr_n ha]
theorem p_hand (hz : zOK z) (hbb : bb < 50000) (h : Rel z bb w σ τ) {i : Nat} (hi : i < w) : ∃ r w' σ' τ', f_X10_handOver z σ (nI i) = some (r, σ') ∧ f_X11_deliver z τ (nI i) = some (r, τ') ∧ Rel z bb w' σ' τ' := by
  have hzz := hz
  unfold zOK at hzz
  have hw := h.1.1
  obtain ⟨t1, t2, t3⟩ := h.take hz hi
  have hmi := h.2.2.2.2.2.2.2.2.2.2.2.2.2.2.2.1.1 i (by omega)
  have hM : f_X11_isMessage z τ (nI i) = some 1 := by
    rcases has_M hz h (nI i) with ⟨e1, e2⟩ | ⟨j, hj, e, e1, e2⟩
    · exfalso
      unfold f_X5_has at e1
      rw [if_neg (nI_pos (by omega)), letv_e, h.1.2.1, if_neg (nI_ge hi (by omega))] at e1
      exact absurd e1 (by decide)
    · exact e2
  unfold f_X10_handOver f_X11_deliver
  rw [take_e hz h hi, bnd2_e, gdr_n hmi.1, letv_e, hM, bnd1_e, if_neg (show ¬ (1 : Int32) = 0 by decide), takeOut_e (by omega) h.1.2.2 hi, bnd1_e, letv_e (((tkM τ i w).1 0 34))]
  have hm1 := t1.nhd
  have hm2 := t1.2.2.2.2.2.2.2.2.2.2.2.2.2.2.2.1.2.1.2
  rw [t3] at hm1 hm2
  generalize hmm : σ.2.2 12 i = mi at t2 hm1 hm2
  -- the count of delivered messages
  have tc : (tkM τ i w).1 0 34 = (tkX σ i w).1 0 0 0 7 := t1.2.1.2.2.1
  have tR : Rel z bb (w - 1) (upI (tkX σ i w) 0 0 0 7 ((tkX σ i w).1 0 0 0 7 + 1)) (tpI (tkM τ i w) 0 34 ((tkM τ i w).1 0 34 + 1)) := by
    obtain ⟨a1, a2, a3⟩ := t1
    refine ⟨a1, ⟨a2.1, a2.2.1, ?_, a2.2.2.2⟩, a3⟩
    show (tpI (tkM τ i w) 0 34 ((tkM τ i w).1 0 34 + 1)).1 0 34 = (upI (tkX σ i w) 0 0 0 7 ((tkX σ i w).1 0 0 0 7 + 1)).1 0 0 0 7
    simp [tpI, upI, tc]
  have tH : Hd z bb mi (upI (tkX σ i w) 0 0 0 7 ((tkX σ i w).1 0 0 0 7 + 1)) (tpI (tkM τ i w) 0 34 ((tkM τ i w).1 0 34 + 1)) := t2
  have hm1' : ∀ j, j < z 4 → ¬ mi = (upI (tkX σ i w) 0 0 0 7 ((tkX σ i w).1 0 0 0 7 + 1)).2.2 12 j := hm1
  rw [letv_e (upI _ _ _ _ _ _), letv_e (tpI _ _ _ _)]
  generalize hA : upI (tkX σ i w) 0 0 0 7 ((tkX σ i w).1 0 0 0 7 + 1) = A at tR tH hm1'
  generalize hB : tpI (tkM τ i w) 0 34 ((tkM τ i w).1 0 34 + 1) = B at tR tH
  obtain ⟨d1, d2, d3⟩ := tH
  have d3' := d3
  obtain ⟨⟨t, ht, m1⟩, m2, m3⟩ := d3
  have hcl : f_X7_client z A = some (nI (z 0 + z 1)) := by unfold f_X7_client; rw [nI_add]
  rw [letv_e, hcl, bnd1_e, gdx_l (n := mlen 36) 1 (by decide) (by decide), letv_e (B.1 36 1), d1 1 (by omega), nI_add]
  have hwho : (A.1 13 mi 0 1 = nI (z 0 + z 1) ∧ A.1 13 mi 0 0 = 6) ∨ (∃ s, s < z 0 ∧ A.1 13 mi 0 1 = nI s) ∨ ∃ a, a < z 1 ∧ A.1 13 mi 0 1 = nI (z 0 + a) := by
    rcases m3 with ⟨q, e⟩ | ⟨q, e, -⟩ | ⟨q, e, -⟩ | ⟨q, e⟩ | ⟨q, e, -⟩ | ⟨q, e1, e5⟩
    · exact Or.inr (Or.inl e)
    · exact Or.inr (Or.inr e)
    · exact Or.inr (Or.inr e)
    · exact Or.inr (Or.inr e)
    · exact Or.inr (Or.inr e)
    · rcases e1 with e | e
      · exact Or.inr (Or.inl e)
      · exact Or.inl ⟨e, q⟩
  rcases hwho with ⟨e, e0⟩ | ⟨s, hs, e⟩ | ⟨a, ha, e⟩
  · obtain ⟨u1, u2⟩ := tR.2.2.1 t ht
    have g2 : B.1 36 2 = nI t := (d1 2 (by omega)).trans m1
    have g5 : B.1 36 5 = A.1 13 mi 0 5 := d1 5 (by omega)
    rw [if_pos e, if_pos e, letv_e, letv_e, m1]
    unfold f_X8_hearEnd
    rw [gdx_n ht (by omega), letv_e, gdx_l (n := mlen 36) 2 (by decide) (by decide), letv_e (B.1 36 2), g2, gdx_l (n := mlen 36) 2 (by decide) (by decide), letv_e (B.1 36 2), g2, gdx_n (n := mlen 12) (show t < 16 by omega) (by decide), letv_e (B.1 12 t), u1]
    by_cases c : A.1 3 0 0 t = 2
    · rw [if_pos c, if_pos c, gdx_n ht (by omega), letv_e, bnd1_e, letv_e, gdx_l (n := mlen 36) 5 (by decide) (by decide), letv_e (B.1 36 5), g5, bnd1_e, gdx_n (n := mlen 12) (show t < 16 by omega) (by decide), letv_e]
      refine ⟨_, _, _, _, rfl, ?_, tR.st ht _⟩
      exact congrArg (fun q => some (q, _)) e0.symm
    · rw [if_neg c, if_neg c, bnd1_e, letv_e, e0, gdx_l (n := mlen 36) 2 (by decide) (by decide), letv_e (B.1 36 2), g2, gdx_n (n := mlen 12) (show t < 16 by omega) (by decide), letv_e (B.1 12 t), bnd1_e, gdx_n (n := mlen 12) (show t < 16 by omega) (by decide), letv_e, u1]
      have := tR.st ht (A.1 3 0 0 t)
      rw [upI_same] at this
      exact ⟨_, _, _, _, rfl, rfl, this⟩
  · have nc : ¬ nI s = nI (z 0 + z 1) := i_ne (by omega) (by omega) (by omega)
    obtain ⟨u1, u2⟩ := tR.2.2.2.2.2.2.2.2.2.1.1 s hs
    have g2 : B.1 36 2 = nI t := (d1 2 (by omega)).trans m1
    rw [e, if_neg nc, if_neg nc, letv_e, node_s hz hs, bnd1_e, gdx_n (n := mlen 6) (show s < 9 by omega) (by decide), letv_e (B.1 6 s), u1]
    show ∃ r w' σ' τ', (gdr s (z 0) fun k14 => letv (A.1 17 k14 0 4) fun v16 => if v16 = 0 then (some (9, A)) else (bnd2 (f_X6_hear z A k14 mi) fun r19 s20 => if r19 = 0 then (some (10, s20)) else (letv (s20.1 13 mi 0 0) fun v22 => some (v22, s20)))) = some (r, σ') ∧ _
    rw [gdr_n hs, letv_e]
    by_cases c : A.1 17 s 0 4 = 0
    · rw [if_pos c, if_pos c]
      exact ⟨_, _, _, _, rfl, rfl, tR⟩
    · rw [if_neg c, if_neg c, gdx_l (n := mlen 36) 2 (by decide) (by decide), letv_e (B.1 36 2), g2]
      obtain ⟨r, w', σ', τ', x1, x2, x3, x4, x5, x6⟩ := p_hearS hz hbb tR hs ht hm1' hm2 ⟨d1, d2, d3'⟩ e m1
      rw [x1, x2, bnd2_e, bnd2_e]
      rcases x3 with rfl | rfl
      · rw [if_pos rfl, if_pos rfl]
        exact ⟨_, _, _, _, rfl, rfl, x4⟩
      · rw [if_neg (show ¬ (1 : Int32) = 0 by decide), if_neg (show ¬ (1 : Int32) = 0 by decide), letv_e, gdx_0 (by decide) (by decide), letv_e, x5, x6, d1 0 (by omega)]
        exact ⟨_, _, _, _, rfl, rfl, x4⟩
  · have nc : ¬ nI (z 0 + a) = nI (z 0 + z 1) := i_ne (by omega) (by omega) (by omega)
    obtain ⟨u1, u2⟩ := tR.2.2.2.2.2.2.2.2.2.1.2 a ha
    have g2 : B.1 36 2 = nI t := (d1 2 (by omega)).trans m1
    rw [e, if_neg nc, if_neg nc, letv_e, node_a hz ha, bnd1_e, gdx_n (n := mlen 6) (show z 0 + a < 9 by omega) (by decide), letv_e (B.1 6 (z 0 + a)), u1]
    show ∃ r w' σ' τ', (gdr a (z 1) fun k15 => letv (A.1 25 k15 0 4) fun v23 => if v23 = 0 then (some (9, A)) else (bnd2 (f_X0_hear z A k15 mi) fun r26 s27 => if r26 = 0 then (some (10, s27)) else (letv (s27.1 13 mi 0 0) fun v29 => some (v29, s27)))) = some (r, σ') ∧ _
    rw [gdr_n ha, letv_e]
    by_cases c : A.1 25 a 0 4 = 0
    · rw [if_pos c, if_pos c]
      exact ⟨_, _, _, _, rfl, rfl, tR⟩
    · rw [if_neg c, if_neg c, gdx_l (n := mlen 36) 2 (by decide) (by decide), letv_e (B.1 36 2), g2]
      obtain ⟨r, w', σ', τ', x1, x2, x3, x4, x5, x6⟩ := p_hearA hz hbb tR ha ht hm1' hm2 ⟨d1, d2, d3'⟩ e m1
      rw [x1, x2, bnd2_e, bnd2_e]
      rcases x3 with rfl | rfl
      · rw [if_pos rfl, if_pos rfl]
        exact ⟨_, _, _, _, rfl, rfl, x4⟩
      · rw [if_neg (show ¬ (1 : Int32) = 0 by decide), if_neg (show ¬ (1 : Int32) = 0 by decide), letv_e, gdx_0 (by decide) (by decide), letv_e, x5, x6, d1 0 (by omega)]
        exact ⟨_, _, _, _, rfl, rfl, x4⟩
theorem p_deliver (hz : zOK z) (hbb : bb < 50000) (h : Rel z bb w σ τ) (x : Int32) : ∃ r w' σ' τ', f_X10_deliver z σ x = some (r, σ') ∧ f_X11_deliver z τ x = some (r, τ') ∧ Rel z bb w' σ' τ' := by
  rcases has_M hz h x with ⟨e1, e2⟩ | ⟨i, hi, rfl, e1, e2⟩
  · unfold f_X10_deliver f_X11_deliver
    simp only [e1, e2, bnd1_e, if_true]
    exact ⟨_, _, _, _, rfl, rfl, h⟩
  · obtain ⟨r, w', σ', τ', g1, g2, g3⟩ := p_hand hz hbb h hi
    unfold f_X10_deliver
    rw [e1, bnd1_e, if_neg (show ¬ (1 : Int32) = 0 by decide), g1, bnd2_e]
    exact ⟨r, w', σ', τ', rfl, g2, g3⟩
end DLV
