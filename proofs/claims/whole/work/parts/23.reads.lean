section PAIR3
variable {z : Nat → Nat} {bb w : Nat} {σ : Sg} {τ : Tg}
theorem in_e0 {x : Int32} {n : Nat} (hn : n < 2147483648) : f_X11_in x 0 (nI n - 1) = if x < 0 then some 0 else if nI n ≤ x then some 0 else some 1 := by
  by_cases h0 : n = 0
  · subst h0
    unfold f_X11_in
    by_cases h : x < 0
    · rw [if_pos h, if_pos h]
    · rw [if_neg h, if_neg h]
      have h1 : nI 0 - 1 < x := by
        rw [Int32.lt_iff_toInt_lt, Int32.toInt_zero] at h
        rw [Int32.lt_iff_toInt_lt, show (nI 0 - 1).toInt = -1 by decide]
        omega
      have h2 : nI 0 ≤ x := by
        rw [Int32.lt_iff_toInt_lt, Int32.toInt_zero] at h
        rw [Int32.le_iff_toInt_le, show (nI 0).toInt = 0 by decide]
        omega
      rw [if_pos h1, if_pos h2]
  · exact in_e (by omega) hn
theorem has_M (hz : zOK z) (h : Rel z bb w σ τ) (x : Int32) : (f_X5_has z σ x = some 0 ∧ f_X11_isMessage z τ x = some 0) ∨ ∃ i, i < w ∧ x = nI i ∧ f_X5_has z σ x = some 1 ∧ f_X11_isMessage z τ x = some 1 := by
  have hzz := hz
  unfold zOK at hzz
  obtain ⟨w1, w2, w3⟩ := h.1
  unfold f_X5_has f_X11_isMessage
  simp only [letv_e, w2, w3]
  rw [in_e0 (by omega), gdb_ite]
  rcases ixc x (n := w) (by omega) with q | q | ⟨i, hi, rfl, q1, q2⟩
  · exact Or.inl ⟨if_pos q.1, if_pos q.1⟩
  · exact Or.inl ⟨by rw [if_neg q.1, if_pos q.2], by rw [if_neg q.1, if_pos q.2]⟩
  · exact Or.inr ⟨i, hi, rfl, by rw [if_neg q1, if_neg q2], by rw [if_neg q1, if_neg q2]⟩
theorem p_message (hz : zOK z) (h : Rel z bb w σ τ) (x1 x2 : Int32) : ∃ r, f_X10_message z σ x1 x2 = some r ∧ f_X11_message z τ x1 x2 = some r := by
  have hzz := hz
  unfold zOK at hzz
  unfold f_X10_message f_X11_message
  rcases has_M hz h x1 with ⟨e1, e2⟩ | ⟨i, hi, rfl, e1, e2⟩
  · simp only [e1, e2, bnd1_e, if_true]
    exact ⟨_, rfl, rfl⟩
  have hw := h.1.1
  have hq := (h.2.2.2.2.2.2.2.2.2.2.2.2.2.2.2.1.1 i (by omega)).1
  obtain ⟨m1, -, -⟩ := h.2.2.2.2.2.2.2.2.2.2.2.2.2.2.2.2 i hi
  rw [show (6 : Int32) = nI 6 from rfl]
  rcases in_c x2 (n := 6) (by omega) with ⟨e3, e4⟩ | ⟨j, hj, rfl, e3⟩
  · have q0 := e4 0 (by omega)
    have q1 := e4 1 (by omega)
    have q2 := e4 2 (by omega)
    have q3 := e4 3 (by omega)
    have q4 := e4 4 (by omega)
    have q5 := e4 5 (by omega)
    have q6 := e4 6 (by omega)
    simp (disch := omega) only [e1, e2, e3, bnd1_e, i10, if_false, gdx_n, gdr_n, if_true]
    unfold f_X3_told
    rw [if_neg (show ¬ x2 = 0 from q0), if_neg (show ¬ x2 = 1 from q1), if_neg (show ¬ x2 = 2 from q2), if_neg (show ¬ x2 = 3 from q3), if_neg (show ¬ x2 = 4 from q4), if_neg (show ¬ x2 = 5 from q5), if_neg (show ¬ x2 = 6 from q6)]
    exact ⟨_, rfl, rfl⟩
  · have m2 := m1 j (by omega)
    simp (disch := omega) only [e1, e2, e3, bnd1_e, i10, if_false, gdx_n, gdr_n, letv_e, mul7, nI_add, ml30, m2]
    unfold f_X3_told
    rcases (show j = 0 ∨ j = 1 ∨ j = 2 ∨ j = 3 ∨ j = 4 ∨ j = 5 ∨ j = 6 by omega) with rfl | rfl | rfl | rfl | rfl | rfl | rfl <;> exact ⟨_, rfl, rfl⟩
theorem told_log (hz : zOK z) (h : Rel z bb w σ τ) {n : Nat} (hn : n < z 0 + z 1) (x2 x3 : Int32) : ∃ r, f_X2_told z σ n x2 x3 = some r ∧ (gdx (nI n) (mlen 7) fun k4 => letv (τ.1 7 k4) fun v5 => bnd1 (f_X11_in x2 0 (v5 - 1)) fun r7 => if r7 = 0 then (some ((-1))) else (bnd1 (f_X11_in x3 0 3) fun r10 => if r10 = 0 then (some ((-1))) else (gdx (((800 * nI n) + (4 * x2)) + x3) (mlen 8) fun k12 => letv (τ.1 8 k12) fun v13 => some (v13)))) = some r := by
  have hzz := hz
  unfold zOK at hzz
  obtain ⟨q, h1, h2, h3, h4⟩ := h.2.2.2.2.2.2.2.2.2.2.1 n hn
  unfold f_X2_told
  simp (disch := omega) only [gdx_n, ml7, letv_e, h2, h3]
  rw [in_e0 (by omega)]
  rcases ixc x2 (n := q) (by omega) with e | e | ⟨i, hi, rfl, e1, e2⟩
  · simp only [if_pos e.1, bnd1_e, if_true]
    exact ⟨_, rfl, rfl⟩
  · simp only [if_neg e.1, if_pos e.2, bnd1_e, if_true]
    exact ⟨_, rfl, rfl⟩
  simp only [if_neg e1, if_neg e2, bnd1_e, i10, if_false]
  rw [show (3 : Int32) = nI 3 from rfl]
  rcases in_c x3 (n := 3) (by omega) with ⟨e3, e4⟩ | ⟨j, hj, rfl, e3⟩
  · simp only [e3, bnd1_e, if_true]
    rcases ixc x3 (n := 4) (by omega) with g | g | ⟨j, hj, rfl, g1, g2⟩
    · simp only [if_pos g.1]
      exact ⟨_, rfl, rfl⟩
    · simp only [if_neg g.1]
      rw [if_pos (show (4 : Int32) ≤ x3 from g.2)]
      exact ⟨_, rfl, rfl⟩
    · exact absurd rfl (e4 j (by omega))
  · have hc := h4 i j hi (by omega)
    simp (disch := omega) only [e3, bnd1_e, i10, if_false, if_neg (nI_pos (n := j) (by omega)), if_neg (show ¬ (4 : Int32) ≤ nI j from nI_ge (b := 4) (by omega) (by decide)), gdx_n, letv_e, mul800, mul4, nI_add, ml8, hc]
    exact ⟨_, rfl, rfl⟩
theorem p_entry (hz : zOK z) (h : Rel z bb w σ τ) (x1 x2 x3 : Int32) : ∃ r, f_X10_entry z σ x1 x2 x3 = some r ∧ f_X11_entry z τ x1 x2 x3 = some r := by
  have hzz := hz
  unfold zOK at hzz
  unfold f_X10_entry f_X11_entry
  rcases nodAt (σ := σ) (τ := τ) hz x1 with ⟨e1, e2⟩ | ⟨s, hs, rfl, e1, e2⟩ | ⟨a, ha, rfl, e1, e2⟩
  · simp only [e1, e2, bnd1_e, if_true]
    exact ⟨_, rfl, rfl⟩
  · obtain ⟨r, r1, r2⟩ := told_log hz h (n := s) (by omega) x2 x3
    simp only [e1, e2, bnd1_e, oS, i10, if_false]
    rw [gdr_n hs, r1, r2]
    exact ⟨_, rfl, rfl⟩
  · obtain ⟨r, r1, r2⟩ := told_log hz h (n := z 0 + a) (by omega) x2 x3
    simp only [e1, e2, bnd1_e, oS, i10, if_false]
    rw [gdr_n ha, r1, r2]
    exact ⟨_, rfl, rfl⟩
theorem find_loop {g : Nat → Int32 → Option Int32} {p : Nat → Bool} {K : Nat} {r : Nat → Int32} {d : Int32} (hs : ∀ n k, k < K → g (n + 1) (nI k) = if p k = true then some (r k) else g n (nI (k + 1))) (he : ∀ n, g (n + 1) (nI K) = some d) :
    ∀ n k, k ≤ K → K < k + n → (∀ j, j < k → p j = false) → (∃ j, j < K ∧ p j = true ∧ (∀ i, i < j → p i = false) ∧ g n (nI k) = some (r j)) ∨ ((∀ i, i < K → p i = false) ∧ g n (nI k) = some d) := by
  intro n
  induction n with
  | zero => intro k h1 h2; omega
  | succ n ih =>
    intro k h1 h2 h3
    by_cases h : k < K
    · rw [hs n k h]
      by_cases hp : p k = true
      · rw [if_pos hp]
        exact Or.inl ⟨k, h, hp, h3, rfl⟩
      · rw [if_neg hp]
        refine ih (k + 1) h (by omega) (fun j hj => ?_)
        by_cases q : j = k
        · subst q; simpa using hp
        · exact h3 j (by omega)
    · have hk : k = K := by omega
      subst hk
      exact Or.inr ⟨h3, he n⟩
theorem find_FU {g : Nat → Int32 → Option Int32} {p : Nat → Bool} {K : Nat} {r : Nat → Int32} {d : Int32} (hK : K < 1000) (hs : ∀ n k, k < K → g (n + 1) (nI k) = if p k = true then some (r k) else g n (nI (k + 1))) (he : ∀ n, g (n + 1) (nI K) = some d) :
    (∃ j, j < K ∧ p j = true ∧ (∀ i, i < j → p i = false) ∧ g FU 0 = some (r j)) ∨ ((∀ i, i < K → p i = false) ∧ g FU 0 = some d) := find_loop hs he FU 0 (Nat.zero_le _) (by have := FU_big; omega) (fun j hj => by omega)
theorem cnt_ext {p q : Nat → Bool} {a : Nat} (h : ∀ i, i < a → p i = q i) : ∀ n, a ≤ n → (∀ i, a ≤ i → i < n → p i = false) → cnt p n = cnt q a := by
  intro n
  induction n with
  | zero => intro h1 h2; rw [show a = 0 by omega]; rfl
  | succ n ih =>
    intro h1 h2
    by_cases q : a = n + 1
    · subst q; exact cnt_congr h
    · rw [cnt, ih (by omega) (fun i h3 h4 => h2 i h3 (by omega)), h2 n (by omega) (by omega)]
      rfl
theorem p_lock (hz : zOK z) (h : Rel z bb w σ τ) (x1 x2 : Int32) : ∃ r, f_X10_lock z σ x1 x2 = some r ∧ f_X11_lock z τ x1 x2 = some r := by
  have hzz := hz
  unfold zOK at hzz
  unfold f_X10_lock f_X11_lock
  rw [isKey_M (σ := σ) hz]
  rcases isKey_c (σ := σ) hz x1 with e | ⟨k, hk, rfl, e⟩
  · simp only [e, bnd1_e, if_true]
    exact ⟨_, rfl, rfl⟩
  simp only [e, bnd1_e, i10, if_false]
  obtain ⟨l1, l2, l3, l4⟩ := h.2.2.2.2.1
  obtain ⟨l5, l6⟩ := l3 k hk
  rw [show (2 : Int32) = nI 2 from rfl]
  rcases in_c x2 (n := 2) (by omega) with ⟨e3, e4⟩ | ⟨j, hj, rfl, e3⟩
  · have q0 := e4 0 (by omega)
    have q1 := e4 1 (by omega)
    have q2 := e4 2 (by omega)
    simp only [e3, bnd1_e, if_true]
    rw [if_neg (show ¬ x2 = 0 from q0), if_neg (show ¬ x2 = 1 from q1), if_neg q2]
    exact ⟨_, rfl, rfl⟩
  simp only [e3, bnd1_e, i10, if_false]
  rcases (show j = 0 ∨ j = 1 ∨ j = 2 by omega) with rfl | rfl | rfl
  · -- how many
    rw [if_pos (show nI 0 = 0 from rfl), if_pos (show nI 0 = 0 from rfl)]
    have e1 : f_X1_holders_L4 z σ (nI k) FU 0 0 = some (nI (cnt (fun i => decide (¬ σ.1 8 i 0 k = 0)) (z 2))) := by
      refine cnt_FU (p := fun i => decide (¬ σ.1 8 i 0 k = 0)) (K := z 2) (by omega) (fun n y i hi => ?_) (fun n y => ?_)
      · rw [f_X1_holders_L4, if_neg (nI_ge hi (by omega))]
        simp (disch := omega) only [gdx_n, letv_e, add1]
        by_cases hv : σ.1 8 i 0 k = 0 <;> simp [hv]
      · rw [f_X1_holders_L4, if_pos (nI_le (Nat.le_refl _) (by omega))]
    have e2 : cnt (fun i => bt (τ.1 10 k) i) 16 = cnt (fun i => decide (¬ σ.1 8 i 0 k = 0)) (z 2) := by
      refine cnt_ext (fun i hi => ?_) 16 (by omega) (fun i h1 h2 => ?_)
      · rw [l2 k i hk (by omega)]; simp [hi]
      · rw [l2 k i hk (by omega)]; simp [show ¬ i < z 2 by omega]
    unfold f_X1_holders
    simp (disch := omega) only [gdx_n, ml10, letv_e, bits_g, bnd1_e, e1, e2]
    exact ⟨_, rfl, rfl⟩
  · -- the least
    rw [if_neg (show ¬ nI 1 = 0 by decide), if_neg (show ¬ nI 1 = 0 by decide), if_pos (show nI 1 = 1 from rfl), if_neg (show ¬ nI 1 = nI 2 by decide)]
    have e1 := find_FU (g := f_X1_leastHolder_L2 z σ (nI k)) (p := fun i => decide (¬ σ.1 8 i 0 k = 0)) (K := z 2) (r := nI) (d := -1) (by omega) (fun n i hi => by
      rw [f_X1_leastHolder_L2, if_neg (nI_ge hi (by omega))]
      simp (disch := omega) only [gdx_n, letv_e, add1]
      by_cases hv : σ.1 8 i 0 k = 0 <;> simp [hv]) (fun n => by rw [f_X1_leastHolder_L2, if_pos (nI_le (Nat.le_refl _) (by omega))])
    have e2 := find_FU (g := f_X11_lock_L55 z τ (nI k)) (p := fun i => bt (τ.1 10 k) i) (K := 16) (r := nI) (d := 16) (by omega) (fun n i hi => by
      rw [f_X11_lock_L55, if_neg (show ¬ (16 : Int32) ≤ nI i from nI_ge (b := 16) hi (by decide))]
      simp (disch := omega) only [gdx_n, letv_e, add1, ml10]
      have hb := bit_M0 (τ.1 10 k) (s := i) (by omega)
      cases hv : bt (τ.1 10 k) i
      · rw [if_pos (hb.mpr hv)]; simp
      · rw [if_neg (fun q => by rw [hb.mp q] at hv; cases hv)]; simp) (fun n => by rw [f_X11_lock_L55, if_pos (show (16 : Int32) ≤ nI 16 by decide)]; rfl)
    unfold f_X1_leastHolder
    rcases e1 with ⟨i, i1, i2, i3, i4⟩ | ⟨i1, i2⟩
    · rcases e2 with ⟨j, j1, j2, j3, j4⟩ | ⟨j1, j2⟩
      · have hij : i = j := by
          have hj2 : j < z 2 ∧ ¬ σ.1 8 j 0 k = 0 := by
            have := l2 k j hk (by omega)
            rw [j2] at this
            simpa using this.symm
          have hi2 : bt (τ.1 10 k) i = true := by
            rw [l2 k i hk (by omega)]
            simp only [decide_eq_true_eq] at i2 ⊢
            exact ⟨i1, i2⟩
          rcases Nat.lt_trichotomy i j with q | q | q
          · have := j3 i q
            try simp only at this
            rw [hi2] at this
            cases this
          · exact q
          · have := i3 j q
            simp only [decide_eq_false_iff_not] at this
            exact absurd hj2.2 this
        subst hij
        simp only [i4, j4, bnd1_e]
        rw [if_neg (show ¬ (16 : Int32) ≤ nI i from nI_ge (b := 16) (by omega) (by decide))]
        exact ⟨_, rfl, rfl⟩
      · exfalso
        have := j1 i (by omega)
        try simp only at this
        rw [l2 k i hk (by omega)] at this
        simp only [decide_eq_false_iff_not, decide_eq_true_eq] at this i2
        exact this ⟨i1, i2⟩
    · rcases e2 with ⟨j, j1, j2, j3, j4⟩ | ⟨j1, j2⟩
      · exfalso
        try simp only at j2
        rw [l2 k j hk (by omega)] at j2
        simp only [decide_eq_true_eq] at j2
        have := i1 j j2.1
        simp only [decide_eq_false_iff_not] at this
        exact this j2.2
      · simp only [i2, j2, bnd1_e]
        rw [if_pos (show (16 : Int32) ≤ 16 by decide)]
        exact ⟨_, rfl, rfl⟩
  · -- exclusive
    rw [if_neg (show ¬ nI 2 = 0 by decide), if_neg (show ¬ nI 2 = 1 by decide), if_pos rfl, if_neg (show ¬ nI 2 = 0 by decide), if_pos rfl]
    have e1 := find_FU (g := f_X1_isExclusive_L2 z σ (nI k)) (p := fun i => decide (σ.1 8 i 0 k = 2)) (K := z 2) (r := fun _ => 1) (d := 0) (by omega) (fun n i hi => by
      rw [f_X1_isExclusive_L2, if_neg (nI_ge hi (by omega))]
      simp (disch := omega) only [gdx_n, letv_e, add1]
      by_cases hv : σ.1 8 i 0 k = 2 <;> simp [hv]) (fun n => by rw [f_X1_isExclusive_L2, if_pos (nI_le (Nat.le_refl _) (by omega))])
    unfold f_X1_isExclusive
    simp (disch := omega) only [gdx_n, ml11, letv_e]
    rcases e1 with ⟨i, i1, i2, i3, i4⟩ | ⟨i1, i2⟩
    · simp only [decide_eq_true_eq] at i2
      rw [(l5 i i1).mpr i2, i4, if_neg (nI_pos (by omega))]
      exact ⟨_, rfl, rfl⟩
    · rcases l6 with q | ⟨t, q1, q2⟩
      · rw [q, i2, if_pos (by decide)]
        exact ⟨_, rfl, rfl⟩
      · exfalso
        have := i1 t q1
        simp only [decide_eq_false_iff_not] at this
        exact this ((l5 t q1).mp q2)
theorem node_2 (hz : zOK z) (h : Rel z bb w σ τ) {s : Nat} (hs : s < z 0) : f_X11_node_L84 z τ (nI s) (nI 2) FU 0 0 = some (nI (cnt (fun i => decide (¬ σ.1 21 s 0 i = 0)) (z 2))) := by
  have hzz := hz
  unfold zOK at hzz
  refine cnt_FU (p := fun i => decide (¬ σ.1 21 s 0 i = 0)) (K := z 2) (by omega) (fun n y i hi => ?_) (fun n y => ?_)
  · rw [f_X11_node_L84, if_neg (nI_ge hi (by omega)), if_pos (show nI 2 = 2 from rfl)]
    have g1 := (h.2.2.2.2.2.2.1 s i hs hi).1
    simp (disch := omega) only [gdx_n, letv_e, add1, mul16, nI_add, ml16, g1]
    by_cases hv : σ.1 21 s 0 i = 0
    · rw [if_pos hv, bnd1_e]; simp [hv, add0]
    · rw [if_neg hv, bnd1_e]; simp [hv, add1]
  · rw [f_X11_node_L84, if_pos (nI_le (Nat.le_refl _) (by omega))]
theorem node_3 (hz : zOK z) (h : Rel z bb w σ τ) {a : Nat} (ha : a < z 1) : f_X11_node_L84 z τ (nI (z 0 + a)) (nI 3) FU 0 0 = some (nI (cnt (fun i => decide (σ.1 27 a i 1 = 0)) (z 2))) := by
  have hzz := hz
  unfold zOK at hzz
  have hs2 : z 0 + a - z 0 = a := by omega
  refine cnt_FU (p := fun i => decide (σ.1 27 a i 1 = 0)) (K := z 2) (by omega) (fun n y i hi => ?_) (fun n y => ?_)
  · rw [f_X11_node_L84, if_neg (nI_ge hi (by omega)), if_neg (show ¬ nI 3 = 2 by decide), letv_e, if_pos (show nI 3 = 3 from rfl)]
    have g1 := (h.2.2.2.2.2.2.2.2.2.2.2.1 a i ha hi).2.2.2.1
    simp (disch := omega) only [gdx_n, letv_e, add1, add0, pk_sub, hs2, mul16, nI_add, ml19, g1]
    by_cases hv : σ.1 27 a i 1 = 0 <;> simp [hv]
  · rw [f_X11_node_L84, if_pos (nI_le (Nat.le_refl _) (by omega))]
theorem node_4 (hz : zOK z) (h : Rel z bb w σ τ) {a : Nat} (ha : a < z 1) : f_X11_node_L84 z τ (nI (z 0 + a)) (nI 4) FU 0 0 = some (nI (cnt (fun i => decide (¬ σ.1 27 a i 3 = 0)) (z 2))) := by
  have hzz := hz
  unfold zOK at hzz
  have hs2 : z 0 + a - z 0 = a := by omega
  refine cnt_FU (p := fun i => decide (¬ σ.1 27 a i 3 = 0)) (K := z 2) (by omega) (fun n y i hi => ?_) (fun n y => ?_)
  · rw [f_X11_node_L84, if_neg (nI_ge hi (by omega)), if_neg (show ¬ nI 4 = 2 by decide), letv_e, if_neg (show ¬ nI 4 = 3 by decide)]
    have g1 := (h.2.2.2.2.2.2.2.2.2.2.2.1 a i ha hi).2.2.2.2.2.1
    simp (disch := omega) only [gdx_n, letv_e, add1, add0, pk_sub, hs2, mul16, nI_add, ml21, g1]
    by_cases hv : σ.1 27 a i 3 = 0 <;> simp [hv]
  · rw [f_X11_node_L84, if_pos (nI_le (Nat.le_refl _) (by omega))]
theorem node_2_2 (hz : zOK z) (h : Rel z bb w σ τ) {s : Nat} (hs : s < z 0) : f_X11_node_L84_2 z τ (nI s) (nI 2) FU 0 0 = some (nI (cnt (fun i => decide (¬ σ.1 21 s 0 i = 0)) (z 2))) := by
  have hzz := hz
  unfold zOK at hzz
  refine cnt_FU (p := fun i => decide (¬ σ.1 21 s 0 i = 0)) (K := z 2) (by omega) (fun n y i hi => ?_) (fun n y => ?_)
  · rw [f_X11_node_L84_2, if_neg (nI_ge hi (by omega)), if_pos (show nI 2 = 2 from rfl)]
    have g1 := (h.2.2.2.2.2.2.1 s i hs hi).1
    simp (disch := omega) only [gdx_n, letv_e, add1, mul16, nI_add, ml16, g1]
    by_cases hv : σ.1 21 s 0 i = 0
    · rw [if_pos hv, bnd1_e]; simp [hv, add0]
    · rw [if_neg hv, bnd1_e]; simp [hv, add1]
  · rw [f_X11_node_L84_2, if_pos (nI_le (Nat.le_refl _) (by omega))]
theorem node_2_3 (hz : zOK z) (h : Rel z bb w σ τ) {a : Nat} (ha : a < z 1) : f_X11_node_L84_2 z τ (nI (z 0 + a)) (nI 3) FU 0 0 = some (nI (cnt (fun i => decide (σ.1 27 a i 1 = 0)) (z 2))) := by
  have hzz := hz
  unfold zOK at hzz
  have hs2 : z 0 + a - z 0 = a := by omega
  refine cnt_FU (p := fun i => decide (σ.1 27 a i 1 = 0)) (K := z 2) (by omega) (fun n y i hi => ?_) (fun n y => ?_)
  · rw [f_X11_node_L84_2, if_neg (nI_ge hi (by omega)), if_neg (show ¬ nI 3 = 2 by decide), letv_e, if_pos (show nI 3 = 3 from rfl)]
    have g1 := (h.2.2.2.2.2.2.2.2.2.2.2.1 a i ha hi).2.2.2.1
    simp (disch := omega) only [gdx_n, letv_e, add1, add0, pk_sub, hs2, mul16, nI_add, ml19, g1]
    by_cases hv : σ.1 27 a i 1 = 0 <;> simp [hv]
  · rw [f_X11_node_L84_2, if_pos (nI_le (Nat.le_refl _) (by omega))]
theorem node_2_4 (hz : zOK z) (h : Rel z bb w σ τ) {a : Nat} (ha : a < z 1) : f_X11_node_L84_2 z τ (nI (z 0 + a)) (nI 4) FU 0 0 = some (nI (cnt (fun i => decide (¬ σ.1 27 a i 3 = 0)) (z 2))) := by
  have hzz := hz
  unfold zOK at hzz
  have hs2 : z 0 + a - z 0 = a := by omega
  refine cnt_FU (p := fun i => decide (¬ σ.1 27 a i 3 = 0)) (K := z 2) (by omega) (fun n y i hi => ?_) (fun n y => ?_)
  · rw [f_X11_node_L84_2, if_neg (nI_ge hi (by omega)), if_neg (show ¬ nI 4 = 2 by decide), letv_e, if_neg (show ¬ nI 4 = 3 by decide)]
    have g1 := (h.2.2.2.2.2.2.2.2.2.2.2.1 a i ha hi).2.2.2.2.2.1
    simp (disch := omega) only [gdx_n, letv_e, add1, add0, pk_sub, hs2, mul16, nI_add, ml21, g1]
    by_cases hv : σ.1 27 a i 3 = 0 <;> simp [hv]
  · rw [f_X11_node_L84_2, if_pos (nI_le (Nat.le_refl _) (by omega))]
theorem node_3_2 (hz : zOK z) (h : Rel z bb w σ τ) {s : Nat} (hs : s < z 0) : f_X11_node_L84_3 z τ (nI s) (nI 2) FU 0 0 = some (nI (cnt (fun i => decide (¬ σ.1 21 s 0 i = 0)) (z 2))) := by
  have hzz := hz
  unfold zOK at hzz
  refine cnt_FU (p := fun i => decide (¬ σ.1 21 s 0 i = 0)) (K := z 2) (by omega) (fun n y i hi => ?_) (fun n y => ?_)
  · rw [f_X11_node_L84_3, if_neg (nI_ge hi (by omega)), if_pos (show nI 2 = 2 from rfl)]
    have g1 := (h.2.2.2.2.2.2.1 s i hs hi).1
    simp (disch := omega) only [gdx_n, letv_e, add1, mul16, nI_add, ml16, g1]
    by_cases hv : σ.1 21 s 0 i = 0
    · rw [if_pos hv, bnd1_e]; simp [hv, add0]
    · rw [if_neg hv, bnd1_e]; simp [hv, add1]
  · rw [f_X11_node_L84_3, if_pos (nI_le (Nat.le_refl _) (by omega))]
theorem node_3_3 (hz : zOK z) (h : Rel z bb w σ τ) {a : Nat} (ha : a < z 1) : f_X11_node_L84_3 z τ (nI (z 0 + a)) (nI 3) FU 0 0 = some (nI (cnt (fun i => decide (σ.1 27 a i 1 = 0)) (z 2))) := by
  have hzz := hz
  unfold zOK at hzz
  have hs2 : z 0 + a - z 0 = a := by omega
  refine cnt_FU (p := fun i => decide (σ.1 27 a i 1 = 0)) (K := z 2) (by omega) (fun n y i hi => ?_) (fun n y => ?_)
  · rw [f_X11_node_L84_3, if_neg (nI_ge hi (by omega)), if_neg (show ¬ nI 3 = 2 by decide), letv_e, if_pos (show nI 3 = 3 from rfl)]
    have g1 := (h.2.2.2.2.2.2.2.2.2.2.2.1 a i ha hi).2.2.2.1
    simp (disch := omega) only [gdx_n, letv_e, add1, add0, pk_sub, hs2, mul16, nI_add, ml19, g1]
    by_cases hv : σ.1 27 a i 1 = 0 <;> simp [hv]
  · rw [f_X11_node_L84_3, if_pos (nI_le (Nat.le_refl _) (by omega))]
theorem node_3_4 (hz : zOK z) (h : Rel z bb w σ τ) {a : Nat} (ha : a < z 1) : f_X11_node_L84_3 z τ (nI (z 0 + a)) (nI 4) FU 0 0 = some (nI (cnt (fun i => decide (¬ σ.1 27 a i 3 = 0)) (z 2))) := by
  have hzz := hz
  unfold zOK at hzz
  have hs2 : z 0 + a - z 0 = a := by omega
  refine cnt_FU (p := fun i => decide (¬ σ.1 27 a i 3 = 0)) (K := z 2) (by omega) (fun n y i hi => ?_) (fun n y => ?_)
  · rw [f_X11_node_L84_3, if_neg (nI_ge hi (by omega)), if_neg (show ¬ nI 4 = 2 by decide), letv_e, if_neg (show ¬ nI 4 = 3 by decide)]
    have g1 := (h.2.2.2.2.2.2.2.2.2.2.2.1 a i ha hi).2.2.2.2.2.1
    simp (disch := omega) only [gdx_n, letv_e, add1, add0, pk_sub, hs2, mul16, nI_add, ml21, g1]
    by_cases hv : σ.1 27 a i 3 = 0 <;> simp [hv]
  · rw [f_X11_node_L84_3, if_pos (nI_le (Nat.le_refl _) (by omega))]
theorem node_4_2 (hz : zOK z) (h : Rel z bb w σ τ) {s : Nat} (hs : s < z 0) : f_X11_node_L84_4 z τ (nI s) (nI 2) FU 0 0 = some (nI (cnt (fun i => decide (¬ σ.1 21 s 0 i = 0)) (z 2))) := by
  have hzz := hz
  unfold zOK at hzz
  refine cnt_FU (p := fun i => decide (¬ σ.1 21 s 0 i = 0)) (K := z 2) (by omega) (fun n y i hi => ?_) (fun n y => ?_)
  · rw [f_X11_node_L84_4, if_neg (nI_ge hi (by omega)), if_pos (show nI 2 = 2 from rfl)]
    have g1 := (h.2.2.2.2.2.2.1 s i hs hi).1
    simp (disch := omega) only [gdx_n, letv_e, add1, mul16, nI_add, ml16, g1]
    by_cases hv : σ.1 21 s 0 i = 0
    · rw [if_pos hv, bnd1_e]; simp [hv, add0]
    · rw [if_neg hv, bnd1_e]; simp [hv, add1]
  · rw [f_X11_node_L84_4, if_pos (nI_le (Nat.le_refl _) (by omega))]
theorem node_4_3 (hz : zOK z) (h : Rel z bb w σ τ) {a : Nat} (ha : a < z 1) : f_X11_node_L84_4 z τ (nI (z 0 + a)) (nI 3) FU 0 0 = some (nI (cnt (fun i => decide (σ.1 27 a i 1 = 0)) (z 2))) := by
  have hzz := hz
  unfold zOK at hzz
  have hs2 : z 0 + a - z 0 = a := by omega
  refine cnt_FU (p := fun i => decide (σ.1 27 a i 1 = 0)) (K := z 2) (by omega) (fun n y i hi => ?_) (fun n y => ?_)
  · rw [f_X11_node_L84_4, if_neg (nI_ge hi (by omega)), if_neg (show ¬ nI 3 = 2 by decide), letv_e, if_pos (show nI 3 = 3 from rfl)]
    have g1 := (h.2.2.2.2.2.2.2.2.2.2.2.1 a i ha hi).2.2.2.1
    simp (disch := omega) only [gdx_n, letv_e, add1, add0, pk_sub, hs2, mul16, nI_add, ml19, g1]
    by_cases hv : σ.1 27 a i 1 = 0 <;> simp [hv]
  · rw [f_X11_node_L84_4, if_pos (nI_le (Nat.le_refl _) (by omega))]
theorem node_4_4 (hz : zOK z) (h : Rel z bb w σ τ) {a : Nat} (ha : a < z 1) : f_X11_node_L84_4 z τ (nI (z 0 + a)) (nI 4) FU 0 0 = some (nI (cnt (fun i => decide (¬ σ.1 27 a i 3 = 0)) (z 2))) := by
  have hzz := hz
  unfold zOK at hzz
  have hs2 : z 0 + a - z 0 = a := by omega
  refine cnt_FU (p := fun i => decide (¬ σ.1 27 a i 3 = 0)) (K := z 2) (by omega) (fun n y i hi => ?_) (fun n y => ?_)
  · rw [f_X11_node_L84_4, if_neg (nI_ge hi (by omega)), if_neg (show ¬ nI 4 = 2 by decide), letv_e, if_neg (show ¬ nI 4 = 3 by decide)]
    have g1 := (h.2.2.2.2.2.2.2.2.2.2.2.1 a i ha hi).2.2.2.2.2.1
    simp (disch := omega) only [gdx_n, letv_e, add1, add0, pk_sub, hs2, mul16, nI_add, ml21, g1]
    by_cases hv : σ.1 27 a i 3 = 0 <;> simp [hv]
  · rw [f_X11_node_L84_4, if_pos (nI_le (Nat.le_refl _) (by omega))]
theorem told6 (hz : zOK z) {s : Nat} : f_X6_openSessions z σ s = some (nI (cnt (fun i => decide (¬ σ.1 21 s 0 i = 0)) (z 2))) := by
  have hzz := hz
  unfold zOK at hzz
  unfold f_X6_openSessions
  rw [letv_e, cnt_FU (g := f_X6_openSessions_L13 z σ s (nI (z 2))) (p := fun i => decide (¬ σ.1 21 s 0 i = 0)) (K := z 2) (by omega) (fun n y i hi => ?_) (fun n y => ?_)]
  · rfl
  · rw [f_X6_openSessions_L13, if_neg (nI_ge hi (by omega))]
    simp (disch := omega) only [gdx_n, letv_e, add1]
    by_cases hv : σ.1 21 s 0 i = 0 <;> simp [hv]
  · rw [f_X6_openSessions_L13, if_pos (nI_le (Nat.le_refl _) (by omega))]
theorem told3 (hz : zOK z) {a : Nat} : f_X0_unpromised z σ a = some (nI (cnt (fun i => decide (σ.1 27 a i 1 = 0)) (z 2))) := by
  have hzz := hz
  unfold zOK at hzz
  unfold f_X0_unpromised
  rw [letv_e, cnt_FU (g := f_X0_unpromised_L13 z σ a (nI (z 2))) (p := fun i => decide (σ.1 27 a i 1 = 0)) (K := z 2) (by omega) (fun n y i hi => ?_) (fun n y => ?_)]
  · rfl
  · rw [f_X0_unpromised_L13, if_neg (nI_ge hi (by omega))]
    simp (disch := omega) only [gdx_n, letv_e, add1]
    by_cases hv : σ.1 27 a i 1 = 0 <;> simp [hv]
  · rw [f_X0_unpromised_L13, if_pos (nI_le (Nat.le_refl _) (by omega))]
theorem told4 (hz : zOK z) {a : Nat} : f_X0_ended z σ a = some (nI (cnt (fun i => decide (¬ σ.1 27 a i 3 = 0)) (z 2))) := by
  have hzz := hz
  unfold zOK at hzz
  unfold f_X0_ended
  rw [letv_e, cnt_FU (g := f_X0_ended_L13 z σ a (nI (z 2))) (p := fun i => decide (¬ σ.1 27 a i 3 = 0)) (K := z 2) (by omega) (fun n y i hi => ?_) (fun n y => ?_)]
  · rfl
  · rw [f_X0_ended_L13, if_neg (nI_ge hi (by omega))]
    simp (disch := omega) only [gdx_n, letv_e, add1]
    by_cases hv : σ.1 27 a i 3 = 0 <;> simp [hv]
  · rw [f_X0_ended_L13, if_pos (nI_le (Nat.le_refl _) (by omega))]
theorem p_node (hz : zOK z) (h : Rel z bb w σ τ) (x1 x2 : Int32) : ∃ r, f_X10_node z σ x1 x2 = some r ∧ f_X11_node z τ x1 x2 = some r := by
  have hzz := hz
  unfold zOK at hzz
  unfold f_X10_node f_X11_node f_X6_told f_X0_told
  rcases nodAt (σ := σ) (τ := τ) hz x1 with ⟨e1, e2⟩ | ⟨s, hs, rfl, e1, e2⟩ | ⟨a, ha, rfl, e1, e2⟩
  · simp only [e1, e2, bnd1_e, if_true]
    exact ⟨_, rfl, rfl⟩
  · simp only [e1, e2, bnd1_e, oS, i10, if_false]
    rw [gdr_n hs]
    have hl : ¬ nI (z 0) ≤ nI s := nI_ge hs (by omega)
    obtain ⟨u1, u2⟩ := h.2.2.2.2.2.2.2.2.2.1.1 s hs
    obtain ⟨q, q1, q2, q3, -⟩ := h.2.2.2.2.2.2.2.2.2.2.1 s (by omega)
    have d2 := node_3_2 hz h hs
    have d2' := node_2 hz h hs
    rw [show (4 : Int32) = nI 4 from rfl]
    rcases in_c x2 (n := 4) (by omega) with ⟨e3, e4⟩ | ⟨j, hj, rfl, e3⟩
    · have q0 := e4 0 (by omega)
      have q1 := e4 1 (by omega)
      have q2 := e4 2 (by omega)
      simp only [e3, bnd1_e, if_true]
      rw [if_neg (show ¬ x2 = 0 from q0), if_neg (show ¬ x2 = 1 from q1), if_neg (show ¬ x2 = 2 from q2)]
      exact ⟨_, rfl, rfl⟩
    simp only [e3, bnd1_e, i10, if_false, if_neg hl, told6 hz]
    rcases (show j = 0 ∨ j = 1 ∨ j = 2 ∨ j = 3 ∨ j = 4 by omega) with rfl | rfl | rfl | rfl | rfl
    · simp (disch := omega) only [gdx_n, ml6, letv_e, u1]
      by_cases hu : σ.1 17 s 0 4 = 0
      · simp only [hu, if_true]
        exact ⟨_, rfl, rfl⟩
      · simp only [if_neg hu]
        exact ⟨_, rfl, rfl⟩
    · simp (disch := omega) only [gdx_n, ml7, letv_e, q2, q3]
      exact ⟨_, rfl, rfl⟩
    · simp only [d2, bnd1_e]
      exact ⟨_, rfl, rfl⟩
    · exact ⟨_, rfl, rfl⟩
    · exact ⟨_, rfl, rfl⟩
  · simp only [e1, e2, bnd1_e, oS, i10, if_false]
    rw [gdr_n ha]
    have hl : nI (z 0) ≤ nI (z 0 + a) := nI_le (by omega) (by omega)
    obtain ⟨u1, u2⟩ := h.2.2.2.2.2.2.2.2.2.1.2 a ha
    obtain ⟨q, q1, q2, q3, -⟩ := h.2.2.2.2.2.2.2.2.2.2.1 (z 0 + a) (by omega)
    have d3 := node_2_3 hz h ha
    have d4 := node_2_4 hz h ha
    rw [show (4 : Int32) = nI 4 from rfl]
    rcases in_c x2 (n := 4) (by omega) with ⟨e3, e4⟩ | ⟨j, hj, rfl, e3⟩
    · have q0 := e4 0 (by omega)
      have q1 := e4 1 (by omega)
      have q3 := e4 3 (by omega)
      have q4 := e4 4 (by omega)
      simp only [e3, bnd1_e, if_true]
      rw [if_neg (show ¬ x2 = 0 from q0), if_neg (show ¬ x2 = 1 from q1), if_neg (show ¬ x2 = 3 from q3), if_neg q4]
      exact ⟨_, rfl, rfl⟩
    simp only [e3, bnd1_e, i10, if_false, if_pos hl, told3 hz, told4 hz]
    rcases (show j = 0 ∨ j = 1 ∨ j = 2 ∨ j = 3 ∨ j = 4 by omega) with rfl | rfl | rfl | rfl | rfl
    · simp (disch := omega) only [gdx_n, ml6, letv_e, u1]
      by_cases hu : σ.1 25 a 0 4 = 0
      · simp only [hu, if_true]
        exact ⟨_, rfl, rfl⟩
      · simp only [if_neg hu]
        exact ⟨_, rfl, rfl⟩
    · simp (disch := omega) only [gdx_n, ml7, letv_e, q2, q3]
      exact ⟨_, rfl, rfl⟩
    · exact ⟨_, rfl, rfl⟩
    · simp only [d3, bnd1_e]
      exact ⟨_, rfl, rfl⟩
    · simp only [d4, bnd1_e]
      exact ⟨_, rfl, rfl⟩
end PAIR3
