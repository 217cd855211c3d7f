/-! calls that only tell -/
section PAIR2
variable {z : Nat → Nat} {bb w : Nat} {σ : Sg} {τ : Tg}
theorem i_lt0 {x : Int32} {n : Nat} (hn : n < 2147483648) (h : x < 0) : x < nI n := by
  rw [Int32.lt_iff_toInt_lt, Int32.toInt_zero] at h
  rw [Int32.lt_iff_toInt_lt, nI_toInt hn]
  omega
theorem accAt (hz : zOK z) (x : Int32) : (f_X10_acceptorAt z σ x = some none ∧ f_X11_isAcceptor z τ x = some 0) ∨ ∃ a, a < z 1 ∧ x = nI (z 0 + a) ∧ f_X10_acceptorAt z σ x = some (some a) ∧ f_X11_isAcceptor z τ x = some 1 := by
  have hzz := hz
  unfold zOK at hzz
  unfold f_X10_acceptorAt f_X11_isAcceptor f_X7_client f_X11_in
  simp only [nI_add, bnd1_e]
  rw [sub1 (by omega)]
  rcases ixc x (n := z 0 + z 1) (by omega) with h | h | ⟨j, h1, rfl, h3, h4⟩
  · refine Or.inl ⟨if_pos (i_lt0 (by omega) h.1), ?_⟩
    rw [if_pos (i_lt0 (by omega) h.1)]
    simp only [bnd1_e, gdb_0]
  · have e1 : ¬ x < nI (z 0) := by
      have := h.2
      rw [Int32.le_iff_toInt_le, nI_toInt (by omega)] at this
      rw [Int32.lt_iff_toInt_lt, nI_toInt (by omega)]
      omega
    have e2 : nI (z 0 + z 1 - 1) < x := by
      have := h.2
      rw [Int32.le_iff_toInt_le, nI_toInt (by omega)] at this
      rw [Int32.lt_iff_toInt_lt, nI_toInt (by omega)]
      omega
    refine Or.inl ⟨by rw [if_neg e1, if_pos h.2], ?_⟩
    rw [if_neg e1, if_pos e2]
    simp only [bnd1_e, gdb_0]
  · by_cases hj : j < z 0
    · refine Or.inl ⟨if_pos (nI_lt hj (by omega)), ?_⟩
      rw [if_pos (nI_lt hj (by omega))]
      simp only [bnd1_e, gdb_0]
    · refine Or.inr ⟨j - z 0, by omega, by rw [show z 0 + (j - z 0) = j by omega], ?_, ?_⟩
      · rw [if_neg (nI_nlt (by omega) (by omega)), if_neg h4, pk_sub (by omega), gdx_n (by omega) (by omega)]
      · rw [if_neg (nI_nlt (by omega) (by omega)), if_neg (nI_nlt (by omega) (by omega))]
        simp only [bnd1_e, gdb_1]
theorem nodAt (hz : zOK z) (x : Int32) : (f_X10_nodeAt z σ x = some none ∧ f_X11_isNode z τ x = some 0) ∨ (∃ s, s < z 0 ∧ x = nI s ∧ f_X10_nodeAt z σ x = some (some (.inl s)) ∧ f_X11_isNode z τ x = some 1) ∨ ∃ a, a < z 1 ∧ x = nI (z 0 + a) ∧ f_X10_nodeAt z σ x = some (some (.inr a)) ∧ f_X11_isNode z τ x = some 1 := by
  have hzz := hz
  unfold zOK at hzz
  unfold f_X10_nodeAt f_X11_isNode
  rw [nI_add, in_e (by omega) (by omega), gdb_ite]
  rcases ixc x (n := z 0 + z 1) (by omega) with h | h | ⟨j, h1, rfl, h3, h4⟩
  · refine Or.inl ⟨?_, if_pos h.1⟩
    rw [if_pos h.1]
    rcases accAt (σ := σ) (τ := τ) hz x with e | ⟨a, ha, rfl, e⟩
    · rw [e.1]; rfl
    · exact absurd h.1 (nI_pos (by omega))
  · refine Or.inl ⟨?_, by rw [if_neg h.1, if_pos h.2]⟩
    have e1 : nI (z 0) ≤ x := by
      have := h.2
      rw [Int32.le_iff_toInt_le, nI_toInt (by omega)] at this
      rw [Int32.le_iff_toInt_le, nI_toInt (by omega)]
      omega
    rw [if_neg h.1, if_pos e1]
    rcases accAt (σ := σ) (τ := τ) hz x with e | ⟨a, ha, rfl, e⟩
    · rw [e.1]; rfl
    · exact absurd h.2 (nI_ge (by omega) (by omega))
  · by_cases hj : j < z 0
    · refine Or.inr (Or.inl ⟨j, hj, rfl, ?_, by rw [if_neg h3, if_neg h4]⟩)
      rw [if_neg h3, if_neg (nI_ge hj (by omega)), gdx_n hj (by omega)]
    · refine Or.inr (Or.inr ⟨j - z 0, by omega, by rw [show z 0 + (j - z 0) = j by omega], ?_, by rw [if_neg h3, if_neg h4]⟩)
      rw [if_neg h3, if_pos (nI_le (by omega) (by omega))]
      rcases accAt (σ := σ) (τ := τ) hz (nI j) with e | ⟨a, ha, hja, e⟩
      · exfalso
        have e2 := e.2
        unfold f_X11_isAcceptor f_X11_in at e2
        rw [nI_add, sub1 (by omega), if_neg (nI_nlt (by omega) (by omega)), if_neg (nI_nlt (by omega) (by omega))] at e2
        simp only [bnd1_e, gdb_1] at e2
        cases e2
      · have : j = z 0 + a := (nI_eq (by omega) (by omega)).mp hja
        subst this
        rw [e.1]
        show gdr a (z 1) (fun k4 => some (some (Sum.inr k4))) = _
        rw [gdr_n ha]
        congr 3
        omega
theorem p_readStatus (h : Rel z bb w σ τ) : ∃ r, f_X10_readStatus z σ = some r ∧ f_X11_readStatus z τ = some r := ⟨_, rfl, by show some _ = _; rw [h.2.1.2.2.2]⟩
theorem p_pending (h : Rel z bb w σ τ) : ∃ r, f_X10_pending z σ = some r ∧ f_X11_pending z τ = some r := ⟨_, rfl, by show some _ = _; rw [h.1.2.2, h.1.2.1]⟩
theorem p_outcome (hz : zOK z) (h : Rel z bb w σ τ) (x : Int32) : ∃ r, f_X10_outcome z σ x = some r ∧ f_X11_outcome z τ x = some r := by
  have hzz := hz
  unfold zOK at hzz
  unfold f_X10_outcome f_X11_outcome
  rw [isTxn_M (σ := σ) hz]
  rcases isTxn_c (σ := σ) hz x with e | ⟨t, ht, rfl, e⟩
  · simp only [e, bnd1_e, if_true]
    exact ⟨_, rfl, rfl⟩
  · obtain ⟨g1, g2⟩ := h.2.2.1 t ht
    simp (disch := omega) only [e, bnd1_e, letv_e, ml12, gdx_n, g1, i10, if_false]
    exact ⟨_, rfl, rfl⟩
theorem p_committedValue (hz : zOK z) (h : Rel z bb w σ τ) (x : Int32) : ∃ r, f_X10_committedValue z σ x = some r ∧ f_X11_committedValue z τ x = some r := by
  have hzz := hz
  unfold zOK at hzz
  unfold f_X10_committedValue f_X11_committedValue
  rw [isKey_M (σ := σ) hz]
  rcases isKey_c (σ := σ) hz x with e | ⟨t, ht, rfl, e⟩
  · simp only [e, bnd1_e, if_true]
    exact ⟨_, rfl, rfl⟩
  · have g1 := h.2.2.2.1 t ht
    simp (disch := omega) only [e, bnd1_e, letv_e, ml9, gdx_n, g1, i10, if_false]
    exact ⟨_, rfl, rfl⟩
/-- how many of a list of ints are v -/
def cnt (p : Nat → Bool) : Nat → Nat
  | 0 => 0
  | n + 1 => cnt p n + if p n then 1 else 0
theorem cnt_loop {g : Nat → Int32 → Int32 → Option Int32} {p : Nat → Bool} {K : Nat} (hs : ∀ n y k, k < K → g (n + 1) (nI y) (nI k) = g n (nI (y + if p k then 1 else 0)) (nI (k + 1))) (he : ∀ n y, g (n + 1) (nI y) (nI K) = some (nI y)) :
    ∀ n k, k ≤ K → K < k + n → g n (nI (cnt p k)) (nI k) = some (nI (cnt p K)) := by
  intro n
  induction n with
  | zero => intro k h1 h2; omega
  | succ n ih =>
    intro k h1 h2
    by_cases h : k < K
    · rw [hs n _ k h]
      exact ih (k + 1) h (by omega)
    · rw [show k = K by omega]
      exact he n _
theorem cnt_FU {g : Nat → Int32 → Int32 → Option Int32} {p : Nat → Bool} {K : Nat} (hK : K < 1000) (hs : ∀ n y k, k < K → g (n + 1) (nI y) (nI k) = g n (nI (y + if p k then 1 else 0)) (nI (k + 1))) (he : ∀ n y, g (n + 1) (nI y) (nI K) = some (nI y)) :
    g FU 0 0 = some (nI (cnt p K)) := cnt_loop hs he FU 0 (Nat.zero_le _) (by have := FU_big; omega)
theorem cnt_congr {p q : Nat → Bool} : ∀ {n : Nat}, (∀ k, k < n → p k = q k) → cnt p n = cnt q n
  | 0, _ => rfl
  | n + 1, h => by rw [cnt, cnt, cnt_congr (fun k hk => h k (by omega)), h n (by omega)]
theorem add0 (a : Nat) : nI a + 0 = nI a := nI_add a 0
theorem txns_in (hz : zOK z) (v : Int32) : f_X8_in z σ v = some (nI (cnt (fun i => decide (σ.1 3 0 0 i = v)) (z 2))) := by
  have hzz := hz
  unfold zOK at hzz
  unfold f_X8_in
  rw [letv_e, cnt_FU (g := f_X8_in_L14 z σ v (nI (z 2))) (p := fun i => decide (σ.1 3 0 0 i = v)) (K := z 2) (by omega) (fun n y k hk => ?_) (fun n y => ?_)]
  · rfl
  · rw [f_X8_in_L14, if_neg (nI_ge hk (by omega))]
    simp (disch := omega) only [gdx_n, letv_e, add1]
    by_cases hv : σ.1 3 0 0 k = v <;> simp [hv]
  · rw [f_X8_in_L14, if_pos (nI_le (Nat.le_refl _) (by omega))]
theorem p_count (hz : zOK z) (h : Rel z bb w σ τ) (x : Int32) : ∃ r, f_X10_count z σ x = some r ∧ f_X11_count z τ x = some r := by
  have hzz := hz
  unfold zOK at hzz
  have e3 : f_X11_count_L69 z τ x FU 0 0 = some (nI (cnt (fun i => decide (σ.1 3 0 0 i = x)) (z 2))) := by
    refine cnt_FU (p := fun i => decide (σ.1 3 0 0 i = x)) (K := z 2) (by omega) (fun n y k hk => ?_) (fun n y => ?_)
    · rw [f_X11_count_L69, if_neg (nI_ge hk (by omega))]
      have g1 := (h.2.2.1 k hk).1
      simp (disch := omega) only [gdx_n, ml12, letv_e, add1, add0, g1]
      by_cases hv : σ.1 3 0 0 k = x <;> simp [hv]
    · rw [f_X11_count_L69, if_pos (nI_le (Nat.le_refl _) (by omega))]
  have e4 : f_X11_count_L69_2 z τ x FU 0 0 = some (nI (cnt (fun i => decide (σ.1 3 0 0 i = x)) (z 2))) := by
    refine cnt_FU (p := fun i => decide (σ.1 3 0 0 i = x)) (K := z 2) (by omega) (fun n y k hk => ?_) (fun n y => ?_)
    · rw [f_X11_count_L69_2, if_neg (nI_ge hk (by omega))]
      have g1 := (h.2.2.1 k hk).1
      simp (disch := omega) only [gdx_n, ml12, letv_e, add1, add0, g1]
      by_cases hv : σ.1 3 0 0 k = x <;> simp [hv]
    · rw [f_X11_count_L69_2, if_pos (nI_le (Nat.le_refl _) (by omega))]
  obtain ⟨c1, c2, c3, c4⟩ := h.2.1
  unfold f_X10_count f_X11_count
  simp only [e3, e4, letv_e, bnd1_e, txns_in hz, c1, c2, c3]
  by_cases q0 : x = 0
  · simp only [q0, if_true]; exact ⟨_, rfl, rfl⟩
  by_cases q1 : x = 1
  · simp only [if_neg q0, if_pos q1]; exact ⟨_, rfl, rfl⟩
  by_cases q2 : x = 2
  · simp only [if_neg q0, if_neg q1, if_pos q2]; exact ⟨_, rfl, rfl⟩
  by_cases q3 : x = 3
  · subst q3; simp only [if_neg q0, if_neg q1, if_neg q2, if_true]; exact ⟨_, rfl, rfl⟩
  by_cases q4 : x = 4
  · subst q4; simp only [if_neg q0, if_neg q1, if_neg q2, if_neg q3, if_true]; exact ⟨_, rfl, rfl⟩
  simp only [if_neg q0, if_neg q1, if_neg q2, if_neg q3, if_neg q4]
  by_cases q5 : x = 5
  · simp only [if_pos q5]; exact ⟨_, rfl, rfl⟩
  by_cases q6 : x = 6
  · simp only [if_neg q5, if_pos q6]; exact ⟨_, rfl, rfl⟩
  by_cases q7 : x = 7
  · simp only [if_neg q5, if_neg q6, if_pos q7]; exact ⟨_, rfl, rfl⟩
  by_cases q8 : x = 8
  · simp only [if_neg q5, if_neg q6, if_neg q7, if_pos q8]; exact ⟨_, rfl, rfl⟩
  simp only [if_neg q5, if_neg q6, if_neg q7, if_neg q8]
  exact ⟨_, rfl, rfl⟩
/-- a number told by the caller, among 0 .. n -/
theorem in_c (x : Int32) {n : Nat} (hn : n < 2147483647) : (f_X11_in x 0 (nI n) = some 0 ∧ ∀ j, j ≤ n → ¬ x = nI j) ∨ ∃ j, j ≤ n ∧ x = nI j ∧ f_X11_in x 0 (nI n) = some 1 := by
  unfold f_X11_in
  rcases ixc x (n := n + 1) (by omega) with h | h | ⟨j, h1, rfl, h3, h4⟩
  · refine Or.inl ⟨if_pos h.1, fun j hj q => ?_⟩
    rw [q] at h
    exact nI_pos (by omega) h.1
  · have e : nI n < x := by
      have := h.2
      rw [Int32.le_iff_toInt_le, nI_toInt (by omega)] at this
      rw [Int32.lt_iff_toInt_lt, nI_toInt (by omega)]
      omega
    refine Or.inl ⟨by rw [if_neg h.1, if_pos e], fun j hj q => ?_⟩
    rw [q] at h
    exact nI_ge (a := j) (b := n + 1) (by omega) (by omega) h.2
  · exact Or.inr ⟨j, by omega, rfl, by rw [if_neg h3, if_neg (nI_nlt (by omega) (by omega))]⟩
/-- a mask of at most five acceptors: the class's count of its bits and the reference's -/
def pop5 (q : Nat) : Nat := q % 2 + q / 2 % 2 + q / 4 % 2 + q / 8 % 2 + q / 16 % 2
theorem bc_X {q : Nat} (h : q < 32) : f_J6_bitCount_0f7a4 (nI q) = some (nI (pop5 q)) := by
  have : ∀ q, q < 32 → f_J6_bitCount_0f7a4 (nI q) = some (nI (pop5 q)) := by decide +kernel
  exact this q h
theorem bits_g (v : Int32) : f_X11_bits v = some (nI (cnt (fun i => bt v i) 16)) := by
  unfold f_X11_bits
  rw [cnt_FU (g := f_X11_bits_L4 v) (p := fun i => bt v i) (K := 16) (by omega) (fun n y k hk => ?_) (fun n y => ?_)]
  · rfl
  · rw [f_X11_bits_L4, if_neg (show ¬ (16 : Int32) ≤ nI k from nI_ge (b := 16) hk (by decide))]
    simp only [letv_e, add1]
    have hb := bit_M1 v (s := k) (by omega)
    have hb0 := bit_M0 v (s := k) (by omega)
    cases hv : bt v k
    · rw [hb0.mpr hv, add0]; rfl
    · rw [hb.mpr hv, add1]; rfl
  · rw [f_X11_bits_L4, if_pos (show (16 : Int32) ≤ nI 16 by decide)]
theorem bc_M {q : Nat} (h : q < 32) : f_X11_bits (nI q) = some (nI (pop5 q)) := by
  rw [bits_g]
  have : ∀ q, q < 32 → cnt (fun i => bt (nI q) i) 16 = pop5 q := by decide +kernel
  rw [this q h]
theorem or_nb {x y : Int32} (hx : nb 31 x) (hy : nb 31 y) : nb 31 (x ||| y) := by
  obtain ⟨a, ha, rfl⟩ := hx
  obtain ⟨b, hb, rfl⟩ := hy
  have : ∀ a, a ≤ 31 → ∀ b, b ≤ 31 → nI a ||| nI b = nI (a ||| b) ∧ a ||| b ≤ 31 := by decide +kernel
  exact ⟨a ||| b, (this a ha b hb).2, (this a ha b hb).1⟩
theorem bc_nb {x : Int32} (hx : nb 31 x) : ∃ r, f_J6_bitCount_0f7a4 x = some r ∧ f_X11_bits x = some r := by
  obtain ⟨q, hq, rfl⟩ := hx
  exact ⟨_, bc_X (by omega), bc_M (by omega)⟩
theorem majo {q : Nat} (hz : zOK z) (h : q < 32) : f_X7_isMajority z σ (nI q) = some (if z 1 < 2 * pop5 q then 1 else 0) ∧ f_X11_isMajority z τ (nI q) = some (if z 1 < 2 * pop5 q then 1 else 0) := by
  have hzz := hz
  unfold zOK at hzz
  unfold f_X7_isMajority f_X11_isMajority
  rw [bc_X h, bc_M h]
  have hp : pop5 q ≤ 5 := by unfold pop5; omega
  have h2 : (nI (z 1)) / 2 = nI (z 1 / 2) := pk_div (d := 2) (by omega) (by omega) (by omega)
  have h3 : 2 * nI (pop5 q) = nI (2 * pop5 q) := pk_mul 2 _
  simp only [bnd1_e, h2, h3]
  rw [show gnz (2 : Int32) = fun (K : Option Int32) => K from funext fun K => gnz_n (n := 2) (by omega) (by omega)]
  by_cases hm : z 1 < 2 * pop5 q
  · rw [if_neg (nI_ge (by omega) (by omega)), if_neg (nI_ge (by omega) (by omega)), if_pos hm]
    exact ⟨rfl, rfl⟩
  · rw [if_pos (nI_le (by omega) (by omega)), if_pos (nI_le (by omega) (by omega)), if_neg hm]
    exact ⟨rfl, rfl⟩
theorem p_ballot (hz : zOK z) (h : Rel z bb w σ τ) (x1 x2 x3 : Int32) : ∃ r, f_X10_ballot z σ x1 x2 x3 = some r ∧ f_X11_ballot z τ x1 x2 x3 = some r := by
  have hzz := hz
  unfold zOK at hzz
  unfold f_X10_ballot f_X11_ballot
  rcases accAt (σ := σ) (τ := τ) hz x1 with ⟨e1, e2⟩ | ⟨a, ha, rfl, e1, e2⟩
  · simp only [e1, e2, bnd1_e, if_true]
    exact ⟨_, rfl, rfl⟩
  rw [isTxn_M (σ := σ) hz, e1, e2]
  simp only [bnd1_e, oN]
  rw [gdr_n ha, if_neg (by decide)]
  rcases isTxn_c (σ := σ) hz x2 with e | ⟨t, ht, rfl, e⟩
  · simp only [e, bnd1_e, if_true]
    exact ⟨_, rfl, rfl⟩
  obtain ⟨b1, b2, b3, b4, b5, b6, b7⟩ := h.2.2.2.2.2.2.2.2.2.2.2.1 a t ha ht
  rw [show (3 : Int32) = nI 3 from rfl]
  rcases in_c x3 (n := 3) (by omega) with ⟨e3, e4⟩ | ⟨j, hj, rfl, e3⟩
  · have q0 := e4 0 (by omega)
    have q1 := e4 1 (by omega)
    have q2 := e4 2 (by omega)
    have q3 := e4 3 (by omega)
    simp (disch := omega) only [e, e3, bnd1_e, i10, if_false, gdx_n, if_true]
    unfold f_X9_toldOfBallot
    rw [if_neg (show ¬ x3 = 0 from q0), if_neg (show ¬ x3 = 1 from q1), if_neg (show ¬ x3 = 2 from q2), if_neg (show ¬ x3 = 3 from q3)]
    exact ⟨_, rfl, rfl⟩
  · have hs : z 0 + a - z 0 = a := by omega
    simp (disch := omega) only [e, e3, bnd1_e, i10, if_false, gdx_n, letv_e, pk_sub, hs, mul16, nI_add, ml19, ml20, ml21, ml22, b4, b5, b6, b7]
    unfold f_X9_toldOfBallot
    obtain ⟨r, r1, r2⟩ := bc_nb b3
    simp only [letv_e, r1, r2, bnd1_e]
    rcases (show j = 0 ∨ j = 1 ∨ j = 2 ∨ j = 3 by omega) with rfl | rfl | rfl | rfl
    · exact ⟨_, rfl, rfl⟩
    · exact ⟨_, rfl, rfl⟩
    · exact ⟨_, rfl, rfl⟩
    · exact ⟨_, rfl, rfl⟩
theorem p_accepted (hz : zOK z) (h : Rel z bb w σ τ) (x1 x2 x3 x4 : Int32) : ∃ r, f_X10_accepted z σ x1 x2 x3 x4 = some r ∧ f_X11_accepted z τ x1 x2 x3 x4 = some r := by
  have hzz := hz
  unfold zOK at hzz
  unfold f_X10_accepted f_X11_accepted
  rcases accAt (σ := σ) (τ := τ) hz x1 with ⟨e1, e2⟩ | ⟨a, ha, rfl, e1, e2⟩
  · simp only [e1, e2, bnd1_e, if_true]
    exact ⟨_, rfl, rfl⟩
  rw [isTxn_M (σ := σ) hz, e1, e2]
  simp only [bnd1_e, oN, i10, if_false]
  rw [gdr_n ha]
  rcases isTxn_c (σ := σ) hz x2 with e | ⟨t, ht, rfl, e⟩
  · simp only [e, bnd1_e, if_true]
    exact ⟨_, rfl, rfl⟩
  simp only [e, bnd1_e, i10, if_false]
  rw [in_e (by omega) (by omega)]
  rcases ixc x3 (n := z 0) (by omega) with q | q | ⟨s, hs, rfl, q1, q2⟩
  · simp only [if_pos q.1, bnd1_e, if_true]
    exact ⟨_, rfl, rfl⟩
  · have : ¬ x3 < nI (z 0) := by
      have := q.2
      rw [Int32.le_iff_toInt_le, nI_toInt (by omega)] at this
      rw [Int32.lt_iff_toInt_lt, nI_toInt (by omega)]
      omega
    simp only [if_neg q.1, if_pos q.2, if_neg this, bnd1_e, if_true]
    exact ⟨_, rfl, rfl⟩
  simp only [if_neg q1, if_neg q2, if_pos (nI_lt hs (show z 0 < 2147483648 by omega)), bnd1_e, i10, if_false]
  obtain ⟨a1, a2, a3⟩ := h.2.2.2.2.2.2.2.2.2.2.2.2.1 a t s ha ht hs
  obtain ⟨y1, y2, y3, y4⟩ := h.2.2.2.2.2.2.2.2.2.2.2.2.2.2.1 a t s ha ht hs
  rw [show (2 : Int32) = nI 2 from rfl]
  rcases in_c x4 (n := 2) (by omega) with ⟨e3, e4⟩ | ⟨j, hj, rfl, e3⟩
  · have q0 := e4 0 (by omega)
    have q1 := e4 1 (by omega)
    have q2 := e4 2 (by omega)
    simp (disch := omega) only [e3, bnd1_e, gdx_n, if_true]
    unfold f_X9_toldOfShard
    rw [if_neg (show ¬ x4 = 0 from q0), if_neg (show ¬ x4 = 1 from q1), if_neg (show ¬ x4 = 2 from q2)]
    exact ⟨_, rfl, rfl⟩
  · have hs2 : z 0 + a - z 0 = a := by omega
    have he : 64 * a + 4 * t + s = 4 * (16 * a + t) + s := by omega
    simp (disch := omega) only [e3, bnd1_e, i10, if_false, gdx_n, letv_e, pk_sub, hs2, mul64, mul4, nI_add, ml23, ml24, ml25, ml26, he, a1, a2, y1, y2]
    unfold f_X9_toldOfShard
    obtain ⟨r, r1, r2⟩ := bc_nb (or_nb y3 y4)
    simp (disch := omega) only [letv_e, r1, r2, bnd1_e, gdx_n]
    rcases (show j = 0 ∨ j = 1 ∨ j = 2 by omega) with rfl | rfl | rfl
    · exact ⟨_, rfl, rfl⟩
    · exact ⟨_, rfl, rfl⟩
    · exact ⟨_, rfl, rfl⟩
end PAIR2
