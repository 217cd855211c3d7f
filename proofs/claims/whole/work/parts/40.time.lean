/-! timeouts, and a run of deliveries -/
section TIME
variable {z : Nat → Nat} {bb w : Nat} {σ : Sg} {τ : Tg}
theorem num1 {q y N m : Nat} (h1 : 1 ≤ q) (h5 : q ≤ 5) (h : y % q = N % q) (hy : y ≤ m) (hN : m < N) : y + q ≤ N := by
  rcases (show q = 1 ∨ q = 2 ∨ q = 3 ∨ q = 4 ∨ q = 5 by omega) with rfl | rfl | rfl | rfl | rfl <;> omega
theorem num2 {q y N m : Nat} (h1 : 1 ≤ q) (h5 : q ≤ 5) (h : y % q = N % q) (hy : m < y) (hyN : y ≤ N) (hN : N < m + 1 + q) : y = N := by
  rcases (show q = 1 ∨ q = 2 ∨ q = 3 ∨ q = 4 ∨ q = 5 by omega) with rfl | rfl | rfl | rfl | rfl <;> omega
theorem neg_bt (x : Int32) : x < 0 ↔ bt x 31 = true := by
  rw [Int32.lt_iff_toInt_lt, Int32.toInt_zero]
  have h := BitVec.msb_eq_toInt (x := x.toBitVec)
  rw [BitVec.msb_eq_getLsbD_last] at h
  show x.toBitVec.toInt < 0 ↔ x.toBitVec.getLsbD (32 - 1) = true
  rw [h]
  simp
theorem fmod_e {a m q : Nat} (h1 : 1 ≤ q) (h5 : q ≤ 5) (ha : a < q) (hm : m < 100000) : ∃ r, r < q ∧ (m + 1 + r) % q = a ∧ f_J9_floorMod_7cf53 (nI a - nI (m + 1)) (nI q) = some (nI r) := by
  unfold f_J9_floorMod_7cf53
  rw [gnz_n (by omega) (by omega), letv_e]
  by_cases c : m + 1 ≤ a
  · rw [pk_sub c, pk_rem (by omega) (by omega) (by omega)]
    have hx : ∀ p, p < 5 → ∀ q, q < 6 → (0 : Int32) ≤ nI p ^^^ nI q := by decide
    rw [if_pos (hx _ (by omega) _ (by omega)), Nat.mod_eq_of_lt (by omega)]
    exact ⟨a - (m + 1), by omega, by rw [show m + 1 + (a - (m + 1)) = a by omega]; exact Nat.mod_eq_of_lt ha, rfl⟩
  · have hd : (nI a - nI (m + 1)).toInt = (a : Int) - ((m + 1 : Nat) : Int) := pk_sub_toInt (by omega) (by omega)
    have hneg : nI a - nI (m + 1) < 0 := pk_sneg (by omega) (by omega)
    generalize nI a - nI (m + 1) = D at hd hneg
    obtain ⟨d, hdd⟩ : ∃ d : Nat, d = m + 1 - a := ⟨_, rfl⟩
    have hD : D.toInt = -(d : Int) := by rw [hd]; omega
    have hqI : (nI q).toInt = (q : Int) := nI_toInt (by omega)
    have hdiv : (D / nI q).toInt = -((d / q : Nat) : Int) := by
      rw [Int32.toInt_div_of_ne_right _ _ (fun e => by
        have := congrArg Int32.toInt e
        rw [hqI] at this
        have e1 : (-1 : Int32).toInt = -1 := by decide
        omega), hD, hqI, Int.neg_tdiv, Int.ofNat_tdiv]
    have hle : d / q * q ≤ d := Nat.div_mul_le_self d q
    have hmod : d / q * q + d % q = d := by rw [Nat.mul_comm]; exact Nat.div_add_mod d q
    have hmul : (D / nI q * nI q).toInt = -((d / q * q : Nat) : Int) := by
      rw [Int32.toInt_mul, hdiv, hqI]
      have e : -((d / q : Nat) : Int) * (q : Int) = -((d / q * q : Nat) : Int) := by rw [Int.neg_mul, Int.natCast_mul]
      rw [e]
      exact Int.bmod_eq_of_le (by omega) (by omega)
    have hrem : (D - D / nI q * nI q).toInt = -((d % q : Nat) : Int) := by
      rw [Int32.toInt_sub, hD, hmul]
      rw [Int.bmod_eq_of_le (by omega) (by omega)]
      omega
    have hlt : d % q < q := Nat.mod_lt _ (by omega)
    have hcong : (m + 1 + (q - d % q)) % q = a := by
      have e : m + 1 = a + d := by omega
      rw [e]
      clear hd hD hdiv hle hmod hmul hrem hqI
      rcases (show q = 1 ∨ q = 2 ∨ q = 3 ∨ q = 4 ∨ q = 5 by omega) with rfl | rfl | rfl | rfl | rfl <;> omega
    by_cases c0 : d % q = 0
    · have hr0 : D - D / nI q * nI q = 0 := by
        apply Int32.toInt_inj.mp
        rw [hrem, c0]
        rfl
      rw [hr0]
      refine ⟨0, by omega, ?_, ?_⟩
      · rw [c0] at hcong
        rw [← hcong]
        have : m + 1 + (q - 0) = m + 1 + 0 + q := by omega
        rw [this, Nat.add_mod_right]
      · by_cases x : (0 : Int32) ≤ D ^^^ nI q
        · rw [if_pos x]; rfl
        · rw [if_neg x, if_pos rfl]; rfl
    · have hx : ¬ (0 : Int32) ≤ D ^^^ nI q := by
        have hq31 : ∀ q, q < 6 → bt (nI q) 31 = false := by decide
        have hx2 : (D ^^^ nI q) < 0 := by
          rw [neg_bt, b_xor, (neg_bt D).mp hneg, hq31 q (by omega)]
          rfl
        rw [Int32.lt_iff_toInt_lt, Int32.toInt_zero] at hx2
        rw [Int32.le_iff_toInt_le, Int32.toInt_zero]
        omega
      have hne : ¬ D - D / nI q * nI q = 0 := fun e => by
        have := congrArg Int32.toInt e
        rw [hrem, Int32.toInt_zero] at this
        omega
      rw [if_neg hx, if_neg hne]
      refine ⟨q - d % q, by omega, hcong, ?_⟩
      refine congrArg some ?_
      apply Int32.toInt_inj.mp
      rw [Int32.toInt_add, hrem, hqI, nI_toInt (by omega), Int.bmod_eq_of_le (by omega) (by omega)]
      omega
theorem own_X (hz : zOK z) {a m : Nat} (ha : a < z 1) (hm : m < 100000) : ∃ N, m < N ∧ N < m + 1 + z 1 ∧ N % z 1 = a ∧ f_X0_nextOwn z σ a (nI m) = some (nI N) := by
  have hzz := hz
  unfold zOK at hzz
  obtain ⟨r, r1, r2, r3⟩ := fmod_e (a := a) (m := m) (q := z 1) (by omega) (by omega) ha hm
  refine ⟨m + 1 + r, by omega, by omega, r2, ?_⟩
  unfold f_X0_nextOwn
  rw [letv_e, add1, r3, bnd1_e, nI_add]
theorem own_M (hz : zOK z) {N m : Nat} (hm : m < 60000) (h1 : m < N) (h2 : N < m + 1 + z 1) (x1 x2 v7 : Int32) : ∀ (n y : Nat), y % z 1 = N % z 1 → y ≤ N → N < y + n → f_X11_timeout_L118 z τ x1 x2 v7 (nI m) n (nI y) = some (nI N) := by
  have hzz := hz
  unfold zOK at hzz
  intro n
  induction n with
  | zero => intro y h3 h4 h5; omega
  | succ n ih =>
    intro y h3 h4 h5
    rw [f_X11_timeout_L118]
    by_cases c : y ≤ m
    · rw [if_pos (nI_le c (by omega)), letv_e, nI_add]
      have := num1 (by omega) (by omega) h3 c h1
      exact ih (y + z 1) (by rw [Nat.add_mod_right]; exact h3) this (by omega)
    · rw [if_neg (nI_ge (by omega) (by omega)), if_pos (show (0 : Int32) < nI y from nI_lt (a := 0) (by omega) (by omega)), num2 (by omega) (by omega) h3 (by omega) h4 h2]
theorem Rel.begun (hz : zOK z) (h : Rel z bb w σ τ) {a t q N : Nat} (ha : a < z 1) (ht : t < z 2) (hq : q < z 5) (h1 : σ.1 18 (z 0 + a) 0 1 = nI q) (hN : N ≤ bb) (r1 r2 r3 : Int32) :
    ∀ (L : Sg) (T : Tg), L = setX σ (fun i j k => if i = a ∧ j = t ∧ k = 4 then 0 else if i = a ∧ j = t ∧ k = 2 then nI N else σ.1 27 i j k) (fun i j k => if i = a ∧ j = t ∧ k < z 0 then -1 else σ.1 30 i j k) (fun i j k => if i = a ∧ j = t ∧ k < z 0 then 0 else σ.1 31 i j k) (fun i j k => if i = a ∧ j = t ∧ k < z 0 then 0 else σ.1 32 i j k) (fun i j k => if i = a ∧ j = t ∧ k < z 0 then 0 else σ.1 33 i j k) →
      T = tpI (tpI (setT (setT τ 7 (pt7 (τ.1 7) (z 0 + a) q)) 8 (pt8 (τ.1 8) (z 0 + a) q 3 r1 r2 r3)) 19 (16 * a + t) (nI N)) 20 (16 * a + t) (nI N) →
    Rel z bb w (upI (setF (setF L 18 (pu18 (L.1 18) (z 0 + a) q)) 20 (pu20 (L.1 20) (z 0 + a) q 3 r1 r2 r3)) 27 a t 1 (nI N))
      (setT (setB T (fun q => if q / 4 = 16 * a + t then 0 else T.1 25 q) (fun q => if q / 4 = 16 * a + t then 0 else T.1 26 q) (fun q => if q / 4 = 16 * a + t then -1 else T.1 27 q) (fun q => if q / 4 = 16 * a + t then 0 else T.1 28 q)) 22 (fun q => if q = 16 * a + t then 0 else T.1 22 q)) := by
  have hzz := hz
  unfold zOK at hzz
  intro L T hL hT
  subst hL
  subst hT
  obtain ⟨a1, a2, a3, a4, a5, a6, a7, a8, a9, a10, a11, a12, a13, a14, a15, a16, a17⟩ := h
  refine ⟨a1, a2, a3, a4, a5, a6, a7, a8, a9, a10, gG_put hz a11 (by omega) h1 hq 3 r1 r2 r3, fun i j hi hj => ?_, a13, fun i j c hi hj hc => ?_, fun i j c hi hj hc => ?_, a16, a17⟩
  · obtain ⟨b1, b2, b3, b4, b5, b6, b7⟩ := a12 i j hi hj
    show nb bb (if 27 = 27 ∧ i = a ∧ j = t ∧ 1 = 1 then nI N else if i = a ∧ j = t ∧ 1 = 4 then 0 else if i = a ∧ j = t ∧ 1 = 2 then nI N else σ.1 27 i j 1) ∧
      ((if 27 = 27 ∧ i = a ∧ j = t ∧ 2 = 1 then nI N else if i = a ∧ j = t ∧ 2 = 4 then 0 else if i = a ∧ j = t ∧ 2 = 2 then nI N else σ.1 27 i j 2) = -1 ∨ nb bb (if 27 = 27 ∧ i = a ∧ j = t ∧ 2 = 1 then nI N else if i = a ∧ j = t ∧ 2 = 4 then 0 else if i = a ∧ j = t ∧ 2 = 2 then nI N else σ.1 27 i j 2)) ∧
      nb 31 (if 27 = 27 ∧ i = a ∧ j = t ∧ 4 = 1 then nI N else if i = a ∧ j = t ∧ 4 = 4 then 0 else if i = a ∧ j = t ∧ 4 = 2 then nI N else σ.1 27 i j 4) ∧
      (if 19 = 19 ∧ 16 * i + j = 16 * a + t then nI N else τ.1 19 (16 * i + j)) = (if 27 = 27 ∧ i = a ∧ j = t ∧ 1 = 1 then nI N else if i = a ∧ j = t ∧ 1 = 4 then 0 else if i = a ∧ j = t ∧ 1 = 2 then nI N else σ.1 27 i j 1) ∧
      (if 20 = 20 ∧ 16 * i + j = 16 * a + t then nI N else τ.1 20 (16 * i + j)) = (if 27 = 27 ∧ i = a ∧ j = t ∧ 2 = 1 then nI N else if i = a ∧ j = t ∧ 2 = 4 then 0 else if i = a ∧ j = t ∧ 2 = 2 then nI N else σ.1 27 i j 2) ∧
      τ.1 21 (16 * i + j) = (if 27 = 27 ∧ i = a ∧ j = t ∧ 3 = 1 then nI N else if i = a ∧ j = t ∧ 3 = 4 then 0 else if i = a ∧ j = t ∧ 3 = 2 then nI N else σ.1 27 i j 3) ∧
      (if 16 * i + j = 16 * a + t then 0 else τ.1 22 (16 * i + j)) = (if 27 = 27 ∧ i = a ∧ j = t ∧ 4 = 1 then nI N else if i = a ∧ j = t ∧ 4 = 4 then 0 else if i = a ∧ j = t ∧ 4 = 2 then nI N else σ.1 27 i j 4)
    by_cases e : i = a ∧ j = t
    · obtain ⟨rfl, rfl⟩ := e
      simp only [true_and, if_true, show (2 = 1) = False from by simp, show (2 = 4) = False from by simp, show (4 = 1) = False from by simp, show (3 = 1) = False from by simp, show (3 = 4) = False from by simp, show (3 = 2) = False from by simp, if_false]
      exact ⟨⟨N, hN, rfl⟩, Or.inr ⟨N, hN, rfl⟩, ⟨0, by omega, rfl⟩, b6, trivial⟩
    · have n1 : ¬ (16 * i + j = 16 * a + t) := fun r => e (by omega)
      have n2 : ∀ P : Prop, (i = a ∧ j = t ∧ P) ↔ False := fun P => ⟨fun r => e ⟨r.1, r.2.1⟩, False.elim⟩
      simp only [n1, n2, and_false, if_false]
      exact ⟨b1, b2, b3, b4, b5, b6, b7⟩
  · obtain ⟨b1, b2, b3⟩ := a14 i j c hi hj hc
    have d : (4 * (16 * i + j) + c) / 4 = 16 * i + j := by omega
    show (if (4 * (16 * i + j) + c) / 4 = 16 * a + t then -1 else τ.1 27 (4 * (16 * i + j) + c)) = (if i = a ∧ j = t ∧ c < z 0 then -1 else σ.1 30 i j c) ∧ (if (4 * (16 * i + j) + c) / 4 = 16 * a + t then 0 else τ.1 28 (4 * (16 * i + j) + c)) = (if i = a ∧ j = t ∧ c < z 0 then 0 else σ.1 31 i j c) ∧ vb bb (if i = a ∧ j = t ∧ c < z 0 then -1 else σ.1 30 i j c) (if i = a ∧ j = t ∧ c < z 0 then 0 else σ.1 31 i j c)
    rw [d]
    by_cases e : i = a ∧ j = t
    · obtain ⟨rfl, rfl⟩ := e
      simp only [hc, true_and, if_true]
      exact Or.inl ⟨rfl, rfl⟩
    · have n1 : ¬ (16 * i + j = 16 * a + t) := fun r => e (by omega)
      have n2 : ¬ (i = a ∧ j = t ∧ c < z 0) := fun r => e ⟨r.1, r.2.1⟩
      rw [if_neg n1, if_neg n1, if_neg n2, if_neg n2]
      exact ⟨b1, b2, b3⟩
  · obtain ⟨b1, b2, b3, b4⟩ := a15 i j c hi hj hc
    have d : (4 * (16 * i + j) + c) / 4 = 16 * i + j := by omega
    show (if (4 * (16 * i + j) + c) / 4 = 16 * a + t then 0 else τ.1 25 (4 * (16 * i + j) + c)) = (if i = a ∧ j = t ∧ c < z 0 then 0 else σ.1 32 i j c) ∧ (if (4 * (16 * i + j) + c) / 4 = 16 * a + t then 0 else τ.1 26 (4 * (16 * i + j) + c)) = (if i = a ∧ j = t ∧ c < z 0 then 0 else σ.1 33 i j c) ∧ nb 31 (if i = a ∧ j = t ∧ c < z 0 then 0 else σ.1 32 i j c) ∧ nb 31 (if i = a ∧ j = t ∧ c < z 0 then 0 else σ.1 33 i j c)
    rw [d]
    by_cases e : i = a ∧ j = t
    · obtain ⟨rfl, rfl⟩ := e
      simp only [hc, true_and, if_true]
      exact ⟨⟨0, by omega, rfl⟩, ⟨0, by omega, rfl⟩⟩
    · have n1 : ¬ (16 * i + j = 16 * a + t) := fun r => e (by omega)
      have n2 : ¬ (i = a ∧ j = t ∧ c < z 0) := fun r => e ⟨r.1, r.2.1⟩
      rw [if_neg n1, if_neg n1, if_neg n2, if_neg n2]
      exact ⟨b1, b2, b3, b4⟩
end TIME
