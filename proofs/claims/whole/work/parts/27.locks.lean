/-! locks: read and write -/
section LOCKS
variable {z : Nat → Nat} {bb w : Nat} {σ : Sg} {τ : Tg}
/-- somebody else's lock stands against this one -/
def confl (z : Nat → Nat) (σ : Sg) (t k : Nat) (W : Int32) : Prop := ∃ j, j < z 2 ∧ ¬ j = t ∧ (σ.1 8 j 0 k = 2 ∨ (σ.1 8 j 0 k = 1 ∧ W = 2))
theorem canGrant_e (hz : zOK z) {t k : Nat} (ht : t < z 2) (hk : k < z 3) (W : Int32) : (confl z σ t k W ∧ f_X1_canGrant z σ (nI t) (nI k) W = some 0) ∨ (¬ confl z σ t k W ∧ f_X1_canGrant z σ (nI t) (nI k) W = some 1) := by
  have hzz := hz
  unfold zOK at hzz
  have e1 := find_FU (g := f_X1_canGrant_L3 z σ (nI t) (nI k) W) (p := fun i => decide (¬ i = t ∧ (σ.1 8 i 0 k = 2 ∨ (σ.1 8 i 0 k = 1 ∧ W = 2)))) (K := z 2) (r := fun _ => 0) (d := 1) (by omega) (fun n i hi => by
      rw [f_X1_canGrant_L3, if_neg (nI_ge hi (by omega))]
      simp (disch := omega) only [gdx_n, letv_e, add1]
      by_cases q : i = t
      · rw [if_pos (by rw [q])]; simp [q]
      · rw [if_neg (fun r => q ((nI_eq (by omega) (by omega)).mp r))]
        by_cases q2 : σ.1 8 i 0 k = 2
        · rw [if_pos q2]; simp [q, q2]
        · rw [if_neg q2]
          by_cases q1 : σ.1 8 i 0 k = 1
          · rw [if_pos q1]
            by_cases q3 : W = 2
            · rw [if_pos q3]; simp [q, q1, q3]
            · rw [if_neg q3]; simp [q3, q2]
          · rw [if_neg q1]; simp [q1, q2]) (fun n => by rw [f_X1_canGrant_L3, if_pos (nI_le (Nat.le_refl _) (by omega))])
  unfold f_X1_canGrant
  rcases e1 with ⟨j, j1, j2, j3, j4⟩ | ⟨j1, j2⟩
  · refine Or.inl ⟨⟨j, j1, ?_⟩, j4⟩
    simpa using j2
  · refine Or.inr ⟨fun ⟨j, q1, q2⟩ => ?_, j2⟩
    have := j1 j q1
    simp only [decide_eq_false_iff_not] at this
    exact this q2
theorem m1_ne {q : Nat} (hq : q < 2147483648) : ¬ (-1 : Int32) = nI q := fun r => by
  have := congrArg Int32.toInt r
  rw [nI_toInt (by omega)] at this
  have e : (-1 : Int32).toInt = -1 := by decide
  omega
/-- what the reference asks of the others, for a shared lock and for an exclusive one -/
theorem othS (hz : zOK z) {t k : Nat} (ht : t < z 2) (hk : k < z 3) (h : Rel z bb w σ τ) : (if τ.1 11 k < 0 then some (0 : Int32) else if τ.1 11 k = nI t then some 0 else some 1) = some (if (if τ.1 11 k < 0 then (0 : Int32) else if τ.1 11 k = nI t then 0 else 1) = 0 then 0 else 1) ∧ ((if τ.1 11 k < 0 then (0 : Int32) else if τ.1 11 k = nI t then 0 else 1) = 0 ↔ ¬ confl z σ t k 1) := by
  have hzz := hz
  unfold zOK at hzz
  obtain ⟨l1, l2, l3, l4⟩ := h.2.2.2.2.1
  obtain ⟨l5, l6⟩ := l3 k hk
  refine ⟨?_, ?_⟩
  · by_cases q : τ.1 11 k < 0
    · simp only [if_pos q, if_true]
    · by_cases q2 : τ.1 11 k = nI t
      · simp only [if_neg q, if_pos q2, if_true]
      · simp only [if_neg q, if_neg q2, i10, if_false]
  · rcases l6 with e | ⟨u, u1, u2⟩
    · rw [e, if_pos (by decide)]
      refine ⟨fun _ ⟨j, j1, j2, j3⟩ => ?_, fun _ => rfl⟩
      rcases j3 with j3 | j3
      · have := (l5 j j1).mpr j3
        rw [e] at this
        exact m1_ne (by omega) this
      · exact absurd j3.2 (by decide)
    · rw [u2, if_neg (nI_pos (by omega))]
      by_cases q : u = t
      · subst q
        rw [if_pos rfl]
        refine ⟨fun _ ⟨j, j1, j2, j3⟩ => ?_, fun _ => rfl⟩
        rcases j3 with j3 | j3
        · have := (l5 j j1).mpr j3
          rw [u2] at this
          exact j2 ((nI_eq (by omega) (by omega)).mp this).symm
        · exact absurd j3.2 (by decide)
      · rw [if_neg (fun r => q ((nI_eq (by omega) (by omega)).mp r))]
        refine ⟨fun r => absurd r (by decide), fun r => ?_⟩
        exact absurd ⟨u, u1, q, Or.inl ((l5 u u1).mp u2)⟩ r
theorem othX (hz : zOK z) {t k : Nat} (ht : t < z 2) (hk : k < z 3) (h : Rel z bb w σ τ) : (τ.1 10 k &&& ((1 <<< (nI t &&& 31)) ^^^ (-1))) = 0 ↔ ¬ confl z σ t k 2 := by
  have hzz := hz
  unfold zOK at hzz
  obtain ⟨l1, l2, l3, l4⟩ := h.2.2.2.2.1
  rw [bt_zero]
  constructor
  · rintro r ⟨j, j1, j2, j3⟩
    have := r j (by omega)
    rw [bt_mask _ (by omega) (by omega), l2 k j hk (by omega)] at this
    have h0 : ¬ σ.1 8 j 0 k = 0 := by
      rcases j3 with j3 | j3
      · rw [j3]; decide
      · rw [j3.1]; decide
    simp [j1, j2, h0] at this
  · intro r i hi
    rw [bt_mask _ (by omega) hi, l2 k i hk hi]
    by_cases q : i = t
    · simp [q]
    · by_cases q2 : i < z 2
      · rcases l1 i k q2 hk with e | e | e
        · simp [e]
        · exact absurd ⟨i, q2, q, Or.inr ⟨e, rfl⟩⟩ r
        · exact absurd ⟨i, q2, q, Or.inl e⟩ r
      · simp [q2]
theorem grant_e (hz : zOK z) {t k : Nat} (ht : t < z 2) (hk : k < z 3) (W : Int32) : f_X1_grant z σ (nI t) (nI k) W = some (upI σ 8 t 0 k (if W < σ.1 8 t 0 k then σ.1 8 t 0 k else W)) := by
  have hzz := hz
  unfold zOK at hzz
  unfold f_X1_grant f_J9_max_7cf53
  simp (disch := omega) only [gdx_n, letv_e]
  by_cases q : W < σ.1 8 t 0 k
  · rw [if_pos q, if_pos q, bnd1_e]
  · rw [if_neg q, if_neg q, bnd1_e]
theorem touch_e (hz : zOK z) {t s : Nat} (ht : t < z 2) : f_X8_touch z σ (nI t) (nI s) = some (upI σ 4 0 0 t (σ.1 4 0 0 t ||| (1 <<< (nI s &&& 31)))) := by
  have hzz := hz
  unfold zOK at hzz
  unfold f_X8_touch
  simp (disch := omega) only [gdx_n, letv_e]
theorem touches_X (hz : zOK z) {t s : Nat} (ht : t < z 2) (hs : s < 32) : f_X8_touches z σ (nI t) (nI s) = some (if bt (σ.1 4 0 0 t) s = true then 1 else 0) := by
  have hzz := hz
  unfold zOK at hzz
  unfold f_X8_touches
  simp (disch := omega) only [gdx_n, letv_e]
  have hb := bit_X (σ.1 4 0 0 t) hs
  cases q : bt (σ.1 4 0 0 t) s
  · rw [if_pos (hb.mpr q)]; rfl
  · rw [if_neg (fun r => by rw [hb.mp r] at q; cases q)]; rfl
theorem touches_M (hz : zOK z) (h : Rel z bb w σ τ) {t s : Nat} (ht : t < z 2) (hs : s < 32) : f_X11_touches z τ (nI t) (nI s) = some (if bt (σ.1 4 0 0 t) s = true then 1 else 0) := by
  have hzz := hz
  unfold zOK at hzz
  unfold f_X11_touches
  have g := (h.2.2.1 t ht).2
  simp (disch := omega) only [gdx_n, letv_e, ml13, g]
  have hb := bit_M1 (σ.1 4 0 0 t) hs
  cases q : bt (σ.1 4 0 0 t) s
  · rw [if_neg (fun r => by rw [hb.mp r] at q; cases q)]; rfl
  · rw [if_pos (hb.mpr q)]; rfl
/-- the states behind a granted lock -/
def accX (σ : Sg) (t k s : Nat) (W : Int32) : Sg := upI (upI (upI σ 8 t 0 k (if W < σ.1 8 t 0 k then σ.1 8 t 0 k else W)) 21 s 0 t 1) 4 0 0 t (σ.1 4 0 0 t ||| (1 <<< (nI s &&& 31)))
def accM (τ : Tg) (t k s : Nat) (e : Int32) : Tg := tpI (tpI (tpI (tpI τ 16 (16 * s + t) 1) 13 t (τ.1 13 t ||| (1 <<< (nI s &&& 31)))) 10 k (τ.1 10 k ||| (1 <<< (nI t &&& 31)))) 11 k e
theorem access_e (hz : zOK z) {t k : Nat} (ht : t < z 2) (hk : k < z 3) (h : Rel z bb w σ τ) (W F : Int32) (hW : (W = 1 ∧ F = 0) ∨ (W = 2 ∧ F = 1)) :
    (∃ r, ¬ r = 1 ∧ f_X10_access z σ (nI t) (nI k) W = some (r, σ) ∧ f_X11_locks z τ (nI t) (nI k) F = some (r, τ)) ∨
    (¬ confl z σ t k W ∧ f_X10_access z σ (nI t) (nI k) W = some (1, accX σ t k (k % z 0) W) ∧ f_X11_locks z τ (nI t) (nI k) F = some (1, accM τ t k (k % z 0) (if F = 0 then τ.1 11 k else nI t))) := by
  have hzz := hz
  unfold zOK at hzz
  have hs : k % z 0 < z 0 := Nat.mod_lt _ (by omega)
  have eT : f_X10_isTxn z σ (nI t) = some 1 := by
    unfold f_X10_isTxn
    rw [if_neg (nI_pos (by omega)), if_neg (nI_ge ht (by omega))]
  have eK : f_X10_isKey z σ (nI k) = some 1 := by
    unfold f_X10_isKey
    rw [if_neg (nI_pos (by omega)), if_neg (nI_ge hk (by omega))]
  unfold f_X10_access f_X11_locks
  obtain ⟨g1, g2⟩ := h.2.2.1 t ht
  obtain ⟨u1, u2⟩ := h.2.2.2.2.2.2.2.2.2.1.1 (k % z 0) hs
  obtain ⟨s1, s2⟩ := h.2.2.2.2.2.2.1 (k % z 0) t hs ht
  rw [eT, eK, gnz_n (by omega) (by omega), shardOf_e hz (by omega), pk_rem (by omega) (by omega) (by omega)]
  simp only [bnd1_e, letv_e, i10, if_false]
  rw [gdx_n ht (by omega), gdx_n (n := mlen 12) (show t < 16 by omega) (by decide), g1]
  by_cases q : σ.1 3 0 0 t = 1
  · rw [if_pos q, if_pos q, gdx_n hs (by omega), gdx_n (n := mlen 6) (show k % z 0 < 9 by omega) (by decide), u1]
    by_cases hu : σ.1 17 (k % z 0) 0 4 = 0
    · rw [if_pos hu, if_pos hu]
      exact Or.inl ⟨3, by decide, rfl, rfl⟩
    · rw [if_neg hu, if_neg hu, touches_X hz ht (by omega), touches_M hz h ht (by omega)]
      simp only [bnd1_e]
      have hO : ((if F = 0 then (gdx (nI k) (mlen 11) fun k15 => letv (τ.1 11 k15) fun v16 => if v16 < 0 then (some (0)) else (gdx (nI k) (mlen 11) fun k18 => letv (τ.1 11 k18) fun v19 => if v19 = nI t then (some (0)) else (some (1)))) else (gdx (nI k) (mlen 10) fun k21 => letv (τ.1 10 k21) fun v22 => if (v22 &&& ((1 <<< (nI t &&& 31)) ^^^ (-1))) = 0 then (some (0)) else (some (1)))) = some (0 : Int32) ∧ ¬ confl z σ t k W) ∨ ((if F = 0 then (gdx (nI k) (mlen 11) fun k15 => letv (τ.1 11 k15) fun v16 => if v16 < 0 then (some (0)) else (gdx (nI k) (mlen 11) fun k18 => letv (τ.1 11 k18) fun v19 => if v19 = nI t then (some (0)) else (some (1)))) else (gdx (nI k) (mlen 10) fun k21 => letv (τ.1 10 k21) fun v22 => if (v22 &&& ((1 <<< (nI t &&& 31)) ^^^ (-1))) = 0 then (some (0)) else (some (1)))) = some (1 : Int32) ∧ confl z σ t k W) := by
        simp (disch := omega) only [gdx_n, letv_e, ml11, ml10]
        rcases hW with ⟨rfl, rfl⟩ | ⟨rfl, rfl⟩
        · simp only [if_true]
          obtain ⟨o1, o2⟩ := othS hz ht hk h
          rw [o1]
          by_cases c : confl z σ t k 1
          · rw [if_neg (fun r => o2.mp r c)]
            exact Or.inr ⟨rfl, c⟩
          · rw [if_pos (o2.mpr c)]
            exact Or.inl ⟨rfl, c⟩
        · simp only [i10, if_false]
          have o2 := othX hz ht hk h
          by_cases c : confl z σ t k 2
          · rw [if_neg (fun r => o2.mp r c)]
            exact Or.inr ⟨rfl, c⟩
          · rw [if_pos (o2.mpr c)]
            exact Or.inl ⟨rfl, c⟩
      have hG := canGrant_e (σ := σ) hz ht hk W
      have gX : f_X1_grant z σ (nI t) (nI k) W = some (upI σ 8 t 0 k (if W < σ.1 8 t 0 k then σ.1 8 t 0 k else W)) := grant_e hz ht hk W
      have gM : (bnd1 (α := Int32) (if F = 0 then (gdx (nI k) (mlen 11) fun k39 => letv ((tpI (tpI (tpI τ 16 (16 * (k % z 0) + t) 1) 13 t (τ.1 13 t ||| (1 <<< (nI (k % z 0) &&& 31)))) 10 k (τ.1 10 k ||| (1 <<< (nI t &&& 31)))).1 11 k39) fun v40 => some (v40)) else (some (nI t))) fun (v35 : Int32) => gdx (nI k) (mlen 11) fun k41 => letv (tpI (tpI (tpI (tpI τ 16 (16 * (k % z 0) + t) 1) 13 t (τ.1 13 t ||| (1 <<< (nI (k % z 0) &&& 31)))) 10 k (τ.1 10 k ||| (1 <<< (nI t &&& 31)))) 11 k41 v35) fun s42 => some ((1 : Int32), s42)) = some (1, accM τ t k (k % z 0) (if F = 0 then τ.1 11 k else nI t)) := by
        simp (disch := omega) only [gdx_n, letv_e, ml11]
        have e : (tpI (tpI (tpI τ 16 (16 * (k % z 0) + t) 1) 13 t (τ.1 13 t ||| (1 <<< (nI (k % z 0) &&& 31)))) 10 k (τ.1 10 k ||| (1 <<< (nI t &&& 31)))).1 11 k = τ.1 11 k := rfl
        rw [e]
        by_cases c : F = 0
        · rw [if_pos c, if_pos c, bnd1_e]; rfl
        · rw [if_neg c, if_neg c, bnd1_e]; rfl
      have body : ∀ (A : Option (Int32 × Sg)) (B : Option (Int32 × Tg)), A = (bnd1 (f_X1_canGrant z σ (nI t) (nI k) W) fun r19 => if r19 = 0 then (some (2, σ)) else (bnd1 (f_X1_grant z σ (nI t) (nI k) W) fun s22 => gdx (nI t) (z 2) fun k23 => letv (upI s22 21 (k % z 0) 0 k23 1) fun s24 => bnd1 (f_X8_touch z s24 (nI t) (nI (k % z 0))) fun s26 => some (1, s26))) →
          B = (bnd1 (α := Int32) (if F = 0 then (gdx (nI k) (mlen 11) fun k15 => letv (τ.1 11 k15) fun v16 => if v16 < 0 then (some (0)) else (gdx (nI k) (mlen 11) fun k18 => letv (τ.1 11 k18) fun v19 => if v19 = nI t then (some (0)) else (some (1)))) else (gdx (nI k) (mlen 10) fun k21 => letv (τ.1 10 k21) fun v22 => if (v22 &&& ((1 <<< (nI t &&& 31)) ^^^ (-1))) = 0 then (some (0)) else (some (1)))) fun (v11 : Int32) => if v11 = 0 then (gdx ((16 * nI (k % z 0)) + nI t) (mlen 16) fun k25 => letv (tpI τ 16 k25 1) fun s26 => gdx (nI t) (mlen 13) fun k27 => letv (s26.1 13 k27) fun v28 => gdx (nI t) (mlen 13) fun k29 => letv (tpI s26 13 k29 (v28 ||| (1 <<< (nI (k % z 0) &&& 31)))) fun s30 => gdx (nI k) (mlen 10) fun k31 => letv (s30.1 10 k31) fun v32 => gdx (nI k) (mlen 10) fun k33 => letv (tpI s30 10 k33 (v32 ||| (1 <<< (nI t &&& 31)))) fun s34 => bnd1 (α := Int32) (if F = 0 then (gdx (nI k) (mlen 11) fun k39 => letv (s34.1 11 k39) fun v40 => some (v40)) else (some (nI t))) fun (v35 : Int32) => gdx (nI k) (mlen 11) fun k41 => letv (tpI s34 11 k41 v35) fun s42 => some (1, s42)) else (some (2, τ))) →
          (∃ r, ¬ r = 1 ∧ A = some (r, σ) ∧ B = some (r, τ)) ∨ (¬ confl z σ t k W ∧ A = some (1, accX σ t k (k % z 0) W) ∧ B = some (1, accM τ t k (k % z 0) (if F = 0 then τ.1 11 k else nI t))) := by
        rintro A B rfl rfl
        rcases hO with ⟨o1, o2⟩ | ⟨o1, o2⟩
        · rcases hG with ⟨q1, q2⟩ | ⟨q1, q2⟩
          · exact absurd q1 o2
          · rw [o1, q2]
            refine Or.inr ⟨o2, ?_, ?_⟩
            · simp only [bnd1_e, i10, if_false]
              rw [gX]
              simp (disch := omega) only [bnd1_e, gdx_n, letv_e]
              rw [touch_e hz ht]
              rfl
            · simp (disch := omega) only [bnd1_e, if_true, mul16, nI_add, gdx_n, letv_e, ml16, ml13, ml10]
              exact gM
        · rcases hG with ⟨q1, q2⟩ | ⟨q1, q2⟩
          · rw [o1, q2]
            simp only [bnd1_e, i10, if_false, if_true]
            exact Or.inl ⟨2, by decide, rfl, rfl⟩
          · exact absurd o2 q1
      cases ht2 : bt (σ.1 4 0 0 t) (k % z 0)
      · rw [if_neg (show ¬ false = true by decide), if_pos rfl, if_pos rfl]
        exact body _ _ rfl rfl
      · rw [if_pos rfl, if_neg (by decide), if_neg (by decide), gdx_n ht (by omega), mul16, nI_add, gdx_n (n := mlen 16) (show 16 * (k % z 0) + t < 64 by omega) (by decide), s1]
        by_cases hs0 : σ.1 21 (k % z 0) 0 t = 0
        · rw [if_pos hs0, if_pos hs0]
          exact Or.inl ⟨4, by decide, rfl, rfl⟩
        · rw [if_neg hs0, if_neg hs0]
          refine body _ _ rfl ?_
          rw [mul16, nI_add]
          rfl
  · rw [if_neg q, if_neg q]
    exact Or.inl ⟨0, by decide, rfl, rfl⟩
end LOCKS
