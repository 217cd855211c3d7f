/-! a log takes a row; a shard hears prepare -/
def pu18 (s : Nat → Nat → Nat → Int32) (n q : Nat) : Nat → Nat → Nat → Int32 := fun i j k => if i = n ∧ j = 0 ∧ k = 1 then nI (q + 1) else s i j k
def pu20 (s : Nat → Nat → Nat → Int32) (n q : Nat) (a b c d : Int32) : Nat → Nat → Nat → Int32 := fun i j k => if i = n ∧ j = q ∧ k = 3 then d else if i = n ∧ j = q ∧ k = 2 then c else if i = n ∧ j = q ∧ k = 1 then b else if i = n ∧ j = q ∧ k = 0 then a else s i j k
def pt7 (t : Nat → Int32) (n q : Nat) : Nat → Int32 := fun i => if i = n then nI (q + 1) else t i
def pt8 (t : Nat → Int32) (n q : Nat) (a b c d : Int32) : Nat → Int32 := fun i => if i = 800 * n + 4 * q + 3 then d else if i = 800 * n + 4 * q + 2 then c else if i = 800 * n + 4 * q + 1 then b else if i = 800 * n + 4 * q then a else t i
section PREP
variable {z : Nat → Nat} {bb w : Nat} {σ : Sg} {τ : Tg}
theorem full_e (hz : zOK z) {n q : Nat} (h : σ.1 18 n 0 1 = nI q) (hq : q ≤ z 5) : f_X2_isFull z σ n = some (if q < z 5 then 0 else 1) := by
  have hzz := hz
  unfold zOK at hzz
  unfold f_X2_isFull
  rw [letv_e, h]
  by_cases c : q < z 5
  · rw [if_pos (nI_lt c (by omega)), if_pos c]
  · rw [if_neg (nI_nlt (by omega) (by omega)), if_neg c]
theorem put_e (hz : zOK z) {n q : Nat} (h : σ.1 18 n 0 1 = nI q) (hq : q < z 5) (a b c d : Int32) : f_X2_put z σ n a b c d = some (setF (setF σ 18 (pu18 (σ.1 18) n q)) 20 (pu20 (σ.1 20) n q a b c d)) := by
  have hzz := hz
  unfold zOK at hzz
  unfold f_X2_put
  rw [full_e hz h (by omega), if_pos hq, bnd1_e, if_pos rfl]
  have e1 : ∀ g, (setF σ 20 g).1 18 n 0 1 = nI q := fun _ => h
  simp only [upI_F σ 20, upI_setF, letv_e]
  rw [h, gdx_n hq (by omega), gdx_0 (by omega) (by omega)]
  try simp only [upI_F σ 20, upI_setF, letv_e]
  rw [e1, gdx_n hq (by omega), gdx_l (n := 4) 1 (by omega) (by omega)]
  try simp only [upI_setF, letv_e]
  rw [e1, gdx_n hq (by omega), gdx_l (n := 4) 2 (by omega) (by omega)]
  try simp only [upI_setF, letv_e]
  rw [e1, gdx_n hq (by omega), gdx_l (n := 4) 3 (by omega) (by omega)]
  try simp only [upI_setF, letv_e]
  rw [e1, add1]
  refine congrArg some ?_
  unfold upI setF pu18 pu20
  refine Prod.ext (funext fun f => funext fun i => funext fun j => funext fun k => ?_) rfl
  by_cases h20 : f = 20
  · subst h20; simp
  by_cases h18 : f = 18
  · subst h18; simp
  simp [h20, h18]
theorem writes_f (hz : zOK z) {n : Nat} (hn : n < 9) (h : τ.1 7 n = nI (z 5)) (a b c d : Int32) : f_X11_writes z τ (nI n) a b c d = some (0, τ) := by
  unfold f_X11_writes
  rw [gdx_n (n := mlen 7) (show n < 9 from hn) (by decide), letv_e, if_pos h]
theorem writes_e (hz : zOK z) {n q : Nat} (hn : n < 9) (h : τ.1 7 n = nI q) (hq : q < z 5) (a b c d : Int32) : f_X11_writes z τ (nI n) a b c d = some (1, setT (setT τ 7 (pt7 (τ.1 7) n q)) 8 (pt8 (τ.1 8) n q a b c d)) := by
  have hzz := hz
  unfold zOK at hzz
  unfold f_X11_writes
  rw [gdx_n (n := mlen 7) (show n < 9 from hn) (by decide), letv_e, h, if_neg (fun r => by have := (nI_eq (by omega) (by omega)).mp r; omega), gdx_n (n := mlen 7) (show n < 9 from hn) (by decide), letv_e, h, mul800, mul4, nI_add, letv_e, add1, add2, add3]
  rw [gdx_n (n := mlen 8) (show 800 * n + 4 * q < 7200 by omega) (by decide), letv_e, gdx_n (n := mlen 8) (show 800 * n + 4 * q + 1 < 7200 by omega) (by decide), letv_e, gdx_n (n := mlen 8) (show 800 * n + 4 * q + 2 < 7200 by omega) (by decide), letv_e, gdx_n (n := mlen 8) (show 800 * n + 4 * q + 3 < 7200 by omega) (by decide), letv_e,
    gdx_n (n := mlen 7) (show n < 9 from hn) (by decide), letv_e, gdx_n (n := mlen 7) (show n < 9 from hn) (by decide), letv_e]
  rw [show (tpI (tpI (tpI (tpI τ 8 (800 * n + 4 * q) a) 8 (800 * n + 4 * q + 1) b) 8 (800 * n + 4 * q + 2) c) 8 (800 * n + 4 * q + 3) d).1 7 n = nI q from h, add1]
  refine congrArg (fun g => some ((1 : Int32), g)) ?_
  unfold tpI setT pt7 pt8
  refine Prod.ext (funext fun f => funext fun i => ?_) rfl
  by_cases h8 : f = 8
  · subst h8; simp
  by_cases h7 : f = 7
  · subst h7; simp
  simp [h7, h8]
theorem gG_put (hz : zOK z) {s18 s20 : Nat → Nat → Nat → Int32} {t7 t8 : Nat → Int32} (h : gG z s18 s20 t7 t8) {n q : Nat} (hn : n < z 0 + z 1) (h1 : s18 n 0 1 = nI q) (hq : q < z 5) (a b c d : Int32) : gG z (pu18 s18 n q) (pu20 s20 n q a b c d) (pt7 t7 n q) (pt8 t8 n q a b c d) := by
  have hzz := hz
  unfold zOK at hzz
  intro m hm
  obtain ⟨r, r1, r2, r3, r4⟩ := h m hm
  by_cases e : m = n
  · subst e
    have erq : r = q := by rw [h1] at r2; exact ((nI_eq (by omega) (by omega)).mp r2).symm
    subst erq
    refine ⟨r + 1, by omega, ?_, ?_, fun i c' hi hc => ?_⟩
    · show (if m = m ∧ 0 = 0 ∧ 1 = 1 then _ else _) = _
      simp
    · show (if m = m then _ else _) = _
      simp
    · show (if 800 * m + 4 * i + c' = 800 * m + 4 * r + 3 then d else if 800 * m + 4 * i + c' = 800 * m + 4 * r + 2 then c else if 800 * m + 4 * i + c' = 800 * m + 4 * r + 1 then b else if 800 * m + 4 * i + c' = 800 * m + 4 * r then a else t8 (800 * m + 4 * i + c')) =
        (if m = m ∧ i = r ∧ c' = 3 then d else if m = m ∧ i = r ∧ c' = 2 then c else if m = m ∧ i = r ∧ c' = 1 then b else if m = m ∧ i = r ∧ c' = 0 then a else s20 m i c')
      by_cases e : i = r
      · subst e
        rcases (show c' = 0 ∨ c' = 1 ∨ c' = 2 ∨ c' = 3 by omega) with rfl | rfl | rfl | rfl <;> simp
      · rw [if_neg (by omega), if_neg (by omega), if_neg (by omega), if_neg (by omega), if_neg (by omega), if_neg (by omega), if_neg (by omega), if_neg (by omega)]
        exact r4 i c' (by omega) hc
  · refine ⟨r, r1, ?_, ?_, fun i c' hi hc => ?_⟩
    · show (if m = n ∧ 0 = 0 ∧ 1 = 1 then _ else _) = _
      rw [if_neg (fun x => e x.1)]; exact r2
    · show (if m = n then _ else _) = _
      rw [if_neg e]; exact r3
    · show (if 800 * m + 4 * i + c' = 800 * n + 4 * q + 3 then d else if 800 * m + 4 * i + c' = 800 * n + 4 * q + 2 then c else if 800 * m + 4 * i + c' = 800 * n + 4 * q + 1 then b else if 800 * m + 4 * i + c' = 800 * n + 4 * q then a else t8 (800 * m + 4 * i + c')) =
        (if m = n ∧ i = q ∧ c' = 3 then d else if m = n ∧ i = q ∧ c' = 2 then c else if m = n ∧ i = q ∧ c' = 1 then b else if m = n ∧ i = q ∧ c' = 0 then a else s20 m i c')
      rw [if_neg (by omega), if_neg (by omega), if_neg (by omega), if_neg (by omega), if_neg (fun x => e x.1), if_neg (fun x => e x.1), if_neg (fun x => e x.1), if_neg (fun x => e x.1)]
      exact r4 i c' hi hc
/-- shared locks fall at a yes -/
theorem dropSh_L (hz : zOK z) {s t : Nat} (hs : s < z 0) (ht : t < z 2) : ∀ (n k : Nat) (h : Nat → Nat → Nat → Int32), k ≤ z 3 → z 3 < k + n →
    f_X1_dropShared_L2 z (nI t) (nI s) n (nI k) (setF σ 8 h) = some (setF σ 8 (fun t' j k' => if t' = t ∧ j = 0 ∧ k ≤ k' ∧ k' < z 3 ∧ k' % z 0 = s ∧ h t 0 k' = 1 then 0 else h t' j k')) := by
  have hzz := hz
  unfold zOK at hzz
  intro n
  induction n with
  | zero => intro k h h1 h2; omega
  | succ n ih =>
    intro k h h1 h2
    rw [f_X1_dropShared_L2]
    by_cases hk : k < z 3
    · have hm : k % z 0 < z 0 := Nat.mod_lt _ (by omega)
      rw [if_neg (nI_ge hk (by omega)), shardOf_e hz (by omega), bnd1_e]
      by_cases hq : k % z 0 = s
      · rw [if_pos (by rw [hq]), gdx_n ht (by omega), gdx_n hk (by omega), letv_e, setF_at]
        by_cases h1' : h t 0 k = 1
        · rw [if_pos h1', gdx_n ht (by omega), gdx_n hk (by omega), letv_e, letv_e, add1, upI_setF, ih (k + 1) _ (by omega) (by omega)]
          refine congrArg (fun g => some (setF σ 8 g)) (funext fun t' => funext fun j => funext fun k' => ?_)
          by_cases e : k' = k
          · subst e
            by_cases e2 : t' = t ∧ j = 0
            · obtain ⟨rfl, rfl⟩ := e2
              simp [hk, hq, h1']
            · rw [if_neg (fun q => e2 ⟨q.1, q.2.1⟩), if_neg (fun q => e2 ⟨q.1, q.2.1⟩), if_neg (fun q => e2 ⟨q.1, q.2.1⟩)]
          · rw [if_neg (c := t' = t ∧ j = 0 ∧ k' = k) (fun q => e q.2.2), if_neg (c := t = t ∧ 0 = 0 ∧ k' = k) (fun q => e q.2.2)]
            by_cases e2 : t' = t ∧ j = 0 ∧ k ≤ k' ∧ k' < z 3 ∧ k' % z 0 = s ∧ h t 0 k' = 1
            · rw [if_pos e2, if_pos ⟨e2.1, e2.2.1, by omega, e2.2.2.2⟩]
            · rw [if_neg e2, if_neg (fun q => e2 ⟨q.1, q.2.1, by omega, q.2.2.2⟩)]
        · rw [if_neg h1', letv_e, add1, ih (k + 1) _ (by omega) (by omega)]
          refine congrArg (fun g => some (setF σ 8 g)) (funext fun t' => funext fun j => funext fun k' => ?_)
          by_cases e2 : t' = t ∧ j = 0 ∧ k ≤ k' ∧ k' < z 3 ∧ k' % z 0 = s ∧ h t 0 k' = 1
          · have : k' ≠ k := fun q => by rw [q] at e2; exact h1' e2.2.2.2.2.2
            rw [if_pos e2, if_pos ⟨e2.1, e2.2.1, by omega, e2.2.2.2⟩]
          · rw [if_neg e2, if_neg (fun q => e2 ⟨q.1, q.2.1, by omega, q.2.2.2⟩)]
      · rw [if_neg (fun q => hq ((nI_eq (by omega) (by omega)).mp q)), letv_e, add1, ih (k + 1) _ (by omega) (by omega)]
        refine congrArg (fun g => some (setF σ 8 g)) (funext fun t' => funext fun j => funext fun k' => ?_)
        by_cases e2 : t' = t ∧ j = 0 ∧ k ≤ k' ∧ k' < z 3 ∧ k' % z 0 = s ∧ h t 0 k' = 1
        · have : k' ≠ k := fun q => by rw [q] at e2; exact hq e2.2.2.2.2.1
          rw [if_pos e2, if_pos ⟨e2.1, e2.2.1, by omega, e2.2.2.2⟩]
        · rw [if_neg e2, if_neg (fun q => e2 ⟨q.1, q.2.1, by omega, q.2.2.2⟩)]
    · have : k = z 3 := by omega
      subst this
      rw [if_pos (nI_le (Nat.le_refl _) (by omega))]
      refine congrArg (fun g => some (setF σ 8 g)) (funext fun t' => funext fun j => funext fun k' => ?_)
      rw [if_neg (fun q => by omega)]
theorem dropSh_e (hz : zOK z) {s t : Nat} (hs : s < z 0) (ht : t < z 2) : f_X1_dropShared z σ (nI t) (nI s) = some (setF σ 8 (fun t' j k' => if t' = t ∧ j = 0 ∧ 0 ≤ k' ∧ k' < z 3 ∧ k' % z 0 = s ∧ σ.1 8 t 0 k' = 1 then 0 else σ.1 8 t' j k')) := by
  have hzz := hz
  unfold zOK at hzz
  unfold f_X1_dropShared
  have h := dropSh_L (σ := σ) hz hs ht FU 0 (σ.1 8) (Nat.zero_le _) (by have := FU_big; omega)
  rw [setF_id] at h
  rw [show f_X1_dropShared_L2 z (nI t) (nI s) FU 0 σ = _ from h, bnd1_e]
theorem prep_L (hz : zOK z) {s t : Nat} (hs : s < z 0) (ht : t < z 2) (x1 v1 : Int32) : ∀ (n k : Nat) (a : Nat → Int32), k % z 0 = s → k < z 3 + z 0 → z 3 + z 0 < k + n →
    f_X11_prepare_L69 z x1 (nI t) v1 1 n (nI k) (setT τ 10 a) = some (setT τ 10 (fun k' => if k ≤ k' ∧ k' < z 3 ∧ k' % z 0 = s then a k' &&& (if τ.1 11 k' = nI t then (-1 : Int32) else ((1 <<< (nI t &&& 31)) ^^^ (-1))) else a k')) := by
  have hzz := hz
  unfold zOK at hzz
  intro n
  induction n with
  | zero => intro k a h0 h1 h2; omega
  | succ n ih =>
    intro k a h0 h1 h2
    rw [f_X11_prepare_L69]
    by_cases hk : k < z 3
    · have h10 : (setT τ 10 a).1 10 = a := setT_at _ _ _
      have h11 : (setT τ 10 a).1 11 k = τ.1 11 k := rfl
      have hit : bnd1 (α := Int32) (if τ.1 11 k = nI t then (some (-1)) else (some ((1 <<< (nI t &&& 31)) ^^^ (-1)))) = bnd1 (γ := Tg) (some (if τ.1 11 k = nI t then (-1 : Int32) else ((1 <<< (nI t &&& 31)) ^^^ (-1)))) := by
        by_cases e : τ.1 11 k = nI t
        · rw [if_pos e, if_pos e]
        · rw [if_neg e, if_neg e]
      rw [if_neg (nI_ge hk (by omega)), if_pos rfl, gdx_n (n := mlen 10) (show k < 32 by omega) (by decide), letv_e, gdx_n (n := mlen 11) (show k < 32 by omega) (by decide), letv_e, h11, h10, hit, bnd1_e, gdx_n (n := mlen 10) (show k < 32 by omega) (by decide), letv_e, letv_e, nI_add, tpI_setT,
        ih (k + z 0) _ (mod_next hz h0) (by omega) (by omega)]
      refine congrArg (fun g => some (setT τ 10 g)) (funext fun k' => ?_)
      by_cases e : k' = k
      · subst e
        rw [if_neg (by omega), if_pos rfl, if_pos (c := k' ≤ k' ∧ k' < z 3 ∧ k' % z 0 = s) ⟨Nat.le_refl _, hk, h0⟩]
      · rw [if_neg (c := k' = k) e]
        by_cases c : k ≤ k' ∧ k' < z 3 ∧ k' % z 0 = s
        · have := mod_gap hz h0 c.2.2 c.1
          rw [if_pos c, if_pos ⟨by omega, c.2⟩]
        · rw [if_neg c, if_neg (fun q => c ⟨by omega, q.2⟩)]
    · rw [if_pos (nI_le (by omega) (by omega))]
      refine congrArg (fun g => some (setT τ 10 g)) (funext fun k' => ?_)
      rw [if_neg (by omega)]
theorem prep_e (hz : zOK z) {s t : Nat} (hs : s < z 0) (ht : t < z 2) (v1 : Int32) : f_X11_prepare_L69 z (nI s) (nI t) v1 1 FU (nI s) τ = some (setT τ 10 (fun k' => if s ≤ k' ∧ k' < z 3 ∧ k' % z 0 = s then τ.1 10 k' &&& (if τ.1 11 k' = nI t then (-1 : Int32) else ((1 <<< (nI t &&& 31)) ^^^ (-1))) else τ.1 10 k')) := by
  have hzz := hz
  unfold zOK at hzz
  have := prep_L (τ := τ) hz hs ht (nI s) v1 FU s (τ.1 10) (Nat.mod_eq_of_lt hs) (by omega) (by have := FU_big; omega)
  rw [setT_id] at this
  exact this
theorem prep_no (hz : zOK z) (x1 x2 v1 y : Int32) : f_X11_prepare_L69 z x1 x2 v1 2 FU y τ = some τ := by
  have hF := FU_big
  rw [show FU = (FU - 1) + 1 by omega, f_X11_prepare_L69]
  by_cases c : nI (z 3) ≤ y
  · rw [if_pos c]
  · rw [if_neg c, if_neg (by decide)]
/-- what hearing a message leaves behind -/
def Pst (z : Nat → Nat) (bb mi : Nat) (σ : Sg) (τ : Tg) (oX : Option (Int32 × Sg)) (oM : Option (Int32 × Tg)) : Prop := ∃ r w' σ' τ', oX = some (r, σ') ∧ oM = some (r, τ') ∧ (r = 0 ∨ r = 1) ∧ Rel z bb w' σ' τ' ∧ σ'.1 13 mi = σ.1 13 mi ∧ τ'.1 36 = τ.1 36
theorem p_fin (hz : zOK z) {σ0 : Sg} {τ0 : Tg} (h : Rel z bb w σ τ) {mi : Nat} (k13 : σ.1 13 mi = σ0.1 13 mi) (k36 : τ.1 36 = τ0.1 36) (hm1 : ∀ i, i < z 4 → ¬ mi = σ.2.2 12 i) (hm2 : ¬ mi = z 4) {x0 x2 x3 x4 x5 x6 : Int32} (h5 : ¬ x0 = 5) (hW : ∀ a, a < z 1 → ∀ tb tv, mW z bb (row7 x0 (nI (z 0 + a)) x2 x3 x4 x5 x6) tb tv) :
    Pst z bb mi σ0 τ0 (bnd1 (f_X5_startDraftOfVote z σ x0 x2 x6 x3 x4 x5) fun s21 => bnd1 (f_X5_postDraftToAcceptors z s21) fun s23 => some (1, s23)) (bnd1 (f_X11_postAll z τ x0 x2 x3 x4 x5 x6) fun s45 => some (1, s45)) := by
  rw [startVote_e, bnd1_e]
  obtain ⟨w', σ', τ', e1, e2, e3, e4, e5⟩ := p_postAll hz (h.drf x0 x2 x3 x4 x5 x6) (drf_D _ _ _ _ _ _) h5 hW
  rw [e1, e2, bnd1_e, bnd1_e]
  refine ⟨1, w', σ', τ', rfl, rfl, Or.inr rfl, e3, ?_, ?_⟩
  · rw [(e4.keep hm1).1, drf_o _ _ _ _ _ _ hm2, k13]
  · rw [e5.2 36 (by omega) (by omega), k36]
theorem Rel.vote (hz : zOK z) (h : Rel z bb w σ τ) {s t q : Nat} (hs : s < z 0) (ht : t < z 2) (hq : q < z 5) (h1 : σ.1 18 s 0 1 = nI q) {v : Int32} (hv : v = 0 ∨ v = 1 ∨ v = 2) :
    Rel z bb w (setF (setF (upI σ 22 s 0 t v) 18 (pu18 (σ.1 18) s q)) 20 (pu20 (σ.1 20) s q 1 (nI t) v 0)) (tpI (setT (setT τ 7 (pt7 (τ.1 7) s q)) 8 (pt8 (τ.1 8) s q 1 (nI t) v 0)) 17 (16 * s + t) v) := by
  have hzz := hz
  unfold zOK at hzz
  obtain ⟨a1, a2, a3, a4, a5, a6, a7, a8, a9, a10, a11, a12, a13, a14, a15, a16, a17⟩ := h
  refine ⟨a1, a2, a3, a4, a5, a6, a7, a8, fun s' t' hs' ht' => ?_, a10, gG_put hz a11 (by omega) h1 hq 1 (nI t) v 0, a12, a13, a14, a15, a16, a17⟩
  obtain ⟨d1, d2, d3⟩ := a9 s' t' hs' ht'
  show (if 17 = 17 ∧ 16 * s' + t' = 16 * s + t then v else τ.1 17 (16 * s' + t')) = (if 22 = 22 ∧ s' = s ∧ 0 = 0 ∧ t' = t then v else σ.1 22 s' 0 t') ∧ τ.1 18 (16 * s' + t') = σ.1 23 s' 0 t' ∧ ((if 22 = 22 ∧ s' = s ∧ 0 = 0 ∧ t' = t then v else σ.1 22 s' 0 t') = 0 ∨ (if 22 = 22 ∧ s' = s ∧ 0 = 0 ∧ t' = t then v else σ.1 22 s' 0 t') = 1 ∨ (if 22 = 22 ∧ s' = s ∧ 0 = 0 ∧ t' = t then v else σ.1 22 s' 0 t') = 2)
  by_cases e : s' = s ∧ t' = t
  · obtain ⟨rfl, rfl⟩ := e
    simp only [true_and, if_true]
    exact ⟨d2, hv⟩
  · have n1 : ¬ (16 * s' + t' = 16 * s + t) := fun r => e (by omega)
    have n2 : ¬ (s' = s ∧ 0 = 0 ∧ t' = t) := fun r => e ⟨r.1, r.2.2⟩
    simp only [true_and, n1, if_false]
    have n3 : ¬ (s' = s ∧ t' = t) := e
    rw [if_neg n3]
    exact ⟨d1, d2, d3⟩
theorem Rel.dropSh (hz : zOK z) (h : Rel z bb w σ τ) {s t : Nat} (hs : s < z 0) (ht : t < z 2) :
    Rel z bb w (setF σ 8 (fun t' j k' => if t' = t ∧ j = 0 ∧ 0 ≤ k' ∧ k' < z 3 ∧ k' % z 0 = s ∧ σ.1 8 t 0 k' = 1 then 0 else σ.1 8 t' j k')) (setT τ 10 (fun k' => if s ≤ k' ∧ k' < z 3 ∧ k' % z 0 = s then τ.1 10 k' &&& (if τ.1 11 k' = nI t then (-1 : Int32) else ((1 <<< (nI t &&& 31)) ^^^ (-1))) else τ.1 10 k')) := by
  have hzz := hz
  unfold zOK at hzz
  obtain ⟨a1, a2, a3, a4, a5, a6, a7, a8, a9⟩ := h
  obtain ⟨l1, l2, l3, l4⟩ := a5
  have e8 : ∀ t' k, k < z 3 → (setF σ 8 (fun t' j k' => if t' = t ∧ j = 0 ∧ 0 ≤ k' ∧ k' < z 3 ∧ k' % z 0 = s ∧ σ.1 8 t 0 k' = 1 then 0 else σ.1 8 t' j k')).1 8 t' 0 k = if t' = t ∧ k % z 0 = s ∧ σ.1 8 t 0 k = 1 then 0 else σ.1 8 t' 0 k := by
    intro t' k hk
    rw [setF_at]
    by_cases c : t' = t ∧ k % z 0 = s ∧ σ.1 8 t 0 k = 1
    · rw [if_pos c, if_pos ⟨c.1, rfl, Nat.zero_le _, hk, c.2⟩]
    · rw [if_neg c, if_neg (fun r => c ⟨r.1, r.2.2.2.2⟩)]
  have e2 : ∀ t' k, k < z 3 → ((if t' = t ∧ k % z 0 = s ∧ σ.1 8 t 0 k = 1 then 0 else σ.1 8 t' 0 k) = 2 ↔ σ.1 8 t' 0 k = 2) := by
    intro t' k hk
    by_cases c : t' = t ∧ k % z 0 = s ∧ σ.1 8 t 0 k = 1
    · rw [if_pos c, c.1, c.2.2]
      exact ⟨fun r => absurd r (by decide), fun r => absurd r (by decide)⟩
    · rw [if_neg c]
  refine ⟨a1, a2, a3, a4, ⟨fun t' k ht' hk => ?_, fun k i hk hi => ?_, fun k hk => ⟨fun t' ht' => ?_, (l3 k hk).2⟩, fun t' k ht' hk => ?_⟩, fun t' k ht' hk r => ?_, a7, fun s' t' k hs' ht' hk hks r => ?_, a9⟩
  · rw [e8 t' k hk]
    split
    · exact Or.inl rfl
    · exact l1 t' k ht' hk
  · rw [e8 i k hk]
    show bt (if s ≤ k ∧ k < z 3 ∧ k % z 0 = s then _ else _) i = _
    by_cases c : k % z 0 = s
    · have hsk : s ≤ k := by rw [← c]; exact Nat.mod_le _ _
      rw [if_pos ⟨hsk, hk, c⟩]
      by_cases e : τ.1 11 k = nI t
      · have h2 : σ.1 8 t 0 k = 2 := ((l3 k hk).1 t ht).mp e
        have n1 : ¬ (i = t ∧ k % z 0 = s ∧ σ.1 8 t 0 k = 1) := fun r => by rw [h2] at r; exact absurd r.2.2 (by decide)
        rw [if_pos e, if_neg n1, b_and, b_m1 i hi, Bool.and_true]
        exact l2 k i hk hi
      · have h2 : ¬ σ.1 8 t 0 k = 2 := fun r => e (((l3 k hk).1 t ht).mpr r)
        rw [if_neg e, bt_mask _ (by omega) hi, l2 k i hk hi]
        by_cases et : i = t
        · subst et
          rcases l1 i k ht hk with g | g | g
          · simp [g]
          · simp [g, c]
          · exact absurd g h2
        · simp [et]
    · rw [if_neg (fun r => c r.2.2), if_neg (fun r => c r.2.1)]
      exact l2 k i hk hi
  · rw [e8 t' k hk, e2 t' k hk]
    exact (l3 k hk).1 t' ht'
  · rw [e8 t' k hk]
    show τ.1 14 (32 * t' + k) = _
    rw [l4 t' k ht' hk]
    by_cases c : σ.1 8 t' 0 k = 2
    · rw [if_pos c, if_pos ((e2 t' k hk).mpr c)]
    · rw [if_neg c, if_neg (fun r => c ((e2 t' k hk).mp r))]
  · rw [e8 t' k hk, e2 t' k hk] at r
    exact a6 t' k ht' hk r
  · rw [e8 t' k hk]
    have := a8 s' t' k hs' ht' hk hks r
    split
    · rfl
    · exact this
theorem p_prepare (hz : zOK z) (h : Rel z bb w σ τ) {s t : Nat} (hs : s < z 0) (ht : t < z 2) {mi : Nat} (hm1 : ∀ i, i < z 4 → ¬ mi = σ.2.2 12 i) (hm2 : ¬ mi = z 4) : Pst z bb mi σ τ (f_X6_hearPrepare z σ s (nI t)) (f_X11_prepare z τ (nI s) (nI t)) := by
  have hzz := hz
  unfold zOK at hzz
  obtain ⟨d1, d2, d3⟩ := h.2.2.2.2.2.2.2.2.1 s t hs ht
  obtain ⟨s1, s2⟩ := h.2.2.2.2.2.2.1 s t hs ht
  obtain ⟨q, q0, q1, q2, q3⟩ := h.2.2.2.2.2.2.2.2.2.2.1 s (by omega)
  unfold f_X6_hearPrepare f_X11_prepare
  have i16 : 16 * s + t < 64 := by omega
  rw [gdx_n ht (by omega), letv_e, letv_e, mul16, nI_add, gdx_n (n := mlen 18) (show 16 * s + t < 64 from i16) (by decide), letv_e, d2]
  by_cases c1 : σ.1 23 s 0 t = 0
  · rw [if_pos c1, if_pos c1, gdx_n ht (by omega), letv_e, gdx_n (n := mlen 17) (show 16 * s + t < 64 from i16) (by decide), letv_e, d1]
    by_cases c2 : σ.1 22 s 0 t = 0
    · rw [if_pos c2, if_pos c2, full_e hz q1 q0, bnd1_e, gdx_n (n := mlen 16) (show 16 * s + t < 64 from i16) (by decide), letv_e, s1]
      by_cases c3 : q < z 5
      · rw [if_pos c3, if_pos rfl]
        have hpu : ∀ v : Int32, f_X2_put z (upI σ 22 s 0 t v) s 1 (nI t) v 0 = some (setF (setF (upI σ 22 s 0 t v) 18 (pu18 (σ.1 18) s q)) 20 (pu20 (σ.1 20) s q 1 (nI t) v 0)) := fun v => put_e (σ := upI σ 22 s 0 t v) hz q1 c3 1 (nI t) v 0
        have h22 : ∀ v : Int32, (upI σ 22 s 0 t v).1 22 s 0 t = v := fun v => by simp [upI]
        have h22' : ∀ v g g', (setF (setF (upI σ 22 s 0 t v) 18 g) 20 g').1 22 s 0 t = v := fun v g g' => h22 v
        have h22'' : ∀ v g g' g'', (setF (setF (setF (upI σ 22 s 0 t v) 18 g) 20 g') 8 g'').1 22 s 0 t = v := fun v g g' g'' => h22 v
        have h21 : ∀ v g g', (setF (setF (upI σ 22 s 0 t v) 18 g) 20 g').1 21 s 0 t = σ.1 21 s 0 t := fun v g g' => rfl
        have t17 : ∀ (v : Int32) (T : Tg), (tpI T 17 (16 * s + t) v).1 17 (16 * s + t) = v := fun v T => by simp [tpI]
        have t17' : ∀ (v : Int32) (T : Tg) g, (setT (tpI T 17 (16 * s + t) v) 10 g).1 17 (16 * s + t) = v := fun v T g => t17 v T
        have mw : ∀ v : Int32, v = 1 ∨ v = 2 → ∀ a, a < z 1 → ∀ tb tv, mW z bb (row7 2 (nI (z 0 + a)) (nI t) 0 (nI s) v (nI s)) tb tv := fun v hv a ha tb tv => ⟨⟨t, ht, rfl⟩, ⟨0, by omega, rfl⟩, Or.inr (Or.inl ⟨rfl, ⟨a, ha, rfl⟩, ⟨s, hs, rfl⟩, hv⟩)⟩
        unfold f_X6_vote
        rw [gdx_n ht (by omega), letv_e]
        by_cases c4 : σ.1 21 s 0 t = 0
        · rw [if_pos c4, bnd1_e, bnd1_e, gdx_n ht (by omega), letv_e, gdx_n ht (by omega), letv_e, h22, hpu, bnd1_e, gdx_n ht (by omega), letv_e, h21, if_pos c4, bnd1_e, gdx_n ht (by omega), letv_e, h22',
            writes_e hz (by omega) q2 c3, bnd2_e, if_neg (by decide), gdx_n (n := mlen 17) (show 16 * s + t < 64 from i16) (by decide), letv_e, prep_no hz, bnd1_e, gdx_n (n := mlen 17) (show 16 * s + t < 64 from i16) (by decide), letv_e, t17]
          exact p_fin hz (h.vote hz hs ht c3 q1 (Or.inr (Or.inr rfl))) rfl rfl hm1 hm2 (by decide) (mw 2 (Or.inr rfl))
        · rw [if_neg c4, bnd1_e, bnd1_e, gdx_n ht (by omega), letv_e, gdx_n ht (by omega), letv_e, h22, hpu, bnd1_e, gdx_n ht (by omega), letv_e, h21, if_neg c4, dropSh_e hz hs ht, bnd1_e, bnd1_e, gdx_n ht (by omega), letv_e, h22'',
            writes_e hz (by omega) q2 c3, bnd2_e, if_neg (by decide), gdx_n (n := mlen 17) (show 16 * s + t < 64 from i16) (by decide), letv_e, prep_e hz hs ht, bnd1_e, gdx_n (n := mlen 17) (show 16 * s + t < 64 from i16) (by decide), letv_e, t17']
          exact p_fin hz ((h.vote hz hs ht c3 q1 (Or.inr (Or.inl rfl))).dropSh hz hs ht) rfl rfl hm1 hm2 (by decide) (mw 1 (Or.inl rfl))
      · have eq5 : q = z 5 := by omega
        subst eq5
        rw [if_neg c3, if_neg (by decide)]
        have hv : ∀ v : Int32, bnd2 (f_X11_writes z τ (nI s) 1 (nI t) v 0) (fun r19 s20 => if r19 = 0 then (some ((0 : Int32), s20)) else (gdx (nI (16 * s + t)) (mlen 17) fun k22 => letv (tpI s20 17 k22 v) fun s23 => bnd1 (f_X11_prepare_L69 z (nI s) (nI t) (nI (16 * s + t)) v FU (nI s) s23) fun (s26 : Tg) => gdx (nI (16 * s + t)) (mlen 17) fun k42 => letv (s26.1 17 k42) fun v43 => bnd1 (f_X11_postAll z s26 2 (nI t) 0 (nI s) v43 (nI s)) fun s45 => some (1, s45))) = some (0, τ) := by
          intro v
          rw [writes_f hz (by omega) q2, bnd2_e, if_pos rfl]
        by_cases c4 : σ.1 21 s 0 t = 0
        · rw [if_pos c4, bnd1_e, hv]
          exact ⟨0, w, σ, τ, rfl, rfl, Or.inl rfl, h, rfl, rfl⟩
        · rw [if_neg c4, bnd1_e, hv]
          exact ⟨0, w, σ, τ, rfl, rfl, Or.inl rfl, h, rfl, rfl⟩
    · rw [if_neg c2, if_neg c2, gdx_n ht (by omega), letv_e, gdx_n (n := mlen 17) (show 16 * s + t < 64 from i16) (by decide), letv_e, d1]
      have d3' : σ.1 22 s 0 t = 1 ∨ σ.1 22 s 0 t = 2 := d3.resolve_left c2
      exact p_fin hz h rfl rfl hm1 hm2 (by decide) (fun a ha tb tv => ⟨⟨t, ht, rfl⟩, ⟨0, by omega, rfl⟩, Or.inr (Or.inl ⟨rfl, ⟨a, ha, rfl⟩, ⟨s, hs, rfl⟩, d3'⟩)⟩)
  · rw [if_neg c1, if_neg c1]
    exact ⟨1, w, σ, τ, rfl, rfl, Or.inr rfl, h, rfl, rfl⟩
end PREP
