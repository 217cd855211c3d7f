/-! sessions end on both sides alike -/
def setF (σ : Sg) (f : Nat) (g : Nat → Nat → Nat → Int32) : Sg := (fun f' => if f' = f then g else σ.1 f', σ.2)
def setL (σ : Sg) (f : Nat) (g : Nat → Nat → Nat → Int64) : Sg := (σ.1, fun f' => if f' = f then g else σ.2.1 f', σ.2.2)
def setT (τ : Tg) (f : Nat) (g : Nat → Int32) : Tg := (fun f' => if f' = f then g else τ.1 f', τ.2)
def setU (τ : Tg) (f : Nat) (g : Nat → Int64) : Tg := (τ.1, fun f' => if f' = f then g else τ.2 f')
theorem upI_setF (σ : Sg) (f i j k : Nat) (g : Nat → Nat → Nat → Int32) (v : Int32) : upI (setF σ f g) f i j k v = setF σ f (fun i' j' k' => if i' = i ∧ j' = j ∧ k' = k then v else g i' j' k') := by
  unfold upI setF
  refine Prod.ext (funext fun f' => funext fun i' => funext fun j' => funext fun k' => ?_) rfl
  by_cases h : f' = f <;> simp [h]
theorem upI_F (σ : Sg) (f i j k : Nat) (v : Int32) : upI σ f i j k v = setF σ f (fun i' j' k' => if i' = i ∧ j' = j ∧ k' = k then v else σ.1 f i' j' k') := by
  unfold upI setF
  refine Prod.ext (funext fun f' => funext fun i' => funext fun j' => funext fun k' => ?_) rfl
  by_cases h : f' = f
  · subst h; simp
  · simp [h]
theorem setF_id (σ : Sg) (f : Nat) : setF σ f (σ.1 f) = σ := by
  unfold setF
  refine Prod.ext (funext fun f' => ?_) rfl
  by_cases h : f' = f
  · subst h; simp
  · simp [h]
theorem setF_at (σ : Sg) (f : Nat) (g : Nat → Nat → Nat → Int32) : (setF σ f g).1 f = g := if_pos rfl
theorem setF_setF (σ : Sg) (f : Nat) (g g' : Nat → Nat → Nat → Int32) : setF (setF σ f g) f g' = setF σ f g' := by
  unfold setF
  refine Prod.ext (funext fun f' => ?_) rfl
  by_cases h : f' = f <;> simp [h]
theorem tpI_setT (τ : Tg) (f k : Nat) (g : Nat → Int32) (v : Int32) : tpI (setT τ f g) f k v = setT τ f (fun k' => if k' = k then v else g k') := by
  unfold tpI setT
  refine Prod.ext (funext fun f' => funext fun k' => ?_) rfl
  by_cases h : f' = f <;> simp [h]
theorem tpI_T (τ : Tg) (f k : Nat) (v : Int32) : tpI τ f k v = setT τ f (fun k' => if k' = k then v else τ.1 f k') := by
  unfold tpI setT
  refine Prod.ext (funext fun f' => funext fun k' => ?_) rfl
  by_cases h : f' = f
  · subst h; simp
  · simp [h]
theorem setT_id (τ : Tg) (f : Nat) : setT τ f (τ.1 f) = τ := by
  unfold setT
  refine Prod.ext (funext fun f' => ?_) rfl
  by_cases h : f' = f
  · subst h; simp
  · simp [h]
theorem setT_at (τ : Tg) (f : Nat) (g : Nat → Int32) : (setT τ f g).1 f = g := if_pos rfl
theorem setT_setT (τ : Tg) (f : Nat) (g g' : Nat → Int32) : setT (setT τ f g) f g' = setT τ f g' := by
  unfold setT
  refine Prod.ext (funext fun f' => ?_) rfl
  by_cases h : f' = f <;> simp [h]
theorem setT_comm (τ : Tg) {f f2 : Nat} (h : f ≠ f2) (g g2 : Nat → Int32) : setT (setT τ f g) f2 g2 = setT (setT τ f2 g2) f g := by
  unfold setT
  refine Prod.ext (funext fun f' => ?_) rfl
  by_cases h1 : f' = f
  · subst h1; simp [h]
  · simp [h1]
theorem shardOf_e {z : Nat → Nat} (hz : zOK z) {σ : Sg} {k : Nat} (hk : k < 1000) : f_X7_shardOf z σ (nI k) = some (nI (k % z 0)) := by
  have hzz := hz
  unfold zOK at hzz
  unfold f_X7_shardOf
  rw [gnz_n (by omega) (by omega), pk_rem (by omega) (by omega) (by omega)]
section SESS
variable {z : Nat → Nat} {bb w : Nat} {σ : Sg} {τ : Tg}
theorem dropAll_L (hz : zOK z) {s t : Nat} (hs : s < z 0) (ht : t < z 2) : ∀ (n k : Nat) (h : Nat → Nat → Nat → Int32), k ≤ z 3 → z 3 < k + n →
    f_X1_dropAll_L2 z (nI t) (nI s) n (nI k) (setF σ 8 h) = some (setF σ 8 (fun t' j k' => if t' = t ∧ j = 0 ∧ k ≤ k' ∧ k' < z 3 ∧ k' % z 0 = s then 0 else h t' j k')) := by
  have hzz := hz
  unfold zOK at hzz
  intro n
  induction n with
  | zero => intro k h h1 h2; omega
  | succ n ih =>
    intro k h h1 h2
    rw [f_X1_dropAll_L2]
    by_cases hk : k < z 3
    · have hm : k % z 0 < z 0 := Nat.mod_lt _ (by omega)
      rw [if_neg (nI_ge hk (by omega)), shardOf_e hz (by omega), bnd1_e]
      by_cases hq : k % z 0 = s
      · rw [if_pos (by rw [hq])]
        simp (disch := omega) only [gdx_n, letv_e, add1, upI_setF]
        rw [ih (k + 1) _ (by omega) (by omega)]
        refine congrArg (fun g => some (setF σ 8 g)) (funext fun t' => funext fun j => funext fun k' => ?_)
        by_cases e : k' = k
        · subst e
          by_cases e2 : t' = t ∧ j = 0
          · obtain ⟨rfl, rfl⟩ := e2
            simp [hk, hq]
          · rw [if_neg (fun q => e2 ⟨q.1, q.2.1⟩), if_neg (fun q => e2 ⟨q.1, q.2.1⟩), if_neg (fun q => e2 ⟨q.1, q.2.1⟩)]
        · rw [if_neg (c := t' = t ∧ j = 0 ∧ k' = k) (fun q => e q.2.2)]
          by_cases e2 : t' = t ∧ j = 0 ∧ k ≤ k' ∧ k' < z 3 ∧ k' % z 0 = s
          · rw [if_pos e2, if_pos ⟨e2.1, e2.2.1, by omega, e2.2.2.2⟩]
          · rw [if_neg e2, if_neg (fun q => e2 ⟨q.1, q.2.1, by omega, q.2.2.2⟩)]
      · rw [if_neg (fun q => hq ((nI_eq (by omega) (by omega)).mp q)), letv_e, add1, ih (k + 1) _ (by omega) (by omega)]
        refine congrArg (fun g => some (setF σ 8 g)) (funext fun t' => funext fun j => funext fun k' => ?_)
        by_cases e2 : t' = t ∧ j = 0 ∧ k ≤ k' ∧ k' < z 3 ∧ k' % z 0 = s
        · have : k' ≠ k := fun q => by rw [q] at e2; exact hq e2.2.2.2.2
          rw [if_pos e2, if_pos ⟨e2.1, e2.2.1, by omega, e2.2.2.2⟩]
        · rw [if_neg e2, if_neg (fun q => e2 ⟨q.1, q.2.1, by omega, q.2.2.2⟩)]
    · have : k = z 3 := by omega
      subst this
      rw [if_pos (nI_le (Nat.le_refl _) (by omega))]
      refine congrArg (fun g => some (setF σ 8 g)) (funext fun t' => funext fun j => funext fun k' => ?_)
      rw [if_neg (fun q => by omega)]
theorem dropAll_e (hz : zOK z) {s t : Nat} (hs : s < z 0) (ht : t < z 2) : f_X1_dropAll z σ (nI t) (nI s) = some (setF σ 8 (fun t' j k' => if t' = t ∧ j = 0 ∧ k' < z 3 ∧ k' % z 0 = s then 0 else σ.1 8 t' j k')) := by
  have hzz := hz
  unfold zOK at hzz
  unfold f_X1_dropAll
  have h := dropAll_L (σ := σ) hz hs ht FU 0 (σ.1 8) (Nat.zero_le _) (by have := FU_big; omega)
  rw [setF_id] at h
  rw [show f_X1_dropAll_L2 z (nI t) (nI s) FU 0 σ = _ from h, bnd1_e]
  refine congrArg (fun g => some (setF σ 8 g)) (funext fun t' => funext fun j => funext fun k' => ?_)
  simp
/-- the class ends a session (or there is none, and nothing is to end) -/
theorem xEnd (hz : zOK z) {s t : Nat} (hs : s < z 0) (ht : t < z 2) (hO : gO z (σ.1 21) (σ.1 8)) : ∃ g1 g8, f_X6_endSession z σ s (nI t) = some (setF (setF σ 21 g1) 8 g8) ∧
    (∀ s' t', g1 s' 0 t' = if s' = s ∧ t' = t then 0 else σ.1 21 s' 0 t') ∧ ∀ t' k', t' < z 2 → k' < z 3 → g8 t' 0 k' = if t' = t ∧ k' % z 0 = s then 0 else σ.1 8 t' 0 k' := by
  have hzz := hz
  unfold zOK at hzz
  unfold f_X6_endSession
  simp (disch := omega) only [gdx_n, letv_e]
  by_cases h0 : σ.1 21 s 0 t = 0
  · refine ⟨σ.1 21, σ.1 8, ?_, fun s' t' => ?_, fun t' k' h1 h2 => ?_⟩
    · rw [if_pos h0, setF_id, setF_id]
    · by_cases e : s' = s ∧ t' = t
      · rw [if_pos e, e.1, e.2, h0]
      · rw [if_neg e]
    · by_cases e : t' = t ∧ k' % z 0 = s
      · rw [if_pos e, e.1]
        exact hO s t k' hs ht h2 e.2 h0
      · rw [if_neg e]
  · rw [if_neg h0, upI_F, dropAll_e hz hs ht, bnd1_e]
    refine ⟨_, _, rfl, fun s' t' => ?_, fun t' k' h1 h2 => ?_⟩
    · simp
    · show (if t' = t ∧ 0 = 0 ∧ k' < z 3 ∧ k' % z 0 = s then 0 else σ.1 8 t' 0 k') = _
      simp [h2]
theorem mod_gap (hz : zOK z) {k k' s : Nat} (h : k % z 0 = s) (h2 : k' % z 0 = s) (h3 : k ≤ k') : k' = k ∨ k + z 0 ≤ k' := by
  have hzz := hz
  unfold zOK at hzz
  rcases (show z 0 = 1 ∨ z 0 = 2 ∨ z 0 = 3 ∨ z 0 = 4 by omega) with e | e | e | e <;> rw [e] at h h2 ⊢ <;> omega
theorem mod_next (hz : zOK z) {k s : Nat} (h : k % z 0 = s) : (k + z 0) % z 0 = s := by rw [Nat.add_mod_right]; exact h
/-- a mask without one bit -/
theorem bt_mask (v : Int32) {t : Nat} (ht : t < 32) {i : Nat} (hi : i < 32) : bt (v &&& ((1 <<< (nI t &&& 31)) ^^^ (-1))) i = (bt v i && decide (¬ i = t)) := by
  rw [b_and, b_xor, bt_one t ht i hi, b_m1 i hi]
  by_cases e : i = t <;> simp [e]
theorem mEnd_L (hz : zOK z) {s t : Nat} (hs : s < z 0) (ht : t < z 2) : ∀ (n k : Nat) (a b c : Nat → Int32), k % z 0 = s → k < z 3 + z 0 → z 3 + z 0 < k + n →
    f_X11_endSession_L14 z (nI t) n (nI k) (setT (setT (setT τ 10 a) 11 b) 14 c) = some (setT (setT (setT τ 10 (fun k' => if k ≤ k' ∧ k' < z 3 ∧ k' % z 0 = s then a k' &&& ((1 <<< (nI t &&& 31)) ^^^ (-1)) else a k')) 11 (fun k' => if k ≤ k' ∧ k' < z 3 ∧ k' % z 0 = s then (if b k' = nI t then -1 else b k') else b k'))
      14 (fun q => if q / 32 = t ∧ k ≤ q % 32 ∧ q % 32 < z 3 ∧ q % 32 % z 0 = s then 0 else c q)) := by
  have hzz := hz
  unfold zOK at hzz
  intro n
  induction n with
  | zero => intro k a b c h0 h1 h2; omega
  | succ n ih =>
    intro k a b c h0 h1 h2
    rw [f_X11_endSession_L14]
    by_cases hk : k < z 3
    · rw [if_neg (nI_ge hk (by omega))]
      simp (disch := omega) only [gdx_n, letv_e, ml10, ml11, ml14, mul32, nI_add]
      have e1 : (setT (setT (setT τ 10 a) 11 b) 14 c).1 10 k = a k := rfl
      have e2 : tpI (setT (setT (setT τ 10 a) 11 b) 14 c) 10 k (a k &&& ((1 <<< (nI t &&& 31)) ^^^ (-1))) = setT (setT (setT τ 10 (fun k' => if k' = k then a k &&& ((1 <<< (nI t &&& 31)) ^^^ (-1)) else a k')) 11 b) 14 c := by
        rw [setT_comm τ (by decide), setT_comm _ (by decide : (10:Nat) ≠ 14), tpI_setT, setT_comm _ (by decide : (14:Nat) ≠ 10), setT_comm _ (by decide : (11:Nat) ≠ 10)]
      rw [e1, e2]
      have e3 : (setT (setT (setT τ 10 (fun k' => if k' = k then a k &&& ((1 <<< (nI t &&& 31)) ^^^ (-1)) else a k')) 11 b) 14 c).1 11 k = b k := rfl
      rw [e3]
      have e4 : (if b k = nI t then some (-1) else some (b k)) = some (if b k = nI t then -1 else b k) := by split <;> rfl
      rw [e4, bnd1_e]
      have e5 : ∀ (g : Nat → Int32) (v : Int32), tpI (setT (setT (setT τ 10 g) 11 b) 14 c) 11 k v = setT (setT (setT τ 10 g) 11 (fun k' => if k' = k then v else b k')) 14 c := by
        intro g v
        rw [setT_comm _ (by decide : (11:Nat) ≠ 14), tpI_setT, setT_comm _ (by decide : (14:Nat) ≠ 11)]
      rw [e5, tpI_setT, ih (k + z 0) _ _ _ (mod_next hz h0) (by omega) (by omega)]
      have gap := fun k' => mod_gap (k' := k') hz h0
      have f1 : (fun k' => if k + z 0 ≤ k' ∧ k' < z 3 ∧ k' % z 0 = s then (if k' = k then a k &&& ((1 <<< (nI t &&& 31)) ^^^ (-1)) else a k') &&& ((1 <<< (nI t &&& 31)) ^^^ (-1)) else (if k' = k then a k &&& ((1 <<< (nI t &&& 31)) ^^^ (-1)) else a k')) = (fun k' => if k ≤ k' ∧ k' < z 3 ∧ k' % z 0 = s then a k' &&& ((1 <<< (nI t &&& 31)) ^^^ (-1)) else a k') := by
        funext k'
        by_cases e : k' = k
        · subst e
          have n1 : ¬ (k' + z 0 ≤ k' ∧ k' < z 3 ∧ k' % z 0 = s) := fun q => by omega
          have p1 : k' ≤ k' ∧ k' < z 3 ∧ k' % z 0 = s := ⟨Nat.le_refl _, hk, h0⟩
          rw [if_neg n1, if_pos p1, if_pos rfl]
        · rw [if_neg (c := k' = k) e]
          by_cases e2 : k ≤ k' ∧ k' < z 3 ∧ k' % z 0 = s
          · have := gap k' e2.2.2 e2.1
            rw [if_pos e2, if_pos ⟨by omega, e2.2⟩]
          · rw [if_neg e2, if_neg (fun q => e2 ⟨by omega, q.2⟩)]
      have f2 : (fun k' => if k + z 0 ≤ k' ∧ k' < z 3 ∧ k' % z 0 = s then (if (if k' = k then (if b k = nI t then -1 else b k) else b k') = nI t then -1 else (if k' = k then (if b k = nI t then -1 else b k) else b k')) else (if k' = k then (if b k = nI t then -1 else b k) else b k')) = (fun k' => if k ≤ k' ∧ k' < z 3 ∧ k' % z 0 = s then (if b k' = nI t then -1 else b k') else b k') := by
        funext k'
        by_cases e : k' = k
        · subst e
          have n1 : ¬ (k' + z 0 ≤ k' ∧ k' < z 3 ∧ k' % z 0 = s) := fun q => by omega
          have p1 : k' ≤ k' ∧ k' < z 3 ∧ k' % z 0 = s := ⟨Nat.le_refl _, hk, h0⟩
          rw [if_neg n1, if_pos p1, if_pos rfl]
        · rw [if_neg (c := k' = k) e]
          by_cases e2 : k ≤ k' ∧ k' < z 3 ∧ k' % z 0 = s
          · have := gap k' e2.2.2 e2.1
            rw [if_pos e2, if_pos ⟨by omega, e2.2⟩]
          · rw [if_neg e2, if_neg (fun q => e2 ⟨by omega, q.2⟩)]
      have f3 : (fun q => if q / 32 = t ∧ k + z 0 ≤ q % 32 ∧ q % 32 < z 3 ∧ q % 32 % z 0 = s then 0 else (if q = 32 * t + k then 0 else c q)) = (fun q => if q / 32 = t ∧ k ≤ q % 32 ∧ q % 32 < z 3 ∧ q % 32 % z 0 = s then 0 else c q) := by
        funext q
        by_cases e : q = 32 * t + k
        · have d1 : q / 32 = t := by omega
          have d2 : q % 32 = k := by omega
          rw [if_pos (c := q = 32 * t + k) e, d1, d2, if_neg (fun r => by omega), if_pos ⟨rfl, Nat.le_refl _, hk, h0⟩]
        · rw [if_neg (c := q = 32 * t + k) e]
          by_cases e2 : q / 32 = t ∧ k ≤ q % 32 ∧ q % 32 < z 3 ∧ q % 32 % z 0 = s
          · have := gap (q % 32) e2.2.2.2 e2.2.1
            rw [if_pos e2, if_pos ⟨e2.1, by omega, e2.2.2⟩]
          · rw [if_neg e2, if_neg (fun r => e2 ⟨r.1, by omega, r.2.2⟩)]
      rw [f1, f2, f3]
    · rw [if_pos (nI_le (by omega) (by omega))]
      have f1 : (fun k' => if k ≤ k' ∧ k' < z 3 ∧ k' % z 0 = s then a k' &&& ((1 <<< (nI t &&& 31)) ^^^ (-1)) else a k') = a := funext fun k' => if_neg (fun q => by omega)
      have f2 : (fun k' => if k ≤ k' ∧ k' < z 3 ∧ k' % z 0 = s then (if b k' = nI t then -1 else b k') else b k') = b := funext fun k' => if_neg (fun q => by omega)
      have f3 : (fun q => if q / 32 = t ∧ k ≤ q % 32 ∧ q % 32 < z 3 ∧ q % 32 % z 0 = s then 0 else c q) = c := funext fun q => if_neg (fun r => by omega)
      rw [f1, f2, f3]
theorem mEnd (hz : zOK z) {s t : Nat} (hs : s < z 0) (ht : t < z 2) : f_X11_endSession z τ (nI s) (nI t) = some (setT (setT (setT (setT τ 16 (fun q => if q = 16 * s + t then 0 else τ.1 16 q)) 10 (fun k' => if k' < z 3 ∧ k' % z 0 = s then τ.1 10 k' &&& ((1 <<< (nI t &&& 31)) ^^^ (-1)) else τ.1 10 k')) 11 (fun k' => if k' < z 3 ∧ k' % z 0 = s then (if τ.1 11 k' = nI t then -1 else τ.1 11 k') else τ.1 11 k'))
      14 (fun q => if q / 32 = t ∧ q % 32 < z 3 ∧ q % 32 % z 0 = s then 0 else τ.1 14 q)) := by
  have hzz := hz
  unfold zOK at hzz
  unfold f_X11_endSession
  simp (disch := omega) only [gdx_n, letv_e, ml16, mul16, nI_add, tpI_T]
  have h := mEnd_L (τ := setT τ 16 (fun q => if q = 16 * s + t then 0 else τ.1 16 q)) hz hs ht FU s (τ.1 10) (τ.1 11) (τ.1 14) (Nat.mod_eq_of_lt hs) (by omega) (by have := FU_big; omega)
  have e : setT (setT (setT (setT τ 16 (fun q => if q = 16 * s + t then 0 else τ.1 16 q)) 10 (τ.1 10)) 11 (τ.1 11)) 14 (τ.1 14) = setT τ 16 (fun q => if q = 16 * s + t then 0 else τ.1 16 q) := by
    generalize hr : setT τ 16 (fun q => if q = 16 * s + t then 0 else τ.1 16 q) = r
    have r1 : τ.1 10 = r.1 10 := by rw [← hr]; rfl
    have r2 : τ.1 11 = r.1 11 := by rw [← hr]; rfl
    have r3 : τ.1 14 = r.1 14 := by rw [← hr]; rfl
    rw [r1, r2, r3, setT_id, setT_id, setT_id]
  rw [e] at h
  rw [h, bnd1_e]
  have lo : ∀ k', k' % z 0 = s → s ≤ k' := fun k' q => by rw [← q]; exact Nat.mod_le _ _
  have f1 : ∀ (x y : Nat → Int32), (fun k' => if s ≤ k' ∧ k' < z 3 ∧ k' % z 0 = s then x k' else y k') = (fun k' => if k' < z 3 ∧ k' % z 0 = s then x k' else y k') := by
    intro x y
    funext k'
    by_cases q : k' < z 3 ∧ k' % z 0 = s
    · rw [if_pos q, if_pos ⟨lo k' q.2, q⟩]
    · rw [if_neg q, if_neg (fun r => q r.2)]
  have f3 : (fun q => if q / 32 = t ∧ s ≤ q % 32 ∧ q % 32 < z 3 ∧ q % 32 % z 0 = s then 0 else τ.1 14 q) = (fun q => if q / 32 = t ∧ q % 32 < z 3 ∧ q % 32 % z 0 = s then 0 else τ.1 14 q) := by
    funext q
    by_cases e2 : q / 32 = t ∧ q % 32 < z 3 ∧ q % 32 % z 0 = s
    · rw [if_pos e2, if_pos ⟨e2.1, lo _ e2.2.2, e2.2⟩]
    · rw [if_neg e2, if_neg (fun r => e2 ⟨r.1, r.2.2⟩)]
  rw [f1, f1, f3]
/-- what a session's end keeps of the relation -/
theorem pEnd (hz : zOK z) {s t : Nat} (hs : s < z 0) (ht : t < z 2) (h : Rel z bb w σ τ) : ∃ g1 g8 a b c d, f_X6_endSession z σ s (nI t) = some (setF (setF σ 21 g1) 8 g8) ∧ f_X11_endSession z τ (nI s) (nI t) = some (setT (setT (setT (setT τ 16 d) 10 a) 11 b) 14 c) ∧
    Rel z bb w (setF (setF σ 21 g1) 8 g8) (setT (setT (setT (setT τ 16 d) 10 a) 11 b) 14 c) := by
  have hzz := hz
  unfold zOK at hzz
  obtain ⟨h1, h2, h3, h4, h5, h6, h7, h8, h9⟩ := h
  obtain ⟨g1, g8, e1, k1, k8⟩ := xEnd hz hs ht h8
  refine ⟨g1, g8, _, _, _, _, e1, mEnd hz hs ht, h1, h2, h3, h4, ?_, ?_, ?_, ?_, h9⟩
  · obtain ⟨l1, l2, l3, l4⟩ := h5
    refine ⟨fun t' k ht' hk => ?_, fun k i hk hi => ?_, fun k hk => ?_, fun t' k ht' hk => ?_⟩
    · show g8 t' 0 k = 0 ∨ g8 t' 0 k = 1 ∨ g8 t' 0 k = 2
      rw [k8 t' k ht' hk]
      split
      · exact Or.inl rfl
      · exact l1 t' k ht' hk
    · show bt (if k < z 3 ∧ k % z 0 = s then τ.1 10 k &&& ((1 <<< (nI t &&& 31)) ^^^ (-1)) else τ.1 10 k) i = decide (i < z 2 ∧ ¬ g8 i 0 k = 0)
      by_cases hi2 : i < z 2
      · rw [k8 i k hi2 hk]
        by_cases q : k % z 0 = s
        · rw [if_pos ⟨hk, q⟩, bt_mask _ (by omega) hi, l2 k i hk hi]
          by_cases e : i = t <;> simp [e, q, hi2]
        · rw [if_neg (fun r => q r.2), l2 k i hk hi]
          simp [q]
      · have : bt (τ.1 10 k) i = false := by rw [l2 k i hk hi]; simp [hi2]
        split
        · rw [bt_mask _ (by omega) hi, this]; simp [hi2]
        · rw [this]; simp [hi2]
    · obtain ⟨m1, m2⟩ := l3 k hk
      show (∀ t', t' < z 2 → ((if k < z 3 ∧ k % z 0 = s then (if τ.1 11 k = nI t then -1 else τ.1 11 k) else τ.1 11 k) = nI t' ↔ g8 t' 0 k = 2)) ∧ ((if k < z 3 ∧ k % z 0 = s then (if τ.1 11 k = nI t then -1 else τ.1 11 k) else τ.1 11 k) = -1 ∨ ∃ t', t' < z 2 ∧ (if k < z 3 ∧ k % z 0 = s then (if τ.1 11 k = nI t then -1 else τ.1 11 k) else τ.1 11 k) = nI t')
      have hm1 : ∀ q, q < z 2 → ¬ (-1 : Int32) = nI q := fun q hq r => by
        have := congrArg Int32.toInt r
        rw [nI_toInt (by omega)] at this
        have e : (-1 : Int32).toInt = -1 := by decide
        omega
      by_cases q : k % z 0 = s
      · rw [if_pos ⟨hk, q⟩]
        by_cases e : τ.1 11 k = nI t
        · rw [if_pos e]
          refine ⟨fun t' ht' => ⟨fun r => absurd r (hm1 t' ht'), fun r => ?_⟩, Or.inl rfl⟩
          rw [k8 t' k ht' hk] at r
          by_cases e3 : t' = t
          · rw [if_pos ⟨e3, q⟩] at r
            exact absurd r (by decide)
          · rw [if_neg (fun x => e3 x.1)] at r
            have := (m1 t' ht').mpr r
            rw [e] at this
            exact absurd ((nI_eq (by omega) (by omega)).mp this).symm e3
        · rw [if_neg e]
          refine ⟨fun t' ht' => ?_, m2⟩
          rw [k8 t' k ht' hk]
          by_cases e3 : t' = t
          · subst e3
            rw [if_pos ⟨rfl, q⟩]
            exact ⟨fun r => absurd r e, fun r => absurd r (by decide)⟩
          · rw [if_neg (fun x => e3 x.1)]
            exact m1 t' ht'
      · rw [if_neg (fun r => q r.2)]
        refine ⟨fun t' ht' => ?_, m2⟩
        rw [k8 t' k ht' hk, if_neg (fun x => q x.2)]
        exact m1 t' ht'
    · have d1 : (32 * t' + k) / 32 = t' := by omega
      have d2 : (32 * t' + k) % 32 = k := by omega
      show (if (32 * t' + k) / 32 = t ∧ (32 * t' + k) % 32 < z 3 ∧ (32 * t' + k) % 32 % z 0 = s then 0 else τ.1 14 (32 * t' + k)) = if g8 t' 0 k = 2 then 1 else 0
      rw [k8 t' k ht' hk, d1, d2]
      by_cases e : t' = t ∧ k % z 0 = s
      · rw [if_pos ⟨e.1, hk, e.2⟩, if_pos e]
        rfl
      · rw [if_neg (fun r => e ⟨r.1, r.2.2⟩), if_neg e]
        exact l4 t' k ht' hk
  · intro t' k ht' hk r
    have r : g8 t' 0 k = 2 := r
    rw [k8 t' k ht' hk] at r
    by_cases e : t' = t ∧ k % z 0 = s
    · rw [if_pos e] at r
      exact absurd r (by decide)
    · rw [if_neg e] at r
      exact h6 t' k ht' hk r
  · intro s' t' hs' ht'
    obtain ⟨q1, q2⟩ := h7 s' t' hs' ht'
    show (if 16 * s' + t' = 16 * s + t then 0 else τ.1 16 (16 * s' + t')) = g1 s' 0 t' ∧ (g1 s' 0 t' = 0 ∨ g1 s' 0 t' = 1)
    rw [k1]
    by_cases e : s' = s ∧ t' = t
    · rw [if_pos (by rw [e.1, e.2]), if_pos e]
      exact ⟨rfl, Or.inl rfl⟩
    · rw [if_neg (fun r => e (by omega)), if_neg e]
      exact ⟨q1, q2⟩
  · intro s' t' k hs' ht' hk hks r
    have r : g1 s' 0 t' = 0 := r
    show g8 t' 0 k = 0
    rw [k8 t' k ht' hk]
    rw [k1] at r
    by_cases e : t' = t ∧ k % z 0 = s
    · rw [if_pos e]
    · rw [if_neg e]
      rw [if_neg (fun x => e ⟨x.2, by rw [hks]; exact x.1⟩)] at r
      exact h8 s' t' k hs' ht' hk hks r
end SESS
