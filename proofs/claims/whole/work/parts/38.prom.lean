/-! a leader hears a promise -/
def setK (σ : Sg) (h30 h31 : Nat → Nat → Nat → Int32) : Sg := (fun f => if f = 30 then h30 else if f = 31 then h31 else σ.1 f, σ.2)
def setW (τ : Tg) (g27 g28 : Nat → Int32) : Tg := (fun f => if f = 27 then g27 else if f = 28 then g28 else τ.1 f, τ.2)
section PROM
variable {z : Nat → Nat} {bb w : Nat} {σ : Sg} {τ : Tg}
theorem setK_id (σ : Sg) : setK σ (σ.1 30) (σ.1 31) = σ := by
  unfold setK
  refine Prod.ext (funext fun f => ?_) rfl
  show (if f = 30 then σ.1 30 else if f = 31 then σ.1 31 else σ.1 f) = σ.1 f
  split
  next h => rw [h]
  split
  next h => rw [h]
  rfl
theorem setK_30 (σ : Sg) (h14 h15 : Nat → Nat → Nat → Int32) (i j k : Nat) (v : Int32) : upI (setK σ h14 h15) 30 i j k v = setK σ (fun i' j' k' => if i' = i ∧ j' = j ∧ k' = k then v else h14 i' j' k') h15 := by
  unfold upI setK
  refine Prod.ext (funext fun f => funext fun i' => funext fun j' => funext fun k' => ?_) rfl
  by_cases h : f = 30
  · subst h; simp
  · simp [h]
theorem setK_31 (σ : Sg) (h14 h15 : Nat → Nat → Nat → Int32) (i j k : Nat) (v : Int32) : upI (setK σ h14 h15) 31 i j k v = setK σ h14 (fun i' j' k' => if i' = i ∧ j' = j ∧ k' = k then v else h15 i' j' k') := by
  unfold upI setK
  refine Prod.ext (funext fun f => funext fun i' => funext fun j' => funext fun k' => ?_) rfl
  by_cases h : f = 31
  · subst h; simp
  · simp [h]
theorem setW_id (τ : Tg) : setW τ (τ.1 27) (τ.1 28) = τ := by
  unfold setW
  refine Prod.ext (funext fun f => ?_) rfl
  show (if f = 27 then τ.1 27 else if f = 28 then τ.1 28 else τ.1 f) = τ.1 f
  split
  next h => rw [h]
  split
  next h => rw [h]
  rfl
theorem setW_27 (τ : Tg) (g g' : Nat → Int32) (k : Nat) (v : Int32) : tpI (setW τ g g') 27 k v = setW τ (fun q => if q = k then v else g q) g' := by
  unfold tpI setW
  refine Prod.ext (funext fun f => funext fun q => ?_) rfl
  by_cases h : f = 27
  · subst h; simp
  · simp [h]
theorem setW_28 (τ : Tg) (g g' : Nat → Int32) (k : Nat) (v : Int32) : tpI (setW τ g g') 28 k v = setW τ g (fun q => if q = k then v else g' q) := by
  unfold tpI setW
  refine Prod.ext (funext fun f => funext fun q => ?_) rfl
  by_cases h : f = 28
  · subst h; simp
  · simp [h]
theorem keep_L (hz : zOK z) (a t mi : Nat) : ∀ (n k : Nat) (h14 h15 : Nat → Nat → Nat → Int32), k ≤ z 0 → z 0 < k + n →
    f_X9_keepGreatest_L2 z a t mi n (nI k) (setK σ h14 h15) = some (setK σ (fun m j c => if m = a ∧ j = t ∧ k ≤ c ∧ c < z 0 ∧ ¬ σ.1 14 mi 0 c ≤ h14 a t c then σ.1 14 mi 0 c else h14 m j c) (fun m j c => if m = a ∧ j = t ∧ k ≤ c ∧ c < z 0 ∧ ¬ σ.1 14 mi 0 c ≤ h14 a t c then σ.1 15 mi 0 c else h15 m j c)) := by
  have hzz := hz
  unfold zOK at hzz
  intro n
  induction n with
  | zero => intro k h14 h15 h1 h2; omega
  | succ n ih =>
    intro k h14 h15 h1 h2
    rw [f_X9_keepGreatest_L2]
    by_cases hk : k < z 0
    · have e1 : ∀ g g', (setK σ g g').1 14 mi 0 k = σ.1 14 mi 0 k := fun _ _ => rfl
      have e2 : ∀ g g', (setK σ g g').1 15 mi 0 k = σ.1 15 mi 0 k := fun _ _ => rfl
      have e3 : ∀ g g', (setK σ g g').1 30 a t k = g a t k := fun _ _ => rfl
      rw [if_neg (nI_ge hk (by omega)), gdx_n hk (by omega), letv_e, gdx_n hk (by omega), letv_e, e1, e3]
      by_cases hc : σ.1 14 mi 0 k ≤ h14 a t k
      · rw [if_pos hc, letv_e, add1, ih (k + 1) _ _ (by omega) (by omega)]
        have f1 : ∀ (g : Nat → Nat → Nat → Int32) (s : Nat → Int32), (fun m j c => if m = a ∧ j = t ∧ k + 1 ≤ c ∧ c < z 0 ∧ ¬ σ.1 14 mi 0 c ≤ h14 a t c then s c else g m j c) = (fun m j c => if m = a ∧ j = t ∧ k ≤ c ∧ c < z 0 ∧ ¬ σ.1 14 mi 0 c ≤ h14 a t c then s c else g m j c) := by
          intro g s
          funext m j c
          by_cases e : m = a ∧ j = t ∧ k ≤ c ∧ c < z 0 ∧ ¬ σ.1 14 mi 0 c ≤ h14 a t c
          · have : ¬ c = k := fun q => e.2.2.2.2 (by rw [q]; exact hc)
            rw [if_pos e, if_pos ⟨e.1, e.2.1, by omega, e.2.2.2⟩]
          · rw [if_neg e, if_neg (fun r => e ⟨r.1, r.2.1, by omega, r.2.2.2⟩)]
        rw [f1 h14 (fun c => σ.1 14 mi 0 c), f1 h15 (fun c => σ.1 15 mi 0 c)]
      · rw [if_neg hc, gdx_n hk (by omega), letv_e, gdx_n hk (by omega), letv_e, gdx_n hk (by omega), letv_e, gdx_n hk (by omega), letv_e, letv_e, add1, e1, setK_30, e2, setK_31, ih (k + 1) _ _ (by omega) (by omega)]
        have f1 : ∀ (g : Nat → Nat → Nat → Int32) (s : Nat → Int32), (fun m j c => if m = a ∧ j = t ∧ k + 1 ≤ c ∧ c < z 0 ∧ ¬ σ.1 14 mi 0 c ≤ (if a = a ∧ t = t ∧ c = k then σ.1 14 mi 0 k else h14 a t c) then s c else if m = a ∧ j = t ∧ c = k then s k else g m j c) = (fun m j c => if m = a ∧ j = t ∧ k ≤ c ∧ c < z 0 ∧ ¬ σ.1 14 mi 0 c ≤ h14 a t c then s c else g m j c) := by
          intro g s
          funext m j c
          by_cases q : c = k
          · subst q
            rw [if_neg (c := m = a ∧ j = t ∧ c + 1 ≤ c ∧ _) (fun r => by omega)]
            by_cases e : m = a ∧ j = t
            · rw [if_pos ⟨e.1, e.2, rfl⟩, if_pos ⟨e.1, e.2, Nat.le_refl _, hk, hc⟩]
            · rw [if_neg (fun r => e ⟨r.1, r.2.1⟩), if_neg (fun r => e ⟨r.1, r.2.1⟩)]
          · rw [if_neg (c := a = a ∧ t = t ∧ c = k) (fun r => q r.2.2), if_neg (c := m = a ∧ j = t ∧ c = k) (fun r => q r.2.2)]
            by_cases e : m = a ∧ j = t ∧ k ≤ c ∧ c < z 0 ∧ ¬ σ.1 14 mi 0 c ≤ h14 a t c
            · rw [if_pos e, if_pos ⟨e.1, e.2.1, by omega, e.2.2.2⟩]
            · rw [if_neg e, if_neg (fun r => e ⟨r.1, r.2.1, by omega, r.2.2.2⟩)]
        rw [f1 h14 (fun c => σ.1 14 mi 0 c), f1 h15 (fun c => σ.1 15 mi 0 c)]
    · have : k = z 0 := by omega
      subst this
      rw [if_pos (nI_le (Nat.le_refl _) (by omega))]
      have f1 : ∀ (g : Nat → Nat → Nat → Int32) (s : Nat → Int32), (fun m j c => if m = a ∧ j = t ∧ z 0 ≤ c ∧ c < z 0 ∧ ¬ σ.1 14 mi 0 c ≤ h14 a t c then s c else g m j c) = g := fun g s => funext fun m => funext fun j => funext fun c => if_neg (fun r => by omega)
      rw [f1 h14 (fun c => σ.1 14 mi 0 c), f1 h15 (fun c => σ.1 15 mi 0 c)]
theorem keep_e (hz : zOK z) (a t mi : Nat) : f_X9_keepGreatest z σ a t mi = some (setK σ (fun m j c => if m = a ∧ j = t ∧ 0 ≤ c ∧ c < z 0 ∧ ¬ σ.1 14 mi 0 c ≤ σ.1 30 a t c then σ.1 14 mi 0 c else σ.1 30 m j c) (fun m j c => if m = a ∧ j = t ∧ 0 ≤ c ∧ c < z 0 ∧ ¬ σ.1 14 mi 0 c ≤ σ.1 30 a t c then σ.1 15 mi 0 c else σ.1 31 m j c)) := by
  have hzz := hz
  unfold zOK at hzz
  unfold f_X9_keepGreatest
  have h := keep_L (σ := σ) hz a t mi FU 0 (σ.1 30) (σ.1 31) (Nat.zero_le _) (by have := FU_big; omega)
  rw [setK_id] at h
  rw [show f_X9_keepGreatest_L2 z a t mi FU 0 σ = _ from h, bnd1_e]
theorem mkeep_L {i : Nat} (hi : i < 80) (x1 x2 v2 : Int32) : ∀ (n k : Nat) (g g' : Nat → Int32), k ≤ 4 → 4 < k + n →
    f_X11_promise_L68 z x1 x2 (nI i) v2 n (nI k) (setW τ g g') = some (setW τ (fun q => if 4 * i + k ≤ q ∧ q < 4 * i + 4 ∧ ¬ τ.1 37 (q - 4 * i) ≤ g q then τ.1 37 (q - 4 * i) else g q) (fun q => if 4 * i + k ≤ q ∧ q < 4 * i + 4 ∧ ¬ τ.1 37 (q - 4 * i) ≤ g q then τ.1 37 (4 + (q - 4 * i)) else g' q)) := by
  intro n
  induction n with
  | zero => intro k g g' h1 h2; omega
  | succ n ih =>
    intro k g g' h1 h2
    rw [f_X11_promise_L68]
    by_cases hk : k < 4
    · have hN : ¬ nI 4 ≤ nI k := nI_ge hk (by omega)
      have e1 : ∀ g g' x, (setW τ g g').1 37 x = τ.1 37 x := fun _ _ _ => rfl
      have e3 : ∀ g g' x, (setW τ g g').1 27 x = g x := fun _ _ _ => rfl
      rw [if_neg (show ¬ (4 : Int32) ≤ nI k from hN), gdx_n (n := mlen 37) (show k < 8 by omega) (by decide), letv_e, mul4, nI_add, gdx_n (n := mlen 27) (show 4 * i + k < 320 by omega) (by decide), letv_e, e1, e3]
      by_cases hc : τ.1 37 k ≤ g (4 * i + k)
      · rw [if_pos hc, letv_e, add1, ih (k + 1) _ _ (by omega) (by omega)]
        have f1 : ∀ (u s : Nat → Int32), (fun q => if 4 * i + (k + 1) ≤ q ∧ q < 4 * i + 4 ∧ ¬ τ.1 37 (q - 4 * i) ≤ g q then s q else u q) = (fun q => if 4 * i + k ≤ q ∧ q < 4 * i + 4 ∧ ¬ τ.1 37 (q - 4 * i) ≤ g q then s q else u q) := by
          intro u s
          funext q
          by_cases e : 4 * i + k ≤ q ∧ q < 4 * i + 4 ∧ ¬ τ.1 37 (q - 4 * i) ≤ g q
          · have : ¬ q = 4 * i + k := fun r => e.2.2 (by rw [r, show 4 * i + k - 4 * i = k by omega]; exact hc)
            rw [if_pos e, if_pos ⟨by omega, e.2⟩]
          · rw [if_neg e, if_neg (fun r => e ⟨by omega, r.2⟩)]
        rw [f1 g (fun q => τ.1 37 (q - 4 * i)), f1 g' (fun q => τ.1 37 (4 + (q - 4 * i)))]
      · have a4 : (4 : Int32) + nI k = nI (4 + k) := nI_add 4 k
        rw [if_neg hc, gdx_n (n := mlen 37) (show k < 8 by omega) (by decide), letv_e, gdx_n (n := mlen 27) (show 4 * i + k < 320 by omega) (by decide), letv_e, a4, gdx_n (n := mlen 37) (show 4 + k < 8 by omega) (by decide), letv_e, gdx_n (n := mlen 28) (show 4 * i + k < 320 by omega) (by decide), letv_e, letv_e, add1, e1, setW_27, e1, setW_28, ih (k + 1) _ _ (by omega) (by omega)]
        have f1 : ∀ (u s : Nat → Int32), (fun q => if 4 * i + (k + 1) ≤ q ∧ q < 4 * i + 4 ∧ ¬ τ.1 37 (q - 4 * i) ≤ (if q = 4 * i + k then τ.1 37 k else g q) then s q else if q = 4 * i + k then s (4 * i + k) else u q) = (fun q => if 4 * i + k ≤ q ∧ q < 4 * i + 4 ∧ ¬ τ.1 37 (q - 4 * i) ≤ g q then s q else u q) := by
          intro u s
          funext q
          by_cases r : q = 4 * i + k
          · rw [if_neg (c := 4 * i + (k + 1) ≤ q ∧ _) (fun x => by omega), if_pos r, if_pos (c := 4 * i + k ≤ q ∧ _) ⟨by omega, by omega, by rw [r, show 4 * i + k - 4 * i = k by omega]; exact hc⟩, r]
          · rw [if_neg (c := q = 4 * i + k) r, if_neg (c := q = 4 * i + k) r]
            by_cases e : 4 * i + k ≤ q ∧ q < 4 * i + 4 ∧ ¬ τ.1 37 (q - 4 * i) ≤ g q
            · rw [if_pos e, if_pos ⟨by omega, e.2⟩]
            · rw [if_neg e, if_neg (fun x => e ⟨by omega, x.2⟩)]
        have g1 := f1 g (fun q => τ.1 37 (q - 4 * i))
        have g2 := f1 g' (fun q => τ.1 37 (4 + (q - 4 * i)))
        simp only [show 4 * i + k - 4 * i = k by omega] at g1 g2
        rw [g1, g2]
    · have : k = 4 := by omega
      subst this
      rw [if_pos (by decide)]
      have f1 : ∀ (u s : Nat → Int32), (fun q => if 4 * i + 4 ≤ q ∧ q < 4 * i + 4 ∧ ¬ τ.1 37 (q - 4 * i) ≤ g q then s q else u q) = u := fun u s => funext fun q => if_neg (fun r => by omega)
      rw [f1 g (fun q => τ.1 37 (q - 4 * i)), f1 g' (fun q => τ.1 37 (4 + (q - 4 * i)))]
theorem Rel.keep (hz : zOK z) (h : Rel z bb w σ τ) {a t mi : Nat} (ha : a < z 1) (ht : t < z 2) (ht1 : ∀ s, s < z 0 → τ.1 37 s = σ.1 14 mi 0 s ∧ τ.1 37 (4 + s) = σ.1 15 mi 0 s ∧ vb bb (σ.1 14 mi 0 s) (σ.1 15 mi 0 s)) :
    Rel z bb w (setK σ (fun m j c => if m = a ∧ j = t ∧ 0 ≤ c ∧ c < z 0 ∧ ¬ σ.1 14 mi 0 c ≤ σ.1 30 a t c then σ.1 14 mi 0 c else σ.1 30 m j c) (fun m j c => if m = a ∧ j = t ∧ 0 ≤ c ∧ c < z 0 ∧ ¬ σ.1 14 mi 0 c ≤ σ.1 30 a t c then σ.1 15 mi 0 c else σ.1 31 m j c))
      (setW τ (fun q => if 4 * (16 * a + t) + 0 ≤ q ∧ q < 4 * (16 * a + t) + 4 ∧ ¬ τ.1 37 (q - 4 * (16 * a + t)) ≤ τ.1 27 q then τ.1 37 (q - 4 * (16 * a + t)) else τ.1 27 q) (fun q => if 4 * (16 * a + t) + 0 ≤ q ∧ q < 4 * (16 * a + t) + 4 ∧ ¬ τ.1 37 (q - 4 * (16 * a + t)) ≤ τ.1 27 q then τ.1 37 (4 + (q - 4 * (16 * a + t))) else τ.1 28 q)) := by
  have hzz := hz
  unfold zOK at hzz
  obtain ⟨a1, a2, a3, a4, a5, a6, a7, a8, a9, a10, a11, a12, a13, a14, a15, a16, a17⟩ := h
  refine ⟨a1, a2, a3, a4, a5, a6, a7, a8, a9, a10, a11, a12, a13, fun a' t' s ha' ht' hs => ?_, a15, a16, a17⟩
  obtain ⟨b1, b2, b3⟩ := a14 a' t' s ha' ht' hs
  show (if 4 * (16 * a + t) + 0 ≤ 4 * (16 * a' + t') + s ∧ 4 * (16 * a' + t') + s < 4 * (16 * a + t) + 4 ∧ ¬ τ.1 37 (4 * (16 * a' + t') + s - 4 * (16 * a + t)) ≤ τ.1 27 (4 * (16 * a' + t') + s) then τ.1 37 (4 * (16 * a' + t') + s - 4 * (16 * a + t)) else τ.1 27 (4 * (16 * a' + t') + s)) = (if a' = a ∧ t' = t ∧ 0 ≤ s ∧ s < z 0 ∧ ¬ σ.1 14 mi 0 s ≤ σ.1 30 a t s then σ.1 14 mi 0 s else σ.1 30 a' t' s) ∧
    (if 4 * (16 * a + t) + 0 ≤ 4 * (16 * a' + t') + s ∧ 4 * (16 * a' + t') + s < 4 * (16 * a + t) + 4 ∧ ¬ τ.1 37 (4 * (16 * a' + t') + s - 4 * (16 * a + t)) ≤ τ.1 27 (4 * (16 * a' + t') + s) then τ.1 37 (4 + (4 * (16 * a' + t') + s - 4 * (16 * a + t))) else τ.1 28 (4 * (16 * a' + t') + s)) = (if a' = a ∧ t' = t ∧ 0 ≤ s ∧ s < z 0 ∧ ¬ σ.1 14 mi 0 s ≤ σ.1 30 a t s then σ.1 15 mi 0 s else σ.1 31 a' t' s) ∧
    vb bb (if a' = a ∧ t' = t ∧ 0 ≤ s ∧ s < z 0 ∧ ¬ σ.1 14 mi 0 s ≤ σ.1 30 a t s then σ.1 14 mi 0 s else σ.1 30 a' t' s) (if a' = a ∧ t' = t ∧ 0 ≤ s ∧ s < z 0 ∧ ¬ σ.1 14 mi 0 s ≤ σ.1 30 a t s then σ.1 15 mi 0 s else σ.1 31 a' t' s)
  obtain ⟨c1, c2, c3⟩ := ht1 s hs
  by_cases e : a' = a ∧ t' = t
  · obtain ⟨rfl, rfl⟩ := e
    rw [show 4 * (16 * a' + t') + s - 4 * (16 * a' + t') = s by omega, c1, c2, b1, b2]
    have l1 : 4 * (16 * a' + t') + 0 ≤ 4 * (16 * a' + t') + s := by omega
    have l2 : 4 * (16 * a' + t') + s < 4 * (16 * a' + t') + 4 := by omega
    by_cases q : σ.1 14 mi 0 s ≤ σ.1 30 a' t' s
    · have n1 : ¬ (4 * (16 * a' + t') + 0 ≤ 4 * (16 * a' + t') + s ∧ 4 * (16 * a' + t') + s < 4 * (16 * a' + t') + 4 ∧ ¬ σ.1 14 mi 0 s ≤ σ.1 30 a' t' s) := fun r => r.2.2 q
      have n2 : ¬ (a' = a' ∧ t' = t' ∧ 0 ≤ s ∧ s < z 0 ∧ ¬ σ.1 14 mi 0 s ≤ σ.1 30 a' t' s) := fun r => r.2.2.2.2 q
      rw [if_neg n1, if_neg n1, if_neg n2, if_neg n2]
      exact ⟨rfl, rfl, b3⟩
    · have n1 : 4 * (16 * a' + t') + 0 ≤ 4 * (16 * a' + t') + s ∧ 4 * (16 * a' + t') + s < 4 * (16 * a' + t') + 4 ∧ ¬ σ.1 14 mi 0 s ≤ σ.1 30 a' t' s := ⟨l1, l2, q⟩
      have n2 : a' = a' ∧ t' = t' ∧ 0 ≤ s ∧ s < z 0 ∧ ¬ σ.1 14 mi 0 s ≤ σ.1 30 a' t' s := ⟨rfl, rfl, Nat.zero_le _, hs, q⟩
      rw [if_pos n1, if_pos n1, if_pos n2, if_pos n2]
      exact ⟨rfl, rfl, c3⟩
  · have nM : ¬ (4 * (16 * a + t) + 0 ≤ 4 * (16 * a' + t') + s ∧ 4 * (16 * a' + t') + s < 4 * (16 * a + t) + 4 ∧ ¬ τ.1 37 (4 * (16 * a' + t') + s - 4 * (16 * a + t)) ≤ τ.1 27 (4 * (16 * a' + t') + s)) := fun r => e (by omega)
    have nX : ¬ (a' = a ∧ t' = t ∧ 0 ≤ s ∧ s < z 0 ∧ ¬ σ.1 14 mi 0 s ≤ σ.1 30 a t s) := fun r => e ⟨r.1, r.2.1⟩
    rw [if_neg nM, if_neg nM, if_neg nX, if_neg nX]
    exact ⟨b1, b2, b3⟩
theorem Rel.cnt4 (hz : zOK z) (h : Rel z bb w σ τ) {a t : Nat} (ha : a < z 1) (ht : t < z 2) {x : Int32} (hx : nb 31 x) : Rel z bb w (upI σ 27 a t 4 x) (tpI τ 22 (16 * a + t) x) := by
  have hzz := hz
  unfold zOK at hzz
  obtain ⟨a1, a2, a3, a4, a5, a6, a7, a8, a9, a10, a11, a12, a13, a14, a15, a16, a17⟩ := h
  refine ⟨a1, a2, a3, a4, a5, a6, a7, a8, a9, a10, a11, fun a' t' ha' ht' => ?_, a13, a14, a15, a16, a17⟩
  obtain ⟨b1, b2, b3, b4, b5, b6, b7⟩ := a12 a' t' ha' ht'
  have k : ∀ c, (upI σ 27 a t 4 x).1 27 a' t' c = if 27 = 27 ∧ a' = a ∧ t' = t ∧ c = 4 then x else σ.1 27 a' t' c := fun c => rfl
  have k22 : (tpI τ 22 (16 * a + t) x).1 22 (16 * a' + t') = if 22 = 22 ∧ 16 * a' + t' = 16 * a + t then x else τ.1 22 (16 * a' + t') := rfl
  have nc : ∀ c, ¬ c = 4 → ¬ (27 = 27 ∧ a' = a ∧ t' = t ∧ c = 4) := fun c hc r => hc r.2.2.2
  rw [k 1, k 2, k 3, k 4, k22, if_neg (nc 1 (by omega)), if_neg (nc 2 (by omega)), if_neg (nc 3 (by omega))]
  by_cases e : a' = a ∧ t' = t
  · obtain ⟨rfl, rfl⟩ := e
    simp only [true_and, if_true]
    exact ⟨b1, b2, hx, b4, b5, b6, trivial⟩
  · have n1 : ¬ (16 * a' + t' = 16 * a + t) := fun r => e (by omega)
    have n3 : ¬ (27 = 27 ∧ a' = a ∧ t' = t ∧ 4 = 4) := fun r => e ⟨r.2.1, r.2.2.1⟩
    have n4 : ¬ (22 = 22 ∧ 16 * a' + t' = 16 * a + t) := fun r => n1 r.2
    rw [if_neg n3, if_neg n4]
    exact ⟨b1, b2, b3, b4, b5, b6, b7⟩
theorem prom_L (hz : zOK z) (hbb : bb < 50000) {a t b mi : Nat} (ha : a < z 1) (ht : t < z 2) (hb : b ≤ bb) (hm2 : ¬ mi = z 4) : ∀ (n k w : Nat) (σ : Sg) (τ : Tg), Rel z bb w σ τ → (∀ i, i < z 4 → ¬ mi = σ.2.2 12 i) → σ.1 13 mi 0 2 = nI t → σ.1 13 mi 0 3 = nI b → k ≤ z 0 → z 0 < k + n →
    ∃ w' σ' τ', f_X0_hearPromise_L72 z a mi t n (nI k) σ = some σ' ∧ f_X11_promise_L156 z (nI (z 0 + a)) (nI t) (nI (16 * a + t)) (nI b) n (nI k) τ = some τ' ∧ Rel z bb w' σ' τ' ∧ σ'.1 13 mi = σ.1 13 mi ∧ τ'.1 36 = τ.1 36 := by
  have hzz := hz
  unfold zOK at hzz
  intro n
  induction n with
  | zero => intro k w σ τ h hm1 f2 f3 h1 h2; omega
  | succ n ih =>
    intro k w σ τ h hm1 f2 f3 h1 h2
    rw [f_X0_hearPromise_L72, f_X11_promise_L156]
    by_cases hk : k < z 0
    · rw [if_neg (nI_ge hk (by omega)), if_neg (nI_ge hk (by omega)), letv_e, f2, touches_X hz ht (by omega), touches_M hz h ht (by omega), bnd1_e, bnd1_e]
      by_cases hb' : bt (σ.1 4 0 0 t) k = true
      · obtain ⟨c1, c2, c3⟩ := h.2.2.2.2.2.2.2.2.2.2.2.2.2.1 a t k ha ht hk
        have hkv : ∃ kv, f_X9_keptOrNo z σ a t (nI k) = some kv ∧ (kv = 1 ∨ kv = 2) ∧ (if 0 ≤ σ.1 30 a t k then (gdx (nI (4 * (16 * a + t) + k)) (mlen 28) fun k62 => letv (τ.1 28 k62) fun v63 => some (v63)) else (some (2))) = some kv := by
          unfold f_X9_keptOrNo
          rw [gdx_n hk (by omega), letv_e, gdx_n (n := mlen 28) (show 4 * (16 * a + t) + k < 320 by omega) (by decide), letv_e, c2]
          rcases c3 with ⟨u1, u2⟩ | ⟨⟨q, q1, u1⟩, u2⟩
          · rw [u1, u2, if_pos rfl, if_neg (by decide)]
            exact ⟨2, rfl, Or.inr rfl, rfl⟩
          · rw [u1, if_pos (show (0 : Int32) ≤ nI q from nI_le (a := 0) (Nat.zero_le _) (by omega))]
            rcases u2 with u2 | u2
            · rw [u2, if_neg (by decide), gdx_n hk (by omega), letv_e, u2]
              exact ⟨1, rfl, Or.inl rfl, rfl⟩
            · rw [u2, if_neg (by decide), gdx_n hk (by omega), letv_e, u2]
              exact ⟨2, rfl, Or.inr rfl, rfl⟩
        obtain ⟨kv, kv1, kv2, kv3⟩ := hkv
        rw [if_pos hb', if_neg (show ¬ (1 : Int32) = 0 by decide), if_neg (show ¬ (1 : Int32) = 0 by decide), letv_e, letv_e, f3, kv1, bnd1_e, startVote_e, bnd1_e, mul4, nI_add, gdx_n (n := mlen 27) (show 4 * (16 * a + t) + k < 320 by omega) (by decide), letv_e (τ.1 27 (4 * (16 * a + t) + k)), c1, kv3, bnd1_e]
        obtain ⟨w1, σ1, τ1, e1, e2, e3, e4, e5⟩ := p_postAll hz (h.drf 2 (nI t) (nI b) (nI k) kv (nI (z 0 + a))) (drf_D _ _ _ _ _ _) (by decide) (fun a2 ha2 tb tv => ⟨⟨t, ht, rfl⟩, ⟨b, hb, rfl⟩, Or.inr (Or.inl ⟨rfl, ⟨a2, ha2, rfl⟩, ⟨k, hk, rfl⟩, kv2⟩)⟩)
        have k13 : σ1.1 13 mi = σ.1 13 mi := by rw [(e4.keep hm1).1, drf_o _ _ _ _ _ _ hm2]
        have k22 : σ1.2 = σ.2 := e4.1
        have k36 : τ1.1 36 = τ.1 36 := e5.2 36 (by omega) (by omega)
        rw [e1, e2, bnd1_e, bnd1_e, letv_e, letv_e, add1]
        obtain ⟨w2, σ2, τ2, g1, g2, g3, g4, g5⟩ := ih (k + 1) w1 σ1 τ1 e3 (by rw [k22]; exact hm1) (by rw [k13]; exact f2) (by rw [k13]; exact f3) (by omega) (by omega)
        exact ⟨w2, σ2, τ2, g1, g2, g3, g4.trans k13, g5.trans k36⟩
      · rw [if_neg hb', if_pos rfl, if_pos rfl, letv_e, letv_e, add1]
        exact ih (k + 1) w σ τ h hm1 f2 f3 (by omega) (by omega)
    · have : k = z 0 := by omega
      subst this
      rw [if_pos (nI_le (Nat.le_refl _) (by omega)), if_pos (nI_le (Nat.le_refl _) (by omega))]
      exact ⟨w, σ, τ, rfl, rfl, h, rfl, rfl⟩
theorem p_hprom (hz : zOK z) (hbb : bb < 50000) (h : Rel z bb w σ τ) {a t b a2 : Nat} (ha : a < z 1) (ht : t < z 2) (hb : b ≤ bb) (ha2 : a2 < z 1) {mi : Nat} (hm1 : ∀ i, i < z 4 → ¬ mi = σ.2.2 12 i) (hm2 : ¬ mi = z 4)
    (f2 : σ.1 13 mi 0 2 = nI t) (f3 : σ.1 13 mi 0 3 = nI b) (f6 : σ.1 13 mi 0 6 = nI (z 0 + a2)) (g3 : τ.1 36 3 = nI b) (g6 : τ.1 36 6 = nI (z 0 + a2)) (ht1 : ∀ s, s < z 0 → τ.1 37 s = σ.1 14 mi 0 s ∧ τ.1 37 (4 + s) = σ.1 15 mi 0 s ∧ vb bb (σ.1 14 mi 0 s) (σ.1 15 mi 0 s)) :
    Ps1 z bb mi σ τ (f_X0_hearPromise z σ a mi t) (f_X11_promise z τ (nI (z 0 + a)) (nI t) (nI (16 * a + t))) := by
  have hzz := hz
  unfold zOK at hzz
  have i80 : 16 * a + t < 80 := by omega
  obtain ⟨p1, p2, p3, p4, p5, p6, p7⟩ := h.2.2.2.2.2.2.2.2.2.2.2.1 a t ha ht
  have hbit := bit31 a2 (by omega)
  unfold f_X0_hearPromise f_X11_promise
  have hL : f_X9_listensFor z σ a t (nI b) = some (if σ.1 27 a t 2 = nI b ∧ σ.1 27 a t 3 = 0 then 1 else 0) := by
    unfold f_X9_listensFor
    rw [letv_e]
    by_cases c1 : σ.1 27 a t 2 = nI b
    · rw [if_pos c1, letv_e]
      by_cases c2 : σ.1 27 a t 3 = 0
      · rw [if_pos c2, if_pos ⟨c1, c2⟩]
      · rw [if_neg c2, if_neg (fun r => c2 r.2)]
    · rw [if_neg c1, if_neg (fun r => c1 r.1)]
  rw [letv_e, f3, hL, bnd1_e, gdx_l (n := mlen 36) 3 (by decide) (by decide), letv_e (τ.1 36 3), g3, gdx_n (n := mlen 20) (show 16 * a + t < 80 from i80) (by decide), letv_e (τ.1 20 (16 * a + t)), p5]
  by_cases c1 : σ.1 27 a t 2 = nI b
  · rw [if_pos c1, gdx_n (n := mlen 21) (show 16 * a + t < 80 from i80) (by decide), letv_e (τ.1 21 (16 * a + t)), p6]
    by_cases c2 : σ.1 27 a t 3 = 0
    · rw [if_pos c2, if_pos (show σ.1 27 a t 2 = nI b ∧ σ.1 27 a t 3 = 0 from ⟨c1, c2⟩), if_neg (show ¬ (1 : Int32) = 0 by decide), letv_e, gdx_n (n := mlen 22) (show 16 * a + t < 80 from i80) (by decide), letv_e (τ.1 22 (16 * a + t)), p7]
      rcases mj hz p3 σ τ with ⟨m1, m2⟩ | ⟨m1, m2⟩
      · rw [m1, m2, bnd1_e, bnd1_e, if_pos rfl, if_pos rfl, letv_e, letv_e, f6, show f_X0_bitOf z σ a (nI (z 0 + a2)) = some (1 <<< (nI a2 &&& 31)) by unfold f_X0_bitOf; rw [pk_sub (by omega), show z 0 + a2 - z 0 = a2 by omega], bnd1_e]
        rw [gdx_n (n := mlen 22) (show 16 * a + t < 80 from i80) (by decide), letv_e (τ.1 22 (16 * a + t)), p7, gdx_l (n := mlen 36) 6 (by decide) (by decide), letv_e (τ.1 36 6), g6, pk_sub (by omega), show z 0 + a2 - z 0 = a2 by omega, gdx_n (n := mlen 22) (show 16 * a + t < 80 from i80) (by decide)]
        generalize hbt : (1 : Int32) <<< (nI a2 &&& 31) = bit at hbit
        have hnb : nb 31 (σ.1 27 a t 4 ||| bit) := or_nb p3 hbit
        have h1 := h.cnt4 hz ha ht hnb
        rw [letv_e, letv_e (tpI _ _ _ _)]
        generalize hA : upI σ 27 a t 4 (σ.1 27 a t 4 ||| bit) = A at h1
        generalize hB : tpI τ 22 (16 * a + t) (σ.1 27 a t 4 ||| bit) = B at h1
        have A13 : A.1 13 = σ.1 13 := by rw [← hA]; rfl
        have A14 : A.1 14 = σ.1 14 := by rw [← hA]; rfl
        have A15 : A.1 15 = σ.1 15 := by rw [← hA]; rfl
        have A22 : A.2.2 = σ.2.2 := by rw [← hA]; rfl
        have A4 : A.1 27 a t 4 = σ.1 27 a t 4 ||| bit := by rw [← hA]; simp [upI]
        have B36 : B.1 36 = τ.1 36 := by rw [← hB]; rfl
        have B37 : B.1 37 = τ.1 37 := by rw [← hB]; rfl
        have B22 : B.1 22 (16 * a + t) = σ.1 27 a t 4 ||| bit := by rw [← hB]; simp [tpI]
        have h2 := h1.keep hz (mi := mi) ha ht (by rw [A14, A15, B37]; exact ht1)
        have l := mkeep_L (z := z) (τ := B) i80 (nI (z 0 + a)) (nI t) (nI b) FU 0 (B.1 27) (B.1 28) (by omega) (by have := FU_big; omega)
        rw [setW_id] at l
        rw [keep_e hz, bnd1_e, show f_X11_promise_L68 z (nI (z 0 + a)) (nI t) (nI (16 * a + t)) (nI b) FU 0 B = _ from l, bnd1_e]
        generalize hC : setK A (fun m j c => if m = a ∧ j = t ∧ 0 ≤ c ∧ c < z 0 ∧ ¬ A.1 14 mi 0 c ≤ A.1 30 a t c then A.1 14 mi 0 c else A.1 30 m j c) (fun m j c => if m = a ∧ j = t ∧ 0 ≤ c ∧ c < z 0 ∧ ¬ A.1 14 mi 0 c ≤ A.1 30 a t c then A.1 15 mi 0 c else A.1 31 m j c) = C at h2
        generalize hD : setW B (fun q => if 4 * (16 * a + t) + 0 ≤ q ∧ q < 4 * (16 * a + t) + 4 ∧ ¬ B.1 37 (q - 4 * (16 * a + t)) ≤ B.1 27 q then B.1 37 (q - 4 * (16 * a + t)) else B.1 27 q) (fun q => if 4 * (16 * a + t) + 0 ≤ q ∧ q < 4 * (16 * a + t) + 4 ∧ ¬ B.1 37 (q - 4 * (16 * a + t)) ≤ B.1 27 q then B.1 37 (4 + (q - 4 * (16 * a + t))) else B.1 28 q) = D at h2
        have C13 : C.1 13 = σ.1 13 := by rw [← A13, ← hC]; rfl
        have C22 : C.2.2 = σ.2.2 := by rw [← A22, ← hC]; rfl
        have C4 : C.1 27 a t 4 = σ.1 27 a t 4 ||| bit := by rw [← A4, ← hC]; rfl
        have D36 : D.1 36 = τ.1 36 := by rw [← B36, ← hD]; rfl
        have D22 : D.1 22 (16 * a + t) = σ.1 27 a t 4 ||| bit := by rw [← B22, ← hD]; rfl
        rw [letv_e, C4, gdx_n (n := mlen 22) (show 16 * a + t < 80 from i80) (by decide), letv_e (D.1 22 (16 * a + t)), D22]
        rcases mj hz hnb C D with ⟨n1, n2⟩ | ⟨n1, n2⟩
        · rw [n1, n2, bnd1_e, bnd1_e, if_pos rfl, if_pos rfl]
          exact ⟨w, C, D, rfl, rfl, h2, by rw [C13], D36⟩
        · rw [n1, n2, bnd1_e, bnd1_e, if_neg (show ¬ (1 : Int32) = 0 by decide), if_neg (show ¬ (1 : Int32) = 0 by decide)]
          obtain ⟨w2, σ2, τ2, e1, e2, e3, e4, e5⟩ := prom_L hz hbb ha ht hb hm2 FU 0 w C D h2 (by rw [C22]; exact hm1) (by rw [C13]; exact f2) (by rw [C13]; exact f3) (Nat.zero_le _) (by have := FU_big; omega)
          rw [show f_X0_hearPromise_L72 z a mi t FU 0 C = some σ2 from e1, show f_X11_promise_L156 z (nI (z 0 + a)) (nI t) (nI (16 * a + t)) (nI b) FU 0 D = some τ2 from e2, bnd1_e, bnd1_e]
          exact ⟨w2, σ2, τ2, rfl, rfl, e3, by rw [e4, C13], e5.trans D36⟩
      · rw [m1, m2, bnd1_e, bnd1_e, if_neg (show ¬ (1 : Int32) = 0 by decide), if_neg (show ¬ (1 : Int32) = 0 by decide)]
        exact ⟨w, σ, τ, rfl, rfl, h, rfl, rfl⟩
    · rw [if_neg c2, if_neg (show ¬ (σ.1 27 a t 2 = nI b ∧ σ.1 27 a t 3 = 0) from fun r => c2 r.2), if_pos rfl]
      exact ⟨w, σ, τ, rfl, rfl, h, rfl, rfl⟩
  · rw [if_neg c1, if_neg (show ¬ (σ.1 27 a t 2 = nI b ∧ σ.1 27 a t 3 = 0) from fun r => c1 r.1), if_pos rfl]
    exact ⟨w, σ, τ, rfl, rfl, h, rfl, rfl⟩
end PROM
