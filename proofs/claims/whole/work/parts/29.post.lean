/-! a message is posted -/
def setP (σ : Sg) (g11 g13 g14 g15 : Nat → Nat → Nat → Int32) : Sg := (fun f => if f = 11 then g11 else if f = 13 then g13 else if f = 14 then g14 else if f = 15 then g15 else σ.1 f, σ.2)
/-- what posting leaves as it was -/
def Kx (z : Nat → Nat) (σ σ' : Sg) : Prop := σ'.2 = σ.2 ∧ (∀ f, ¬ f = 11 → ¬ f = 13 → ¬ f = 14 → ¬ f = 15 → σ'.1 f = σ.1 f) ∧ ∀ m j c, (∀ i, i < z 4 → ¬ m = σ.2.2 12 i) → σ'.1 13 m j c = σ.1 13 m j c ∧ σ'.1 14 m j c = σ.1 14 m j c ∧ σ'.1 15 m j c = σ.1 15 m j c
def Km (τ τ' : Tg) : Prop := τ'.2 = τ.2 ∧ ∀ f, ¬ f = 0 → ¬ f = 30 → τ'.1 f = τ.1 f
theorem Kx.refl {z : Nat → Nat} (σ : Sg) : Kx z σ σ := ⟨rfl, fun _ _ _ _ _ => rfl, fun _ _ _ _ => ⟨rfl, rfl, rfl⟩⟩
theorem Km.refl (τ : Tg) : Km τ τ := ⟨rfl, fun _ _ _ => rfl⟩
theorem Kx.trans {z : Nat → Nat} {a b c : Sg} (h : Kx z a b) (g : Kx z b c) : Kx z a c := by
  refine ⟨g.1.trans h.1, fun f h1 h2 h3 h4 => (g.2.1 f h1 h2 h3 h4).trans (h.2.1 f h1 h2 h3 h4), fun m j q hm => ?_⟩
  obtain ⟨a1, a2, a3⟩ := h.2.2 m j q hm
  obtain ⟨b1, b2, b3⟩ := g.2.2 m j q (by rw [h.1]; exact hm)
  exact ⟨b1.trans a1, b2.trans a2, b3.trans a3⟩
theorem Km.trans {a b c : Tg} (h : Km a b) (g : Km b c) : Km a c := ⟨g.1.trans h.1, fun f h1 h2 => (g.2 f h1 h2).trans (h.2 f h1 h2)⟩
section POST
variable {z : Nat → Nat} {bb w : Nat} {σ : Sg} {τ : Tg}
theorem copy_L (hz : zOK z) {i mi : Nat} (hne : ¬ mi = i) (g11 h13 : Nat → Nat → Nat → Int32) : ∀ (n k : Nat) (h14 h15 : Nat → Nat → Nat → Int32), k ≤ z 0 → z 0 < k + n →
    f_X3_copyFrom_L55 z i mi n (nI k) (setP σ g11 h13 h14 h15) = some (setP σ g11 h13 (fun m j c => if m = i ∧ j = 0 ∧ k ≤ c ∧ c < z 0 then h14 mi 0 c else h14 m j c) (fun m j c => if m = i ∧ j = 0 ∧ k ≤ c ∧ c < z 0 then h15 mi 0 c else h15 m j c)) := by
  have hzz := hz
  unfold zOK at hzz
  intro n
  induction n with
  | zero => intro k h14 h15 h1 h2; omega
  | succ n ih =>
    intro k h14 h15 h1 h2
    rw [f_X3_copyFrom_L55]
    by_cases hk : k < z 0
    · rw [if_neg (nI_ge hk (by omega))]
      simp (disch := omega) only [gdx_n, letv_e, add1]
      have e1 : (setP σ g11 h13 h14 h15).1 14 mi 0 k = h14 mi 0 k := rfl
      have e2 : upI (setP σ g11 h13 h14 h15) 14 i 0 k (h14 mi 0 k) = setP σ g11 h13 (fun m j c => if m = i ∧ j = 0 ∧ c = k then h14 mi 0 k else h14 m j c) h15 := by
        unfold upI setP
        refine Prod.ext (funext fun f => funext fun i' => funext fun j' => funext fun k' => ?_) rfl
        by_cases h : f = 14
        · subst h; simp
        · simp [h]
      have e3 : (setP σ g11 h13 (fun m j c => if m = i ∧ j = 0 ∧ c = k then h14 mi 0 k else h14 m j c) h15).1 15 mi 0 k = h15 mi 0 k := rfl
      have e4 : ∀ g, upI (setP σ g11 h13 g h15) 15 i 0 k (h15 mi 0 k) = setP σ g11 h13 g (fun m j c => if m = i ∧ j = 0 ∧ c = k then h15 mi 0 k else h15 m j c) := by
        intro g
        unfold upI setP
        refine Prod.ext (funext fun f => funext fun i' => funext fun j' => funext fun k' => ?_) rfl
        by_cases h : f = 15
        · subst h; simp
        · simp [h]
      rw [e1, e2, e3, e4, ih (k + 1) _ _ (by omega) (by omega)]
      have f1 : ∀ g : Nat → Nat → Nat → Int32, (fun m j c => if m = i ∧ j = 0 ∧ k + 1 ≤ c ∧ c < z 0 then (if mi = i ∧ 0 = 0 ∧ c = k then g mi 0 k else g mi 0 c) else (if m = i ∧ j = 0 ∧ c = k then g mi 0 k else g m j c)) = (fun m j c => if m = i ∧ j = 0 ∧ k ≤ c ∧ c < z 0 then g mi 0 c else g m j c) := by
        intro g
        funext m j c
        rw [if_neg (c := mi = i ∧ 0 = 0 ∧ c = k) (fun q => hne q.1)]
        by_cases e : m = i ∧ j = 0 ∧ k ≤ c ∧ c < z 0
        · rw [if_pos e]
          by_cases q : c = k
          · rw [if_neg (fun r => by omega), if_pos ⟨e.1, e.2.1, q⟩, q]
          · rw [if_pos ⟨e.1, e.2.1, by omega, e.2.2.2⟩]
        · rw [if_neg e, if_neg (fun r => e ⟨r.1, r.2.1, by omega, r.2.2.2⟩), if_neg (fun r => e ⟨r.1, r.2.1, by omega, by omega⟩)]
      rw [f1, f1]
    · have : k = z 0 := by omega
      subst this
      rw [if_pos (nI_le (Nat.le_refl _) (by omega))]
      have f1 : ∀ g : Nat → Nat → Nat → Int32, (fun m j c => if m = i ∧ j = 0 ∧ z 0 ≤ c ∧ c < z 0 then g mi 0 c else g m j c) = g := fun g => funext fun m => funext fun j => funext fun c => if_neg (fun r => by omega)
      rw [f1, f1]
theorem copy_e (hz : zOK z) {i mi : Nat} (hne : ¬ mi = i) (g11 : Nat → Nat → Nat → Int32) (x : Int32) : f_X3_copyFrom z (setP σ g11 (σ.1 13) (σ.1 14) (σ.1 15)) i mi x = some (setP σ g11 (fun m j c => if m = i ∧ j = 0 ∧ c < 7 then (if c = 1 then x else σ.1 13 mi 0 c) else σ.1 13 m j c)
    (fun m j c => if m = i ∧ j = 0 ∧ c < z 0 then σ.1 14 mi 0 c else σ.1 14 m j c) (fun m j c => if m = i ∧ j = 0 ∧ c < z 0 then σ.1 15 mi 0 c else σ.1 15 m j c)) := by
  have hzz := hz
  unfold zOK at hzz
  unfold f_X3_copyFrom
  simp only [letv_e]
  have rd : ∀ (g : Nat → Nat → Nat → Int32) (c : Nat), (∀ c, g mi 0 c = σ.1 13 mi 0 c) → (setP σ g11 g (σ.1 14) (σ.1 15)).1 13 mi 0 c = σ.1 13 mi 0 c := fun g c h => h c
  have up : ∀ (g : Nat → Nat → Nat → Int32) (c : Nat) (v : Int32), upI (setP σ g11 g (σ.1 14) (σ.1 15)) 13 i 0 c v = setP σ g11 (fun m j c' => if m = i ∧ j = 0 ∧ c' = c then v else g m j c') (σ.1 14) (σ.1 15) := by
    intro g c v
    unfold upI setP
    refine Prod.ext (funext fun f => funext fun i' => funext fun j' => funext fun k' => ?_) rfl
    by_cases h : f = 13
    · subst h; simp
    · simp [h]
  have nn : ∀ (c c' : Nat), ¬ (mi = i ∧ 0 = 0 ∧ c' = c) := fun c c' q => hne q.1
  have h0 : (setP σ g11 (σ.1 13) (σ.1 14) (σ.1 15)).1 13 mi 0 0 = σ.1 13 mi 0 0 := rfl
  rw [h0, up, up, rd _ 2 (fun c => by rw [if_neg (nn _ _), if_neg (nn _ _)]), up, rd _ 3 (fun c => by rw [if_neg (nn _ _), if_neg (nn _ _), if_neg (nn _ _)]), up, rd _ 4 (fun c => by rw [if_neg (nn _ _), if_neg (nn _ _), if_neg (nn _ _), if_neg (nn _ _)]), up,
    rd _ 5 (fun c => by rw [if_neg (nn _ _), if_neg (nn _ _), if_neg (nn _ _), if_neg (nn _ _), if_neg (nn _ _)]), up, rd _ 6 (fun c => by rw [if_neg (nn _ _), if_neg (nn _ _), if_neg (nn _ _), if_neg (nn _ _), if_neg (nn _ _), if_neg (nn _ _)]), up]
  rw [show f_X3_copyFrom_L55 z i mi FU 0 _ = _ from copy_L hz hne g11 _ FU 0 _ _ (Nat.zero_le _) (by have := FU_big; omega), bnd1_e]
  have f1 : (fun m j c' => if m = i ∧ j = 0 ∧ c' = 6 then σ.1 13 mi 0 6 else if m = i ∧ j = 0 ∧ c' = 5 then σ.1 13 mi 0 5 else if m = i ∧ j = 0 ∧ c' = 4 then σ.1 13 mi 0 4 else if m = i ∧ j = 0 ∧ c' = 3 then σ.1 13 mi 0 3 else if m = i ∧ j = 0 ∧ c' = 2 then σ.1 13 mi 0 2 else if m = i ∧ j = 0 ∧ c' = 1 then x else if m = i ∧ j = 0 ∧ c' = 0 then σ.1 13 mi 0 0 else σ.1 13 m j c') = (fun m j c => if m = i ∧ j = 0 ∧ c < 7 then (if c = 1 then x else σ.1 13 mi 0 c) else σ.1 13 m j c) := by
    funext m j c
    by_cases e : m = i ∧ j = 0
    · obtain ⟨e1, e2⟩ := e
      subst e1; subst e2
      by_cases h7 : c < 7
      · rcases (show c = 0 ∨ c = 1 ∨ c = 2 ∨ c = 3 ∨ c = 4 ∨ c = 5 ∨ c = 6 by omega) with rfl | rfl | rfl | rfl | rfl | rfl | rfl <;> simp
      · have n0 : ∀ q, q < 7 → ¬ c = q := fun q hq r => h7 (by omega)
        simp only [true_and, n0 6 (by omega), n0 5 (by omega), n0 4 (by omega), n0 3 (by omega), n0 2 (by omega), n0 1 (by omega), n0 0 (by omega), if_false, h7]
    · have a1 : ∀ P : Prop, (m = i ∧ j = 0 ∧ P) ↔ False := fun P => ⟨fun r => e ⟨r.1, r.2.1⟩, False.elim⟩
      simp only [a1, if_false]
  rw [f1]
  simp only [Nat.zero_le, true_and]
theorem setP_id (σ : Sg) : setP σ (σ.1 11) (σ.1 13) (σ.1 14) (σ.1 15) = σ := by
  unfold setP
  refine Prod.ext (funext fun f => ?_) rfl
  show (if f = 11 then σ.1 11 else if f = 13 then σ.1 13 else if f = 14 then σ.1 14 else if f = 15 then σ.1 15 else σ.1 f) = σ.1 f
  split
  next h => rw [h]
  split
  next h => rw [h]
  split
  next h => rw [h]
  split
  next h => rw [h]
  rfl
theorem up11 (σ : Sg) (g11 g13 g14 g15 : Nat → Nat → Nat → Int32) (c : Nat) (v : Int32) : upI (setP σ g11 g13 g14 g15) 11 0 0 c v = setP σ (fun i j k => if i = 0 ∧ j = 0 ∧ k = c then v else g11 i j k) g13 g14 g15 := by
  unfold upI setP
  refine Prod.ext (funext fun f => funext fun i' => funext fun j' => funext fun k' => ?_) rfl
  by_cases h : f = 11
  · subst h; simp
  · simp [h]
/-- the reference's row of a message -/
def row7 (x1 x2 x3 x4 x5 x6 x7 : Int32) (c : Nat) : Int32 := if c = 0 then x1 else if c = 1 then x2 else if c = 2 then x3 else if c = 3 then x4 else if c = 4 then x5 else if c = 5 then x6 else x7
theorem post_X1 (hz : zOK z) (hw : w < z 4) (hn : σ.1 11 0 0 4 = nI w) {mi : Nat} (hq : σ.2.2 12 w < z 4 + 2) (hne : ¬ mi = σ.2.2 12 w) (x : Int32) : f_X5_post z σ mi x = some (1, setP σ (fun i j k => if i = 0 ∧ j = 0 ∧ k = 4 then nI (w + 1) else if i = 0 ∧ j = 0 ∧ k = 5 then σ.1 11 0 0 5 + 1 else σ.1 11 i j k)
    (fun m j c => if m = σ.2.2 12 w ∧ j = 0 ∧ c < 7 then (if c = 1 then x else σ.1 13 mi 0 c) else σ.1 13 m j c) (fun m j c => if m = σ.2.2 12 w ∧ j = 0 ∧ c < z 0 then σ.1 14 mi 0 c else σ.1 14 m j c) (fun m j c => if m = σ.2.2 12 w ∧ j = 0 ∧ c < z 0 then σ.1 15 mi 0 c else σ.1 15 m j c)) := by
  have hzz := hz
  unfold zOK at hzz
  unfold f_X5_post
  simp only [letv_e]
  have e1 : (upI σ 11 0 0 5 (σ.1 11 0 0 5 + 1)) = setP σ (fun i j k => if i = 0 ∧ j = 0 ∧ k = 5 then σ.1 11 0 0 5 + 1 else σ.1 11 i j k) (σ.1 13) (σ.1 14) (σ.1 15) := by
    have := up11 σ (σ.1 11) (σ.1 13) (σ.1 14) (σ.1 15) 5 (σ.1 11 0 0 5 + 1)
    rw [setP_id] at this
    exact this
  have e2 : (upI σ 11 0 0 5 (σ.1 11 0 0 5 + 1)).1 11 0 0 4 = nI w := hn
  rw [e2, if_pos (nI_lt hw (by omega)), gdx_n hw (by omega)]
  rw [show (upI σ 11 0 0 5 (σ.1 11 0 0 5 + 1)).2.2 12 w = σ.2.2 12 w from rfl, gdr_n hq, e1, copy_e hz hne, bnd1_e]
  have e3 : ∀ g13 g14 g15, (setP σ (fun i j k => if i = 0 ∧ j = 0 ∧ k = 5 then σ.1 11 0 0 5 + 1 else σ.1 11 i j k) g13 g14 g15).1 11 0 0 4 = nI w := fun _ _ _ => hn
  rw [e3, up11, add1]
theorem post_X0 (hz : zOK z) (hw : w = z 4) (hn : σ.1 11 0 0 4 = nI w) {mi : Nat} (x : Int32) : f_X5_post z σ mi x = some (0, setP σ (fun i j k => if i = 0 ∧ j = 0 ∧ k = 6 then σ.1 11 0 0 6 + 1 else if i = 0 ∧ j = 0 ∧ k = 5 then σ.1 11 0 0 5 + 1 else σ.1 11 i j k) (σ.1 13) (σ.1 14) (σ.1 15)) := by
  have hzz := hz
  unfold zOK at hzz
  unfold f_X5_post
  simp only [letv_e]
  have e1 : (upI σ 11 0 0 5 (σ.1 11 0 0 5 + 1)) = setP σ (fun i j k => if i = 0 ∧ j = 0 ∧ k = 5 then σ.1 11 0 0 5 + 1 else σ.1 11 i j k) (σ.1 13) (σ.1 14) (σ.1 15) := by
    have := up11 σ (σ.1 11) (σ.1 13) (σ.1 14) (σ.1 15) 5 (σ.1 11 0 0 5 + 1)
    rw [setP_id] at this
    exact this
  have e2 : (upI σ 11 0 0 5 (σ.1 11 0 0 5 + 1)).1 11 0 0 4 = nI w := hn
  rw [e2, if_neg (nI_nlt (by omega) (by omega)), e1, up11]
  rfl
theorem post_M1 (hz : zOK z) (hw : w < z 4) (hn : τ.1 0 29 = nI w) (x1 x2 x3 x4 x5 x6 x7 : Int32) : f_X11_post z τ x1 x2 x3 x4 x5 x6 x7 = some (nI w, setT (setT τ 30 (fun q => if 7 * w ≤ q ∧ q < 7 * w + 7 then row7 x1 x2 x3 x4 x5 x6 x7 (q - 7 * w) else τ.1 30 q)) 0 (fun k => if k = 29 then nI (w + 1) else if k = 32 then τ.1 0 32 + 1 else τ.1 0 k)) := by
  have hzz := hz
  unfold zOK at hzz
  unfold f_X11_post
  simp only [letv_e]
  have e2 : (tpI τ 0 32 (τ.1 0 32 + 1)).1 0 29 = nI w := hn
  rw [e2, if_neg (fun q => by have := (nI_eq (by omega) (by omega)).mp q; omega), mul7]
  rw [gdx_n (n := mlen 30) (show 7 * w < 1400 by omega) (by decide), add1, gdx_n (n := mlen 30) (show 7 * w + 1 < 1400 by omega) (by decide), add2, gdx_n (n := mlen 30) (show 7 * w + 2 < 1400 by omega) (by decide), add3, gdx_n (n := mlen 30) (show 7 * w + 3 < 1400 by omega) (by decide),
    add4, gdx_n (n := mlen 30) (show 7 * w + 4 < 1400 by omega) (by decide), add5, gdx_n (n := mlen 30) (show 7 * w + 5 < 1400 by omega) (by decide), add6, gdx_n (n := mlen 30) (show 7 * w + 6 < 1400 by omega) (by decide)]
  have e3 : (tpI (tpI (tpI (tpI (tpI (tpI (tpI (tpI τ 0 32 (τ.1 0 32 + 1)) 30 (7 * w) x1) 30 (7 * w + 1) x2) 30 (7 * w + 2) x3) 30 (7 * w + 3) x4) 30 (7 * w + 4) x5) 30 (7 * w + 5) x6) 30 (7 * w + 6) x7).1 0 29 = nI w := hn
  rw [e3, add1]
  generalize hT : (tpI (tpI (tpI (tpI (tpI (tpI (tpI (tpI τ 0 32 (τ.1 0 32 + 1)) 30 (7 * w) x1) 30 (7 * w + 1) x2) 30 (7 * w + 2) x3) 30 (7 * w + 3) x4) 30 (7 * w + 4) x5) 30 (7 * w + 5) x6) 30 (7 * w + 6) x7) = T
  have e4 : (tpI T 0 29 (nI (w + 1))).1 0 29 = nI (w + 1) := by simp [tpI]
  rw [e4, sub1 (by omega), show w + 1 - 1 = w by omega]
  refine congrArg (fun q => some (nI w, q)) ?_
  rw [← hT]
  unfold tpI setT
  refine Prod.ext (funext fun f => funext fun q => ?_) rfl
  by_cases h0 : f = 0
  · subst h0
    simp
  by_cases h30 : f = 30
  · subst h30
    simp only [show (30 = 0) = False from by simp, false_and, if_false, true_and, if_true]
    by_cases e : 7 * w ≤ q ∧ q < 7 * w + 7
    · rw [if_pos e]
      rcases (show q = 7 * w ∨ q = 7 * w + 1 ∨ q = 7 * w + 2 ∨ q = 7 * w + 3 ∨ q = 7 * w + 4 ∨ q = 7 * w + 5 ∨ q = 7 * w + 6 by omega) with rfl | rfl | rfl | rfl | rfl | rfl | rfl <;> simp [row7] <;> omega
    · rw [if_neg e, if_neg (by omega), if_neg (by omega), if_neg (by omega), if_neg (by omega), if_neg (by omega), if_neg (by omega), if_neg (by omega)]
  simp [h0, h30]
theorem post_M0 (hz : zOK z) (hw : w = z 4) (hn : τ.1 0 29 = nI w) (x1 x2 x3 x4 x5 x6 x7 : Int32) : f_X11_post z τ x1 x2 x3 x4 x5 x6 x7 = some (-1, setT (setT τ 30 (τ.1 30)) 0 (fun k => if k = 33 then τ.1 0 33 + 1 else if k = 32 then τ.1 0 32 + 1 else τ.1 0 k)) := by
  have hzz := hz
  unfold zOK at hzz
  unfold f_X11_post
  simp only [letv_e]
  have e2 : (tpI τ 0 32 (τ.1 0 32 + 1)).1 0 29 = nI w := hn
  rw [e2, hw, if_pos rfl, setT_id]
  refine congrArg (fun q => some ((-1 : Int32), q)) ?_
  unfold tpI setT
  refine Prod.ext (funext fun f => funext fun q => ?_) rfl
  by_cases h0 : f = 0
  · subst h0
    simp
  · simp [h0]
/-- a message is posted on both sides: g31 is what the reference's told rows are behind it -/
theorem p_post (hz : zOK z) (h : Rel z bb w σ τ) {mi : Nat} (hmi : ∀ i, w ≤ i → i < z 4 → ¬ mi = σ.2.2 12 i) (to : Int32) (hW : mW z bb (fun c => if c = 1 then to else σ.1 13 mi 0 c) (σ.1 14 mi 0) (σ.1 15 mi 0)) (g31 : Nat → Int32) (hg : ∀ q, q < 8 * w → g31 q = τ.1 31 q)
    (h5 : w < z 4 → σ.1 13 mi 0 0 = 5 → ∀ s, s < z 0 → g31 (8 * w + s) = σ.1 14 mi 0 s ∧ g31 (8 * w + 4 + s) = σ.1 15 mi 0 s) :
    ∃ σ' τ', f_X5_post z σ mi to = some (if w < z 4 then 1 else 0, σ') ∧ f_X11_post z τ (σ.1 13 mi 0 0) to (σ.1 13 mi 0 2) (σ.1 13 mi 0 3) (σ.1 13 mi 0 4) (σ.1 13 mi 0 5) (σ.1 13 mi 0 6) = some (if w < z 4 then nI w else -1, τ') ∧
      Rel z bb (if w < z 4 then w + 1 else w) σ' (setT τ' 31 g31) ∧ Kx z σ σ' ∧ Km τ τ' := by
  have hzz := hz
  unfold zOK at hzz
  obtain ⟨h1, h2, h3, h4, h5', h6, h7, h8, h9, h10, h11, h12, h13, h14, h15, h16, h17⟩ := h
  obtain ⟨w1, w2, w3⟩ := h1
  obtain ⟨c1, c2, c3, c4⟩ := h2
  by_cases hw : w < z 4
  · obtain ⟨q1, q2, q3⟩ := h16
    obtain ⟨p1, p2, p3⟩ := q1 w hw
    have hne := hmi w (Nat.le_refl _) hw
    rw [if_pos hw, if_pos hw, if_pos hw]
    refine ⟨_, _, post_X1 hz hw w2 p1 hne to, post_M1 hz hw w3 _ _ _ _ _ _ _, ?_, ?_, ?_⟩
    · refine ⟨⟨by omega, rfl, rfl⟩, ⟨?_, c2, c3, c4⟩, h3, h4, h5', h6, h7, h8, h9, h10, h11, h12, h13, h14, h15, ⟨q1, q2, q3⟩, fun i hi => ?_⟩
      · show τ.1 0 32 + 1 = σ.1 11 0 0 5 + 1
        rw [c1]
      · show (∀ c, c < 7 → (if 7 * w ≤ 7 * i + c ∧ 7 * i + c < 7 * w + 7 then row7 (σ.1 13 mi 0 0) to (σ.1 13 mi 0 2) (σ.1 13 mi 0 3) (σ.1 13 mi 0 4) (σ.1 13 mi 0 5) (σ.1 13 mi 0 6) (7 * i + c - 7 * w) else τ.1 30 (7 * i + c)) = (if σ.2.2 12 i = σ.2.2 12 w ∧ 0 = 0 ∧ c < 7 then (if c = 1 then to else σ.1 13 mi 0 c) else σ.1 13 (σ.2.2 12 i) 0 c)) ∧
          ((if σ.2.2 12 i = σ.2.2 12 w ∧ 0 = 0 ∧ 0 < 7 then (if 0 = 1 then to else σ.1 13 mi 0 0) else σ.1 13 (σ.2.2 12 i) 0 0) = 5 → ∀ s, s < z 0 → g31 (8 * i + s) = (if σ.2.2 12 i = σ.2.2 12 w ∧ 0 = 0 ∧ s < z 0 then σ.1 14 mi 0 s else σ.1 14 (σ.2.2 12 i) 0 s) ∧ g31 (8 * i + 4 + s) = (if σ.2.2 12 i = σ.2.2 12 w ∧ 0 = 0 ∧ s < z 0 then σ.1 15 mi 0 s else σ.1 15 (σ.2.2 12 i) 0 s)) ∧
          mW z bb (fun c => if σ.2.2 12 i = σ.2.2 12 w ∧ 0 = 0 ∧ c < 7 then (if c = 1 then to else σ.1 13 mi 0 c) else σ.1 13 (σ.2.2 12 i) 0 c) (fun c => if σ.2.2 12 i = σ.2.2 12 w ∧ 0 = 0 ∧ c < z 0 then σ.1 14 mi 0 c else σ.1 14 (σ.2.2 12 i) 0 c) (fun c => if σ.2.2 12 i = σ.2.2 12 w ∧ 0 = 0 ∧ c < z 0 then σ.1 15 mi 0 c else σ.1 15 (σ.2.2 12 i) 0 c)
        by_cases e : i = w
        · subst e
          refine ⟨fun c hc => ?_, fun k5 s hs => ?_, ?_⟩
          · have p0 : 7 * i ≤ 7 * i + c ∧ 7 * i + c < 7 * i + 7 := ⟨by omega, by omega⟩
            rw [if_pos p0]
            simp only [true_and, hc, if_true]
            rw [show 7 * i + c - 7 * i = c by omega]
            rcases (show c = 0 ∨ c = 1 ∨ c = 2 ∨ c = 3 ∨ c = 4 ∨ c = 5 ∨ c = 6 by omega) with rfl | rfl | rfl | rfl | rfl | rfl | rfl <;> rfl
          · simp only [true_and, hs, if_true] at k5 ⊢
            exact h5 hw k5 s hs
          · obtain ⟨m1, m2, m3⟩ := hW
            simp only [true_and]
            refine ⟨m1, m2, ?_⟩
            rcases m3 with m | m | m | m | m | m
            · exact Or.inl m
            · exact Or.inr (Or.inl m)
            · exact Or.inr (Or.inr (Or.inl m))
            · exact Or.inr (Or.inr (Or.inr (Or.inl m)))
            · refine Or.inr (Or.inr (Or.inr (Or.inr (Or.inl ⟨m.1, m.2.1, m.2.2.1, fun s hs => ?_⟩))))
              show vb bb (if s < z 0 then _ else _) (if s < z 0 then _ else _)
              rw [if_pos hs, if_pos hs]
              exact m.2.2.2 s hs
            · exact Or.inr (Or.inr (Or.inr (Or.inr (Or.inr m))))
        · have hne2 : ¬ σ.2.2 12 i = σ.2.2 12 w := fun q => e (q3 i w (by omega) hw q)
          obtain ⟨m1, m2, m3⟩ := h17 i (by omega)
          simp only [hne2, false_and, if_false]
          refine ⟨fun c hc => ?_, fun k5 s hs => ?_, m3⟩
          · rw [if_neg (by omega)]
            exact m1 c hc
          · have h4' : z 0 ≤ 4 := by omega
            rw [hg _ (by omega), hg _ (by omega)]
            exact m2 k5 s hs
    · refine ⟨rfl, fun f f1 f2 f3 f4 => ?_, fun m j c hm => ?_⟩
      · show (if f = 11 then _ else if f = 13 then _ else if f = 14 then _ else if f = 15 then _ else σ.1 f) = σ.1 f
        rw [if_neg f1, if_neg f2, if_neg f3, if_neg f4]
      · have := hm w hw
        show (if m = σ.2.2 12 w ∧ j = 0 ∧ c < 7 then _ else σ.1 13 m j c) = σ.1 13 m j c ∧ (if m = σ.2.2 12 w ∧ j = 0 ∧ c < z 0 then _ else σ.1 14 m j c) = σ.1 14 m j c ∧ (if m = σ.2.2 12 w ∧ j = 0 ∧ c < z 0 then _ else σ.1 15 m j c) = σ.1 15 m j c
        rw [if_neg (fun q => this q.1), if_neg (fun q => this q.1), if_neg (fun q => this q.1)]
        exact ⟨rfl, rfl, rfl⟩
    · refine ⟨rfl, fun f f1 f2 => ?_⟩
      show (if f = 0 then _ else if f = 30 then _ else τ.1 f) = τ.1 f
      rw [if_neg f1, if_neg f2]
  · rw [if_neg hw, if_neg hw, if_neg hw]
    refine ⟨_, _, post_X0 hz (by omega) w2 to, post_M0 hz (by omega) w3 _ _ _ _ _ _ _, ?_, ?_, ?_⟩
    · refine ⟨⟨w1, w2, w3⟩, ⟨?_, ?_, c3, c4⟩, h3, h4, h5', h6, h7, h8, h9, h10, h11, h12, h13, h14, h15, h16, fun i hi => ?_⟩
      · show τ.1 0 32 + 1 = σ.1 11 0 0 5 + 1
        rw [c1]
      · show τ.1 0 33 + 1 = σ.1 11 0 0 6 + 1
        rw [c2]
      · obtain ⟨m1, m2, m3⟩ := h17 i hi
        refine ⟨m1, fun k5 s hs => ?_, m3⟩
        show g31 _ = _ ∧ g31 _ = _
        rw [hg _ (by omega), hg _ (by omega)]
        exact m2 k5 s hs
    · refine ⟨rfl, fun f f1 f2 f3 f4 => ?_, fun m j c hm => ⟨rfl, rfl, rfl⟩⟩
      show (if f = 11 then _ else if f = 13 then _ else if f = 14 then _ else if f = 15 then _ else σ.1 f) = σ.1 f
      rw [if_neg f1, if_neg f2, if_neg f3, if_neg f4]
    · refine ⟨rfl, fun f f1 f2 => ?_⟩
      show (if f = 0 then _ else if f = 30 then _ else τ.1 f) = τ.1 f
      rw [if_neg f1, if_neg f2]
end POST
