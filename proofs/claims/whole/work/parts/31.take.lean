/-! a message is taken out -/
def setR (σ : Sg) (r : Nat → Nat) : Sg := (σ.1, σ.2.1, fun f q => if f = 12 then r q else σ.2.2 f q)
def tkX (σ : Sg) (i w : Nat) : Sg := (fun f a b c => if f = 11 ∧ a = 0 ∧ b = 0 ∧ c = 4 then nI (w - 1) else σ.1 f a b c, σ.2.1, fun f q => if f = 12 then (if q = w - 1 then σ.2.2 11 3 else if i ≤ q ∧ q < w - 1 then σ.2.2 12 (q + 1) else σ.2.2 12 q) else if f = 11 ∧ q = 3 then σ.2.2 12 i else σ.2.2 f q)
def tkM (τ : Tg) (i w : Nat) : Tg := (fun f q => if f = 36 then (if q < 7 then τ.1 30 (7 * i + q) else τ.1 36 q) else if f = 37 then (if q < 8 then τ.1 31 (8 * i + q) else τ.1 37 q) else if f = 30 then (if 7 * i ≤ q ∧ q + 7 < 7 * w then τ.1 30 (q + 7) else τ.1 30 q) else if f = 31 then (if 8 * i ≤ q ∧ q + 8 < 8 * w then τ.1 31 (q + 8) else τ.1 31 q) else if f = 0 ∧ q = 29 then nI (w - 1) else τ.1 f q, τ.2)
/-- the message in hand, on both sides -/
def Hd (z : Nat → Nat) (bb mi : Nat) (σ : Sg) (τ : Tg) : Prop := (∀ c, c < 7 → τ.1 36 c = σ.1 13 mi 0 c) ∧ (σ.1 13 mi 0 0 = 5 → ∀ s, s < z 0 → τ.1 37 s = σ.1 14 mi 0 s ∧ τ.1 37 (4 + s) = σ.1 15 mi 0 s) ∧ mW z bb (σ.1 13 mi 0) (σ.1 14 mi 0) (σ.1 15 mi 0)
section TAKE
variable {z : Nat → Nat} {bb w : Nat} {σ : Sg} {τ : Tg}
theorem take_L (hz : zOK z) (hw : w ≤ z 4) (hn : σ.1 11 0 0 4 = nI w) (m2 : Nat) : ∀ (n k : Nat) (r : Nat → Nat), (∀ q, q < z 4 → r q < z 4 + 2) → 1 ≤ k → k ≤ w → w < k + n →
    f_X5_take_L11 z m2 n (nI k) (setR σ r) = some (setR σ (fun q => if k - 1 ≤ q ∧ q < w - 1 then r (q + 1) else r q)) := by
  have hzz := hz
  unfold zOK at hzz
  intro n
  induction n with
  | zero => intro k r hr h0 h1 h2; omega
  | succ n ih =>
    intro k r hr h0 h1 h2
    rw [f_X5_take_L11, letv_e]
    have e : (setR σ r).1 11 0 0 4 = nI w := hn
    rw [e]
    by_cases hk : k < w
    · rw [if_neg (nI_ge hk (by omega)), gdx_n (show k < z 4 by omega) (by omega)]
      have e2 : (setR σ r).2.2 12 k = r k := rfl
      rw [e2, gdr_n (hr k (by omega)), sub1 h0, gdx_n (show k - 1 < z 4 by omega) (by omega), letv_e, letv_e, add1]
      have e3 : upR (setR σ r) 12 (k - 1) (r k) = setR σ (fun q => if q = k - 1 then r k else r q) := by
        unfold upR setR
        refine Prod.ext rfl (Prod.ext rfl (funext fun f => funext fun q => ?_))
        by_cases h : f = 12
        · subst h; simp
        · simp [h]
      rw [e3, ih (k + 1) _ (fun q hq => ?_) (by omega) (by omega) (by omega)]
      · refine congrArg (fun g => some (setR σ g)) ?_
        funext q
        show (if k ≤ q ∧ q < w - 1 then (if q + 1 = k - 1 then r k else r (q + 1)) else if q = k - 1 then r k else r q) = _
        by_cases c1 : q = k - 1
        · rw [if_neg (by omega), if_pos c1, if_pos (by omega), c1, show k - 1 + 1 = k by omega]
        · by_cases c2 : k ≤ q ∧ q < w - 1
          · rw [if_pos c2, if_neg (by omega), if_pos (by omega)]
          · rw [if_neg c2, if_neg c1, if_neg (by omega)]
      · show (if q = k - 1 then r k else r q) < z 4 + 2
        by_cases c : q = k - 1
        · rw [if_pos c]; exact hr k (by omega)
        · rw [if_neg c]; exact hr q hq
    · have : k = w := by omega
      subst this
      rw [if_pos (nI_le (Nat.le_refl _) (by omega))]
      refine congrArg (fun g => some (setR σ g)) ?_
      funext q
      rw [if_neg (by omega)]
theorem take_e (hz : zOK z) (h : Rel z bb w σ τ) {i : Nat} (hi : i < w) : f_X5_take z σ (nI i) = some (σ.2.2 12 i, tkX σ i w) := by
  have hzz := hz
  unfold zOK at hzz
  have hw := h.1.1
  have hn := h.1.2.1
  have hq := h.2.2.2.2.2.2.2.2.2.2.2.2.2.2.2.1
  unfold f_X5_take
  rw [gdx_n (show i < z 4 by omega) (by omega), gdr_n (hq.1 i (by omega)).1, letv_e, add1]
  have e0 : setR σ (σ.2.2 12) = σ := by
    unfold setR
    refine Prod.ext rfl (Prod.ext rfl (funext fun f => funext fun q => ?_))
    show (if f = 12 then σ.2.2 12 q else σ.2.2 f q) = σ.2.2 f q
    by_cases h : f = 12
    · rw [if_pos h, h]
    · rw [if_neg h]
  have e1 := take_L hz hw hn (σ.2.2 12 i) FU (i + 1) (σ.2.2 12) (fun q hq' => (hq.1 q hq').1) (by omega) (by omega) (by have := FU_big; omega)
  rw [e0] at e1
  rw [e1, bnd1_e, letv_e, letv_e, letv_e]
  have e2 : ∀ r, (setR σ r).1 11 0 0 4 = nI w := fun _ => hn
  rw [e2, sub1 (by omega)]
  have e3 : ∀ r v, (upI (setR σ r) 11 0 0 4 v).1 11 0 0 4 = v := fun r v => by simp [upI]
  rw [e3]
  have e4 : ∀ r v, (upI (setR σ r) 11 0 0 4 v).2.2 11 3 = σ.2.2 11 3 := fun r v => rfl
  rw [e4, gdr_n hq.2.1.1, gdx_n (show w - 1 < z 4 by omega) (by omega), letv_e, letv_e]
  refine congrArg (fun g => some (σ.2.2 12 i, g)) ?_
  unfold tkX upR upI setR
  refine Prod.ext rfl (Prod.ext rfl (funext fun f => funext fun q => ?_))
  show (if f = 11 ∧ q = 3 then σ.2.2 12 i else if f = 12 ∧ q = w - 1 then σ.2.2 11 3 else if f = 12 then (if i + 1 - 1 ≤ q ∧ q < w - 1 then σ.2.2 12 (q + 1) else σ.2.2 12 q) else σ.2.2 f q) = _
  by_cases h : f = 12
  · subst h
    simp
  · simp [h]
theorem tko1 {i : Nat} (hi : i < 200) (g : Nat → Int32) : ∀ (n k : Nat) (a : Nat → Int32), k ≤ 7 → 7 < k + n → f_X11_takeOut_L2 z (nI i) n (nI k) (setT τ 36 a) = some (setT τ 36 (fun q => if k ≤ q ∧ q < 7 then τ.1 30 (7 * i + q) else a q)) := by
  intro n
  induction n with
  | zero => intro k a h1 h2; omega
  | succ n ih =>
    intro k a h1 h2
    rw [f_X11_takeOut_L2]
    by_cases hk : k < 7
    · have hN : ¬ nI 7 ≤ nI k := nI_ge hk (by omega)
      rw [if_neg (show ¬ (7 : Int32) ≤ nI k from hN), mul7, nI_add, gdx_n (n := mlen 30) (show 7 * i + k < 1400 by omega) (by decide), letv_e, gdx_n (n := mlen 36) (show k < 7 from hk) (by decide), letv_e, letv_e, add1, tpI_setT, ih (k + 1) _ (by omega) (by omega)]
      refine congrArg (fun g => some (setT τ 36 g)) ?_
      funext q
      have e : (setT τ 36 a).1 30 (7 * i + k) = τ.1 30 (7 * i + k) := rfl
      rw [e]
      by_cases c1 : q = k
      · rw [if_neg (by omega), if_pos c1, if_pos (by omega), c1]
      · by_cases c2 : k + 1 ≤ q ∧ q < 7
        · rw [if_pos c2, if_pos (by omega)]
        · rw [if_neg c2, if_neg c1, if_neg (by omega)]
    · have : k = 7 := by omega
      subst this
      rw [if_pos (by decide)]
      refine congrArg (fun g => some (setT τ 36 g)) ?_
      funext q
      rw [if_neg (by omega)]
theorem tko2 {i : Nat} (hi : i < 200) (g : Nat → Int32) : ∀ (n k : Nat) (a : Nat → Int32), k ≤ 8 → 8 < k + n → f_X11_takeOut_L33 z (nI i) n (nI k) (setT τ 37 a) = some (setT τ 37 (fun q => if k ≤ q ∧ q < 8 then τ.1 31 (8 * i + q) else a q)) := by
  intro n
  induction n with
  | zero => intro k a h1 h2; omega
  | succ n ih =>
    intro k a h1 h2
    rw [f_X11_takeOut_L33]
    by_cases hk : k < 8
    · have hN : ¬ nI 8 ≤ nI k := nI_ge hk (by omega)
      rw [if_neg (show ¬ (8 : Int32) ≤ nI k from hN), mul8, nI_add, gdx_n (n := mlen 31) (show 8 * i + k < 1600 by omega) (by decide), letv_e, gdx_n (n := mlen 37) (show k < 8 from hk) (by decide), letv_e, letv_e, add1, tpI_setT, ih (k + 1) _ (by omega) (by omega)]
      refine congrArg (fun g => some (setT τ 37 g)) ?_
      funext q
      have e : (setT τ 37 a).1 31 (8 * i + k) = τ.1 31 (8 * i + k) := rfl
      rw [e]
      by_cases c1 : q = k
      · rw [if_neg (by omega), if_pos c1, if_pos (by omega), c1]
      · by_cases c2 : k + 1 ≤ q ∧ q < 8
        · rw [if_pos c2, if_pos (by omega)]
        · rw [if_neg c2, if_neg c1, if_neg (by omega)]
    · have : k = 8 := by omega
      subst this
      rw [if_pos (by decide)]
      refine congrArg (fun g => some (setT τ 37 g)) ?_
      funext q
      rw [if_neg (by omega)]
theorem tko3 (x : Int32) (hw : w ≤ 200) (hn : τ.1 0 29 = nI w) : ∀ (n k : Nat) (a : Nat → Int32), k ≤ 7 * w → 7 * w < k + n → f_X11_takeOut_L67 z x n (nI k) (setT τ 30 a) = some (setT τ 30 (fun q => if k ≤ q ∧ q + 7 < 7 * w then a (q + 7) else a q)) := by
  intro n
  induction n with
  | zero => intro k a h1 h2; omega
  | succ n ih =>
    intro k a h1 h2
    rw [f_X11_takeOut_L67, letv_e]
    have e : (setT τ 30 a).1 0 29 = nI w := hn
    rw [e, mul7, add7]
    by_cases hk : k + 7 < 7 * w
    · have e2 : (setT τ 30 a).1 30 = a := setT_at _ _ _
      rw [if_neg (nI_ge hk (by omega)), gdx_n (n := mlen 30) (show k + 7 < 1400 by omega) (by decide), letv_e, gdx_n (n := mlen 30) (show k < 1400 by omega) (by decide), letv_e, letv_e, add1, e2, tpI_setT, ih (k + 1) _ (by omega) (by omega)]
      refine congrArg (fun g => some (setT τ 30 g)) ?_
      funext q
      by_cases c1 : q = k
      · rw [if_neg (by omega), if_pos c1, if_pos (by omega), c1]
      · by_cases c2 : k + 1 ≤ q ∧ q + 7 < 7 * w
        · rw [if_pos c2, if_neg (by omega), if_pos (by omega)]
        · rw [if_neg c2, if_neg c1, if_neg (by omega)]
    · rw [if_pos (nI_le (by omega) (by omega))]
      refine congrArg (fun g => some (setT τ 30 g)) ?_
      funext q
      rw [if_neg (by omega)]
theorem tko4 (hw : w ≤ 200) (hn : τ.1 0 29 = nI w) : ∀ (n k : Nat) (a : Nat → Int32), k ≤ 8 * w → 8 * w < k + n → f_X11_takeOut_L107 z n (nI k) (setT τ 31 a) = some (setT τ 31 (fun q => if k ≤ q ∧ q + 8 < 8 * w then a (q + 8) else a q)) := by
  intro n
  induction n with
  | zero => intro k a h1 h2; omega
  | succ n ih =>
    intro k a h1 h2
    rw [f_X11_takeOut_L107, letv_e]
    have e : (setT τ 31 a).1 0 29 = nI w := hn
    rw [e, mul8, add8]
    by_cases hk : k + 8 < 8 * w
    · have e2 : (setT τ 31 a).1 31 = a := setT_at _ _ _
      rw [if_neg (nI_ge hk (by omega)), gdx_n (n := mlen 31) (show k + 8 < 1600 by omega) (by decide), letv_e, gdx_n (n := mlen 31) (show k < 1600 by omega) (by decide), letv_e, letv_e, add1, e2, tpI_setT, ih (k + 1) _ (by omega) (by omega)]
      refine congrArg (fun g => some (setT τ 31 g)) ?_
      funext q
      by_cases c1 : q = k
      · rw [if_neg (by omega), if_pos c1, if_pos (by omega), c1]
      · by_cases c2 : k + 1 ≤ q ∧ q + 8 < 8 * w
        · rw [if_pos c2, if_neg (by omega), if_pos (by omega)]
        · rw [if_neg c2, if_neg c1, if_neg (by omega)]
    · rw [if_pos (nI_le (by omega) (by omega))]
      refine congrArg (fun g => some (setT τ 31 g)) ?_
      funext q
      rw [if_neg (by omega)]
theorem takeOut_e (hw : w ≤ 200) (hn : τ.1 0 29 = nI w) {i : Nat} (hi : i < w) : f_X11_takeOut z τ (nI i) = some (tkM τ i w) := by
  have hF := FU_big
  unfold f_X11_takeOut
  have e1 := tko1 (z := z) (τ := τ) (show i < 200 by omega) (τ.1 30) FU 0 (τ.1 36) (by omega) (by omega)
  rw [setT_id] at e1
  rw [show f_X11_takeOut_L2 z (nI i) FU 0 τ = _ from e1, bnd1_e]
  generalize hA : setT τ 36 (fun q => if 0 ≤ q ∧ q < 7 then τ.1 30 (7 * i + q) else τ.1 36 q) = A
  have e2 := tko2 (z := z) (τ := A) (show i < 200 by omega) (τ.1 30) FU 0 (A.1 37) (by omega) (by omega)
  rw [setT_id] at e2
  rw [show f_X11_takeOut_L33 z (nI i) FU 0 A = _ from e2, bnd1_e]
  generalize hB : setT A 37 (fun q => if 0 ≤ q ∧ q < 8 then A.1 31 (8 * i + q) else A.1 37 q) = B
  have hB29 : B.1 0 29 = nI w := by rw [← hB, ← hA]; exact hn
  have e3 := tko3 (z := z) (τ := B) (w := w) (nI i) hw hB29 FU (7 * i) (B.1 30) (by omega) (by omega)
  rw [setT_id] at e3
  rw [letv_e, mul7, e3, bnd1_e]
  generalize hC : setT B 30 (fun q => if 7 * i ≤ q ∧ q + 7 < 7 * w then B.1 30 (q + 7) else B.1 30 q) = C
  have hC29 : C.1 0 29 = nI w := by rw [← hC]; exact hB29
  have e4 := tko4 (z := z) (τ := C) (w := w) hw hC29 FU (8 * i) (C.1 31) (by omega) (by omega)
  rw [setT_id] at e4
  rw [letv_e, mul8, e4, bnd1_e, letv_e, letv_e]
  have hD : (setT C 31 (fun q => if 8 * i ≤ q ∧ q + 8 < 8 * w then C.1 31 (q + 8) else C.1 31 q)).1 0 29 = nI w := hC29
  rw [hD, sub1 (by omega)]
  refine congrArg some ?_
  rw [← hC, ← hB, ← hA]
  unfold tkM tpI setT
  refine Prod.ext (funext fun f => funext fun q => ?_) rfl
  by_cases h36 : f = 36
  · subst h36; simp
  by_cases h37 : f = 37
  · subst h37; simp
  by_cases h30 : f = 30
  · subst h30; simp
  by_cases h31 : f = 31
  · subst h31; simp
  simp [h36, h37, h30, h31]
theorem Rel.take (hz : zOK z) (h : Rel z bb w σ τ) {i : Nat} (hi : i < w) : Rel z bb (w - 1) (tkX σ i w) (tkM τ i w) ∧ Hd z bb (σ.2.2 12 i) (tkX σ i w) (tkM τ i w) ∧ (tkX σ i w).2.2 11 3 = σ.2.2 12 i := by
  have hzz := hz
  unfold zOK at hzz
  obtain ⟨a1, a2, a3, a4, a5, a6, a7, a8, a9, a10, a11, a12, a13, a14, a15, a16, a17⟩ := h
  obtain ⟨w1, w2, w3⟩ := a1
  obtain ⟨q1, q2, q3⟩ := a16
  have hr : ∀ q, (tkX σ i w).2.2 12 q = if q = w - 1 then σ.2.2 11 3 else if i ≤ q ∧ q < w - 1 then σ.2.2 12 (q + 1) else σ.2.2 12 q := fun q => rfl
  have hnr : ∀ k, k < z 4 → ¬ σ.2.2 11 3 = σ.2.2 12 k := fun k hk q => (q1 k hk).2.2 q.symm
  have e30 : (tkM τ i w).1 30 = fun q => if 7 * i ≤ q ∧ q + 7 < 7 * w then τ.1 30 (q + 7) else τ.1 30 q := rfl
  have e31 : (tkM τ i w).1 31 = fun q => if 8 * i ≤ q ∧ q + 8 < 8 * w then τ.1 31 (q + 8) else τ.1 31 q := rfl
  have s13 : (tkX σ i w).1 13 = σ.1 13 := rfl
  have s14 : (tkX σ i w).1 14 = σ.1 14 := rfl
  have s15 : (tkX σ i w).1 15 = σ.1 15 := rfl
  have h3 : (tkX σ i w).2.2 11 3 = σ.2.2 12 i := rfl
  refine ⟨⟨⟨by omega, rfl, rfl⟩, a2, a3, a4, a5, a6, a7, a8, a9, a10, a11, a12, a13, a14, a15, ⟨fun k hk => ?_, ?_, fun k j hk hj e => ?_⟩, fun j hj => ?_⟩, ⟨fun c hc => ?_, fun k5 s hs => ?_, (a17 i hi).2.2⟩, h3⟩
  · rw [hr, h3]
    by_cases c1 : k = w - 1
    · rw [if_pos c1]
      exact ⟨q2.1, q2.2, hnr i (by omega)⟩
    · rw [if_neg c1]
      by_cases c2 : i ≤ k ∧ k < w - 1
      · rw [if_pos c2]
        obtain ⟨p1, p2, p3⟩ := q1 (k + 1) (by omega)
        exact ⟨p1, p2, fun q => by have := q3 (k + 1) i (by omega) (by omega) q; omega⟩
      · rw [if_neg c2]
        obtain ⟨p1, p2, p3⟩ := q1 k hk
        exact ⟨p1, p2, fun q => by have := q3 k i (by omega) (by omega) q; omega⟩
  · rw [h3]
    exact ⟨(q1 i (by omega)).1, (q1 i (by omega)).2.1⟩
  · rw [hr, hr] at e
    by_cases c1 : k = w - 1
    · rw [if_pos c1] at e
      by_cases d1 : j = w - 1
      · omega
      · rw [if_neg d1] at e
        by_cases d2 : i ≤ j ∧ j < w - 1
        · rw [if_pos d2] at e; exact absurd e (hnr _ (by omega))
        · rw [if_neg d2] at e; exact absurd e (hnr _ hj)
    · rw [if_neg c1] at e
      by_cases d1 : j = w - 1
      · rw [if_pos d1] at e
        by_cases c2 : i ≤ k ∧ k < w - 1
        · rw [if_pos c2] at e; exact absurd e.symm (hnr _ (by omega))
        · rw [if_neg c2] at e; exact absurd e.symm (hnr _ hk)
      · rw [if_neg d1] at e
        by_cases c2 : i ≤ k ∧ k < w - 1
        · rw [if_pos c2] at e
          by_cases d2 : i ≤ j ∧ j < w - 1
          · rw [if_pos d2] at e
            have := q3 (k + 1) (j + 1) (by omega) (by omega) e
            omega
          · rw [if_neg d2] at e
            have := q3 (k + 1) j (by omega) (by omega) e
            omega
        · rw [if_neg c2] at e
          by_cases d2 : i ≤ j ∧ j < w - 1
          · rw [if_pos d2] at e
            have := q3 k (j + 1) (by omega) (by omega) e
            omega
          · rw [if_neg d2] at e
            exact q3 k j hk hj e
  · rw [hr, e30, e31, s13, s14, s15, if_neg (by omega)]
    have hz4 : z 0 ≤ 4 := by omega
    by_cases c : i ≤ j
    · rw [if_pos (by omega)]
      obtain ⟨m1, m2, m3⟩ := a17 (j + 1) (by omega)
      refine ⟨fun c hc => ?_, fun k5 s hs => ?_, m3⟩
      · show (if 7 * i ≤ 7 * j + c ∧ 7 * j + c + 7 < 7 * w then τ.1 30 (7 * j + c + 7) else τ.1 30 (7 * j + c)) = _
        rw [if_pos (by omega), ← m1 c hc]
        exact congrArg (τ.1 30) (by omega)
      · show (if 8 * i ≤ 8 * j + s ∧ 8 * j + s + 8 < 8 * w then τ.1 31 (8 * j + s + 8) else τ.1 31 (8 * j + s)) = _ ∧ (if 8 * i ≤ 8 * j + 4 + s ∧ 8 * j + 4 + s + 8 < 8 * w then τ.1 31 (8 * j + 4 + s + 8) else τ.1 31 (8 * j + 4 + s)) = _
        obtain ⟨n1, n2⟩ := m2 k5 s hs
        rw [if_pos (by omega), if_pos (by omega), ← n1, ← n2]
        exact ⟨congrArg (τ.1 31) (by omega), congrArg (τ.1 31) (by omega)⟩
    · rw [if_neg (by omega)]
      obtain ⟨m1, m2, m3⟩ := a17 j (by omega)
      refine ⟨fun c hc => ?_, fun k5 s hs => ?_, m3⟩
      · show (if 7 * i ≤ 7 * j + c ∧ 7 * j + c + 7 < 7 * w then τ.1 30 (7 * j + c + 7) else τ.1 30 (7 * j + c)) = _
        rw [if_neg (by omega)]
        exact m1 c hc
      · show (if 8 * i ≤ 8 * j + s ∧ 8 * j + s + 8 < 8 * w then τ.1 31 (8 * j + s + 8) else τ.1 31 (8 * j + s)) = _ ∧ (if 8 * i ≤ 8 * j + 4 + s ∧ 8 * j + 4 + s + 8 < 8 * w then τ.1 31 (8 * j + 4 + s + 8) else τ.1 31 (8 * j + 4 + s)) = _
        rw [if_neg (by omega), if_neg (by omega)]
        exact m2 k5 s hs
  · show (if c < 7 then τ.1 30 (7 * i + c) else τ.1 36 c) = σ.1 13 (σ.2.2 12 i) 0 c
    rw [if_pos hc]
    exact (a17 i hi).1 c hc
  · show (if s < 8 then τ.1 31 (8 * i + s) else τ.1 37 s) = σ.1 14 (σ.2.2 12 i) 0 s ∧ (if 4 + s < 8 then τ.1 31 (8 * i + (4 + s)) else τ.1 37 (4 + s)) = σ.1 15 (σ.2.2 12 i) 0 s
    rw [if_pos (by omega), if_pos (by omega), ← Nat.add_assoc]
    exact (a17 i hi).2.1 k5 s hs
theorem p_drop (hz : zOK z) (h : Rel z bb w σ τ) (x : Int32) : ∃ r w' σ' τ', f_X10_drop z σ x = some (r, σ') ∧ f_X11_drop z τ x = some (r, τ') ∧ Rel z bb w' σ' τ' := by
  have hzz := hz
  unfold zOK at hzz
  unfold f_X10_drop f_X11_drop
  rcases has_M hz h x with ⟨e1, e2⟩ | ⟨i, hi, rfl, e1, e2⟩
  · simp only [e1, e2, bnd1_e, if_true]
    exact ⟨_, _, _, _, rfl, rfl, h⟩
  · obtain ⟨g1, g2, g3⟩ := h.take hz hi
    have hw := h.1.1
    have hq := h.2.2.2.2.2.2.2.2.2.2.2.2.2.2.2.1.1 i (by omega)
    rw [e1, e2, bnd1_e, bnd1_e, if_neg (by decide), if_neg (by decide), take_e hz h hi, takeOut_e (by omega) h.1.2.2 hi, bnd2_e, bnd1_e, gdr_n hq.1, letv_e, gdx_0 (by decide) (by decide), letv_e, g2.1 0 (by omega)]
    exact ⟨_, _, _, _, rfl, rfl, g1⟩
theorem twice_L {i : Nat} (hi : i < 200) (hw : w < 200) : ∀ (n k : Nat) (a : Nat → Int32), k ≤ 8 → 8 < k + n → (∀ q, 8 * i ≤ q → q < 8 * i + 8 → a q = τ.1 31 q) → ¬ i = w → f_X11_twice_L78 z (nI i) (nI w) n (nI k) (setT τ 31 a) = some (setT τ 31 (fun q => if 8 * w + k ≤ q ∧ q < 8 * w + 8 then τ.1 31 (8 * i + (q - 8 * w)) else a q)) := by
  intro n
  induction n with
  | zero => intro k a h1 h2; omega
  | succ n ih =>
    intro k a h1 h2 ha hne
    rw [f_X11_twice_L78]
    by_cases hk : k < 8
    · have hN : ¬ nI 8 ≤ nI k := nI_ge hk (by omega)
      rw [if_neg (show ¬ (8 : Int32) ≤ nI k from hN), if_neg (nI_pos (by omega)), mul8, nI_add, gdx_n (n := mlen 31) (show 8 * i + k < 1600 by omega) (by decide), letv_e, mul8, nI_add, gdx_n (n := mlen 31) (show 8 * w + k < 1600 by omega) (by decide), letv_e, letv_e, add1, tpI_setT,
        ih (k + 1) _ (by omega) (by omega) (fun q h3 h4 => by rw [if_neg (by omega)]; exact ha q h3 h4) hne]
      refine congrArg (fun g => some (setT τ 31 g)) ?_
      funext q
      have e : (setT τ 31 a).1 31 (8 * i + k) = τ.1 31 (8 * i + k) := by rw [setT_at]; exact ha _ (by omega) (by omega)
      rw [e]
      by_cases c1 : q = 8 * w + k
      · rw [if_neg (by omega), if_pos c1, if_pos (by omega), c1, show 8 * w + k - 8 * w = k by omega]
      · by_cases c2 : 8 * w + (k + 1) ≤ q ∧ q < 8 * w + 8
        · rw [if_pos c2, if_pos (by omega)]
        · rw [if_neg c2, if_neg c1, if_neg (by omega)]
    · have : k = 8 := by omega
      subst this
      rw [if_pos (by decide)]
      refine congrArg (fun g => some (setT τ 31 g)) ?_
      funext q
      rw [if_neg (by omega)]
theorem p_twice (hz : zOK z) (h : Rel z bb w σ τ) (x : Int32) : ∃ r w' σ' τ', f_X10_twice z σ x = some (r, σ') ∧ f_X11_twice z τ x = some (r, τ') ∧ Rel z bb w' σ' τ' := by
  have hzz := hz
  unfold zOK at hzz
  unfold f_X10_twice f_X11_twice
  rcases has_M hz h x with ⟨e1, e2⟩ | ⟨i, hi, rfl, e1, e2⟩
  · simp only [e1, e2, bnd1_e, if_true]
    exact ⟨_, _, _, _, rfl, rfl, h⟩
  · have hw := h.1.1
    have hn := h.1.2.2
    have hq := h.2.2.2.2.2.2.2.2.2.2.2.2.2.2.2.1
    obtain ⟨m1, m2, m3⟩ := h.2.2.2.2.2.2.2.2.2.2.2.2.2.2.2.2 i hi
    have hF := FU_big
    generalize hmi : σ.2.2 12 i = mi at m1 m2 m3
    have hW : mW z bb (fun c => if c = 1 then σ.1 13 mi 0 1 else σ.1 13 mi 0 c) (σ.1 14 mi 0) (σ.1 15 mi 0) := m3.congr (fun c _ => by
      by_cases e : c = 1
      · rw [if_pos e, e]
      · rw [if_neg e])
    obtain ⟨σ', τ', p1, p2, p3, p4, p5⟩ := p_post hz h (mi := mi) (fun j hj hj2 q => by rw [← hmi] at q; have := hq.2.2 i j (by omega) hj2 q; omega) (σ.1 13 mi 0 1) hW (fun q => if w < z 4 ∧ 8 * w ≤ q ∧ q < 8 * w + 8 then τ.1 31 (8 * i + (q - 8 * w)) else τ.1 31 q) (fun q hq => if_neg (by omega))
      (fun hlt k5 s hs => by
        have hz4 : z 0 ≤ 4 := by omega
        obtain ⟨n1, n2⟩ := m2 k5 s hs
        show (if w < z 4 ∧ 8 * w ≤ 8 * w + s ∧ 8 * w + s < 8 * w + 8 then _ else _) = _ ∧ (if w < z 4 ∧ 8 * w ≤ 8 * w + 4 + s ∧ 8 * w + 4 + s < 8 * w + 8 then _ else _) = _
        rw [if_pos (by omega), if_pos (by omega), ← n1, ← n2]
        exact ⟨congrArg (τ.1 31) (by omega), congrArg (τ.1 31) (by omega)⟩)
    rw [e1, e2, bnd1_e, bnd1_e, if_neg (by decide), if_neg (by decide), gdx_n (show i < z 4 by omega) (by omega), hmi, gdr_n (by rw [← hmi]; exact (hq.1 i (by omega)).1), letv_e, p1, bnd2_e, letv_e, mul7, letv_e]
    rw [gdx_n (n := mlen 30) (show 7 * i < 1400 by omega) (by decide), letv_e, add1, gdx_n (n := mlen 30) (show 7 * i + 1 < 1400 by omega) (by decide), letv_e, add2, gdx_n (n := mlen 30) (show 7 * i + 2 < 1400 by omega) (by decide), letv_e, add3, gdx_n (n := mlen 30) (show 7 * i + 3 < 1400 by omega) (by decide), letv_e, add4, gdx_n (n := mlen 30) (show 7 * i + 4 < 1400 by omega) (by decide), letv_e, add5, gdx_n (n := mlen 30) (show 7 * i + 5 < 1400 by omega) (by decide), letv_e, add6, gdx_n (n := mlen 30) (show 7 * i + 6 < 1400 by omega) (by decide)]
    simp only [letv_e]
    rw [show τ.1 30 (7 * i) = σ.1 13 mi 0 0 from m1 0 (by omega), m1 1 (by omega), m1 2 (by omega), m1 3 (by omega), m1 4 (by omega), m1 5 (by omega), m1 6 (by omega), p2, bnd2_e]
    have t31 : τ'.1 31 = τ.1 31 := p5.2 31 (by omega) (by omega)
    by_cases hlt : w < z 4
    · rw [if_pos hlt] at p3
      rw [if_pos hlt, if_pos hlt, if_neg (by decide)]
      have l := twice_L (z := z) (τ := τ') (show i < 200 by omega) (show w < 200 by omega) FU 0 (τ'.1 31) (by omega) (by omega) (fun _ _ _ => rfl) (by omega)
      rw [setT_id] at l
      rw [show f_X11_twice_L78 z (nI i) (nI w) FU 0 τ' = _ from l, bnd1_e, if_pos (show (0 : Int32) ≤ nI w from nI_le (a := 0) (Nat.zero_le _) (by omega))]
      have eg : (fun q => if 8 * w + 0 ≤ q ∧ q < 8 * w + 8 then τ'.1 31 (8 * i + (q - 8 * w)) else τ'.1 31 q) = (fun q => if w < z 4 ∧ 8 * w ≤ q ∧ q < 8 * w + 8 then τ.1 31 (8 * i + (q - 8 * w)) else τ.1 31 q) := by
        funext q
        rw [t31]
        by_cases c : 8 * w ≤ q ∧ q < 8 * w + 8
        · rw [if_pos (by omega), if_pos ⟨hlt, c⟩]
        · rw [if_neg (by omega), if_neg (fun r => c r.2)]
      rw [eg]
      refine ⟨_, _, _, _, rfl, ?_, p3⟩
      show some ((setT τ' 31 _).1 0 29, _) = _
      rw [show ∀ g, (setT τ' 31 g).1 0 29 = τ'.1 0 29 from fun _ => rfl]
      have u1 : σ'.1 11 0 0 4 = nI (w + 1) := p3.1.2.1
      have u2 : τ'.1 0 29 = nI (w + 1) := p3.1.2.2
      rw [u1, u2]
    · rw [if_neg hlt] at p3
      rw [if_neg hlt, if_neg hlt, if_pos rfl]
      have hlp : f_X11_twice_L78 z (nI i) (-1) FU 0 τ' = some τ' := by
        rw [show FU = (FU - 1) + 1 by omega, f_X11_twice_L78, if_neg (by decide), if_pos (by decide)]
      rw [hlp, bnd1_e, if_neg (by decide)]
      have eg : (fun q => if w < z 4 ∧ 8 * w ≤ q ∧ q < 8 * w + 8 then τ.1 31 (8 * i + (q - 8 * w)) else τ.1 31 q) = τ'.1 31 := by
        funext q
        rw [if_neg (fun r => hlt r.1), t31]
      rw [eg, setT_id] at p3
      exact ⟨_, _, _, _, rfl, rfl, p3⟩
end TAKE
