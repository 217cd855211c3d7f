/-! an acceptor is asked for a promise -/
section ASKS
variable {z : Nat → Nat} {bb w : Nat} {σ : Sg} {τ : Tg}
def setQ (σ : Sg) (h14 h15 : Nat → Nat → Nat → Int32) : Sg := (fun f => if f = 14 then h14 else if f = 15 then h15 else σ.1 f, σ.2)
theorem setQ_id (σ : Sg) : setQ σ (σ.1 14) (σ.1 15) = σ := by
  unfold setQ
  refine Prod.ext (funext fun f => ?_) rfl
  show (if f = 14 then σ.1 14 else if f = 15 then σ.1 15 else σ.1 f) = σ.1 f
  split
  next h => rw [h]
  split
  next h => rw [h]
  rfl
theorem setQ_14 (σ : Sg) (h14 h15 : Nat → Nat → Nat → Int32) (i j k : Nat) (v : Int32) : upI (setQ σ h14 h15) 14 i j k v = setQ σ (fun i' j' k' => if i' = i ∧ j' = j ∧ k' = k then v else h14 i' j' k') h15 := by
  unfold upI setQ
  refine Prod.ext (funext fun f => funext fun i' => funext fun j' => funext fun k' => ?_) rfl
  by_cases h : f = 14
  · subst h; simp
  · simp [h]
theorem setQ_15 (σ : Sg) (h14 h15 : Nat → Nat → Nat → Int32) (i j k : Nat) (v : Int32) : upI (setQ σ h14 h15) 15 i j k v = setQ σ h14 (fun i' j' k' => if i' = i ∧ j' = j ∧ k' = k then v else h15 i' j' k') := by
  unfold upI setQ
  refine Prod.ext (funext fun f => funext fun i' => funext fun j' => funext fun k' => ?_) rfl
  by_cases h : f = 15
  · subst h; simp
  · simp [h]
theorem tell_L (hz : zOK z) (i a t : Nat) : ∀ (n k : Nat) (h14 h15 : Nat → Nat → Nat → Int32), k ≤ z 0 → z 0 < k + n →
    f_X3_tell_L2 z i a t n (nI k) (setQ σ h14 h15) = some (setQ σ (fun m j c => if m = i ∧ j = 0 ∧ k ≤ c ∧ c < z 0 then σ.1 28 a t c else h14 m j c) (fun m j c => if m = i ∧ j = 0 ∧ k ≤ c ∧ c < z 0 then σ.1 29 a t c else h15 m j c)) := by
  have hzz := hz
  unfold zOK at hzz
  intro n
  induction n with
  | zero => intro k h14 h15 h1 h2; omega
  | succ n ih =>
    intro k h14 h15 h1 h2
    rw [f_X3_tell_L2]
    by_cases hk : k < z 0
    · have e1 : ∀ g g', (setQ σ g g').1 28 a t k = σ.1 28 a t k := fun _ _ => rfl
      have e2 : ∀ g g', (setQ σ g g').1 29 a t k = σ.1 29 a t k := fun _ _ => rfl
      rw [if_neg (nI_ge hk (by omega)), gdx_n hk (by omega), letv_e, gdx_n hk (by omega), letv_e, gdx_n hk (by omega), letv_e, gdx_n hk (by omega), letv_e, letv_e, add1, e1, setQ_14, e2, setQ_15, ih (k + 1) _ _ (by omega) (by omega)]
      have f1 : ∀ (g : Nat → Nat → Nat → Int32) (s : Nat → Int32), (fun m j c => if m = i ∧ j = 0 ∧ k + 1 ≤ c ∧ c < z 0 then s c else if m = i ∧ j = 0 ∧ c = k then s k else g m j c) = (fun m j c => if m = i ∧ j = 0 ∧ k ≤ c ∧ c < z 0 then s c else g m j c) := by
        intro g s
        funext m j c
        by_cases e : m = i ∧ j = 0 ∧ k ≤ c ∧ c < z 0
        · rw [if_pos e]
          by_cases q : c = k
          · rw [if_neg (fun r => by omega), if_pos ⟨e.1, e.2.1, q⟩, q]
          · rw [if_pos ⟨e.1, e.2.1, by omega, e.2.2.2⟩]
        · rw [if_neg e, if_neg (fun r => e ⟨r.1, r.2.1, by omega, r.2.2.2⟩), if_neg (fun r => e ⟨r.1, r.2.1, by omega, by omega⟩)]
      rw [f1 h14 (fun c => σ.1 28 a t c), f1 h15 (fun c => σ.1 29 a t c)]
    · have : k = z 0 := by omega
      subst this
      rw [if_pos (nI_le (Nat.le_refl _) (by omega))]
      have f1 : ∀ (g : Nat → Nat → Nat → Int32) (s : Nat → Int32), (fun m j c => if m = i ∧ j = 0 ∧ z 0 ≤ c ∧ c < z 0 then s c else g m j c) = g := fun g s => funext fun m => funext fun j => funext fun c => if_neg (fun r => by omega)
      rw [f1 h14 (fun c => σ.1 28 a t c), f1 h15 (fun c => σ.1 29 a t c)]
theorem tell_e (hz : zOK z) (i a t : Nat) : f_X3_tell z σ i a t = some (setQ σ (fun m j c => if m = i ∧ j = 0 ∧ 0 ≤ c ∧ c < z 0 then σ.1 28 a t c else σ.1 14 m j c) (fun m j c => if m = i ∧ j = 0 ∧ 0 ≤ c ∧ c < z 0 then σ.1 29 a t c else σ.1 15 m j c)) := by
  have hzz := hz
  unfold zOK at hzz
  unfold f_X3_tell
  have h := tell_L (σ := σ) hz i a t FU 0 (σ.1 14) (σ.1 15) (Nat.zero_le _) (by have := FU_big; omega)
  rw [setQ_id] at h
  rw [show f_X3_tell_L2 z i a t FU 0 σ = _ from h, bnd1_e]
theorem ans_2 (x3 r : Int32) : ∀ (n : Nat) (y : Int32) (T : Tg), f_X11_answer_L83_2 z x3 r n y T = f_X11_answer_L83 z x3 r n y T := by
  intro n
  induction n with
  | zero => intro y T; rfl
  | succ n ih =>
    intro y T
    rw [f_X11_answer_L83_2, f_X11_answer_L83]
    simp only [ih]
theorem ans_L {i v : Nat} (hi : i < 80) (hv : v < 200) : ∀ (n k : Nat) (g : Nat → Int32), k ≤ 4 → 4 < k + n →
    f_X11_answer_L83 z (nI i) (nI v) n (nI k) (setT τ 31 g) = some (setT τ 31 (fun q => if 8 * v + k ≤ q ∧ q < 8 * v + 4 then τ.1 23 (4 * i + (q - 8 * v)) else if 8 * v + 4 + k ≤ q ∧ q < 8 * v + 8 then τ.1 24 (4 * i + (q - (8 * v + 4))) else g q)) := by
  intro n
  induction n with
  | zero => intro k g h1 h2; omega
  | succ n ih =>
    intro k g h1 h2
    rw [f_X11_answer_L83]
    by_cases hk : k < 4
    · have hN : ¬ nI 4 ≤ nI k := nI_ge hk (by omega)
      have e1 : ∀ g, (setT τ 31 g).1 23 (4 * i + k) = τ.1 23 (4 * i + k) := fun _ => rfl
      have e2 : ∀ g, (setT τ 31 g).1 24 (4 * i + k) = τ.1 24 (4 * i + k) := fun _ => rfl
      rw [if_neg (show ¬ (4 : Int32) ≤ nI k from hN), if_neg (nI_pos (by omega)), mul4, nI_add, gdx_n (n := mlen 23) (show 4 * i + k < 320 by omega) (by decide), letv_e, mul8, nI_add, gdx_n (n := mlen 31) (show 8 * v + k < 1600 by omega) (by decide), letv_e, e1, tpI_setT,
        gdx_n (n := mlen 24) (show 4 * i + k < 320 by omega) (by decide), letv_e, e2, add4, nI_add, gdx_n (n := mlen 31) (show 8 * v + 4 + k < 1600 by omega) (by decide), letv_e, tpI_setT, letv_e, add1, ih (k + 1) _ (by omega) (by omega)]
      refine congrArg (fun g => some (setT τ 31 g)) ?_
      funext q
      by_cases c1 : q = 8 * v + k
      · rw [if_neg (by omega), if_neg (by omega), if_neg (by omega), if_pos c1, if_pos (by omega), c1, show 8 * v + k - 8 * v = k by omega]
      · by_cases c2 : q = 8 * v + 4 + k
        · rw [if_neg (by omega), if_neg (by omega), if_pos c2, if_neg (by omega), if_pos (by omega), c2, show 8 * v + 4 + k - (8 * v + 4) = k by omega]
        · by_cases c3 : 8 * v + (k + 1) ≤ q ∧ q < 8 * v + 4
          · rw [if_pos c3, if_pos (by omega)]
          · by_cases c4 : 8 * v + 4 + (k + 1) ≤ q ∧ q < 8 * v + 8
            · rw [if_neg c3, if_pos c4, if_neg (by omega), if_pos (by omega)]
            · rw [if_neg c3, if_neg c4, if_neg c2, if_neg c1, if_neg (by omega), if_neg (by omega)]
    · have : k = 4 := by omega
      subst this
      rw [if_pos (by decide)]
      refine congrArg (fun g => some (setT τ 31 g)) ?_
      funext q
      rw [if_neg (by omega), if_neg (by omega)]
theorem p_tell (hz : zOK z) (hbb : bb < 50000) {σ0 : Sg} {τ0 : Tg} (h : Rel z bb w σ τ) {a t b : Nat} (ha : a < z 1) (ht : t < z 2) (hb : b ≤ bb) {mi : Nat} (k13 : σ.1 13 mi = σ0.1 13 mi) (k36 : τ.1 36 = τ0.1 36) (hm1 : ∀ i, i < z 4 → ¬ mi = σ.2.2 12 i) (hm2 : ¬ mi = z 4) (f3 : σ.1 13 mi 0 3 = nI b) :
    Pst z bb mi σ0 τ0 (bnd1 (f_X5_startDraft z σ 5 (nI t) (nI (z 0 + a))) fun s9 => letv (s9.1 13 mi 0 3) fun v10 => letv (upI s9 13 (z 4) 0 3 v10) fun s11 => bnd1 (f_X3_tell z s11 (z 4) a t) fun s13 => letv (s13.1 13 mi 0 3) fun v14 => bnd1 (f_X7_acceptorOf z s13 v14) fun r16 => bnd2 (f_X5_post z s13 (z 4) r16) fun _ s19 => some (1, s19))
      (gnz (nI (z 1)) <| bnd2 (f_X11_post z τ 5 ((nI (z 0)) + (nI b - nI b / (nI (z 1)) * (nI (z 1)))) (nI t) (nI b) 0 0 (nI (z 0 + a))) fun r10 s11 => bnd1 (f_X11_answer_L83 z (nI (16 * a + t)) r10 FU 0 s11) fun (s14 : Tg) => some (1, s14)) := by
  have hzz := hz
  unfold zOK at hzz
  have hmod : b % z 1 < z 1 := Nat.mod_lt _ (by omega)
  have hF := FU_big
  have hA := h.2.2.2.2.2.2.2.2.2.2.2.2.1
  rw [startDraft_e, bnd1_e, letv_e, drf_o _ _ _ _ _ _ hm2, f3, letv_e, (drf_up _ _ _ _ _ _ _).1, tell_e hz, bnd1_e, letv_e]
  generalize hD : setQ (drf z σ 5 (nI t) (nI b) 0 0 (nI (z 0 + a))) (fun m j c => if m = z 4 ∧ j = 0 ∧ 0 ≤ c ∧ c < z 0 then (drf z σ 5 (nI t) (nI b) 0 0 (nI (z 0 + a))).1 28 a t c else (drf z σ 5 (nI t) (nI b) 0 0 (nI (z 0 + a))).1 14 m j c) (fun m j c => if m = z 4 ∧ j = 0 ∧ 0 ≤ c ∧ c < z 0 then (drf z σ 5 (nI t) (nI b) 0 0 (nI (z 0 + a))).1 29 a t c else (drf z σ 5 (nI t) (nI b) 0 0 (nI (z 0 + a))).1 15 m j c) = D
  have D2 : D.2 = σ.2 := by rw [← hD]; rfl
  have D13 : ∀ m, ¬ m = z 4 → D.1 13 m = σ.1 13 m := fun m hm => by rw [← hD]; exact drf_o _ _ _ _ _ _ hm
  have D14 : D.1 14 = fun m j c => if m = z 4 ∧ j = 0 ∧ 0 ≤ c ∧ c < z 0 then σ.1 28 a t c else σ.1 14 m j c := by rw [← hD]; rfl
  have D15 : D.1 15 = fun m j c => if m = z 4 ∧ j = 0 ∧ 0 ≤ c ∧ c < z 0 then σ.1 29 a t c else σ.1 15 m j c := by rw [← hD]; rfl
  have DD : Dft z D 5 (nI t) (nI b) 0 0 (nI (z 0 + a)) := by rw [← hD]; exact drf_D _ _ _ _ _ _
  have Df : ∀ f, ¬ f = 13 → ¬ f = 14 → ¬ f = 15 → D.1 f = σ.1 f := fun f h1 h2 h3 => by
    rw [← hD]
    show (if f = 14 then _ else if f = 15 then _ else if f = 13 then _ else σ.1 f) = σ.1 f
    rw [if_neg h2, if_neg h3, if_neg h1]
  have hR : Rel z bb w D τ := h.pool D2 Df (fun m hm => ⟨D13 m hm, by
    rw [D14]
    funext j c
    show (if m = z 4 ∧ j = 0 ∧ 0 ≤ c ∧ c < z 0 then _ else _) = _
    rw [if_neg (fun r => hm r.1)], by
    rw [D15]
    funext j c
    show (if m = z 4 ∧ j = 0 ∧ 0 ≤ c ∧ c < z 0 then _ else _) = _
    rw [if_neg (fun r => hm r.1)]⟩)
  have e14 : ∀ s, s < z 0 → D.1 14 (z 4) 0 s = σ.1 28 a t s := fun s hs => by
    rw [D14]
    show (if z 4 = z 4 ∧ 0 = 0 ∧ 0 ≤ s ∧ s < z 0 then _ else _) = _
    have p : z 4 = z 4 ∧ 0 = 0 ∧ 0 ≤ s ∧ s < z 0 := ⟨rfl, rfl, Nat.zero_le _, hs⟩
    rw [if_pos p]
  have e15 : ∀ s, s < z 0 → D.1 15 (z 4) 0 s = σ.1 29 a t s := fun s hs => by
    rw [D15]
    show (if z 4 = z 4 ∧ 0 = 0 ∧ 0 ≤ s ∧ s < z 0 then _ else _) = _
    have p : z 4 = z 4 ∧ 0 = 0 ∧ 0 ≤ s ∧ s < z 0 := ⟨rfl, rfl, Nat.zero_le _, hs⟩
    rw [if_pos p]
  have d0 : D.1 13 (z 4) 0 0 = 5 := DD 0 (by omega) (by omega)
  have d2 : D.1 13 (z 4) 0 2 = nI t := DD 2 (by omega) (by omega)
  have d3 : D.1 13 (z 4) 0 3 = nI b := DD 3 (by omega) (by omega)
  have d4 : D.1 13 (z 4) 0 4 = 0 := DD 4 (by omega) (by omega)
  have d5 : D.1 13 (z 4) 0 5 = 0 := DD 5 (by omega) (by omega)
  have d6 : D.1 13 (z 4) 0 6 = nI (z 0 + a) := DD 6 (by omega) (by omega)
  rw [D13 mi hm2, f3, accOf_e hz (by omega), bnd1_e, gnz_n (by omega) (by omega), accOf_M hz (by omega)]
  have hW : mW z bb (fun c => if c = 1 then nI (z 0 + b % z 1) else D.1 13 (z 4) 0 c) (D.1 14 (z 4) 0) (D.1 15 (z 4) 0) := by
    refine ⟨⟨t, ht, d2⟩, ⟨b, hb, d3⟩, Or.inr (Or.inr (Or.inr (Or.inr (Or.inl ⟨d0, ⟨_, hmod, rfl⟩, ⟨a, ha, d6⟩, fun s hs => ?_⟩))))⟩
    rw [e14 s hs, e15 s hs]
    exact (hA a t s ha ht hs).2.2
  obtain ⟨σ', τ', p1, p2, p3, p4, p5⟩ := p_post hz hR (mi := z 4) (fun i _ hi => hR.npl i hi) (nI (z 0 + b % z 1)) hW (fun q => if w < z 4 ∧ 8 * w ≤ q ∧ q < 8 * w + 4 then τ.1 23 (4 * (16 * a + t) + (q - 8 * w)) else if w < z 4 ∧ 8 * w + 4 ≤ q ∧ q < 8 * w + 8 then τ.1 24 (4 * (16 * a + t) + (q - (8 * w + 4))) else τ.1 31 q)
    (fun q hq => by rw [if_neg (by omega), if_neg (by omega)])
    (fun hlt k5 s hs => by
      have hz4 : z 0 ≤ 4 := by omega
      obtain ⟨n1, n2, _⟩ := hA a t s ha ht hs
      show (if w < z 4 ∧ 8 * w ≤ 8 * w + s ∧ 8 * w + s < 8 * w + 4 then _ else _) = _ ∧ (if w < z 4 ∧ 8 * w ≤ 8 * w + 4 + s ∧ 8 * w + 4 + s < 8 * w + 4 then _ else if w < z 4 ∧ 8 * w + 4 ≤ 8 * w + 4 + s ∧ 8 * w + 4 + s < 8 * w + 8 then _ else _) = _
      rw [if_pos (by omega), if_neg (by omega), if_pos (by omega), e14 s hs, e15 s hs, ← n1, ← n2]
      exact ⟨congrArg (τ.1 23) (by omega), congrArg (τ.1 24) (by omega)⟩)
  rw [d0, d2, d3, d4, d5, d6] at p2
  rw [p1, p2, bnd2_e, bnd2_e]
  have hw := h.1.1
  have t31 : τ'.1 31 = τ.1 31 := p5.2 31 (by omega) (by omega)
  have t23 : τ'.1 23 = τ.1 23 := p5.2 23 (by omega) (by omega)
  have t24 : τ'.1 24 = τ.1 24 := p5.2 24 (by omega) (by omega)
  have t36 : τ'.1 36 = τ0.1 36 := by rw [p5.2 36 (by omega) (by omega), k36]
  have s13 : σ'.1 13 mi = σ0.1 13 mi := by rw [(p4.keep (by rw [D2]; exact hm1)).1, D13 mi hm2, k13]
  by_cases hlt : w < z 4
  · rw [if_pos hlt] at p3
    rw [if_pos hlt]
    have l := ans_L (z := z) (τ := τ') (show 16 * a + t < 80 by omega) (show w < 200 by omega) FU 0 (τ'.1 31) (by omega) (by omega)
    rw [setT_id] at l
    rw [show f_X11_answer_L83 z (nI (16 * a + t)) (nI w) FU 0 τ' = _ from l, bnd1_e]
    have eg : (fun q => if 8 * w + 0 ≤ q ∧ q < 8 * w + 4 then τ'.1 23 (4 * (16 * a + t) + (q - 8 * w)) else if 8 * w + 4 + 0 ≤ q ∧ q < 8 * w + 8 then τ'.1 24 (4 * (16 * a + t) + (q - (8 * w + 4))) else τ'.1 31 q) = (fun q => if w < z 4 ∧ 8 * w ≤ q ∧ q < 8 * w + 4 then τ.1 23 (4 * (16 * a + t) + (q - 8 * w)) else if w < z 4 ∧ 8 * w + 4 ≤ q ∧ q < 8 * w + 8 then τ.1 24 (4 * (16 * a + t) + (q - (8 * w + 4))) else τ.1 31 q) := by
      funext q
      rw [t31, t23, t24]
      by_cases c : 8 * w ≤ q ∧ q < 8 * w + 4
      · rw [if_pos (by omega), if_pos ⟨hlt, c⟩]
      · by_cases c2 : 8 * w + 4 ≤ q ∧ q < 8 * w + 8
        · rw [if_neg (by omega), if_pos (by omega), if_neg (fun r => c r.2), if_pos ⟨hlt, c2⟩]
        · rw [if_neg (by omega), if_neg (by omega), if_neg (fun r => c r.2), if_neg (fun r => c2 r.2)]
    rw [eg]
    exact ⟨1, _, _, _, rfl, rfl, Or.inr rfl, p3, s13, t36⟩
  · rw [if_neg hlt] at p3
    rw [if_neg hlt]
    have hlp : f_X11_answer_L83 z (nI (16 * a + t)) (-1) FU 0 τ' = some τ' := by
      rw [show FU = (FU - 1) + 1 by omega, f_X11_answer_L83, if_neg (by decide), if_pos (by decide)]
    rw [hlp, bnd1_e]
    have eg : (fun q => if w < z 4 ∧ 8 * w ≤ q ∧ q < 8 * w + 4 then τ.1 23 (4 * (16 * a + t) + (q - 8 * w)) else if w < z 4 ∧ 8 * w + 4 ≤ q ∧ q < 8 * w + 8 then τ.1 24 (4 * (16 * a + t) + (q - (8 * w + 4))) else τ.1 31 q) = τ'.1 31 := by
      funext q
      rw [if_neg (fun r => hlt r.1), if_neg (fun r => hlt r.1), t31]
    rw [eg, setT_id] at p3
    exact ⟨1, _, _, _, rfl, rfl, Or.inr rfl, p3, s13, t36⟩
theorem Rel.prom (hz : zOK z) (h : Rel z bb w σ τ) {a t q b : Nat} (ha : a < z 1) (ht : t < z 2) (hq : q < z 5) (h1 : σ.1 18 (z 0 + a) 0 1 = nI q) (hb : b ≤ bb) (r1 r2 r3 : Int32) :
    Rel z bb w (upI (setF (setF σ 18 (pu18 (σ.1 18) (z 0 + a) q)) 20 (pu20 (σ.1 20) (z 0 + a) q 3 r1 r2 r3)) 27 a t 1 (nI b)) (tpI (setT (setT τ 7 (pt7 (τ.1 7) (z 0 + a) q)) 8 (pt8 (τ.1 8) (z 0 + a) q 3 r1 r2 r3)) 19 (16 * a + t) (nI b)) := by
  have hzz := hz
  unfold zOK at hzz
  obtain ⟨a1, a2, a3, a4, a5, a6, a7, a8, a9, a10, a11, a12, a13, a14, a15, a16, a17⟩ := h
  refine ⟨a1, a2, a3, a4, a5, a6, a7, a8, a9, a10, gG_put hz a11 (by omega) h1 hq 3 r1 r2 r3, fun a' t' ha' ht' => ?_, a13, a14, a15, a16, a17⟩
  obtain ⟨b1, b2, b3, b4, b5, b6, b7⟩ := a12 a' t' ha' ht'
  have k : ∀ c, (upI (setF (setF σ 18 (pu18 (σ.1 18) (z 0 + a) q)) 20 (pu20 (σ.1 20) (z 0 + a) q 3 r1 r2 r3)) 27 a t 1 (nI b)).1 27 a' t' c = if 27 = 27 ∧ a' = a ∧ t' = t ∧ c = 1 then nI b else σ.1 27 a' t' c := fun c => rfl
  have k19 : (tpI (setT (setT τ 7 (pt7 (τ.1 7) (z 0 + a) q)) 8 (pt8 (τ.1 8) (z 0 + a) q 3 r1 r2 r3)) 19 (16 * a + t) (nI b)).1 19 (16 * a' + t') = if 19 = 19 ∧ 16 * a' + t' = 16 * a + t then nI b else τ.1 19 (16 * a' + t') := rfl
  have nc : ∀ c, ¬ c = 1 → ¬ (27 = 27 ∧ a' = a ∧ t' = t ∧ c = 1) := fun c hc r => hc r.2.2.2
  rw [k 1, k 2, k 3, k 4, k19, if_neg (nc 2 (by omega)), if_neg (nc 3 (by omega)), if_neg (nc 4 (by omega))]
  by_cases e : a' = a ∧ t' = t
  · obtain ⟨rfl, rfl⟩ := e
    simp only [true_and, if_true]
    exact ⟨⟨b, hb, rfl⟩, b2, b3, b5, b6, b7⟩
  · have n1 : ¬ (16 * a' + t' = 16 * a + t) := fun r => e (by omega)
    have n3 : ¬ (27 = 27 ∧ a' = a ∧ t' = t ∧ 1 = 1) := fun r => e ⟨r.2.1, r.2.2.1⟩
    have n4 : ¬ (19 = 19 ∧ 16 * a' + t' = 16 * a + t) := fun r => n1 r.2
    rw [if_neg n3, if_neg n4]
    exact ⟨b1, b2, b3, b4, b5, b6, b7⟩
theorem p_hask (hz : zOK z) (hbb : bb < 50000) (h : Rel z bb w σ τ) {a t b : Nat} (ha : a < z 1) (ht : t < z 2) (hb : b ≤ bb) {mi : Nat} (hm1 : ∀ i, i < z 4 → ¬ mi = σ.2.2 12 i) (hm2 : ¬ mi = z 4)
    (f2 : σ.1 13 mi 0 2 = nI t) (f3 : σ.1 13 mi 0 3 = nI b) (g3 : τ.1 36 3 = nI b) :
    Pst z bb mi σ τ (f_X0_hearAsk z σ a mi t) (f_X11_answer z τ (nI (z 0 + a)) (nI t) (nI (16 * a + t))) := by
  have hzz := hz
  unfold zOK at hzz
  have i80 : 16 * a + t < 80 := by omega
  obtain ⟨p1, p2, p3, p4, p5, p6, p7⟩ := h.2.2.2.2.2.2.2.2.2.2.2.1 a t ha ht
  obtain ⟨q, q0, q1, q2, q3⟩ := h.2.2.2.2.2.2.2.2.2.2.1 (z 0 + a) (by omega)
  unfold f_X0_hearAsk f_X11_answer
  rw [letv_e, letv_e, f3, gdx_l (n := mlen 36) 3 (by decide) (by decide), letv_e (τ.1 36 3), g3, gdx_n (n := mlen 19) (show 16 * a + t < 80 from i80) (by decide), letv_e (τ.1 19 (16 * a + t)), p4]
  by_cases d1 : σ.1 27 a t 1 ≤ nI b
  · rw [if_pos d1, if_pos d1, letv_e, letv_e, gdx_n (n := mlen 19) (show 16 * a + t < 80 from i80) (by decide), letv_e (τ.1 19 (16 * a + t)), p4]
    by_cases d2 : nI b ≤ σ.1 27 a t 1
    · rw [if_pos d2, if_pos d2, letv_e, f2]
      exact p_tell hz hbb h ha ht hb rfl rfl hm1 hm2 f3
    · rw [if_neg d2, if_neg d2, full_e hz q1 q0, bnd1_e]
      by_cases hq : q < z 5
      · have hr := h.prom hz ha ht hq q1 hb (nI t) (nI b) 0
        have hP : f_X0_promise z σ a (nI t) (nI b) = some (upI (setF (setF σ 18 (pu18 (σ.1 18) (z 0 + a) q)) 20 (pu20 (σ.1 20) (z 0 + a) q 3 (nI t) (nI b) 0)) 27 a t 1 (nI b)) := by
          unfold f_X0_promise
          rw [put_e hz q1 hq, bnd1_e, gdx_n ht (by omega), letv_e]
        rw [if_pos hq, if_pos rfl, letv_e, letv_e, f2, hP, bnd1_e, letv_e]
        generalize hB : upI (setF (setF σ 18 (pu18 (σ.1 18) (z 0 + a) q)) 20 (pu20 (σ.1 20) (z 0 + a) q 3 (nI t) (nI b) 0)) 27 a t 1 (nI b) = B at hr
        have B13 : B.1 13 = σ.1 13 := by rw [← hB]; rfl
        have B22 : B.2.2 = σ.2.2 := by rw [← hB]; rfl
        rw [B13, f2, writes_e hz (by omega) q2 hq, bnd2_e, if_neg (show ¬ (1 : Int32) = 0 by decide), gdx_n (n := mlen 19) (show 16 * a + t < 80 from i80) (by decide), letv_e (tpI _ _ _ _)]
        generalize hC : tpI (setT (setT τ 7 (pt7 (τ.1 7) (z 0 + a) q)) 8 (pt8 (τ.1 8) (z 0 + a) q 3 (nI t) (nI b) 0)) 19 (16 * a + t) (nI b) = C at hr
        have C36 : C.1 36 = τ.1 36 := by rw [← hC]; rfl
        simp only [ans_2]
        exact p_tell hz hbb hr ha ht hb (by rw [B13]) C36 (by rw [B22]; exact hm1) hm2 (by rw [B13]; exact f3)
      · rw [if_neg hq, if_neg (show ¬ (1 : Int32) = 0 by decide), writes_f hz (by omega) (by rw [q2]; congr 1; omega), bnd2_e, if_pos rfl]
        exact ⟨0, w, σ, τ, rfl, rfl, Or.inl rfl, h, rfl, rfl⟩
  · rw [if_neg d1, if_neg d1]
    exact ⟨1, w, σ, τ, rfl, rfl, Or.inr rfl, h, rfl, rfl⟩
end ASKS
