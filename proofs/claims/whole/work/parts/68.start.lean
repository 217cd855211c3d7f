/-! the state at the start, and the relation there -/
def sg0 (z : Nat → Nat) : Sg := (fun f i _ k => match f with | 17 => if k = 4 then 1 else 0 | 25 => if k = 4 then 1 else 0 | 27 => if k = 2 then led0 i else 0 | 28 => if k < z 0 then -1 else 0 | 30 => if k < z 0 then -1 else 0 | _ => 0, fun _ _ _ _ => 0, fun f k => if f = 11 then z 4 + 1 else k)
def gI (k : Nat) (τ : Tg) : Prop := (∀ f j, ¬ f = 6 → ¬ f = 11 → ¬ f = 20 → ¬ f = 23 → ¬ f = 27 → τ.1 f j = 0) ∧ (∀ f j, τ.2 f j = 0) ∧ (∀ j, j < 9 → τ.1 6 j = 1) ∧ (∀ j, j < 32 → τ.1 11 j = -1) ∧ (∀ j, j < 320 → τ.1 23 j = -1) ∧ (∀ q, q / 16 < k → τ.1 20 q = led0 (q / 16)) ∧ ∀ q, q / 64 < k → τ.1 27 q = -1
theorem gI_forget {z : Nat → Nat} {τ : Tg} {a : Nat} (ha : a < 5) (h : gI a τ) : ∃ τ', f_X11_forget z τ (nI a) = some τ' ∧ gI (a + 1) τ' := by
  obtain ⟨h1, h2, h3, h4, h5, h6, h7⟩ := h
  refine ⟨_, forget_Me ha, fun f j n6 n11 n20 n23 n27 => ?_, h2, h3, h4, h5, fun q hq => ?_, fun q hq => ?_⟩
  · show (if f = 20 then _ else if f = 21 then _ else if f = 22 then _ else if f = 25 then _ else if f = 26 then _ else if f = 27 then _ else if f = 28 then _ else τ.1 f) j = 0
    rw [if_neg n20, if_neg n27]
    have g : ∀ f', ¬ f' = 6 → ¬ f' = 11 → ¬ f' = 20 → ¬ f' = 23 → ¬ f' = 27 → τ.1 f' j = 0 := fun f' => h1 f' j
    by_cases e21 : f = 21
    · rw [if_pos e21]
      show (if j / 16 = a then 0 else τ.1 21 j) = 0
      rw [g 21 (by decide) (by decide) (by decide) (by decide) (by decide), ite_self]
    rw [if_neg e21]
    by_cases e22 : f = 22
    · rw [if_pos e22]
      show (if j / 16 = a then 0 else τ.1 22 j) = 0
      rw [g 22 (by decide) (by decide) (by decide) (by decide) (by decide), ite_self]
    rw [if_neg e22]
    by_cases e25 : f = 25
    · rw [if_pos e25]
      show (if j / 64 = a then 0 else τ.1 25 j) = 0
      rw [g 25 (by decide) (by decide) (by decide) (by decide) (by decide), ite_self]
    rw [if_neg e25]
    by_cases e26 : f = 26
    · rw [if_pos e26]
      show (if j / 64 = a then 0 else τ.1 26 j) = 0
      rw [g 26 (by decide) (by decide) (by decide) (by decide) (by decide), ite_self]
    rw [if_neg e26]
    by_cases e28 : f = 28
    · rw [if_pos e28]
      show (if j / 64 = a then 0 else τ.1 28 j) = 0
      rw [g 28 (by decide) (by decide) (by decide) (by decide) (by decide), ite_self]
    rw [if_neg e28]
    exact g f n6 n11 n20 n23 n27
  · show (if q / 16 = a then led0 a else τ.1 20 q) = led0 (q / 16)
    by_cases e : q / 16 = a
    · rw [if_pos e, e]
    · rw [if_neg e]
      exact h6 q (by omega)
  · show (if q / 64 = a then -1 else τ.1 27 q) = -1
    by_cases e : q / 64 = a
    · rw [if_pos e]
    · rw [if_neg e]
      exact h7 q (by omega)
theorem bt_0 {i : Nat} (h : i < 32) : bt 0 i = false := bt_zero.mp rfl i h
theorem nb_0 (b : Nat) : nb b 0 := ⟨0, Nat.zero_le _, rfl⟩
theorem rel_0 {z : Nat → Nat} {τ : Tg} (hz : zOK z) (h : gI 5 τ) : Rel z 0 0 (sg0 z) τ := by
  have hzz := hz
  unfold zOK at hzz
  obtain ⟨h1, h2, h3, h4, h5, h6, h7⟩ := h
  have g : ∀ f j, ¬ f = 6 ∧ ¬ f = 11 ∧ ¬ f = 20 ∧ ¬ f = 23 ∧ ¬ f = 27 → τ.1 f j = 0 := fun f j q => h1 f j q.1 q.2.1 q.2.2.1 q.2.2.2.1 q.2.2.2.2
  have hl : ∀ a, led0 a = -1 ∨ led0 a = 0 := fun a => by
    unfold led0
    by_cases e : a = 0
    · rw [if_pos e]; exact Or.inr rfl
    · rw [if_neg e]; exact Or.inl rfl
  refine ⟨⟨Nat.zero_le _, rfl, g 0 29 (by decide)⟩, ⟨g 0 32 (by decide), g 0 33 (by decide), g 0 34 (by decide), g 0 35 (by decide)⟩, fun t _ => ⟨g 12 t (by decide), g 13 t (by decide)⟩, fun k _ => h2 9 k,
    ⟨fun _ _ _ _ => Or.inl rfl, fun k i _ hi => ?_, fun k hk => ⟨fun t ht => ⟨fun e => ?_, fun e => ?_⟩, Or.inl (h4 k (by omega))⟩, fun t k _ _ => g 14 _ (by decide)⟩, fun t k _ _ e => ?_,
    fun s t _ _ => ⟨g 16 _ (by decide), Or.inl rfl⟩, fun _ _ _ _ _ _ _ _ => rfl, fun s t _ _ => ⟨g 17 _ (by decide), g 18 _ (by decide), Or.inl rfl⟩, ⟨fun s hs => ⟨h3 s (by omega), Or.inr rfl⟩, fun a ha => ⟨h3 _ (by omega), Or.inr rfl⟩⟩,
    fun n _ => ⟨0, Nat.zero_le _, rfl, g 7 n (by decide), fun i c hi _ => absurd hi (Nat.not_lt_zero _)⟩, fun a t ha ht => ⟨nb_0 _, ?_, nb_0 _, g 19 _ (by decide), ?_, g 21 _ (by decide), g 22 _ (by decide)⟩,
    fun a t s ha ht hs => ⟨?_, g 24 _ (by decide), Or.inl ⟨?_, rfl⟩⟩, fun a t s ha ht hs => ⟨?_, g 28 _ (by decide), Or.inl ⟨?_, rfl⟩⟩, fun a t s _ _ _ => ⟨g 25 _ (by decide), g 26 _ (by decide), nb_0 _, nb_0 _⟩,
    ⟨fun k hk => ⟨?_, ?_, ?_⟩, ⟨?_, ?_⟩, fun i j _ _ e => e⟩, fun i hi => absurd hi (Nat.not_lt_zero _)⟩
  · rw [g 10 k (by decide), bt_0 hi]
    exact (decide_eq_false (fun q => q.2 rfl)).symm
  · rw [h4 k (by omega)] at e
    have := congrArg Int32.toInt e
    rw [nI_toInt (by omega), show (-1 : Int32).toInt = -1 by decide] at this
    omega
  · exact absurd e (show ¬ (0 : Int32) = 2 by decide)
  · exact absurd e (show ¬ (0 : Int32) = 2 by decide)
  · show led0 a = -1 ∨ nb 0 (led0 a)
    rcases hl a with q | q
    · exact Or.inl q
    · rw [q]; exact Or.inr (nb_0 _)
  · show τ.1 20 (16 * a + t) = led0 a
    rw [h6 _ (by omega), show (16 * a + t) / 16 = a by omega]
  · show τ.1 23 (4 * (16 * a + t) + s) = if s < z 0 then -1 else 0
    rw [if_pos hs, h5 _ (by omega)]
  · show (if s < z 0 then (-1 : Int32) else 0) = -1
    exact if_pos hs
  · show τ.1 27 (4 * (16 * a + t) + s) = if s < z 0 then -1 else 0
    rw [if_pos hs, h7 _ (by omega)]
  · show (if s < z 0 then (-1 : Int32) else 0) = -1
    exact if_pos hs
  · show k < z 4 + 2
    omega
  · show ¬ k = z 4
    omega
  · show ¬ k = z 4 + 1
    omega
  · show z 4 + 1 < z 4 + 2
    omega
  · show ¬ z 4 + 1 = z 4
    omega
