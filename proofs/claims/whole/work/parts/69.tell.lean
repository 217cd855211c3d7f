/-! the store's world told by keys -/
theorem arrV_ext {c : ClassId} {n : Nat} {F F' : Nat → Value} (h : ∀ i, i < n → F i = F' i) : arrV c n F = arrV c n F' := by
  unfold arrV
  congr 1
  refine Array.ext (by simp) (fun i h1 h2 => ?_)
  simp at h1 ⊢
  exact h i h1
/-- one cell told in two ways -/
def yEq (e e' : va_E) : Prop := ∀ (D : va_G) (H : Heap) (a : Nat), va_at D vwCl (a, e) H → va_at D vwCl (a, e') H
theorem yEq_q {c : ClassId} {n : Nat} {g : Nat → Option Nat} {k : Nat → Nat} (h : ∀ i, i < n → g i = some (k i)) : yEq (.inl (c, n, .inr (.inr (.inr (.inr g))))) (.inl (c, n, xq k)) := fun D H a q => by
  refine q.trans ?_
  show some (vp_cell c (n, .inr (.inr (.inr (.inr g))))) = some (vp_cell c (n, .inr (.inr (.inr (.inr (fun j => some (k j)))))))
  rw [vp_cell_q, vp_cell_q]
  exact congrArg some (arrV_ext (fun i hi => by rw [h i hi]))
def stX (z : Nat → Nat) (A : Nat → Nat) (P S T : Nat → Nat → Nat) (V : Nat → Nat → Nat → Nat) (f i j : Nat) : Nat := match f with
  | 8 => A 7 + 1 + i | 10 => A 9 + 1 + i
  | 13 => P 13 i | 14 => P 14 i | 15 => P 15 i
  | 17 => S i 17 | 21 => S i 21 | 22 => S i 22 | 23 => S i 23
  | 18 => if i < z 0 then S i 18 else T (i - z 0) 18
  | 19 => if i < z 0 then S i 19 else T (i - z 0) 19
  | 20 => (if i < z 0 then S i 19 else T (i - z 0) 19) + 1 + j
  | 25 => T i 25 | 26 => T i 26
  | 27 => V i j 27 | 28 => V i j 28 | 29 => V i j 29 | 30 => V i j 30 | 31 => V i j 31 | 32 => V i j 32 | 33 => V i j 33
  | f => A f
theorem lt1 {i : Nat} (h : i < 1) : i = 0 := by omega
theorem st_tell {D : va_G} {cA : Nat → ClassId} {z : Nat → Nat} {W : yM} {A : Nat → Nat} {P S T : Nat → Nat → Nat} {V : Nat → Nat → Nat → Nat} {am : Nat → Nat} {bs sb : Nat} {sc : Cell} (h : ySt cA z W A P S T V) {f i j : Nat} (hd : xdom z f i j) :
    ∃ e, W (stX z A P S T V f i j) = some ((f, i, j), e) ∧ yEq e (xCell (D, cA, stX z A P S T V, am, bs, sb, sc) z f i j ((sg0 z).1 f i j) ((sg0 z).2.1 f i j) ((sg0 z).2.2 f)) := by
  obtain ⟨h0, h1, ⟨h2, h3, h4⟩, ⟨h5, h6, h7, h8, h9, h10⟩, ⟨h11, h12, hM⟩, ⟨h16, hS⟩, ⟨h24, hT⟩⟩ := h
  obtain ⟨hi, hj⟩ := hd
  have hf : f ≤ 33 := by
    by_cases q : f ≤ 33
    · exact q
    · exfalso
      have : xbI z f = if f ≤ 33 then 1 else 0 := by
        unfold xbI
        split <;> first | omega | rfl
      rw [this, if_neg q] at hi
      exact Nat.not_lt_zero _ hi
  rcases (show f = 0 ∨ f = 1 ∨ f = 2 ∨ f = 3 ∨ f = 4 ∨ f = 5 ∨ f = 6 ∨ f = 7 ∨ f = 8 ∨ f = 9 ∨ f = 10 ∨ f = 11 ∨ f = 12 ∨ f = 13 ∨ f = 14 ∨ f = 15 ∨ f = 16 ∨ f = 17 ∨ f = 18 ∨ f = 19 ∨ f = 20 ∨ f = 21 ∨ f = 22 ∨ f = 23 ∨ f = 24 ∨ f = 25 ∨ f = 26 ∨ f = 27 ∨ f = 28 ∨ f = 29 ∨ f = 30 ∨ f = 31 ∨ f = 32 ∨ f = 33 by omega) with rfl | rfl | rfl | rfl | rfl | rfl | rfl | rfl | rfl | rfl | rfl | rfl | rfl | rfl | rfl | rfl | rfl | rfl | rfl | rfl | rfl | rfl | rfl | rfl | rfl | rfl | rfl | rfl | rfl | rfl | rfl | rfl | rfl | rfl
  · cases lt1 hi; cases lt1 hj; exact ⟨_, h0, fun _ _ _ q => q⟩
  · cases lt1 hi; cases lt1 hj; exact ⟨_, h1, fun _ _ _ q => q⟩
  · cases lt1 hi; cases lt1 hj; exact ⟨_, h2, fun _ _ _ q => q⟩
  · cases lt1 hi; cases lt1 hj; exact ⟨_, h3, fun _ _ _ q => q⟩
  · cases lt1 hi; cases lt1 hj; exact ⟨_, h4, fun _ _ _ q => q⟩
  · cases lt1 hi; cases lt1 hj; exact ⟨_, h5, fun _ _ _ q => q⟩
  · cases lt1 hi; cases lt1 hj; exact ⟨_, h6, fun _ _ _ q => q⟩
  · cases lt1 hi; cases lt1 hj; exact ⟨_, h7, yEq_q (fun k hk => if_pos hk)⟩
  · cases lt1 hj; exact ⟨_, h8 i hi, fun _ _ _ q => q⟩
  · cases lt1 hi; cases lt1 hj; exact ⟨_, h9, yEq_q (fun k hk => if_pos hk)⟩
  · cases lt1 hj; exact ⟨_, h10 i hi, fun _ _ _ q => q⟩
  · cases lt1 hi; cases lt1 hj; exact ⟨_, h11, fun _ _ _ q => q⟩
  · cases lt1 hi; cases lt1 hj; exact ⟨_, h12, yEq_q (fun k hk => if_pos hk)⟩
  · cases lt1 hj; exact ⟨_, (hM i hi).1, fun _ _ _ q => q⟩
  · cases lt1 hj; exact ⟨_, (hM i hi).2.1, fun _ _ _ q => q⟩
  · cases lt1 hj; exact ⟨_, (hM i hi).2.2, fun _ _ _ q => q⟩
  · cases lt1 hi; cases lt1 hj; exact ⟨_, h16, yEq_q (fun k hk => if_pos hk)⟩
  · cases lt1 hj
    have hi0 : i < z 0 := hi
    refine ⟨_, (hS i hi0).1, ?_⟩
    show yEq _ (.inr (5, [.int (nI i), .ref (A 1), .ref (A 11), .ref (if i < z 0 then S i 18 else T (i - z 0) 18), .int 1, .ref (S i 21), .ref (A 5), .ref (S i 22), .ref (S i 23)]))
    rw [if_pos hi0]
    exact fun _ _ _ q => q
  · cases lt1 hj
    have hi0 : i < z 0 + z 1 := hi
    show ∃ e, W (if i < z 0 then S i 18 else T (i - z 0) 18) = some ((18, i, 0), e) ∧ yEq e (.inr (2, [.ref (if i < z 0 then S i 19 else T (i - z 0) 19), .int 0]))
    by_cases q : i < z 0
    · rw [if_pos q, if_pos q]
      exact ⟨_, (hS i q).2.1, fun _ _ _ q => q⟩
    · rw [if_neg q, if_neg q]
      have := (hT (i - z 0) (by omega)).2.1
      rw [show z 0 + (i - z 0) = i by omega] at this
      exact ⟨_, this, fun _ _ _ q => q⟩
  · cases lt1 hj
    have hi0 : i < z 0 + z 1 := hi
    show ∃ e, W (if i < z 0 then S i 19 else T (i - z 0) 19) = some ((19, i, 0), e) ∧ yEq e (.inl (cA 3, z 5, xq (fun k => (if i < z 0 then S i 19 else T (i - z 0) 19) + 1 + k)))
    by_cases q : i < z 0
    · rw [if_pos q]
      exact ⟨_, (hS i q).2.2.1, yEq_q (fun k hk => if_pos hk)⟩
    · rw [if_neg q]
      have := (hT (i - z 0) (by omega)).2.2.1
      rw [show z 0 + (i - z 0) = i by omega] at this
      exact ⟨_, this, yEq_q (fun k hk => if_pos hk)⟩
  · have hi0 : i < z 0 + z 1 := hi
    show ∃ e, W ((if i < z 0 then S i 19 else T (i - z 0) 19) + 1 + j) = some ((20, i, j), e) ∧ yEq e (.inl (cA 0, 4, .inl (fun _ => 0)))
    by_cases q : i < z 0
    · rw [if_pos q]
      exact ⟨_, (hS i q).2.2.2.1 j hj, fun _ _ _ q => q⟩
    · rw [if_neg q]
      have := (hT (i - z 0) (by omega)).2.2.2.1 j hj
      rw [show z 0 + (i - z 0) = i by omega] at this
      exact ⟨_, this, fun _ _ _ q => q⟩
  · cases lt1 hj; exact ⟨_, (hS i hi).2.2.2.2.1, fun _ _ _ q => q⟩
  · cases lt1 hj; exact ⟨_, (hS i hi).2.2.2.2.2.1, fun _ _ _ q => q⟩
  · cases lt1 hj; exact ⟨_, (hS i hi).2.2.2.2.2.2, fun _ _ _ q => q⟩
  · cases lt1 hi; cases lt1 hj; exact ⟨_, h24, yEq_q (fun k hk => if_pos hk)⟩
  · cases lt1 hj
    refine ⟨_, (hT i hi).1, ?_⟩
    show yEq _ (.inr (0, [.int (nI (z 0 + i)), .ref (A 1), .ref (A 11), .ref (if z 0 + i < z 0 then S (z 0 + i) 18 else T (z 0 + i - z 0) 18), .int 1, .ref (T i 26), .int (nI i), .ref (A 2)]))
    rw [if_neg (by omega), show z 0 + i - z 0 = i by omega]
    exact fun _ _ _ q => q
  · cases lt1 hj; exact ⟨_, (hT i hi).2.2.2.2.1, yEq_q (fun k hk => if_pos hk)⟩
  · exact ⟨_, ((hT i hi).2.2.2.2.2 j hj).1, fun _ _ _ q => q⟩
  · exact ⟨_, ((hT i hi).2.2.2.2.2 j hj).2.1, fun _ _ _ q => q⟩
  · exact ⟨_, ((hT i hi).2.2.2.2.2 j hj).2.2.1, fun _ _ _ q => q⟩
  · exact ⟨_, ((hT i hi).2.2.2.2.2 j hj).2.2.2.1, fun _ _ _ q => q⟩
  · exact ⟨_, ((hT i hi).2.2.2.2.2 j hj).2.2.2.2.1, fun _ _ _ q => q⟩
  · exact ⟨_, ((hT i hi).2.2.2.2.2 j hj).2.2.2.2.2.1, fun _ _ _ q => q⟩
  · exact ⟨_, ((hT i hi).2.2.2.2.2 j hj).2.2.2.2.2.2, fun _ _ _ q => q⟩
