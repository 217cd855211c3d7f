/-! Pool's constructor -/
def rm_X5i (n w : Nat) : Room := { frames := 2, cells := 1 + 3 * (w + 2), slots := w + (9 + 2 * n) * (w + 2), locals := 60 }
def fX3 (a b : Nat) : List Value := [.int 0, .int 0, .int 0, .int 0, .int 0, .int 0, .int 0, .ref a, .ref b]
/-- a message and its two arrays stand -/
def yMsg (cA : Nat → ClassId) (W : yM) (n i a b c : Nat) : Prop := W a = some ((13, i, 0), .inr (3, fX3 b c)) ∧ W b = some ((14, i, 0), .inl (cA 0, n, .inl (fun _ => 0))) ∧ W c = some ((15, i, 0), .inl (cA 0, n, .inl (fun _ => 0)))
section POOL
variable {l : Launch} {D : va_G} {cA : Nat → ClassId} {bs sb o n w : Nat} {sc : Cell} {M : yM} {key : yK}
theorem yMsg.keep {W W' : yM} {i a b c : Nat} (h : yMsg cA W n i a b c) (hk : W' a = W a ∧ W' b = W b ∧ W' c = W c) : yMsg cA W' n i a b c := ⟨hk.1.trans h.1, hk.2.1.trans h.2.1, hk.2.2.trans h.2.2⟩
/-- what a new message adds -/
theorem yMsg_new {W : yM} {i a b c : Nat} (ha : W a = none) (hb : yU W a ((13, i, 0), .inr (3, dX3)) b = none) (hc : yU W a ((13, i, 0), .inr (3, dX3)) c = none) (hbc : ¬ b = c) :
    yMsg cA (yU (yU (yU (yU W a ((13, i, 0), .inr (3, dX3))) b ((14, i, 0), .inl (cA 0, n, .inl (fun _ => 0)))) c ((15, i, 0), .inl (cA 0, n, .inl (fun _ => 0)))) a ((13, i, 0), .inr (3, fX3 b c))) n i a b c ∧
    ∀ x q, W x = some q → yU (yU (yU (yU W a ((13, i, 0), .inr (3, dX3))) b ((14, i, 0), .inl (cA 0, n, .inl (fun _ => 0)))) c ((15, i, 0), .inl (cA 0, n, .inl (fun _ => 0)))) a ((13, i, 0), .inr (3, fX3 b c)) x = some q := by
  obtain ⟨hba, hb⟩ := yU_none hb
  obtain ⟨hca, hc⟩ := yU_none hc
  refine ⟨⟨yU_s _ _ _, (yU_o _ _ hba).trans ((yU_o _ _ hbc).trans (yU_s _ _ _)), (yU_o _ _ hca).trans (yU_s _ _ _)⟩, fun x q hx => ?_⟩
  have xa : ¬ x = a := fun e => by rw [e, ha] at hx; cases hx
  have xb : ¬ x = b := fun e => by rw [e, hb] at hx; cases hx
  have xc : ¬ x = c := fun e => by rw [e, hc] at hx; cases hx
  exact (yU_o _ _ xa).trans ((yU_o _ _ xc).trans ((yU_o _ _ xb).trans ((yU_o _ _ xa).trans hx)))
end POOL
