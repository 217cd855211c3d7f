/-! Pool's constructor -/
def rm_X5i (n w : Nat) : Room := { frames := 2, cells := 1 + 3 * (w + 2), slots := w + (9 + 2 * n) * (w + 2), locals := 60 }
def fX3 (a b : Nat) : List Value := [.int 0, .int 0, .int 0, .int 0, .int 0, .int 0, .int 0, .ref a, .ref b]
/-- a message and its two arrays stand -/
def yMsg (cA : Nat → ClassId) (W : yM) (n i a b c : Nat) : Prop := W a = some ((13, i, 0), .inr (3, fX3 b c)) ∧ W b = some ((14, i, 0), .inl (cA 0, n, .inl (fun _ => 0))) ∧ W c = some ((15, i, 0), .inl (cA 0, n, .inl (fun _ => 0)))
section POOL
variable {l : Launch} {D : va_G} {cA : Nat → ClassId} {bs sb o n w : Nat} {sc : Cell} {M : yM} {key : yK}
theorem yMsg.keep {W W' : yM} {i a b c : Nat} (h : yMsg cA W n i a b c) (hk : W' a = W a ∧ W' b = W b ∧ W' c = W c) : yMsg cA W' n i a b c := ⟨hk.1.trans h.1, hk.2.1.trans h.2.1, hk.2.2.trans h.2.2⟩
/-- what a new message adds -/
theorem yMsg_new {W : yM} {i a b c : Nat} (ha : W a = none) (hb : yU W a ((13, i, 0), .inr (3, dX3)) b = none) (hc : yU W a ((13, i, 0), .inr (3, dX3)) c = none) (hbc : ¬ b = c) :
    yMsg cA (yU (yU (yU (yU W a ((13, i, 0), .inr (3, dX3))) b ((14, i, 0), .inl (cA 0, n, .inl (fun _ => 0)))) c ((15, i, 0), .inl (cA 0, n, .inl (fun _ => 0)))) a ((13, i, 0), .inr (3, fX3 b c))) n i a b c ∧
    ∀ x q, W x = some q → yU (yU (yU (yU W a ((13, i, 0), .inr (3, dX3))) b ((14, i, 0), .inl (cA 0, n, .inl (fun _ => 0)))) c ((15, i, 0), .inl (cA 0, n, .inl (fun _ => 0)))) a ((13, i, 0), .inr (3, fX3 b c)) x = some q := by
  obtain ⟨hba, hb⟩ := yU_none hb
  obtain ⟨hca, hc⟩ := yU_none hc
  refine ⟨⟨yU_s _ _ _, (yU_o _ _ hba).trans ((yU_o _ _ hbc).trans (yU_s _ _ _)), (yU_o _ _ hca).trans (yU_s _ _ _)⟩, fun x q hx => ?_⟩
  have xa : ¬ x = a := fun e => by rw [e, ha] at hx; cases hx
  have xb : ¬ x = b := fun e => by rw [e, hb] at hx; cases hx
  have xc : ¬ x = c := fun e => by rw [e, hc] at hx; cases hx
  exact (yU_o _ _ xa).trans ((yU_o _ _ xc).trans ((yU_o _ _ xb).trans ((yU_o _ _ xa).trans hx)))
end POOL
section POOL2
variable {p : Program} {l : Launch} {e : Env} {R : Room} {s : State} {m : MethodId} {args : Array Value} {below : List Frame} {meth : Method} {c : Code} {cells slots bs sb n : Nat} {Q : State → Prop} {sc : Cell} {W : yM}
variable {D : va_G} {cA : Nat → ClassId} {pc : Nat} {L : List (Nat × Value)} {st : List Value}
/-- new Message(sizes.shards), in Pool's constructor -/
theorem y_msg (C : xC p m c cX5_init 3 s args RX5 meth R cells slots D cA) (i qx : Nat) {q : Nat} {kq : yK} {szs : List Value} (hn : n < 1000) (hq : W q = some (kq, .inr (6, szs))) (hs0 : szs[0]? = some (.int (nI n))) (hf : cells + 1 + (0 + 1 + 1) ≤ R.cells ∧ slots + 9 + (0 + n + n) ≤ R.slots) (hR : 2 ≤ R.frames ∧ 60 ≤ R.locals) (hL : L[qx]? = some (1, .ref q)) (hst : ∀ a : Nat, ((Value.ref a :: st).map fun v => v.category).sum ≤ 8)
    (d0 : decode cX5_init pc = .ok (.new 19, 3)) (d1 : decode cX5_init (pc + 3) = .ok (.dup, 1)) (d2 : decode cX5_init (pc + 3 + 1) = .ok (.aload_n 1, 1)) (d3 : decode cX5_init (pc + 3 + 1 + 1) = .ok (.getfield 25, 3)) (d4 : decode cX5_init (pc + 3 + 1 + 1 + 3) = .ok (.invokespecial 28, 3))
    (kk : ∀ (W' : yM) (a b c' : Nat), W a = none → yMsg cA W' n i a b c' → (∀ x q', W x = some q' → W' x = some q') → XW p l e R s m args below meth c (cells + 1 + (0 + 1 + 1)) (slots + 9 + (0 + n + n)) 3 bs Q (yW D bs sb sc W') (pc + 3 + 1 + 1 + 3 + 3) L (.ref a :: st)) : XW p l e R s m args below meth c cells slots 3 bs Q (yW D bs sb sc W) pc L st := by
  refine y_new C cl_X3 (13, i, 0) (fs := dX3) (fun j hj => by rcases (show j = 0 ∨ j = 1 ∨ j = 2 ∨ j = 3 ∨ j = 4 ∨ j = 5 ∨ j = 6 ∨ j = 7 ∨ j = 8 by omega) with rfl | rfl | rfl | rfl | rfl | rfl | rfl | rfl | rfl <;> rfl) cw_X5_19 cn_X3 cz_X3 ⟨by omega, by omega⟩ d0 (fun a ha => ?_)
  have C1 := C.grow (cells' := cells + 1) (slots' := slots + 9) (by omega) (by omega)
  have qa : ¬ q = a := fun e => by rw [e, ha] at hq; cases hq
  refine x_dup C1 d1 rfl ?_
  refine x_aload_n C1 d2 rfl (q := qx) hL ?_
  refine y_get C1 cl_X7 ((yU_o _ _ qa).trans hq) (k := 0) (by decide) fl_X5_25_X7 hs0 d3 ?_
  refine x_callI C1 (k_X3 (n := n) (14, i, 0) (15, i, 0) hn (yU_s _ _ _)) wi_X5_28 rfl (hst a) ⟨⟨rfl, rfl⟩, Nat.le_trans (Nat.le_of_ble_eq_true rfl) hR.1, Nat.le_trans (Nat.le_of_ble_eq_true rfl) hR.2⟩ d4 hf rfl ?_
  refine y_ex (fun b => ?_)
  refine y_ex (fun c' => ?_)
  refine y_and (fun hbc => ?_)
  obtain ⟨g1, g2⟩ := yMsg_new (cA := cA) (n := n) ha hbc.1 hbc.2.1 hbc.2.2
  exact kk _ a b c' ha g1 g2
end POOL2
