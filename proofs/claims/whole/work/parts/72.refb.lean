/-! the reference's constructor, to its end -/
def tg0 : Tg := (fun f k => match f with | 6 => if k < 9 then 1 else 0 | 11 => if k < 32 then -1 else 0 | 23 => if k < 320 then -1 else 0 | _ => 0, fun _ _ => 0)
theorem gI_0 : gI 0 tg0 := by
  refine ⟨fun f j h6 h11 h20 h23 h27 => ?_, fun _ _ => rfl, fun j hj => if_pos hj, fun j hj => if_pos hj, fun j hj => if_pos hj, fun q hq => absurd hq (Nat.not_lt_zero _), fun q hq => absurd hq (Nat.not_lt_zero _)⟩
  unfold tg0
  show (match f with | 6 => if j < 9 then (1 : Int32) else 0 | 11 => if j < 32 then -1 else 0 | 23 => if j < 320 then -1 else 0 | _ => 0) = 0
  split
  · exact absurd rfl h6
  · exact absurd rfl h11
  · exact absurd rfl h23
  · rfl
def cl1 (cA : Nat → ClassId) (f : Nat) : va_E := if f = 23 then .inl (cA 0, 320, .inl (fun k => if k < 320 then -1 else 0)) else if f = 11 then .inl (cA 0, 32, .inl (fun k => if k < 32 then -1 else 0)) else if f = 6 then .inl (cA 2, 9, .inl (fun k => if k < 9 then 1 else 0)) else cl0 cA f
def amO (Am : Nat → Nat) (o f : Nat) : Nat := if f = 0 then o else Am f
/-- both worlds stand -/
theorem both_tell {D : va_G} {cA : Nat → ClassId} {z : Nat → Nat} {M W : yM} {A : Nat → Nat} {P S T : Nat → Nat → Nat} {V : Nat → Nat → Nat → Nat} {Am : Nat → Nat} {o bs sb : Nat} {sc : Cell} {H : Heap} (h : ySt cA z M A P S T V) (hR : yR M W z o Am (cl1 cA)) (hW : yW D bs sb sc W H) :
    xRep (D, cA, stX z A P S T V, amO Am o, bs, sb, sc) z (sg0 z) tg0 H := by
  obtain ⟨r1, r2, r3⟩ := hR
  have hX : ∀ f i j, xdom z f i j → ∃ e, W (stX z A P S T V f i j) = some ((f, i, j), e) ∧ yEq e (xCell (D, cA, stX z A P S T V, amO Am o, bs, sb, sc) z f i j ((sg0 z).1 f i j) ((sg0 z).2.1 f i j) ((sg0 z).2.2 f)) := fun f i j hd => by
    obtain ⟨e, h1, h2⟩ := st_tell (D := D) (am := amO Am o) (bs := bs) (sb := sb) (sc := sc) h hd
    have hf : f ≤ 33 := by
      by_cases q : f ≤ 33
      · exact q
      · have := hd.1
        have e2 : xbI z f = if f ≤ 33 then 1 else 0 := by
          unfold xbI
          split <;> first | omega | rfl
        rw [e2, if_neg q] at this
        exact absurd this (Nat.not_lt_zero _)
    exact ⟨e, r1 _ _ _ _ _ h1 (decide_eq_false (by omega)), h2⟩
  have hm : ∀ f, mB f = true → f = 0 ∨ ¬ mlen f = 0 := fun f hf => by
    unfold mB at hf
    by_cases q : f = 0
    · exact Or.inl q
    · refine Or.inr (fun e => ?_)
      rw [e, beq_false_of_ne q] at hf
      cases hf
  have hY : ∀ f, mB f = true → W (amO Am o f) = some ((100 + f, 0, 0), mCell (D, cA, stX z A P S T V, amO Am o, bs, sb, sc) z f (tg0.1 f) (tg0.2 f)) := fun f hf => by
    rcases hm f hf with rfl | q
    · exact r2
    · have h37 := mlen_le q
      have h0 : ¬ f = 0 := fun e => q (by rw [e]; rfl)
      have e1 : amO Am o f = Am f := if_neg h0
      rw [e1, r3 f q]
      rcases (show f = 0 ∨ f = 1 ∨ f = 2 ∨ f = 3 ∨ f = 4 ∨ f = 5 ∨ f = 6 ∨ f = 7 ∨ f = 8 ∨ f = 9 ∨ f = 10 ∨ f = 11 ∨ f = 12 ∨ f = 13 ∨ f = 14 ∨ f = 15 ∨ f = 16 ∨ f = 17 ∨ f = 18 ∨ f = 19 ∨ f = 20 ∨ f = 21 ∨ f = 22 ∨ f = 23 ∨ f = 24 ∨ f = 25 ∨ f = 26 ∨ f = 27 ∨ f = 28 ∨ f = 29 ∨ f = 30 ∨ f = 31 ∨ f = 32 ∨ f = 33 ∨ f = 34 ∨ f = 35 ∨ f = 36 ∨ f = 37 by omega) with rfl | rfl | rfl | rfl | rfl | rfl | rfl | rfl | rfl | rfl | rfl | rfl | rfl | rfl | rfl | rfl | rfl | rfl | rfl | rfl | rfl | rfl | rfl | rfl | rfl | rfl | rfl | rfl | rfl | rfl | rfl | rfl | rfl | rfl | rfl | rfl | rfl | rfl <;> first | exact absurd rfl q | rfl
  obtain ⟨⟨w1, w2, w3⟩, w4⟩ := hW
  refine ⟨⟨w1, w2, fun f i j f' i' j' h1 h2 he => ?_, fun f f' h1 h2 he => ?_, fun f i j f' h1 h2 he => ?_⟩, fun f i j hd => ?_, fun f hf => w4 _ _ _ (hY f hf)⟩
  · obtain ⟨e1, g1, -⟩ := hX f i j h1
    obtain ⟨e2, g2, -⟩ := hX f' i' j' h2
    change stX z A P S T V f i j = stX z A P S T V f' i' j' at he
    rw [he, g2] at g1
    have := congrArg Prod.fst (Option.some.inj g1)
    exact ⟨congrArg Prod.fst this, congrArg (fun q => q.2.1) this, congrArg (fun q => q.2.2) this⟩
  · have g1 := hY f h1
    have g2 := hY f' h2
    change amO Am o f = amO Am o f' at he
    rw [he, g2] at g1
    have := congrArg (fun q => q.1.1) (Option.some.inj g1)
    change 100 + f' = 100 + f at this
    omega
  · obtain ⟨e1, g1, -⟩ := hX f i j h1
    have g2 := hY f' h2
    change stX z A P S T V f i j = amO Am o f' at he
    rw [he, g2] at g1
    have h5 := congrArg (fun q => q.1.1) (Option.some.inj g1)
    change 100 + f' = f at h5
    have := h1.1
    have e2 : xbI z f = if f ≤ 33 then 1 else 0 := by
      unfold xbI
      split <;> first | omega | rfl
    rw [e2, if_neg (by omega)] at this
    exact absurd this (Nat.not_lt_zero _)
  · obtain ⟨e, g1, g2⟩ := hX f i j hd
    obtain ⟨u1, u2⟩ := w4 _ _ _ g1
    exact ⟨g2 _ _ _ u1, u2⟩
section REFCTOR2
variable {l : Launch} {D : va_G} {cA : Nat → ClassId} {bs sb o : Nat} {sc : Cell} {M : yM} {z : Nat → Nat}
theorem k_X11 {x1 x2 x3 x4 x5 x6 : Int32} {A : Nat → Nat} {P S T : Nat → Nat → Nat} {V : Nat → Nat → Nat → Nat} (hx : nrm x1 1 4 = nI (z 0) ∧ mdd x2 = nI (z 1) ∧ nrm x3 1 16 = nI (z 2) ∧ nrm x4 1 32 = nI (z 3) ∧ nrm x5 1 200 = nI (z 4) ∧ nrm x6 1 200 = nI (z 5)) (ho : M o = some ((100, 0, 0), .inr (10, mfl g0))) (hst : ySt cA z M A P S T V) :
    xMet l D cA bs yX11_init cX11_init 8 none rm_X11i [.ref o, .int x1, .int x2, .int x3, .int x4, .int x5, .int x6] (yW D bs sb sc M)
    (fun H => ∃ Am τ, (gI 5 τ ∧ Am 0 = o) ∧ xRep (D, cA, stX z A P S T V, Am, bs, sb, sc) z (sg0 z) τ H) none 27 13817 := by
  refine xMet.of RX11 rfl (by decide +kernel) (Nat.le_of_ble_eq_true rfl) ?_
  intro p e s m args below meth c C hr hnm
  refine x_sub (L' := [(0, .ref o), (1, .int x1), (2, .int x2), (3, .int x3), (4, .int x4), (5, .int x5), (6, .int x6)]) [0, 1, 2, 3, 4, 5, 6] rfl ?_
  refine i_X11_a C hnm hx ho (fun W Am hR => ?_)
  have C1 := C.grow (cells' := 27) (slots' := 13817) (Nat.le_of_ble_eq_true rfl) (Nat.le_of_ble_eq_true rfl)
  -- forget
  have hlF : ∀ (j k : Nat) (τ : Tg), k + j = 5 → gI k τ → XW p l e rm_X11i s m args below meth c 27 13817 8 bs (xQ below args s bs none (fun H => ∃ Am τ, (gI 5 τ ∧ Am 0 = o) ∧ xRep (D, cA, stX z A P S T V, Am, bs, sb, sc) z (sg0 z) τ H) 27 13817) (xRep (D, cA, stX z A P S T V, amO Am o, bs, sb, sc) z (sg0 z) τ) 389 [(0, .ref o), (1, .int x1), (2, .int x2), (3, .int x3), (4, .int x4), (5, .int x5), (6, .int x6), (7, .int (nI k))] [] := by
    intro j
    induction j with
    | zero =>
      intro k τ hk hg
      have hk : k = 5 := by omega
      subst hk
      refine x_iload C1 dX11_init_389 (q := 7) rfl ?_
      refine x_iconst C1 (v := 5) dX11_init_391 (by decide) ?_
      refine x_icmp_ge C1 (tgt := 407) (A := some ()) (B := none) (rr := ()) dX11_init_392 (by decide) (if_pos (by decide)) (fun _ _ => ?_) (fun _ h => by cases h)
      exact xr_v C1 hr dX11_init_407 (fun H h => ⟨_, τ, ⟨hg, rfl⟩, h⟩)
    | succ j ih =>
      intro k τ hk hg
      obtain ⟨τ', h1, h2⟩ := gI_forget (z := z) (show k < 5 by omega) hg
      refine x_iload C1 dX11_init_389 (q := 7) rfl ?_
      refine x_iconst C1 (v := 5) dX11_init_391 (by decide) ?_
      refine x_icmp_ge C1 (tgt := 407) (A := none) (B := some ()) (rr := ()) dX11_init_392 (by decide) (if_neg (show ¬ nI 5 ≤ nI k from nI_ge (by omega) (by omega))) (fun _ h => by cases h) (fun _ _ => ?_)
      refine x_aload_n C1 dX11_init_395 rfl (q := 0) rfl ?_
      refine x_iload C1 dX11_init_396 (q := 7) rfl ?_
      refine x_callV_v (D := D) (cA := cA) C1 (m_X11_forget (G := (D, cA, stX z A P S T V, amO Am o, bs, sb, sc)) (σ := sg0 z) h1) wv_X11_116 (m_recv (G := (D, cA, stX z A P S T V, amO Am o, bs, sb, sc)) C1.2.2.2 cl_X11 rfl) rfl (Nat.le_of_ble_eq_true rfl) ⟨⟨rfl, rfl⟩, Nat.le_of_ble_eq_true rfl, Nat.le_of_ble_eq_true rfl⟩ dX11_init_398 rfl ?_
      refine x_iinc C1 (v := nI (k + 1)) (L' := [(7, .int (nI (k + 1))), (0, .ref o), (1, .int x1), (2, .int x2), (3, .int x3), (4, .int x4), (5, .int x5), (6, .int x6)]) dX11_init_401 (k := 7) rfl (by rw [nI_succ]; rfl) (by decide) rfl ?_
      refine x_goto C1 (tgt := 389) dX11_init_404 (by decide) ?_
      exact x_sub [1, 2, 3, 4, 5, 6, 7, 0] rfl (ih (k + 1) τ' (by omega) h2)
  -- the third fill
  have hl3 : ∀ (E : Nat → va_E), (fun i => if i = 23 then Sum.inl (cA 0, 320, Sum.inl (fun k => if k < 320 then (-1 : Int32) else 0)) else E i) = cl1 cA → ∀ (j k : Nat) (W : yM), k + j = 320 → yR M W z o Am (fun i => if i = 23 then .inl (cA 0, 320, .inl (fun k' => if k' < k then -1 else 0)) else E i) → XW p l e rm_X11i s m args below meth c 27 13817 8 bs (xQ below args s bs none (fun H => ∃ Am τ, (gI 5 τ ∧ Am 0 = o) ∧ xRep (D, cA, stX z A P S T V, Am, bs, sb, sc) z (sg0 z) τ H) 27 13817) (yW D bs sb sc W) 364 [(0, .ref o), (1, .int x1), (2, .int x2), (3, .int x3), (4, .int x4), (5, .int x5), (6, .int x6), (7, .int (nI k))] [] := by
    intro E hE j
    induction j with
    | zero =>
      intro k W hk hR
      have hk : k = 320 := by omega
      subst hk
      refine x_iload C1 dX11_init_364 (q := 7) rfl ?_
      refine x_sipush C1 (v := nI 320) dX11_init_366 (by decide) ?_
      refine x_icmp_ge C1 (tgt := 386) (A := some ()) (B := none) (rr := ()) dX11_init_369 (by decide) (if_pos (by decide)) (fun _ _ => ?_) (fun _ h => by cases h)
      refine x_iconst C1 (v := 0) dX11_init_386 (by decide) ?_
      refine x_istore C1 (L' := [(7, .int 0), (0, .ref o), (1, .int x1), (2, .int x2), (3, .int x3), (4, .int x4), (5, .int x5), (6, .int x6)]) dX11_init_387 (by decide) rfl ?_
      rw [hE] at hR
      refine x_imp (fun H hH => both_tell hst hR hH) ?_
      exact x_sub [1, 2, 3, 4, 5, 6, 7, 0] rfl (hlF 5 0 tg0 (by omega) gI_0)
    | succ j ih =>
      intro k W hk hR
      refine x_iload C1 dX11_init_364 (q := 7) rfl ?_
      refine x_sipush C1 (v := nI 320) dX11_init_366 (by decide) ?_
      refine x_icmp_ge C1 (tgt := 386) (A := none) (B := some ()) (rr := ()) dX11_init_369 (by decide) (if_neg (nI_ge (show k < 320 by omega) (by omega))) (fun _ h => by cases h) (fun _ _ => ?_)
      refine x_aload_n C1 dX11_init_372 rfl (q := 0) rfl ?_
      refine y_get C1 cl_X11 hR.2.1 (k := 23) (by decide) fl_X11_63_X11 (mfl_get _ (by decide)) dX11_init_373 ?_
      refine x_iload C1 dX11_init_376 (q := 7) rfl ?_
      refine x_iconst C1 (v := -1) dX11_init_378 (by decide) ?_
      refine y_iast C1 (hR.2.2 23 (by decide)) (show k < 320 by omega) (by omega) dX11_init_379 ?_
      have hR' := hR.upd (f := 23) (.inl (cA 0, 320, .inl (fun k' => if k' = k then -1 else if k' < k then -1 else 0))) (by decide) (by decide)
      rw [ite_ite, fun_fill] at hR'
      rw [fun_fill]
      refine x_iinc C1 (v := nI (k + 1)) (L' := [(7, .int (nI (k + 1))), (0, .ref o), (1, .int x1), (2, .int x2), (3, .int x3), (4, .int x4), (5, .int x5), (6, .int x6)]) dX11_init_380 (k := 7) rfl (by rw [nI_succ]; rfl) (by decide) rfl ?_
      refine x_goto C1 (tgt := 364) dX11_init_383 (by decide) ?_
      exact x_sub [1, 2, 3, 4, 5, 6, 7, 0] rfl (ih (k + 1) _ (by omega) hR')
  have hl2 : ∀ (E : Nat → va_E), E = (fun i => if i = 6 then Sum.inl (cA 2, 9, Sum.inl (fun k => if k < 9 then (1 : Int32) else 0)) else cl0 cA i) → ∀ (j k : Nat) (W : yM), k + j = 32 → yR M W z o Am (fun i => if i = 11 then .inl (cA 0, 32, .inl (fun k' => if k' < k then -1 else 0)) else E i) → XW p l e rm_X11i s m args below meth c 27 13817 8 bs (xQ below args s bs none (fun H => ∃ Am τ, (gI 5 τ ∧ Am 0 = o) ∧ xRep (D, cA, stX z A P S T V, Am, bs, sb, sc) z (sg0 z) τ H) 27 13817) (yW D bs sb sc W) 340 [(0, .ref o), (1, .int x1), (2, .int x2), (3, .int x3), (4, .int x4), (5, .int x5), (6, .int x6), (7, .int (nI k))] [] := by
    intro E hE j
    induction j with
    | zero =>
      intro k W hk hR
      have hk : k = 32 := by omega
      subst hk
      refine x_iload C1 dX11_init_340 (q := 7) rfl ?_
      refine x_bipush C1 (v := nI 32) dX11_init_342 (by decide) ?_
      refine x_icmp_ge C1 (tgt := 361) (A := some ()) (B := none) (rr := ()) dX11_init_344 (by decide) (if_pos (by decide)) (fun _ _ => ?_) (fun _ h => by cases h)
      refine x_iconst C1 (v := 0) dX11_init_361 (by decide) ?_
      refine x_istore C1 (L' := [(7, .int 0), (0, .ref o), (1, .int x1), (2, .int x2), (3, .int x3), (4, .int x4), (5, .int x5), (6, .int x6)]) dX11_init_362 (by decide) rfl ?_
      refine x_sub [1, 2, 3, 4, 5, 6, 7, 0] rfl (hl3 (fun i => if i = 11 then .inl (cA 0, 32, .inl (fun k' => if k' < 32 then -1 else 0)) else E i) (by rw [hE]; rfl) 320 0 W (by omega) ?_)
      refine ⟨hR.1, hR.2.1, fun f hf => ?_⟩
      rw [hR.2.2 f hf]
      by_cases q : f = 23
      · subst q
        rw [hE]
        rfl
      · exact congrArg (fun x => some (((100 + f, 0, 0) : yK), x)) (if_neg q).symm
    | succ j ih =>
      intro k W hk hR
      refine x_iload C1 dX11_init_340 (q := 7) rfl ?_
      refine x_bipush C1 (v := nI 32) dX11_init_342 (by decide) ?_
      refine x_icmp_ge C1 (tgt := 361) (A := none) (B := some ()) (rr := ()) dX11_init_344 (by decide) (if_neg (nI_ge (show k < 32 by omega) (by omega))) (fun _ h => by cases h) (fun _ _ => ?_)
      refine x_aload_n C1 dX11_init_347 rfl (q := 0) rfl ?_
      refine y_get C1 cl_X11 hR.2.1 (k := 11) (by decide) fl_X11_27_X11 (mfl_get _ (by decide)) dX11_init_348 ?_
      refine x_iload C1 dX11_init_351 (q := 7) rfl ?_
      refine x_iconst C1 (v := -1) dX11_init_353 (by decide) ?_
      refine y_iast C1 (hR.2.2 11 (by decide)) (show k < 32 by omega) (by omega) dX11_init_354 ?_
      have hR' := hR.upd (f := 11) (.inl (cA 0, 32, .inl (fun k' => if k' = k then -1 else if k' < k then -1 else 0))) (by decide) (by decide)
      rw [ite_ite, fun_fill] at hR'
      rw [fun_fill]
      refine x_iinc C1 (v := nI (k + 1)) (L' := [(7, .int (nI (k + 1))), (0, .ref o), (1, .int x1), (2, .int x2), (3, .int x3), (4, .int x4), (5, .int x5), (6, .int x6)]) dX11_init_355 (k := 7) rfl (by rw [nI_succ]; rfl) (by decide) rfl ?_
      refine x_goto C1 (tgt := 340) dX11_init_358 (by decide) ?_
      exact x_sub [1, 2, 3, 4, 5, 6, 7, 0] rfl (ih (k + 1) _ (by omega) hR')
  have hl1 : ∀ (j k : Nat) (W : yM), k + j = 9 → yR M W z o Am (fun i => if i = 6 then .inl (cA 2, 9, .inl (fun k' => if k' < k then 1 else 0)) else cl0 cA i) → XW p l e rm_X11i s m args below meth c 27 13817 8 bs (xQ below args s bs none (fun H => ∃ Am τ, (gI 5 τ ∧ Am 0 = o) ∧ xRep (D, cA, stX z A P S T V, Am, bs, sb, sc) z (sg0 z) τ H) 27 13817) (yW D bs sb sc W) 316 [(0, .ref o), (1, .int x1), (2, .int x2), (3, .int x3), (4, .int x4), (5, .int x5), (6, .int x6), (7, .int (nI k))] [] := by
    intro j
    induction j with
    | zero =>
      intro k W hk hR
      have hk : k = 9 := by omega
      subst hk
      refine x_iload C1 dX11_init_316 (q := 7) rfl ?_
      refine x_bipush C1 (v := nI 9) dX11_init_318 (by decide) ?_
      refine x_icmp_ge C1 (tgt := 337) (A := some ()) (B := none) (rr := ()) dX11_init_320 (by decide) (if_pos (by decide)) (fun _ _ => ?_) (fun _ h => by cases h)
      refine x_iconst C1 (v := 0) dX11_init_337 (by decide) ?_
      refine x_istore C1 (L' := [(7, .int 0), (0, .ref o), (1, .int x1), (2, .int x2), (3, .int x3), (4, .int x4), (5, .int x5), (6, .int x6)]) dX11_init_338 (by decide) rfl ?_
      refine x_sub [1, 2, 3, 4, 5, 6, 7, 0] rfl (hl2 _ rfl 32 0 W (by omega) ?_)
      refine ⟨hR.1, hR.2.1, fun f hf => ?_⟩
      rw [hR.2.2 f hf]
      by_cases q : f = 11
      · subst q
        rfl
      · exact congrArg (fun x => some (((100 + f, 0, 0) : yK), x)) (if_neg q).symm
    | succ j ih =>
      intro k W hk hR
      refine x_iload C1 dX11_init_316 (q := 7) rfl ?_
      refine x_bipush C1 (v := nI 9) dX11_init_318 (by decide) ?_
      refine x_icmp_ge C1 (tgt := 337) (A := none) (B := some ()) (rr := ()) dX11_init_320 (by decide) (if_neg (nI_ge (show k < 9 by omega) (by omega))) (fun _ h => by cases h) (fun _ _ => ?_)
      refine x_aload_n C1 dX11_init_323 rfl (q := 0) rfl ?_
      refine y_get C1 cl_X11 hR.2.1 (k := 6) (by decide) fl_X11_7_X11 (mfl_get _ (by decide)) dX11_init_324 ?_
      refine x_iload C1 dX11_init_327 (q := 7) rfl ?_
      refine x_iconst C1 (v := 1) dX11_init_329 (by decide) ?_
      refine y_bast C1 (Or.inr rfl) (hR.2.2 6 (by decide)) (show k < 9 by omega) (by omega) dX11_init_330 ?_
      have hR' := hR.upd (f := 6) (.inl (cA 2, 9, .inl (fun k' => if k' = k then 1 else if k' < k then 1 else 0))) (by decide) (by decide)
      rw [ite_ite, fun_fill] at hR'
      rw [fun_fill]
      refine x_iinc C1 (v := nI (k + 1)) (L' := [(7, .int (nI (k + 1))), (0, .ref o), (1, .int x1), (2, .int x2), (3, .int x3), (4, .int x4), (5, .int x5), (6, .int x6)]) dX11_init_331 (k := 7) rfl (by rw [nI_succ]; rfl) (by decide) rfl ?_
      refine x_goto C1 (tgt := 316) dX11_init_334 (by decide) ?_
      exact x_sub [1, 2, 3, 4, 5, 6, 7, 0] rfl (ih (k + 1) _ (by omega) hR')
  refine x_iconst C1 (v := 0) dX11_init_313 (by decide) ?_
  refine x_istore C1 (L' := [(7, .int 0), (0, .ref o), (1, .int x1), (2, .int x2), (3, .int x3), (4, .int x4), (5, .int x5), (6, .int x6)]) dX11_init_314 (by decide) rfl ?_
  refine x_sub [1, 2, 3, 4, 5, 6, 7, 0] rfl (hl1 9 0 W (by omega) ⟨hR.1, hR.2.1, fun f hf => ?_⟩)
  rw [hR.2.2 f hf]
  by_cases q : f = 6
  · subst q
    rfl
  · exact congrArg (fun x => some (((100 + f, 0, 0) : yK), x)) (if_neg q).symm
end REFCTOR2
