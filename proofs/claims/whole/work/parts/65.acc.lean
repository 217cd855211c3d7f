/-! Acceptor's constructor -/
/-- all cells stand as they were, but for those of some families -/
def yF (B : Nat → Bool) (W W' : yM) : Prop := ∀ x f i j e, W x = some ((f, i, j), e) → B f = false → W' x = some ((f, i, j), e)
theorem yF.refl (B : Nat → Bool) (W : yM) : yF B W W := fun _ _ _ _ _ h _ => h
theorem yF.trans {B : Nat → Bool} {W W' W'' : yM} (h : yF B W W') (h' : yF B W' W'') : yF B W W'' := fun x f i j e hx hf => h' x f i j e (h x f i j e hx hf) hf
theorem yF.set {B : Nat → Bool} {W : yM} {a f0 i0 j0 : Nat} {e0 : va_E} {q : yK × va_E} (ha : W a = some ((f0, i0, j0), e0)) (hB : B f0 = true) : yF B W (yU W a q) := fun x f i j e hx hf => by
  have : ¬ x = a := fun h => by
    rw [h, ha] at hx
    cases hx
    rw [hB] at hf
    cases hf
  exact (yU_o _ _ this).trans hx
theorem yF.ext {B : Nat → Bool} {W W' : yM} (h : ∀ x q, W x = some q → W' x = some q) : yF B W W' := fun x f i j e hx _ => h x _ hx
theorem yX.ext {W W' : yM} {a : Nat} {q : yK × va_E} (ha : W a = none) (h : yX (yU W a q) W' a) : ∀ x q, W x = some q → W' x = some q := fun x q' hx => by
  have : ¬ x = a := fun e => by rw [e, ha] at hx; cases hx
  exact h x q' ((yU_o _ _ this).trans hx) this
/-- a view stands -/
def yVw (cA : Nat → ClassId) (W : yM) (n : Nat) (v : Int32) (i t : Nat) (A : Nat → Nat) : Prop :=
  W (A 27) = some ((27, i, t), .inr (8, [.int v, .int 0, .int v, .int 0, .int 0, .ref (A 28), .ref (A 29), .ref (A 30), .ref (A 31), .ref (A 32), .ref (A 33)])) ∧
  W (A 28) = some ((28, i, t), .inl (cA 0, n, .inl (fun j => if j < n then -1 else 0))) ∧ W (A 29) = some ((29, i, t), .inl (cA 0, n, .inl (fun _ => 0))) ∧
  W (A 30) = some ((30, i, t), .inl (cA 0, n, .inl (fun j => if j < n then -1 else 0))) ∧ W (A 31) = some ((31, i, t), .inl (cA 0, n, .inl (fun _ => 0))) ∧
  W (A 32) = some ((32, i, t), .inl (cA 0, n, .inl (fun _ => 0))) ∧ W (A 33) = some ((33, i, t), .inl (cA 0, n, .inl (fun _ => 0)))
theorem yVw.keep {cA : Nat → ClassId} {W W' : yM} {n : Nat} {v : Int32} {i t : Nat} {A : Nat → Nat} {B : Nat → Bool} (h : yVw cA W n v i t A) (hF : yF B W W') (hB : ∀ f, 27 ≤ f → f ≤ 33 → B f = false) : yVw cA W' n v i t A := by
  obtain ⟨h1, h2, h3, h4, h5, h6, h7⟩ := h
  exact ⟨hF _ _ _ _ _ h1 (hB _ (by decide) (by decide)), hF _ _ _ _ _ h2 (hB _ (by decide) (by decide)), hF _ _ _ _ _ h3 (hB _ (by decide) (by decide)), hF _ _ _ _ _ h4 (hB _ (by decide) (by decide)), hF _ _ _ _ _ h5 (hB _ (by decide) (by decide)), hF _ _ _ _ _ h6 (hB _ (by decide) (by decide)), hF _ _ _ _ _ h7 (hB _ (by decide) (by decide))⟩
def vA (a a5 a6 a7 a8 a9 a10 : Nat) (f : Nat) : Nat := match f with | 27 => a | 28 => a5 | 29 => a6 | 30 => a7 | 31 => a8 | 32 => a9 | 33 => a10 | _ => 0
def b26 (f : Nat) : Bool := f == 26
theorem b26_v : ∀ f, 27 ≤ f → f ≤ 33 → b26 f = false := fun f h1 _ => beq_false_of_ne (by omega)
/-- the array of the views, t of them made, and these -/
def yVs (cA : Nat → ClassId) (W : yM) (n T t i ar : Nat) (v : Int32) (V : Nat → Nat → Nat) : Prop :=
  W ar = some ((26, i, 0), .inl (cA 8, T, .inr (.inr (.inr (.inr (fun k => if k < t then some (V k 27) else none)))))) ∧ ∀ k, k < t → yVw cA W n v i k (V k)
theorem yVs.keep {cA : Nat → ClassId} {W W' : yM} {n T t i ar : Nat} {v : Int32} {V : Nat → Nat → Nat} {B : Nat → Bool} (h : yVs cA W n T t i ar v V) (hF : yF B W W') (hB : ∀ f, 26 ≤ f → f ≤ 33 → B f = false) : yVs cA W' n T t i ar v V :=
  ⟨hF _ _ _ _ _ h.1 (hB _ (by decide) (by decide)), fun k hk => (h.2 k hk).keep hF (fun f h1 h2 => hB f (by omega) h2)⟩
theorem fun_ite (k : Nat) (V : Nat → Nat → Nat) (A : Nat → Nat) (f : Nat) : (fun k' => if k' = k then some (A f) else if k' < k then some (V k' f) else none) = fun k' => if k' < k + 1 then some ((if k' = k then A else V k') f) else none := by
  funext k'
  by_cases e : k' = k
  · rw [if_pos e, if_pos (by omega), if_pos e]
  · by_cases e2 : k' < k
    · rw [if_neg e, if_pos e2, if_pos (by omega), if_neg e]
    · rw [if_neg e, if_neg e2, if_neg (by omega)]
theorem yVs.add {cA : Nat → ClassId} {W W' : yM} {n T t i ar : Nat} {v : Int32} {V : Nat → Nat → Nat} {A : Nat → Nat} (h : yVs cA W n T t i ar v V) (hW : ∀ x q, W x = some q → W' x = some q) (hA : yVw cA W' n v i t A) :
    yVs cA (yU W' ar ((26, i, 0), .inl (cA 8, T, .inr (.inr (.inr (.inr (fun k' => if k' = t then some (A 27) else if k' < t then some (V k' 27) else none))))))) n T (t + 1) i ar v (fun k => if k = t then A else V k) := by
  have hF : yF b26 W' (yU W' ar ((26, i, 0), .inl (cA 8, T, .inr (.inr (.inr (.inr (fun k' => if k' = t then some (A 27) else if k' < t then some (V k' 27) else none))))))) := yF.set (hW _ _ h.1) rfl
  refine ⟨?_, fun k hk => ?_⟩
  · rw [yU_s, fun_ite]
  · by_cases e : k = t
    · subst e
      rw [show (fun k' => if k' = k then A else V k') k = A from if_pos rfl]
      exact hA.keep hF b26_v
    · rw [show (fun k' => if k' = t then A else V k') k = V k from if_neg e]
      exact ((h.2 k (by omega)).keep (yF.ext hW) b26_v).keep hF b26_v
section XGEN
variable {p : Program} {l : Launch} {e : Env} {R : Room} {s : State} {m : MethodId} {args : Array Value} {below : List Frame} {meth : Method} {c : Code} {cells slots nL bs sb : Nat} {Q : State → Prop} {sc : Cell} {D : va_G} {pc : Nat} {L : List (Nat × Value)} {st : List Value}
theorem x_gen {P : yM → Prop} {W : yM} (h : P W) (kk : ∀ W', P W' → XW p l e R s m args below meth c cells slots nL bs Q (yW D bs sb sc W') pc L st) : XW p l e R s m args below meth c cells slots nL bs Q (yW D bs sb sc W) pc L st := kk W h
end XGEN
/-- an acceptor stands -/
def yAc (cA : Nat → ClassId) (W : yM) (n T g num i q tx pl : Nat) (A : Nat → Nat) (V : Nat → Nat → Nat) : Prop :=
  W (A 25) = some ((25, i, 0), .inr (0, [.int (nI num), .ref q, .ref pl, .ref (A 18), .int 1, .ref (A 26), .int (nI i), .ref tx])) ∧
  W (A 18) = some ((18, num, 0), .inr (2, [.ref (A 19), .int 0])) ∧
  W (A 19) = some ((19, num, 0), .inl (cA 3, g, .inr (.inr (.inr (.inr (fun i => if i < g then some (A 19 + 1 + i) else none)))))) ∧
  (∀ j, j < g → W (A 19 + 1 + j) = some ((20, num, j), .inl (cA 0, 4, .inl (fun _ => 0)))) ∧ yVs cA W n T T i (A 26) (if i = 0 then 0 else -1) V
def acA (o g a ar : Nat) (f : Nat) : Nat := match f with | 25 => o | 18 => g | 19 => a | 26 => ar | _ => 0
theorem yAc.keep {cA : Nat → ClassId} {W W' : yM} {n T g num i q tx pl : Nat} {A : Nat → Nat} {V : Nat → Nat → Nat} {B : Nat → Bool} (h : yAc cA W n T g num i q tx pl A V) (hF : yF B W W') (hB : ∀ f, 18 ≤ f → f ≤ 33 → ¬ f = 24 → B f = false) : yAc cA W' n T g num i q tx pl A V := by
  obtain ⟨h1, h2, h3, h4, h5⟩ := h
  exact ⟨hF _ _ _ _ _ h1 (hB _ (by decide) (by decide) (by decide)), hF _ _ _ _ _ h2 (hB _ (by decide) (by decide) (by decide)), hF _ _ _ _ _ h3 (hB _ (by decide) (by decide) (by decide)), fun j hj => hF _ _ _ _ _ (h4 j hj) (hB _ (by decide) (by decide) (by decide)), h5.keep hF (fun f h1 h2 => hB f (by omega) h2 (by omega))⟩
def rm_X0i (n T g : Nat) : Room := { frames := 3, cells := 0 + (0 + 1 + (0 + 1 + g)) + 1 + T * 7, slots := 0 + (0 + 2 + (0 + g + g * 4)) + T + T * (11 + 6 * n), locals := 90 }
/-- what Node's constructor adds -/
theorem n_chain {cA : Nat → ClassId} {M : yM} {o n g a : Nat} {key kl k1 : yK} {ik : Nat → yK} {e0 : yK × va_E} {E : va_E} (ho : M o = some e0) (hf : M g = none ∧ ¬ g = o ∧ g < a ∧ ∀ b, a ≤ b → M b = none) :
    yX M (yU (yU (yMna (yU M g (kl, .inr (2, [.null, .int 0]))) k1 ik (cA 3) (cA 0) n (4, .inl (fun _ => 0)) a) g (kl, .inr (2, [.ref a, .int 0]))) o (key, E)) o ∧
    (yU (yU (yMna (yU M g (kl, .inr (2, [.null, .int 0]))) k1 ik (cA 3) (cA 0) n (4, .inl (fun _ => 0)) a) g (kl, .inr (2, [.ref a, .int 0]))) o (key, E)) o = some (key, E) ∧
    (yU (yU (yMna (yU M g (kl, .inr (2, [.null, .int 0]))) k1 ik (cA 3) (cA 0) n (4, .inl (fun _ => 0)) a) g (kl, .inr (2, [.ref a, .int 0]))) o (key, E)) g = some (kl, .inr (2, [.ref a, .int 0])) ∧
    (yU (yU (yMna (yU M g (kl, .inr (2, [.null, .int 0]))) k1 ik (cA 3) (cA 0) n (4, .inl (fun _ => 0)) a) g (kl, .inr (2, [.ref a, .int 0]))) o (key, E)) a = some (k1, .inl (cA 3, n, .inr (.inr (.inr (.inr (fun i => if i < n then some (a + 1 + i) else none)))))) ∧
    ∀ j, j < n → (yU (yU (yMna (yU M g (kl, .inr (2, [.null, .int 0]))) k1 ik (cA 3) (cA 0) n (4, .inl (fun _ => 0)) a) g (kl, .inr (2, [.ref a, .int 0]))) o (key, E)) (a + 1 + j) = some (ik j, .inl (cA 0, 4, .inl (fun _ => 0))) := by
  obtain ⟨hg, hgo, hga, hA⟩ := hf
  have lt : ∀ {x : Nat} {q}, M x = some q → x < a := fun {x q} hx => by
    by_cases h : a ≤ x
    · rw [hA x h] at hx; cases hx
    · omega
  have hoa := lt ho
  refine ⟨fun x q hx hxo => ?_, yU_s _ _ _, (yU_o _ _ hgo).trans (yU_s _ _ _), (yU_o _ _ (by omega)).trans ((yU_o _ _ (by omega)).trans (if_pos rfl)), fun j hj => (yU_o _ _ (by omega)).trans ((yU_o _ _ (by omega)).trans ?_)⟩
  · have hxg : ¬ x = g := fun e => by rw [e, hg] at hx; cases hx
    exact (yU_o _ _ hxo).trans ((yU_o _ _ hxg).trans ((yMna_o (lt hx)).trans ((yU_o _ _ hxg).trans hx)))
  · unfold yMna
    rw [if_neg (by omega), if_pos (by omega), show a + 1 + j - (a + 1) = j by omega]
section ACCEPTOR
variable {l : Launch} {D : va_G} {cA : Nat → ClassId} {bs sb o n T g : Nat} {sc : Cell} {M : yM}
theorem k_X0 {i q tx pl : Nat} {kq : yK} {szs : List Value} (hn : n < 1000) (hT : T < 1000) (hg : g < 1000) (hi : i < 1000) (ho : M o = some ((25, i, 0), .inr (0, dX0))) (hq : M q = some (kq, .inr (6, szs))) (hs0 : szs[0]? = some (.int (nI n))) (hs2 : szs[2]? = some (.int (nI T))) (hs5 : szs[5]? = some (.int (nI g))) :
    xMet l D cA bs yX0_init cX0_init 6 none (rm_X0i n T g) [.ref o, .int (nI i), .ref q, .ref tx, .ref pl] (yW D bs sb sc M)
    (fun H => ∃ M' A V, (yX M M' o ∧ A 25 = o ∧ yAc cA M' n T g (n + i) i q tx pl A V) ∧ yW D bs sb sc M' H) none (0 + (0 + 1 + (0 + 1 + g)) + 1 + T * 7) (0 + (0 + 2 + (0 + g + g * 4)) + T + T * (11 + 6 * n)) := by
  refine xMet.of RX0 rfl (by decide +kernel) (Nat.le_of_ble_eq_true rfl) ?_
  intro p e s m args below meth c C hr hnm
  have hqo : ¬ q = o := fun e => by
    rw [e, ho] at hq
    cases hq
  generalize hZ : 11 + 6 * n = Z
  have hMC : (rm_X0i n T g).cells = 0 + (0 + 1 + (0 + 1 + g)) + 1 + T * 7 := rfl
  have hMS : (rm_X0i n T g).slots = 0 + (0 + 2 + (0 + g + g * 4)) + T + T * Z := by rw [← hZ]; rfl
  refine x_sub (L' := [(0, .ref o), (1, .int (nI i)), (2, .ref q), (3, .ref tx), (4, .ref pl)]) [0, 1, 2, 3, 4] rfl ?_
  refine x_aload_n C dX0_init_0 rfl (q := 0) rfl ?_
  refine x_aload_n C dX0_init_1 rfl (q := 2) rfl ?_
  refine y_get C cl_X7 hq (k := 0) (by decide) fl_X0_3_X7 hs0 dX0_init_2 ?_
  refine x_iload_n C dX0_init_5 rfl (q := 1) rfl ?_
  refine x_iadd C dX0_init_6 ?_
  rw [nI_add]
  refine x_aload_n C dX0_init_7 rfl (q := 2) rfl ?_
  refine x_aload C dX0_init_8 (q := 4) rfl ?_
  refine x_callI C (k_X4_X0 (n := g) (18, n + i, 0) (19, n + i, 0) (fun j => (20, n + i, j)) hg ho hq hs5) wi_X0_9 rfl (Nat.le_of_ble_eq_true rfl) ⟨⟨rfl, rfl⟩, Nat.le_of_ble_eq_true rfl, Nat.le_of_ble_eq_true rfl⟩ dX0_init_10 ⟨by rw [hMC]; omega, by rw [hMS]; omega⟩ rfl ?_
  have C1 := C.grow (cells' := 0 + (0 + 1 + (0 + 1 + g))) (slots' := 0 + (0 + 2 + (0 + g + g * 4))) (by rw [hMC]; omega) (by rw [hMS]; omega)
  refine y_ex (fun lg => ?_)
  refine y_ex (fun la => ?_)
  refine y_and (fun hf => ?_)
  refine x_gen (P := fun W => yX M W o ∧ W o = some ((25, i, 0), .inr (0, [.int (nI (n + i)), .ref q, .ref pl, .ref lg, .int 1, .null, .int 0, .null])) ∧ W lg = some ((18, n + i, 0), .inr (2, [.ref la, .int 0])) ∧ W la = some ((19, n + i, 0), .inl (cA 3, g, .inr (.inr (.inr (.inr (fun i => if i < g then some (la + 1 + i) else none)))))) ∧ ∀ j, j < g → W (la + 1 + j) = some ((20, n + i, j), .inl (cA 0, 4, .inl (fun _ => 0)))) (n_chain ho hf) (fun M1 hM1 => ?_)
  obtain ⟨e1, e2, e3, e4, e5⟩ := hM1
  refine x_aload_n C1 dX0_init_13 rfl (q := 0) rfl ?_
  refine x_iload_n C1 dX0_init_14 rfl (q := 1) rfl ?_
  refine y_putF C1 cl_X0 e2 (k := 6) (by decide) fl_X0_15_X0 rfl hnm rfl rfl rfl (Nat.le_of_ble_eq_true rfl) dX0_init_15 ?_
  refine x_aload_n C1 dX0_init_18 rfl (q := 0) rfl ?_
  refine x_aload_n C1 dX0_init_19 rfl (q := 3) rfl ?_
  refine y_putF C1 cl_X0 (yU_s _ _ _) (k := 7) (by decide) fl_X0_20_X0 rfl hnm rfl rfl rfl (Nat.le_of_ble_eq_true rfl) dX0_init_20 ?_
  rw [yU_yU]
  refine x_aload_n C1 dX0_init_23 rfl (q := 0) rfl ?_
  refine x_aload_n C1 dX0_init_24 rfl (q := 2) rfl ?_
  refine y_get C1 cl_X7 ((yU_o _ _ hqo).trans (e1 q _ hq hqo)) (k := 2) (by decide) fl_X0_24_X7 hs2 dX0_init_25 ?_
  refine y_newq C1 (26, i, 0) 8 rfl cw_X0_26 (by decide) (by omega) (by omega) ⟨by rw [hMC]; omega, by rw [hMS]; omega⟩ dX0_init_28 (fun ar har => ?_)
  obtain ⟨haro, har⟩ := yU_none har
  have C2 := C.grow (cells' := 0 + (0 + 1 + (0 + 1 + g)) + 1) (slots' := 0 + (0 + 2 + (0 + g + g * 4)) + T) (by rw [hMC]; omega) (by rw [hMS]; omega)
  refine y_putF C2 cl_X0 ((yU_o _ _ (fun e => haro e.symm)).trans (yU_s _ _ _)) (k := 5) (by decide) fl_X0_28_X0 rfl hnm rfl rfl rfl (Nat.le_of_ble_eq_true rfl) dX0_init_31 ?_
  rw [y_canon haro]
  refine x_iconst C2 (v := 0) dX0_init_34 (by decide) ?_
  refine x_istore C2 (L' := [(5, .int 0), (0, .ref o), (1, .int (nI i)), (2, .ref q), (3, .ref tx), (4, .ref pl)]) dX0_init_35 (by decide) rfl ?_
  generalize hv : (if i = 0 then (0 : Int32) else -1) = v
  have hl : ∀ (j k cells slots : Nat) (W : yM) (V : Nat → Nat → Nat), k + j = T → cells + 7 * j = 0 + (0 + 1 + (0 + 1 + g)) + 1 + T * 7 → slots + Z * j = 0 + (0 + 2 + (0 + g + g * 4)) + T + T * Z → yX M1 W o → W o = some ((25, i, 0), .inr (0, [.int (nI (n + i)), .ref q, .ref pl, .ref lg, .int 1, .ref ar, .int (nI i), .ref tx])) → yVs cA W n T k i ar v V →
      XW p l e (rm_X0i n T g) s m args below meth c cells slots 6 bs (xQ below args s bs none (fun H => ∃ M' A V, (yX M M' o ∧ A 25 = o ∧ yAc cA M' n T g (n + i) i q tx pl A V) ∧ yW D bs sb sc M' H) (0 + (0 + 1 + (0 + 1 + g)) + 1 + T * 7) (0 + (0 + 2 + (0 + g + g * 4)) + T + T * Z)) (yW D bs sb sc W) 37 [(0, .ref o), (1, .int (nI i)), (2, .ref q), (3, .ref tx), (4, .ref pl), (5, .int (nI k))] [] := by
    intro j
    induction j with
    | zero =>
      intro k cells slots W V hk hc hs hX hO hV
      have hk : k = T := by omega
      subst hk
      have D0 := C.grow (cells' := cells) (slots' := slots) (by rw [hMC]; omega) (by rw [hMS]; omega)
      refine x_iload D0 dX0_init_37 (q := 5) rfl ?_
      refine x_aload_n D0 dX0_init_39 rfl (q := 0) rfl ?_
      refine y_get D0 cl_X0 hO (k := 5) (by decide) fl_X0_28_X0 rfl dX0_init_40 ?_
      refine y_alen D0 8 rfl hV.1 dX0_init_43 ?_
      refine x_icmp_ge D0 (tgt := 80) (A := some ()) (B := none) (rr := ()) dX0_init_44 (by decide) (if_pos (nI_le (Nat.le_refl _) (by omega))) (fun _ _ => ?_) (fun _ h => by cases h)
      have e8 : cells = 0 + (0 + 1 + (0 + 1 + g)) + 1 + k * 7 := by omega
      have e9 : slots = 0 + (0 + 2 + (0 + g + g * 4)) + k + k * Z := by omega
      rw [← e8, ← e9]
      have hgo : ¬ lg = o := hf.2.1
      have hlo : o < la := by
        by_cases h : la ≤ o
        · rw [hf.2.2.2 o h] at ho; cases ho
        · omega
      refine xr_v D0 hr dX0_init_80 (fun H h => ⟨W, acA o lg la ar, V, ⟨fun x q' hx hxo => hX x q' (e1 x q' hx hxo) hxo, rfl, hO, hX _ _ e3 hgo, hX _ _ e4 (show ¬ la = o by omega), fun j hj => hX _ _ (e5 j hj) (show ¬ la + 1 + j = o by omega), ?_⟩, h⟩)
      rw [hv]
      exact hV
    | succ j ih =>
      intro k cells slots W V hk hc hs hX hO hV
      have D0 := C.grow (cells' := cells) (slots' := slots) (by rw [hMC]; omega) (by rw [hMS]; rw [Nat.mul_succ] at hs; omega)
      have D1 := C.grow (cells' := cells + 1) (slots' := slots + 11) (by rw [hMC]; omega) (by rw [hMS]; rw [Nat.mul_succ] at hs; omega)
      have D2 := C.grow (cells' := cells + 1 + (0 + 1 + 1 + 1 + 1 + 1 + 1)) (slots' := slots + 11 + (0 + n + n + n + n + n + n)) (by rw [hMC]; omega) (by rw [hMS]; rw [Nat.mul_succ] at hs; omega)
      have hqW := hX q _ (e1 q _ hq hqo) hqo
      refine x_iload D0 dX0_init_37 (q := 5) rfl ?_
      refine x_aload_n D0 dX0_init_39 rfl (q := 0) rfl ?_
      refine y_get D0 cl_X0 hO (k := 5) (by decide) fl_X0_28_X0 rfl dX0_init_40 ?_
      refine y_alen D0 8 rfl hV.1 dX0_init_43 ?_
      refine x_icmp_ge D0 (tgt := 80) (A := none) (B := some ()) (rr := ()) dX0_init_44 (by decide) (if_neg (nI_ge (show k < T by omega) (by omega))) (fun _ h => by cases h) (fun _ _ => ?_)
      refine x_aload_n D0 dX0_init_47 rfl (q := 0) rfl ?_
      refine y_get D0 cl_X0 hO (k := 5) (by decide) fl_X0_28_X0 rfl dX0_init_48 ?_
      refine x_iload D0 dX0_init_51 (q := 5) rfl ?_
      refine y_new D0 cl_X9 (27, i, k) (fs := dX9) (fun j hj => by rcases (show j = 0 ∨ j = 1 ∨ j = 2 ∨ j = 3 ∨ j = 4 ∨ j = 5 ∨ j = 6 ∨ j = 7 ∨ j = 8 ∨ j = 9 ∨ j = 10 by omega) with rfl | rfl | rfl | rfl | rfl | rfl | rfl | rfl | rfl | rfl | rfl <;> rfl) cw_X0_26 cn_X9 cz_X9 D1.2.2.1 dX0_init_53 (fun a ha => ?_)
      refine x_dup D1 dX0_init_56 rfl ?_
      refine x_iload_n D1 dX0_init_57 rfl (q := 1) rfl ?_
      refine x_join (pc' := 66) (L' := [(0, .ref o), (1, .int (nI i)), (2, .ref q), (3, .ref tx), (4, .ref pl), (5, .int (nI k))]) (st' := [.int v, .ref a, .ref a, .int (nI k), .ref ar]) (Ω' := yW D bs sb sc (yU W a ((27, i, k), .inr (8, dX9)))) ?_ (fun hj => ?_)
      · have hqa : ¬ q = a := fun e => by rw [e, ha] at hqW; cases hqW
        refine x_aload_n D1 dX0_init_66 rfl (q := 2) rfl ?_
        refine y_get D1 cl_X7 ((yU_o _ _ hqa).trans hqW) (k := 0) (by decide) fl_X0_3_X7 hs0 dX0_init_67 ?_
        refine x_callI D1 (k_X9 (n := n) (28, i, k) (29, i, k) (30, i, k) (31, i, k) (32, i, k) (33, i, k) v hn (yU_s _ _ _)) wi_X0_32 rfl (Nat.le_of_ble_eq_true rfl) ⟨⟨rfl, rfl⟩, Nat.le_of_ble_eq_true rfl, Nat.le_of_ble_eq_true rfl⟩ dX0_init_70 D2.2.2.1 rfl ?_
        refine y_ex (fun a5 => ?_)
        refine y_ex (fun a6 => ?_)
        refine y_ex (fun a7 => ?_)
        refine y_ex (fun a8 => ?_)
        refine y_ex (fun a9 => ?_)
        refine y_ex (fun a10 => ?_)
        refine y_and (fun hf9 => ?_)
        refine x_gen (P := fun W2 => yX (yU W a ((27, i, k), .inr (8, dX9))) W2 a ∧ yVw cA W2 n v i k (vA a a5 a6 a7 a8 a9 a10)) (v_chain (yU_s _ _ _) hf9) (fun W2 hW2 => ?_)
        obtain ⟨w0, hA⟩ := hW2
        have hE := yX.ext ha w0
        refine y_aast D2 8 rfl cl_X9 (hE _ _ hV.1) hA.1 (show k < T by omega) (by omega) dX0_init_73 ?_
        refine x_iinc D2 (v := nI (k + 1)) (L' := [(5, .int (nI (k + 1))), (0, .ref o), (1, .int (nI i)), (2, .ref q), (3, .ref tx), (4, .ref pl)]) dX0_init_74 (k := 5) rfl (by rw [nI_succ]; rfl) (by decide) rfl ?_
        refine x_goto D2 (tgt := 37) dX0_init_77 (by decide) ?_
        have haro' : ¬ o = ar := fun e => haro e.symm
        have hV' := hV.add hE hA
        refine x_sub [1, 2, 3, 4, 5, 0] rfl (ih (k + 1) _ _ _ _ (by omega) (by omega) (by rw [Nat.mul_succ] at hs; omega) (fun x q' hx hxo => ?_) ((yU_o _ _ haro').trans (hE _ _ hO)) hV')
        have hxa : ¬ x = ar := fun e => by rw [e, har] at hx; cases hx
        exact (yU_o _ _ hxa).trans (hE _ _ (hX x q' hx hxo))
      · refine x_if_ne D1 (tgt := 65) (A := some ()) (B := some ()) (rr := ()) dX0_init_58 (by decide) (by rw [ite_self]) (fun hc _ => ?_) (fun hc _ => ?_)
        · refine x_iconst D1 (v := -1) dX0_init_65 (by decide) ?_
          rw [if_neg (fun e => hc (by rw [e]; rfl))] at hv
          rw [hv]
          exact hj
        · refine x_iconst D1 (v := 0) dX0_init_61 (by decide) ?_
          refine x_goto D1 (tgt := 66) dX0_init_62 (by decide) ?_
          have hi0 : i = 0 := (nI_eq (b := 0) (by omega) (by omega)).mp hc
          rw [if_pos hi0] at hv
          rw [hv]
          exact hj
  refine x_sub (L' := [(0, .ref o), (1, .int (nI i)), (2, .ref q), (3, .ref tx), (4, .ref pl), (5, .int (nI 0))]) [1, 2, 3, 4, 5, 0] rfl (hl T 0 _ _ _ (fun _ _ => 0) (by omega) (by omega) (by rw [Nat.mul_comm T Z]) (fun x q' hx hxo => ?_) (yU_s _ _ _) ⟨?_, fun k hk => absurd hk (Nat.not_lt_zero _)⟩)
  · have hxa : ¬ x = ar := fun e => by rw [e, har] at hx; cases hx
    exact (yU_o _ _ hxo).trans ((yU_o _ _ hxa).trans hx)
  · refine (yU_o _ _ haro).trans ((yU_s _ _ _).trans ?_)
    rfl
end ACCEPTOR
