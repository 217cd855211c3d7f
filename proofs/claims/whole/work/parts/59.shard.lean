/-! Shard's constructor -/
def yX (M M' : yM) (o : Nat) : Prop := ∀ x q, M x = some q → ¬ x = o → M' x = some q
def rm_X6i (n t : Nat) : Room := { frames := 3, cells := 0 + (0 + 1 + (0 + 1 + n)) + 1 + 1 + 1, slots := 0 + (0 + 2 + (0 + n + n * 4)) + t + t + t, locals := 90 }
section SHARD
variable {l : Launch} {D : va_G} {cA : Nat → ClassId} {bs sb o n t : Nat} {sc : Cell} {M : yM} {key : yK}
theorem k_X6 {num : Int32} {q pl ky : Nat} {kq : yK} {szs : List Value} (kl k1 kb1 kb2 kb3 : yK) (ik : Nat → yK) (hn : n < 1000) (htt : t < 1000) (ho : M o = some (key, .inr (5, dX6))) (hq : M q = some (kq, .inr (6, szs))) (hs5 : szs[5]? = some (.int (nI n))) (hs2 : szs[2]? = some (.int (nI t))) : xMet l D cA bs yX6_init cX6_init 5 none (rm_X6i n t) [.ref o, .int num, .ref q, .ref ky, .ref pl] (yW D bs sb sc M)
    (fun H => ∃ M' g a b1 b2 b3, (yX M M' o ∧ M' o = some (key, .inr (5, [.int num, .ref q, .ref pl, .ref g, .int 1, .ref b1, .ref ky, .ref b2, .ref b3])) ∧ M' g = some (kl, .inr (2, [.ref a, .int 0])) ∧ M' a = some (k1, .inl (cA 3, n, .inr (.inr (.inr (.inr (fun i => if i < n then some (a + 1 + i) else none)))))) ∧ (∀ j, j < n → M' (a + 1 + j) = some (ik j, .inl (cA 0, 4, .inl (fun _ => 0)))) ∧ M' b1 = some (kb1, .inl (cA 2, t, .inl (fun _ => 0))) ∧ M' b2 = some (kb2, .inl (cA 0, t, .inl (fun _ => 0))) ∧ M' b3 = some (kb3, .inl (cA 0, t, .inl (fun _ => 0)))) ∧ yW D bs sb sc M' H) none (0 + (0 + 1 + (0 + 1 + n)) + 1 + 1 + 1) (0 + (0 + 2 + (0 + n + n * 4)) + t + t + t) := by
  refine xMet.of RX6 rfl (by decide +kernel) (Nat.le_of_ble_eq_true rfl) ?_
  intro p e s m args below meth c C hr hnm
  have hqo : ¬ q = o := fun e => by
    rw [e, ho] at hq
    cases hq
  refine x_sub (L' := [(0, .ref o), (1, .int num), (2, .ref q), (3, .ref ky), (4, .ref pl)]) [0, 1, 2, 3, 4] rfl ?_
  refine x_aload_n C dX6_init_0 rfl (q := 0) rfl ?_
  refine x_iload_n C dX6_init_1 rfl (q := 1) rfl ?_
  refine x_aload_n C dX6_init_2 rfl (q := 2) rfl ?_
  refine x_aload C dX6_init_3 (q := 4) rfl ?_
  have f0 : 0 + (0 + 1 + (0 + 1 + n)) ≤ (rm_X6i n t).cells := by show 0 + (0 + 1 + (0 + 1 + n)) ≤ 0 + (0 + 1 + (0 + 1 + n)) + 1 + 1 + 1; omega
  have g0 : 0 + (0 + 2 + (0 + n + n * 4)) ≤ (rm_X6i n t).slots := by show 0 + (0 + 2 + (0 + n + n * 4)) ≤ 0 + (0 + 2 + (0 + n + n * 4)) + t + t + t; omega
  have f1 : 0 + (0 + 1 + (0 + 1 + n)) + 1 ≤ (rm_X6i n t).cells := by show 0 + (0 + 1 + (0 + 1 + n)) + 1 ≤ 0 + (0 + 1 + (0 + 1 + n)) + 1 + 1 + 1; omega
  have g1 : 0 + (0 + 2 + (0 + n + n * 4)) + t ≤ (rm_X6i n t).slots := by show 0 + (0 + 2 + (0 + n + n * 4)) + t ≤ 0 + (0 + 2 + (0 + n + n * 4)) + t + t + t; omega
  have f2 : 0 + (0 + 1 + (0 + 1 + n)) + 1 + 1 ≤ (rm_X6i n t).cells := by show 0 + (0 + 1 + (0 + 1 + n)) + 1 + 1 ≤ 0 + (0 + 1 + (0 + 1 + n)) + 1 + 1 + 1; omega
  have g2 : 0 + (0 + 2 + (0 + n + n * 4)) + t + t ≤ (rm_X6i n t).slots := by show 0 + (0 + 2 + (0 + n + n * 4)) + t + t ≤ 0 + (0 + 2 + (0 + n + n * 4)) + t + t + t; omega
  have f3 : 0 + (0 + 1 + (0 + 1 + n)) + 1 + 1 + 1 ≤ (rm_X6i n t).cells := Nat.le_refl _
  have g3 : 0 + (0 + 2 + (0 + n + n * 4)) + t + t + t ≤ (rm_X6i n t).slots := Nat.le_refl _
  refine x_callI C (k_X4_X6 (n := n) kl k1 ik hn ho hq hs5) wi_X6_3 rfl (Nat.le_of_ble_eq_true rfl) ⟨⟨rfl, rfl⟩, Nat.le_of_ble_eq_true rfl, Nat.le_of_ble_eq_true rfl⟩ dX6_init_5 ⟨f0, g0⟩ rfl ?_
  have C1 := C.grow f0 g0
  have C2 := C.grow f1 g1
  have C3 := C.grow f2 g2
  have C4 := C.grow f3 g3
  refine y_ex (fun g => ?_)
  refine y_ex (fun a => ?_)
  refine y_and (fun hf => ?_)
  obtain ⟨hg, hgo, hga, hA⟩ := hf
  have hoa : o < a := by
    by_cases x : a ≤ o
    · rw [hA o x] at ho; cases ho
    · omega
  have hqa : q < a := by
    by_cases x : a ≤ q
    · rw [hA q x] at hq; cases hq
    · omega
  have hqg : ¬ q = g := fun e => by rw [e, hg] at hq; cases hq
  refine x_aload_n C1 dX6_init_8 rfl (q := 0) rfl ?_
  refine x_aload_n C1 dX6_init_9 rfl (q := 3) rfl ?_
  refine y_putF C1 cl_X6 (yU_s _ _ _) (k := 6) (by decide) fl_X6_9_X6 rfl hnm rfl rfl rfl (Nat.le_of_ble_eq_true rfl) dX6_init_10 ?_
  rw [yU_yU]
  have hN : ∀ x, x < a → ¬ x = g → (yU (yMna (yU M g (kl, .inr (2, [.null, .int 0]))) k1 ik (cA 3) (cA 0) n (4, .inl (fun _ => 0)) a) g (kl, .inr (2, [.ref a, .int 0]))) x = M x := fun x h1 h2 => (yU_o _ _ h2).trans ((yMna_o h1).trans (yU_o _ _ h2))
  have hNn : ∀ x, (yU (yMna (yU M g (kl, .inr (2, [.null, .int 0]))) k1 ik (cA 3) (cA 0) n (4, .inl (fun _ => 0)) a) g (kl, .inr (2, [.ref a, .int 0]))) x = none → ¬ x = g ∧ ¬ (a ≤ x ∧ x < a + 1 + n) ∧ M x = none := fun x h => by
    obtain ⟨u1, u2⟩ := yU_none h
    obtain ⟨u3, u4⟩ := yMna_none u2
    exact ⟨u1, u3, (yU_none u4).2⟩
  have hNg : (yU (yMna (yU M g (kl, .inr (2, [.null, .int 0]))) k1 ik (cA 3) (cA 0) n (4, .inl (fun _ => 0)) a) g (kl, .inr (2, [.ref a, .int 0]))) g = some (kl, .inr (2, [.ref a, .int 0])) := yU_s _ _ _
  have hNa : (yU (yMna (yU M g (kl, .inr (2, [.null, .int 0]))) k1 ik (cA 3) (cA 0) n (4, .inl (fun _ => 0)) a) g (kl, .inr (2, [.ref a, .int 0]))) a = some (k1, .inl (cA 3, n, .inr (.inr (.inr (.inr (fun i => if i < n then some (a + 1 + i) else none)))))) := (yU_o _ _ (by omega)).trans (if_pos rfl)
  have hNr : ∀ j, j < n → (yU (yMna (yU M g (kl, .inr (2, [.null, .int 0]))) k1 ik (cA 3) (cA 0) n (4, .inl (fun _ => 0)) a) g (kl, .inr (2, [.ref a, .int 0]))) (a + 1 + j) = some (ik j, .inl (cA 0, 4, .inl (fun _ => 0))) := fun j hj => (yU_o _ _ (by omega)).trans (by
    unfold yMna
    rw [if_neg (by omega), if_pos (by omega), show a + 1 + j - (a + 1) = j by omega])
  generalize (yU (yMna (yU M g (kl, .inr (2, [.null, .int 0]))) k1 ik (cA 3) (cA 0) n (4, .inl (fun _ => 0)) a) g (kl, .inr (2, [.ref a, .int 0]))) = N at hN hNn hNg hNa hNr
  have hNq : N q = some (kq, .inr (6, szs)) := (hN q hqa hqg).trans hq
  refine x_aload_n C1 dX6_init_13 rfl (q := 0) rfl ?_
  refine x_aload_n C1 dX6_init_14 rfl (q := 2) rfl ?_
  refine y_get C1 cl_X7 ((yU_o _ _ hqo).trans hNq) (k := 2) (by decide) fl_X6_15_X7 hs2 dX6_init_15 ?_
  refine y_newa (a0 := (t, .inl (fun _ => 0))) C1 kb1 2 rfl rfl (fun _ _ h => h) aw_boolean (fun _ => rfl) (by omega) (by show t * 1 ≤ _; omega) ⟨f1, g1⟩ dX6_init_18 (fun b1 h1 => ?_)
  obtain ⟨o1, h1⟩ := yU_none h1
  refine y_putF C2 cl_X6 ((yU_o _ _ (fun e => o1 e.symm)).trans (yU_s _ _ _)) (k := 5) (by decide) fl_X6_21_X6 rfl hnm rfl rfl rfl (Nat.le_of_ble_eq_true rfl) dX6_init_20 ?_
  rw [y_canon o1]
  have q1 : ¬ q = b1 := fun e => by rw [e, h1] at hNq; cases hNq
  refine x_aload_n C2 dX6_init_23 rfl (q := 0) rfl ?_
  refine x_aload_n C2 dX6_init_24 rfl (q := 2) rfl ?_
  refine y_get C2 cl_X7 ((yU_o _ _ hqo).trans ((yU_o _ _ q1).trans hNq)) (k := 2) (by decide) fl_X6_15_X7 hs2 dX6_init_25 ?_
  refine y_newa (a0 := (t, .inl (fun _ => 0))) C2 kb2 0 rfl rfl (fun _ _ h => h) aw_int (fun _ => rfl) (by omega) (by show t * 4 ≤ _; omega) ⟨f2, g2⟩ dX6_init_28 (fun b2 h2 => ?_)
  obtain ⟨o2, h2⟩ := yU_none h2
  obtain ⟨d21, h2⟩ := yU_none h2
  refine y_putF C3 cl_X6 ((yU_o _ _ (fun e => o2 e.symm)).trans (yU_s _ _ _)) (k := 7) (by decide) fl_X6_25_X6 rfl hnm rfl rfl rfl (Nat.le_of_ble_eq_true rfl) dX6_init_30 ?_
  rw [y_canon o2]
  have q2 : ¬ q = b2 := fun e => by rw [e, h2] at hNq; cases hNq
  refine x_aload_n C3 dX6_init_33 rfl (q := 0) rfl ?_
  refine x_aload_n C3 dX6_init_34 rfl (q := 2) rfl ?_
  refine y_get C3 cl_X7 ((yU_o _ _ hqo).trans ((yU_o _ _ q2).trans ((yU_o _ _ q1).trans hNq))) (k := 2) (by decide) fl_X6_15_X7 hs2 dX6_init_35 ?_
  refine y_newa (a0 := (t, .inl (fun _ => 0))) C3 kb3 0 rfl rfl (fun _ _ h => h) aw_int (fun _ => rfl) (by omega) (by show t * 4 ≤ _; omega) ⟨f3, g3⟩ dX6_init_38 (fun b3 h3 => ?_)
  obtain ⟨o3, h3⟩ := yU_none h3
  obtain ⟨d32, h3⟩ := yU_none h3
  obtain ⟨d31, h3⟩ := yU_none h3
  refine y_putF C4 cl_X6 ((yU_o _ _ (fun e => o3 e.symm)).trans (yU_s _ _ _)) (k := 8) (by decide) fl_X6_29_X6 rfl hnm rfl rfl rfl (Nat.le_of_ble_eq_true rfl) dX6_init_40 ?_
  rw [y_canon o3]
  obtain ⟨u1, v1, w1⟩ := hNn b1 h1
  obtain ⟨u2, v2, w2⟩ := hNn b2 h2
  obtain ⟨u3, v3, w3⟩ := hNn b3 h3
  have look : ∀ x q', N x = some q' → ¬ x = o → (yU (yU (yU (yU N b1 (kb1, .inl (cA 2, t, .inl (fun _ => 0)))) b2 (kb2, .inl (cA 0, t, .inl (fun _ => 0)))) b3 (kb3, .inl (cA 0, t, .inl (fun _ => 0)))) o (key, .inr (5, [.int num, .ref q, .ref pl, .ref g, .int 1, .ref b1, .ref ky, .ref b2, .ref b3]))) x = some q' := fun x q' hx hxo =>
    (yU_o _ _ hxo).trans ((yU_o _ _ (fun e => by rw [e, h3] at hx; cases hx)).trans ((yU_o _ _ (fun e => by rw [e, h2] at hx; cases hx)).trans ((yU_o _ _ (fun e => by rw [e, h1] at hx; cases hx)).trans hx)))
  refine xr_v C4 hr dX6_init_43 (fun H h => ⟨_, g, a, b1, b2, b3, ⟨fun x q' hx hxo => ?_, yU_s _ _ _, look g _ hNg hgo, look a _ hNa (by omega), fun j hj => look _ _ (hNr j hj) (by omega), ?_, ?_, ?_⟩, h⟩)
  · have hxa : x < a := by
      by_cases y : a ≤ x
      · rw [hA x y] at hx; cases hx
      · omega
    have hxg : ¬ x = g := fun e => by rw [e, hg] at hx; cases hx
    exact look x q' ((hN x hxa hxg).trans hx) hxo
  · exact (yU_o _ _ o1).trans ((yU_o _ _ (fun e => d31 e.symm)).trans ((yU_o _ _ (fun e => d21 e.symm)).trans (yU_s _ _ _)))
  · exact (yU_o _ _ o2).trans ((yU_o _ _ (fun e => d32 e.symm)).trans (yU_s _ _ _))
  · exact (yU_o _ _ o3).trans (yU_s _ _ _)
end SHARD
