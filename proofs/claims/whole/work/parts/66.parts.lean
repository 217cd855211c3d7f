/-! what stands of the class's world -/
def zs (z : Nat → Nat) : List Value := [.int (nI (z 0)), .int (nI (z 1)), .int (nI (z 2)), .int (nI (z 3)), .int (nI (z 4)), .int (nI (z 5))]
def bX (f : Nat) : Bool := f == 0 || f == 16 || f == 24
def yB1 (z : Nat → Nat) (W : yM) (q : Nat) : Prop := W q = some ((1, 0, 0), .inr (6, zs z))
def yB2 (cA : Nat → ClassId) (z : Nat → Nat) (W : yM) (t t3 t4 : Nat) : Prop := W t = some ((2, 0, 0), .inr (7, [.ref t3, .ref t4])) ∧ W t3 = some ((3, 0, 0), .inl (cA 0, z 2, .inl (fun _ => 0))) ∧ W t4 = some ((4, 0, 0), .inl (cA 0, z 2, .inl (fun _ => 0)))
def yB5 (cA : Nat → ClassId) (z : Nat → Nat) (W : yM) (q kx k6 k7 k9 : Nat) : Prop :=
  W kx = some ((5, 0, 0), .inr (1, [.ref k6, .ref q, .ref k7, .ref k9])) ∧ W k6 = some ((6, 0, 0), .inl (cA 1, z 3, .inr (.inl (fun _ => 0)))) ∧
  W k7 = some ((7, 0, 0), .inl (cA 3, z 2, .inr (.inr (.inr (.inr (fun i => if i < z 2 then some (k7 + 1 + i) else none)))))) ∧ (∀ i, i < z 2 → W (k7 + 1 + i) = some ((8, i, 0), .inl (cA 0, z 3, .inl (fun _ => 0)))) ∧
  W k9 = some ((9, 0, 0), .inl (cA 4, z 2, .inr (.inr (.inr (.inr (fun i => if i < z 2 then some (k9 + 1 + i) else none)))))) ∧ ∀ i, i < z 2 → W (k9 + 1 + i) = some ((10, i, 0), .inl (cA 1, z 3, .inr (.inl (fun _ => 0))))
def yB11 (cA : Nat → ClassId) (z : Nat → Nat) (W : yM) (q pl ar : Nat) (P : Nat → Nat → Nat) : Prop :=
  W pl = some ((11, 0, 0), .inr (4, [.ref q, .ref ar, .ref (P 13 (z 4)), .ref (P 13 (z 4 + 1)), .int 0, .int 0, .int 0])) ∧
  W ar = some ((12, 0, 0), .inl (cA 5, z 4, .inr (.inr (.inr (.inr (fun i => if i < z 4 then some (P 13 i) else none)))))) ∧ ∀ i, i < z 4 + 2 → yMsg cA W (z 0) i (P 13 i) (P 14 i) (P 15 i)
/-- a shard stands -/
def ySh (cA : Nat → ClassId) (z : Nat → Nat) (W : yM) (i q pl ky : Nat) (A : Nat → Nat) : Prop :=
  W (A 17) = some ((17, i, 0), .inr (5, [.int (nI i), .ref q, .ref pl, .ref (A 18), .int 1, .ref (A 21), .ref ky, .ref (A 22), .ref (A 23)])) ∧
  W (A 18) = some ((18, i, 0), .inr (2, [.ref (A 19), .int 0])) ∧
  W (A 19) = some ((19, i, 0), .inl (cA 3, z 5, .inr (.inr (.inr (.inr (fun i => if i < z 5 then some (A 19 + 1 + i) else none)))))) ∧
  (∀ j, j < z 5 → W (A 19 + 1 + j) = some ((20, i, j), .inl (cA 0, 4, .inl (fun _ => 0)))) ∧
  W (A 21) = some ((21, i, 0), .inl (cA 2, z 2, .inl (fun _ => 0))) ∧ W (A 22) = some ((22, i, 0), .inl (cA 0, z 2, .inl (fun _ => 0))) ∧ W (A 23) = some ((23, i, 0), .inl (cA 0, z 2, .inl (fun _ => 0)))
def shA (o g a b1 b2 b3 : Nat) (f : Nat) : Nat := match f with | 17 => o | 18 => g | 19 => a | 21 => b1 | 22 => b2 | 23 => b3 | _ => 0
section KEEP
variable {cA : Nat → ClassId} {z : Nat → Nat} {W W' : yM}
theorem yB2.keep {t t3 t4 : Nat} (h : yB2 cA z W t t3 t4) (hF : yF bX W W') : yB2 cA z W' t t3 t4 := ⟨hF _ _ _ _ _ h.1 rfl, hF _ _ _ _ _ h.2.1 rfl, hF _ _ _ _ _ h.2.2 rfl⟩
theorem yB5.keep {q kx k6 k7 k9 : Nat} (h : yB5 cA z W q kx k6 k7 k9) (hF : yF bX W W') : yB5 cA z W' q kx k6 k7 k9 := ⟨hF _ _ _ _ _ h.1 rfl, hF _ _ _ _ _ h.2.1 rfl, hF _ _ _ _ _ h.2.2.1 rfl, fun i hi => hF _ _ _ _ _ (h.2.2.2.1 i hi) rfl, hF _ _ _ _ _ h.2.2.2.2.1 rfl, fun i hi => hF _ _ _ _ _ (h.2.2.2.2.2 i hi) rfl⟩
theorem yMsg.keepF {n i a b c : Nat} (h : yMsg cA W n i a b c) (hF : yF bX W W') : yMsg cA W' n i a b c := ⟨hF _ _ _ _ _ h.1 rfl, hF _ _ _ _ _ h.2.1 rfl, hF _ _ _ _ _ h.2.2 rfl⟩
theorem yB11.keep {q pl ar : Nat} {P : Nat → Nat → Nat} (h : yB11 cA z W q pl ar P) (hF : yF bX W W') : yB11 cA z W' q pl ar P := ⟨hF _ _ _ _ _ h.1 rfl, hF _ _ _ _ _ h.2.1 rfl, fun i hi => (h.2.2 i hi).keepF hF⟩
theorem ySh.keep {i q pl ky : Nat} {A : Nat → Nat} (h : ySh cA z W i q pl ky A) (hF : yF bX W W') : ySh cA z W' i q pl ky A := ⟨hF _ _ _ _ _ h.1 rfl, hF _ _ _ _ _ h.2.1 rfl, hF _ _ _ _ _ h.2.2.1 rfl, fun i hi => hF _ _ _ _ _ (h.2.2.2.1 i hi) rfl, hF _ _ _ _ _ h.2.2.2.2.1 rfl, hF _ _ _ _ _ h.2.2.2.2.2.1 rfl, hF _ _ _ _ _ h.2.2.2.2.2.2 rfl⟩
theorem yAc.keepX {n T g num i q tx pl : Nat} {A : Nat → Nat} {V : Nat → Nat → Nat} (h : yAc cA W n T g num i q tx pl A V) (hF : yF bX W W') : yAc cA W' n T g num i q tx pl A V := h.keep hF (fun f h1 h2 h3 => by
  unfold bX
  rw [beq_false_of_ne (show f ≠ 0 by omega), beq_false_of_ne (show f ≠ 16 by omega), beq_false_of_ne (show f ≠ 24 by omega)]
  rfl)
/-- the array of shards, k of them made -/
def yShs (cA : Nat → ClassId) (z : Nat → Nat) (W : yM) (k ar q pl ky : Nat) (S : Nat → Nat → Nat) : Prop := W ar = some ((16, 0, 0), .inl (cA 6, z 0, .inr (.inr (.inr (.inr (fun i => if i < k then some (S i 17) else none)))))) ∧ ∀ i, i < k → ySh cA z W i q pl ky (S i)
/-- the array of acceptors, k of them made -/
def yAcs (cA : Nat → ClassId) (z : Nat → Nat) (W : yM) (k ar q tx pl : Nat) (S : Nat → Nat → Nat) (V : Nat → Nat → Nat → Nat) : Prop := W ar = some ((24, 0, 0), .inl (cA 7, z 1, .inr (.inr (.inr (.inr (fun i => if i < k then some (S i 25) else none)))))) ∧ ∀ i, i < k → yAc cA W (z 0) (z 2) (z 5) (z 0 + i) i q tx pl (S i) (V i)
theorem yShs.add {k ar q pl ky : Nat} {S : Nat → Nat → Nat} {A : Nat → Nat} (h : yShs cA z W k ar q pl ky S) (hW : ∀ x q, W x = some q → W' x = some q) (hA : ySh cA z W' k q pl ky A) :
    yShs cA z (yU W' ar ((16, 0, 0), .inl (cA 6, z 0, .inr (.inr (.inr (.inr (fun k' => if k' = k then some (A 17) else if k' < k then some (S k' 17) else none))))))) (k + 1) ar q pl ky (fun i => if i = k then A else S i) := by
  have hF : yF bX W' (yU W' ar ((16, 0, 0), .inl (cA 6, z 0, .inr (.inr (.inr (.inr (fun k' => if k' = k then some (A 17) else if k' < k then some (S k' 17) else none))))))) := yF.set (hW _ _ h.1) rfl
  refine ⟨?_, fun i hi => ?_⟩
  · rw [yU_s, fun_ite]
  · by_cases e : i = k
    · subst e
      rw [show (fun i' => if i' = i then A else S i') i = A from if_pos rfl]
      exact hA.keep hF
    · rw [show (fun i' => if i' = k then A else S i') i = S i from if_neg e]
      exact ((h.2 i (by omega)).keep (yF.ext hW)).keep hF
theorem yAcs.add {k ar q tx pl : Nat} {S : Nat → Nat → Nat} {V : Nat → Nat → Nat → Nat} {A : Nat → Nat} {B : Nat → Nat → Nat} (h : yAcs cA z W k ar q tx pl S V) (hW : ∀ x q, W x = some q → W' x = some q) (hA : yAc cA W' (z 0) (z 2) (z 5) (z 0 + k) k q tx pl A B) :
    yAcs cA z (yU W' ar ((24, 0, 0), .inl (cA 7, z 1, .inr (.inr (.inr (.inr (fun k' => if k' = k then some (A 25) else if k' < k then some (S k' 25) else none))))))) (k + 1) ar q tx pl (fun i => if i = k then A else S i) (fun i => if i = k then B else V i) := by
  have hF : yF bX W' (yU W' ar ((24, 0, 0), .inl (cA 7, z 1, .inr (.inr (.inr (.inr (fun k' => if k' = k then some (A 25) else if k' < k then some (S k' 25) else none))))))) := yF.set (hW _ _ h.1) rfl
  refine ⟨?_, fun i hi => ?_⟩
  · rw [yU_s, fun_ite]
  · by_cases e : i = k
    · subst e
      rw [show (fun i' => if i' = i then A else S i') i = A from if_pos rfl, show (fun i' => if i' = i then B else V i') i = B from if_pos rfl]
      exact hA.keepX hF
    · rw [show (fun i' => if i' = k then A else S i') i = S i from if_neg e, show (fun i' => if i' = k then B else V i') i = V i from if_neg e]
      exact ((h.2 i (by omega)).keepX (yF.ext hW)).keepX hF
theorem yShs.keep {k ar q pl ky : Nat} {S : Nat → Nat → Nat} (h : yShs cA z W k ar q pl ky S) (hF : yF bX W W') (ha : W' ar = W ar) : yShs cA z W' k ar q pl ky S := ⟨ha.trans h.1, fun i hi => (h.2 i hi).keep hF⟩
/-- what a new Txns adds -/
theorem t_chain {M : yM} {o a b : Nat} {e0 : yK × va_E} {k1 k2 : yK} {A B E : va_E} {key : yK} (ho : M o = some e0) (hf : M a = none ∧ M b = none ∧ ¬ a = b) : yX M (yU (yU (yU M a (k1, A)) b (k2, B)) o (key, E)) o ∧ (yU (yU (yU M a (k1, A)) b (k2, B)) o (key, E)) o = some (key, E) ∧ (yU (yU (yU M a (k1, A)) b (k2, B)) o (key, E)) a = some (k1, A) ∧ (yU (yU (yU M a (k1, A)) b (k2, B)) o (key, E)) b = some (k2, B) := by
  obtain ⟨ha, hb, hab⟩ := hf
  have oa : ¬ a = o := fun e => by rw [e, ho] at ha; cases ha
  have ob : ¬ b = o := fun e => by rw [e, ho] at hb; cases hb
  refine ⟨fun x q hx hxo => ?_, yU_s _ _ _, (yU_o _ _ oa).trans ((yU_o _ _ hab).trans (yU_s _ _ _)), (yU_o _ _ ob).trans (yU_s _ _ _)⟩
  have xa : ¬ x = a := fun e => by rw [e, ha] at hx; cases hx
  have xb : ¬ x = b := fun e => by rw [e, hb] at hx; cases hx
  exact (yU_o _ _ hxo).trans ((yU_o _ _ xb).trans ((yU_o _ _ xa).trans hx))
theorem yMna_s {M : yM} {key : yK} {ik : Nat → yK} {co ci : ClassId} {n : Nat} {zz : vp_A} {a : Nat} : yMna M key ik co ci n zz a a = some (key, .inl (co, n, .inr (.inr (.inr (.inr (fun i => if i < n then some (a + 1 + i) else none)))))) := if_pos rfl
theorem yMna_r {M : yM} {key : yK} {ik : Nat → yK} {co ci : ClassId} {n : Nat} {zz : vp_A} {a j : Nat} (hj : j < n) : yMna M key ik co ci n zz a (a + 1 + j) = some (ik j, .inl (ci, zz)) := by
  unfold yMna
  rw [if_neg (by omega), if_pos (by omega), show a + 1 + j - (a + 1) = j by omega]
/-- what a new Keys adds -/
theorem k_chain {M : yM} {o a b c n : Nat} {e0 : yK × va_E} {k6 k7 k9 key : yK} {ik8 ik10 : Nat → yK} {co1 ci1 co2 ci2 : ClassId} {z1 z2 : vp_A} {A E : va_E} (ho : M o = some e0) (hf : M a = none ∧ a < b ∧ (∀ x, b ≤ x → M x = none) ∧ b + n < c) :
    yX M (yU (yMna (yMna (yU M a (k6, A)) k7 ik8 co1 ci1 n z1 b) k9 ik10 co2 ci2 n z2 c) o (key, E)) o ∧ (yU (yMna (yMna (yU M a (k6, A)) k7 ik8 co1 ci1 n z1 b) k9 ik10 co2 ci2 n z2 c) o (key, E)) o = some (key, E) ∧
    (yU (yMna (yMna (yU M a (k6, A)) k7 ik8 co1 ci1 n z1 b) k9 ik10 co2 ci2 n z2 c) o (key, E)) a = some (k6, A) ∧
    (yU (yMna (yMna (yU M a (k6, A)) k7 ik8 co1 ci1 n z1 b) k9 ik10 co2 ci2 n z2 c) o (key, E)) b = some (k7, .inl (co1, n, .inr (.inr (.inr (.inr (fun i => if i < n then some (b + 1 + i) else none)))))) ∧
    (∀ j, j < n → (yU (yMna (yMna (yU M a (k6, A)) k7 ik8 co1 ci1 n z1 b) k9 ik10 co2 ci2 n z2 c) o (key, E)) (b + 1 + j) = some (ik8 j, .inl (ci1, z1))) ∧
    (yU (yMna (yMna (yU M a (k6, A)) k7 ik8 co1 ci1 n z1 b) k9 ik10 co2 ci2 n z2 c) o (key, E)) c = some (k9, .inl (co2, n, .inr (.inr (.inr (.inr (fun i => if i < n then some (c + 1 + i) else none)))))) ∧
    ∀ j, j < n → (yU (yMna (yMna (yU M a (k6, A)) k7 ik8 co1 ci1 n z1 b) k9 ik10 co2 ci2 n z2 c) o (key, E)) (c + 1 + j) = some (ik10 j, .inl (ci2, z2)) := by
  obtain ⟨ha, hab, hA, hbc⟩ := hf
  have lt : ∀ {x : Nat} {q}, M x = some q → x < b := fun {x q} hx => by
    by_cases h : b ≤ x
    · rw [hA x h] at hx; cases hx
    · omega
  have hob := lt ho
  have oa : ¬ a = o := fun e => by rw [e, ho] at ha; cases ha
  refine ⟨fun x q hx hxo => ?_, yU_s _ _ _, (yU_o _ _ oa).trans ((yMna_o (by omega)).trans ((yMna_o hab).trans (yU_s _ _ _))), (yU_o _ _ (by omega)).trans ((yMna_o (by omega)).trans yMna_s), fun j hj => (yU_o _ _ (by omega)).trans ((yMna_o (by omega)).trans (yMna_r hj)), (yU_o _ _ (by omega)).trans yMna_s, fun j hj => (yU_o _ _ (by omega)).trans (yMna_r hj)⟩
  have xa : ¬ x = a := fun e => by rw [e, ha] at hx; cases hx
  have xb := lt hx
  exact (yU_o _ _ hxo).trans ((yMna_o (by omega)).trans ((yMna_o (by omega)).trans ((yU_o _ _ xa).trans hx)))
end KEEP
