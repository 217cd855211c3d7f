/-! Pool's constructor: the loop, and whole -/
def rm_X5j (n w : Nat) : Room := { frames := 2, cells := 1 + 3 * (w + 2), slots := w + (9 + n + n) * (w + 2), locals := 60 }
/-- the pool's world with k messages -/
def yPl (cA : Nat → ClassId) (M W : yM) (o ar n w k : Nat) (key kar : yK) (fs : List Value) (ad a1 a2 : Nat → Nat) : Prop := (∀ x q, M x = some q → ¬ x = o → W x = some q) ∧ W o = some (key, .inr (4, fs)) ∧ ¬ o = ar ∧ M ar = none ∧ W ar = some (kar, .inl (cA 5, w, .inr (.inr (.inr (.inr (fun i => if i < k then some (ad i) else none)))))) ∧ ∀ i, i < k → (¬ ad i = o ∧ ¬ ad i = ar) ∧ yMsg cA W n i (ad i) (a1 i) (a2 i)
theorem yPl_add {cA : Nat → ClassId} {M W W' : yM} {o ar n w k a b c : Nat} {key kar : yK} {fs : List Value} {ad a1 a2 : Nat → Nat} (h : yPl cA M W o ar n w k key kar fs ad a1 a2) (ha : W a = none) (hm : yMsg cA W' n k a b c) (hk : ∀ x q, W x = some q → W' x = some q) :
    yPl cA M (yU W' ar (kar, .inl (cA 5, w, .inr (.inr (.inr (.inr (fun k' => if k' = k then some a else (if k' < k then some (ad k') else none)))))))) o ar n w (k + 1) key kar fs (fun i => if i = k then a else ad i) (fun i => if i = k then b else a1 i) (fun i => if i = k then c else a2 i) := by
  obtain ⟨h1, h2, h3, h4, h5, h6⟩ := h
  have hao : ¬ a = o := fun e => by rw [e, h2] at ha; cases ha
  have haa : ¬ a = ar := fun e => by rw [e, h5] at ha; cases ha
  have nm : ∀ {x : Nat} {q}, (W' x = some q) → (∀ z, q ≠ (kar, .inl (cA 5, z))) → ¬ x = ar := fun {x q} hx hz e => by
    rw [e, hk _ _ h5] at hx
    exact hz _ (Option.some.inj hx).symm
  have mm : ∀ {i x y z' : Nat}, yMsg cA W' n i x y z' → yMsg cA (yU W' ar (kar, .inl (cA 5, w, .inr (.inr (.inr (.inr (fun k' => if k' = k then some a else (if k' < k then some (ad k') else none)))))))) n i x y z' := fun {i x y z'} hx => by
    obtain ⟨p1, p2, p3⟩ := hx
    have n1 : ¬ x = ar := fun e => by rw [e, hk _ _ h5] at p1; cases p1
    have n2 : ¬ y = ar := fun e => by
      rw [e, hk _ _ h5] at p2
      have := congrArg (fun q => q.map (fun r => match r.2 with | .inl (_, _, .inl _) => true | _ => false)) p2
      simp at this
    have n3 : ¬ z' = ar := fun e => by
      rw [e, hk _ _ h5] at p3
      have := congrArg (fun q => q.map (fun r => match r.2 with | .inl (_, _, .inl _) => true | _ => false)) p3
      simp at this
    exact ⟨(yU_o _ _ n1).trans p1, (yU_o _ _ n2).trans p2, (yU_o _ _ n3).trans p3⟩
  refine ⟨fun x q hx hxo => ?_, (yU_o _ _ h3).trans (hk _ _ h2), h3, h4, ?_, fun i hi => ?_⟩
  · have : ¬ x = ar := fun e => by rw [e, h4] at hx; cases hx
    exact (yU_o _ _ this).trans (hk _ _ (h1 x q hx hxo))
  · rw [yU_s]
    refine congrArg (fun g => some (kar, Sum.inl (cA 5, w, Sum.inr (Sum.inr (Sum.inr (Sum.inr g)))))) (funext fun k' => ?_)
    show (if k' = k then some a else if k' < k then some (ad k') else none) = if k' < k + 1 then some (if k' = k then a else ad k') else none
    by_cases e : k' = k
    · rw [if_pos e, if_pos (by omega), if_pos e]
    · by_cases e2 : k' < k
      · rw [if_neg e, if_pos e2, if_pos (by omega), if_neg e]
      · rw [if_neg e, if_neg e2, if_neg (by omega)]
  · by_cases e : i = k
    · subst e
      simp only [if_true]
      exact ⟨⟨hao, haa⟩, mm hm⟩
    · simp only [if_neg e]
      obtain ⟨q1, q2⟩ := h6 i (by omega)
      obtain ⟨p1, p2, p3⟩ := q2
      exact ⟨q1, mm ⟨hk _ _ p1, hk _ _ p2, hk _ _ p3⟩⟩
theorem yPl_grow {cA : Nat → ClassId} {M W W' : yM} {o ar n w k : Nat} {key kar : yK} {fs : List Value} {ad a1 a2 : Nat → Nat} (h : yPl cA M W o ar n w k key kar fs ad a1 a2) (hk : ∀ x q, W x = some q → W' x = some q) : yPl cA M W' o ar n w k key kar fs ad a1 a2 := by
  obtain ⟨h1, h2, h3, h4, h5, h6⟩ := h
  exact ⟨fun x q hx hxo => hk _ _ (h1 x q hx hxo), hk _ _ h2, h3, h4, hk _ _ h5, fun i hi => ⟨(h6 i hi).1, hk _ _ (h6 i hi).2.1, hk _ _ (h6 i hi).2.2.1, hk _ _ (h6 i hi).2.2.2⟩⟩
theorem yMsg_set {cA : Nat → ClassId} {W : yM} {o n i a b c : Nat} {key : yK} {fs fs' : List Value} (ho : W o = some (key, .inr (4, fs))) (h : yMsg cA W n i a b c) : yMsg cA (yU W o (key, .inr (4, fs'))) n i a b c := by
  obtain ⟨p1, p2, p3⟩ := h
  have n1 : ¬ a = o := fun e => by
    rw [e, ho] at p1
    have := congrArg (fun q => q.map (fun r => match r.2 with | .inr (4, _) => true | _ => false)) p1
    simp at this
  have n2 : ¬ b = o := fun e => by rw [e, ho] at p2; cases p2
  have n3 : ¬ c = o := fun e => by rw [e, ho] at p3; cases p3
  exact ⟨(yU_o _ _ n1).trans p1, (yU_o _ _ n2).trans p2, (yU_o _ _ n3).trans p3⟩
theorem yPl_set {cA : Nat → ClassId} {M W : yM} {o ar n w k : Nat} {key kar : yK} {fs : List Value} {ad a1 a2 : Nat → Nat} (h : yPl cA M W o ar n w k key kar fs ad a1 a2) (fs' : List Value) : yPl cA M (yU W o (key, .inr (4, fs'))) o ar n w k key kar fs' ad a1 a2 := by
  obtain ⟨h1, h2, h3, h4, h5, h6⟩ := h
  exact ⟨fun x q hx hxo => (yU_o _ _ hxo).trans (h1 x q hx hxo), yU_s _ _ _, h3, h4, (yU_o _ _ (fun e => h3 e.symm)).trans h5, fun i hi => ⟨(h6 i hi).1, yMsg_set h2 (h6 i hi).2⟩⟩
