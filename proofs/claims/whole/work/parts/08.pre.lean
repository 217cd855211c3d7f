/-! small words of the walks -/
def iushr (x y : Int32) : Int32 := (x.toUInt32 >>> (y.toUInt32 &&& Int32.toUInt32 31)).toInt32
def lushr (x : Int64) (y : Int32) : Int64 := (x.toUInt64 >>> (y.toInt64.toUInt64 &&& Int64.toUInt64 63)).toInt64
def oN {γ : Type} (o : Option Nat) (A : Option γ) (B : Nat → Option γ) : Option γ := match o with
  | none => A
  | some k => B k
def oS {γ : Type} (o : Option (Nat ⊕ Nat)) (A : Option γ) (B C : Nat → Option γ) : Option γ := match o with
  | none => A
  | some (.inl k) => B k
  | some (.inr k) => C k
theorem oN_n {γ : Type} {A : Option γ} {B : Nat → Option γ} {r : γ} (h : oN none A B = some r) : A = some r := h
theorem oN_s {γ : Type} {A : Option γ} {B : Nat → Option γ} {r : γ} {k : Nat} (h : oN (some k) A B = some r) : B k = some r := h
theorem oS_n {γ : Type} {A : Option γ} {B C : Nat → Option γ} {r : γ} (h : oS none A B C = some r) : A = some r := h
theorem oS_l {γ : Type} {A : Option γ} {B C : Nat → Option γ} {r : γ} {k : Nat} (h : oS (some (.inl k)) A B C = some r) : B k = some r := h
theorem oS_r {γ : Type} {A : Option γ} {B C : Nat → Option γ} {r : γ} {k : Nat} (h : oS (some (.inr k)) A B C = some r) : C k = some r := h
def xrA (G : xG) (o : Option Nat) : Value := match o with
  | none => .null
  | some k => .ref (xad G 25 k 0)
def xrN (G : xG) (o : Option (Nat ⊕ Nat)) : Value := match o with
  | none => .null
  | some (.inl k) => .ref (xad G 17 k 0)
  | some (.inr k) => .ref (xad G 25 k 0)
theorem x_ite {γ : Type} {c : Prop} [Decidable c] {A B : Option γ} {r : γ} {g : Prop} (h : (if c then A else B) = some r) (k1 : c → A = some r → g) (k2 : ¬ c → B = some r → g) : g := by
  split at h
  next hc => exact k1 hc h
  next hc => exact k2 hc h
theorem gdd_some {γ : Type} {P : Prop} [Decidable P] {K : Option γ} {r : γ} (h : gdd P K = some r) : P ∧ K = some r := by
  unfold gdd at h
  split at h
  next hp => exact ⟨hp, h⟩
  · cases h
def fillI (σ : Sg) (f i j n : Nat) (v : Int32) : Sg := (fun f' i' j' k' => if f' = f ∧ i' = i ∧ j' = j ∧ k' < n then v else σ.1 f' i' j' k', σ.2)
theorem fillI_0 (σ : Sg) (f i j : Nat) (v : Int32) : fillI σ f i j 0 v = σ := by
  unfold fillI
  obtain ⟨a, b⟩ := σ
  simp
theorem fillI_s (σ : Sg) (f i j n : Nat) (v : Int32) : upI (fillI σ f i j n v) f i j n v = fillI σ f i j (n + 1) v := by
  unfold upI fillI
  simp only [Prod.mk.injEq, and_true]
  funext f' i' j' k'
  by_cases h : f' = f ∧ i' = i ∧ j' = j
  · obtain ⟨rfl, rfl, rfl⟩ := h
    by_cases h1 : k' = n
    · subst h1; simp
    · by_cases h2 : k' < n
      · simp [h1, h2, Nat.lt_succ_of_lt h2]
      · simp [h1, h2, show ¬ k' < n + 1 by omega]
  · have e1 : ∀ q : Prop, (f' = f ∧ i' = i ∧ j' = j ∧ q) ↔ False := fun q => ⟨fun w => h ⟨w.1, w.2.1, w.2.2.1⟩, False.elim⟩
    simp only [e1, if_false]
section XNULL
variable {p : Program} {l : Launch} {e : Env} {R : Room} {s : State} {m : MethodId} {args : Array Value} {below : List Frame} {meth : Method} {c : Code} {cells slots nL bs : Nat} {Q : State → Prop} {Ω : Heap → Prop}
variable {cc : ByteArray} {own : String} {D : va_G} {cA : Nat → ClassId} {pc : Nat} {L : List (Nat × Value)} {st : List Value}
theorem x_aloadN (C : xC p m c cc nL s args own meth R cells slots D cA) {i q : Nat} (hdg : decode cc pc = .ok (.aload i, 2)) (hl : L[q]? = some (i, .null)) (kk : XW p l e R s m args below meth c cells slots nL bs Q Ω (pc + 2) L (.null :: st)) : XW p l e R s m args below meth c cells slots nL bs Q Ω pc L st := by
  intro H locs ls hΩ hs hL T hT X
  obtain ⟨t, a, b⟩ := kk H locs ls hΩ hs hL T hT X
  refine ⟨t, ?_, b⟩
  have h1 := C.1.1
  have h2 := C.1.2.1
  have h3 := lv_at hL q hl
  jvm_step X.here [X.here.top, h1, h2, hdg, h3, Value.isRef]
  exact a
theorem x_astoreN (C : xC p m c cc nL s args own meth R cells slots D cA) {i : Nat} {L' : List (Nat × Value)} (hdg : decode cc pc = .ok (.astore i, 2)) (hn : i < nL) (hl : (i, Value.null) :: L.filter (fun q => !(q.1 == i) && !(q.1 + 1 == i && q.2.category == 2)) = L') (kk : XW p l e R s m args below meth c cells slots nL bs Q Ω (pc + 2) L' st) : XW p l e R s m args below meth c cells slots nL bs Q Ω pc L (.null :: st) := by
  intro H locs ls hΩ hs hL T hT X
  obtain ⟨ls', e', h'⟩ := lv_store1 (v := .null) hL hn rfl
  obtain ⟨t, a, b⟩ := kk H locs ls' hΩ hs (hl ▸ h') T hT X
  refine ⟨t, ?_, b⟩
  have h1 := C.1.1
  have h2 := C.1.2.1
  jvm_step X.here [X.here.top, ↓top_set X.here.top, h1, h2, hdg, e', Value.isRef]
  exact a
end XNULL
def rm_J7_fill : Room := { frames := 0, cells := 0, slots := 0, locals := 0 }
set_option maxRecDepth 100000 in
set_option maxHeartbeats 4000000 in
theorem m_fill {l : Launch} {G : xG} {z : Nat → Nat} {σ : Sg} {τ : Tg} {f i j : Nat} {v : Int32} (hz : z 0 < 2147483648) (hd : xdom z f i j) (hc : ∀ si sl sp, xCell G z f i j si sl sp = .inl (xcA G 0, z 0, .inl si)) : xMet l (xD G) (xcA G) (xbs G) yJ7_fill_53178 cJ7_fill_53178 4 none rm_J7_fill [.ref (xad G f i j), .int v] (xRep G z σ τ) (xRep G z (fillI σ f i j (z 0) v) τ) none 0 0 := by
  refine xMet.of RJ7 rfl (by decide +kernel) (Nat.le_of_ble_eq_true rfl) ?_
  intro p e s m args below meth c C hr hnm
  refine x_sub (L' := [(0, .ref (xad G f i j)), (1, .int v)]) [0, 1] rfl ?_
  refine x_iconst C (v := 0) dJ7_fill_53178_0 (by decide) ?_
  refine x_istore_n C (L' := [(2, .int 0), (0, .ref (xad G f i j)), (1, .int v)]) dJ7_fill_53178_1 rfl (by decide) rfl ?_
  refine x_aload_n C dJ7_fill_53178_2 rfl (q := 1) rfl ?_
  refine x_alen C 0 rfl hd (hc _ _ _) dJ7_fill_53178_3 ?_
  refine x_istore_n C (L' := [(3, .int (nI (z 0))), (2, .int 0), (0, .ref (xad G f i j)), (1, .int v)]) dJ7_fill_53178_4 rfl (by decide) rfl ?_
  have hl : ∀ n k : Nat, k + n = z 0 → XW p l e rm_J7_fill s m args below meth c 0 0 4 (xbs G) (xQ below args s (xbs G) none (xRep G z (fillI σ f i j (z 0) v) τ) 0 0) (xRep G z (fillI σ f i j k v) τ) 5 [(0, .ref (xad G f i j)), (1, .int v), (2, .int (nI k)), (3, .int (nI (z 0)))] [] := by
    intro n
    induction n with
    | zero =>
      intro k hk
      have hk : k = z 0 := by omega
      subst hk
      refine x_iload_n C dJ7_fill_53178_5 rfl (q := 2) rfl ?_
      refine x_iload_n C dJ7_fill_53178_6 rfl (q := 3) rfl ?_
      refine x_icmp_ge C (tgt := 20) (A := some ()) (B := none) (rr := ()) dJ7_fill_53178_7 (by decide) (if_pos (nI_le (Nat.le_refl _) hz)) (fun _ _ => ?_) (fun _ h => by cases h)
      exact xr_v C hr dJ7_fill_53178_20 (fun _ h => h)
    | succ n ih =>
      intro k hk
      refine x_iload_n C dJ7_fill_53178_5 rfl (q := 2) rfl ?_
      refine x_iload_n C dJ7_fill_53178_6 rfl (q := 3) rfl ?_
      refine x_icmp_ge C (tgt := 20) (A := none) (B := some ()) (rr := ()) dJ7_fill_53178_7 (by decide) (if_neg (nI_ge (by omega) hz)) (fun _ h => by cases h) (fun _ _ => ?_)
      refine x_aload_n C dJ7_fill_53178_10 rfl (q := 0) rfl ?_
      refine x_iload_n C dJ7_fill_53178_11 rfl (q := 2) rfl ?_
      refine x_iload_n C dJ7_fill_53178_12 rfl (q := 1) rfl ?_
      have hcl : (nI k).toNatClampNeg = k := nI_clamp (by omega)
      refine x_iast C (K := fun k => some k) (rr := k) hd hc dJ7_fill_53178_13 (by unfold gdx; rw [hcl, if_neg (fun q => q.elim (nI_pos (by omega)) (fun q => by omega))]) (fun k1 hk1 h => ?_)
      cases h
      rw [fillI_s]
      refine x_iinc C (v := nI (k + 1)) (L' := [(2, .int (nI (k + 1))), (0, .ref (xad G f i j)), (1, .int v), (3, .int (nI (z 0)))]) dJ7_fill_53178_14 (k := 2) rfl (by rw [nI_succ]; rfl) (by decide) rfl ?_
      refine x_goto C (tgt := 5) dJ7_fill_53178_17 (by decide) ?_
      exact x_sub [1, 2, 0, 3] rfl (ih (k + 1) (by omega))
  have h0 := hl (z 0) 0 (by omega)
  rw [fillI_0] at h0
  exact x_sub [2, 3, 1, 0] rfl h0
