/-! CommitShards' constructor -/
def dX10 : List Value := [.null, .null, .null, .null, .null, .null, .int 0, .int 0]
def rm_X10i (z : Nat → Nat) : Room := { frames := 4, cells := 0 + 1 + 0 + 1 + (0 + 1 + 1) + 1 + (0 + 1 + 1 + z 2 + 1 + z 2) + 1 + (0 + 1 + 3 * (z 4 + 2)) + 1 + z 0 * (1 + (0 + (0 + 1 + (0 + 1 + z 5)) + 1 + 1 + 1)) + 1 + z 1 * (1 + (0 + (0 + 1 + (0 + 1 + z 5)) + 1 + z 2 * 7)), slots := 0 + 6 + 0 + 2 + (0 + z 2 + z 2) + 4 + (0 + z 3 + z 2 + z 2 * z 3 + z 2 + z 2 * z 3) + 7 + (0 + z 4 + (9 + (z 0 + z 0)) * (z 4 + 2)) + z 0 + z 0 * (9 + (0 + (0 + 2 + (0 + z 5 + z 5 * 4)) + z 2 + z 2 + z 2)) + z 1 + z 1 * (8 + (0 + (0 + 2 + (0 + z 5 + z 5 * 4)) + z 2 + z 2 * (11 + 6 * z 0))), locals := 120 }
theorem y_ne {W : yM} {a b : Nat} {ka kb : yK} {ea eb : va_E} (ha : W a = some (ka, ea)) (hb : W b = some (kb, eb)) (h : ¬ ka.1 = kb.1) : ¬ a = b := fun e => by
  rw [e, hb] at ha
  cases ha
  exact h rfl
/-- the whole store stands -/
def ySt (cA : Nat → ClassId) (z : Nat → Nat) (W : yM) (A : Nat → Nat) (P S T : Nat → Nat → Nat) (V : Nat → Nat → Nat → Nat) : Prop :=
  W (A 0) = some ((0, 0, 0), .inr (9, [.ref (A 1), .ref (A 2), .ref (A 5), .ref (A 11), .ref (A 16), .ref (A 24), .int 0, .int 0])) ∧ yB1 z W (A 1) ∧ yB2 cA z W (A 2) (A 3) (A 4) ∧ yB5 cA z W (A 1) (A 5) (A 6) (A 7) (A 9) ∧
  yB11 cA z W (A 1) (A 11) (A 12) P ∧ yShs cA z W (z 0) (A 16) (A 1) (A 11) (A 5) S ∧ yAcs cA z W (z 1) (A 24) (A 1) (A 2) (A 11) T V
def stA (o q t t3 t4 kx k6 k7 k9 pl ar sa aa : Nat) (f : Nat) : Nat := match f with | 0 => o | 1 => q | 2 => t | 3 => t3 | 4 => t4 | 5 => kx | 6 => k6 | 7 => k7 | 9 => k9 | 11 => pl | 12 => ar | 16 => sa | 24 => aa | _ => 0
def plP (w : Nat) (ad a1 a2 : Nat → Nat) (dr d1 d2 hd e1 e2 : Nat) (f i : Nat) : Nat := match f with
  | 13 => if i < w then ad i else if i = w then dr else hd
  | 14 => if i < w then a1 i else if i = w then d1 else e1
  | 15 => if i < w then a2 i else if i = w then d2 else e2
  | _ => 0
/-- what a new pool adds -/
theorem p_chain {cA : Nat → ClassId} {z : Nat → Nat} {M W : yM} {o ar q dr d1 d2 hd e1 e2 : Nat} {ad a1 a2 : Nat → Nat} (h : yPl cA M W o ar (z 0) (z 4) (z 4) (11, 0, 0) (12, 0, 0) [.ref q, .ref ar, .ref dr, .ref hd, .int 0, .int 0, .int 0] ad a1 a2) (h1 : yMsg cA W (z 0) (z 4) dr d1 d2) (h2 : yMsg cA W (z 0) (z 4 + 1) hd e1 e2) :
    yX M W o ∧ yB11 cA z W q o ar (plP (z 4) ad a1 a2 dr d1 d2 hd e1 e2) := by
  obtain ⟨g1, g2, g3, g4, g5, g6⟩ := h
  have n1 : ¬ z 4 < z 4 := Nat.lt_irrefl _
  have n2 : ¬ z 4 + 1 < z 4 := by omega
  have n3 : ¬ z 4 + 1 = z 4 := by omega
  refine ⟨g1, ?_, ?_, fun i hi => ?_⟩
  · show W o = some ((11, 0, 0), .inr (4, [.ref q, .ref ar, .ref (if z 4 < z 4 then ad (z 4) else if z 4 = z 4 then dr else hd), .ref (if z 4 + 1 < z 4 then ad (z 4 + 1) else if z 4 + 1 = z 4 then dr else hd), .int 0, .int 0, .int 0]))
    rw [if_neg n1, if_pos rfl, if_neg n2, if_neg n3]
    exact g2
  · rw [g5]
    refine congrArg (fun g => some (((12, 0, 0) : yK), Sum.inl (cA 5, z 4, Sum.inr (Sum.inr (Sum.inr (Sum.inr g)))))) (funext fun i => ?_)
    show (if i < z 4 then some (ad i) else none) = if i < z 4 then some (if i < z 4 then ad i else if i = z 4 then dr else hd) else none
    by_cases e : i < z 4
    · rw [if_pos e, if_pos e, if_pos e]
    · rw [if_neg e, if_neg e]
  · show yMsg cA W (z 0) i (if i < z 4 then ad i else if i = z 4 then dr else hd) (if i < z 4 then a1 i else if i = z 4 then d1 else e1) (if i < z 4 then a2 i else if i = z 4 then d2 else e2)
    by_cases e : i < z 4
    · rw [if_pos e, if_pos e, if_pos e]
      exact (g6 i e).2
    · rw [if_neg e, if_neg e, if_neg e]
      by_cases e2 : i = z 4
      · rw [if_pos e2, if_pos e2, if_pos e2, e2]
        exact h1
      · rw [if_neg e2, if_neg e2, if_neg e2, show i = z 4 + 1 by omega]
        exact h2
section STORE
variable {l : Launch} {D : va_G} {cA : Nat → ClassId} {bs sb o : Nat} {sc : Cell} {M : yM} {z : Nat → Nat}
theorem k_X10 {x1 x2 x3 x4 x5 x6 : Int32} (hz : z 0 < 1000 ∧ z 1 < 1000 ∧ z 2 < 1000 ∧ z 3 < 1000 ∧ z 4 < 1000 ∧ z 5 < 1000) (hx : nrs x1 4 = nI (z 0) ∧ odd x2 = nI (z 1) ∧ nrs x3 16 = nI (z 2) ∧ nrs x4 32 = nI (z 3) ∧ nrs x5 200 = nI (z 4) ∧ nrs x6 200 = nI (z 5)) (ho : M o = some ((0, 0, 0), .inr (9, dX10))) :
    xMet l D cA bs yX10_init cX10_init 8 none (rm_X10i z) [.ref o, .int x1, .int x2, .int x3, .int x4, .int x5, .int x6] (yW D bs sb sc M)
    (fun H => ∃ W A P S T V, (A 0 = o ∧ ySt cA z W A P S T V) ∧ yW D bs sb sc W H) none (rm_X10i z).cells (rm_X10i z).slots := by
  refine xMet.of RX10 rfl (by decide +kernel) (Nat.le_of_ble_eq_true rfl) ?_
  intro p e s m args below meth c C hr hnm
  obtain ⟨z0, z1, z2, z3, z4, z5⟩ := hz
  obtain ⟨v0, v1, v2, v3, v4, v5⟩ := hx
  have hMC : (rm_X10i z).cells = 0 + 1 + 0 + 1 + (0 + 1 + 1) + 1 + (0 + 1 + 1 + z 2 + 1 + z 2) + 1 + (0 + 1 + 3 * (z 4 + 2)) + 1 + z 0 * (1 + (0 + (0 + 1 + (0 + 1 + z 5)) + 1 + 1 + 1)) + 1 + z 1 * (1 + (0 + (0 + 1 + (0 + 1 + z 5)) + 1 + z 2 * 7)) := rfl
  have hMS : (rm_X10i z).slots = 0 + 6 + 0 + 2 + (0 + z 2 + z 2) + 4 + (0 + z 3 + z 2 + z 2 * z 3 + z 2 + z 2 * z 3) + 7 + (0 + z 4 + (9 + (z 0 + z 0)) * (z 4 + 2)) + z 0 + z 0 * (9 + (0 + (0 + 2 + (0 + z 5 + z 5 * 4)) + z 2 + z 2 + z 2)) + z 1 + z 1 * (8 + (0 + (0 + 2 + (0 + z 5 + z 5 * 4)) + z 2 + z 2 * (11 + 6 * z 0))) := rfl
  generalize hTC : (rm_X10i z).cells = TC at hMC ⊢
  generalize hTS : (rm_X10i z).slots = TS at hMS ⊢
  generalize hq1 : 1 + (0 + (0 + 1 + (0 + 1 + z 5)) + 1 + 1 + 1) = q1 at hMC
  generalize hq2 : 1 + (0 + (0 + 1 + (0 + 1 + z 5)) + 1 + z 2 * 7) = q2 at hMC
  generalize hr1 : 9 + (0 + (0 + 2 + (0 + z 5 + z 5 * 4)) + z 2 + z 2 + z 2) = r1 at hMS
  generalize hr3 : z 2 * (11 + 6 * z 0) = r3 at hMS
  generalize hr2 : 8 + (0 + (0 + 2 + (0 + z 5 + z 5 * 4)) + z 2 + r3) = r2 at hMS
  generalize hn1 : z 0 * q1 = n1 at hMC
  generalize hn2 : z 1 * q2 = n2 at hMC
  generalize hn3 : z 0 * r1 = n3 at hMS
  generalize hn4 : z 1 * r2 = n4 at hMS
  generalize hn5 : z 2 * z 3 = n5 at hMS
  generalize hn6 : (9 + (z 0 + z 0)) * (z 4 + 2) = n6 at hMS
  have G : ∀ a b, a ≤ TC → b ≤ TS → xC p m c cX10_init 8 s args RX10 meth (rm_X10i z) a b D cA := fun a b h1 h2 => C.grow (by rw [hTC]; exact h1) (by rw [hTS]; exact h2)
  refine x_sub (L' := [(0, .ref o), (1, .int x1), (2, .int x2), (3, .int x3), (4, .int x4), (5, .int x5), (6, .int x6)]) [0, 1, 2, 3, 4, 5, 6] rfl ?_
  refine x_aload_n C dX10_init_0 rfl (q := 0) rfl ?_
  refine y_obj C ob_X10_1 ob_i ob_c (Nat.le_of_ble_eq_true rfl) (Nat.le_of_ble_eq_true rfl) (by decide) dX10_init_1 ?_
  refine x_aload_n C dX10_init_4 rfl (q := 0) rfl ?_
  have C1 := G (0 + 1) (0 + 6) (by omega) (by omega)
  refine y_new C cl_X7 (1, 0, 0) (fs := [.int 0, .int 0, .int 0, .int 0, .int 0, .int 0]) (fun j hj => by rcases (show j = 0 ∨ j = 1 ∨ j = 2 ∨ j = 3 ∨ j = 4 ∨ j = 5 by omega) with rfl | rfl | rfl | rfl | rfl | rfl <;> rfl) cw_X10_7 cn_X7 cz_X7 C1.2.2.1 dX10_init_5 (fun q hq => ?_)
  refine x_dup C1 dX10_init_8 rfl ?_
  refine x_iload_n C1 dX10_init_9 rfl (q := 1) rfl ?_
  refine x_iload_n C1 dX10_init_10 rfl (q := 2) rfl ?_
  refine x_iload_n C1 dX10_init_11 rfl (q := 3) rfl ?_
  refine x_iload C1 dX10_init_12 (q := 4) rfl ?_
  refine x_iload C1 dX10_init_14 (q := 5) rfl ?_
  refine x_iload C1 dX10_init_16 (q := 6) rfl ?_
  refine x_callI C1 (k_X7 x1 x2 x3 x4 x5 x6 (yU_s _ _ _)) wi_X10_9 rfl (Nat.le_of_ble_eq_true rfl) ⟨⟨rfl, rfl⟩, Nat.le_of_ble_eq_true rfl, Nat.le_of_ble_eq_true rfl⟩ dX10_init_18 (G (0 + 1 + 0) (0 + 6 + 0) (by omega) (by omega)).2.2.1 rfl ?_
  rw [yU_yU, v0, v1, v2, v3, v4, v5]
  have C2 := G (0 + 1 + 0) (0 + 6 + 0) (by omega) (by omega)
  have oq : ¬ o = q := fun e => by rw [e, hq] at ho; cases ho
  refine y_putF C2 cl_X10 ((yU_o _ _ oq).trans ho) (k := 0) (by decide) fl_X10_12_X10 rfl hnm rfl rfl rfl (Nat.le_of_ble_eq_true rfl) dX10_init_21 ?_
  refine x_gen (P := fun W => W o = some ((0, 0, 0), .inr (9, [.ref q, .null, .null, .null, .null, .null, .int 0, .int 0])) ∧ yB1 z W q) ⟨yU_s _ _ _, (yU_o _ _ (fun e => oq e.symm)).trans (yU_s _ _ _)⟩ (fun W1 hW1 => ?_)
  obtain ⟨a0, a1⟩ := hW1
  -- Txns
  have C3 := G (0 + 1 + 0 + 1) (0 + 6 + 0 + 2) (by omega) (by omega)
  have C4 := G (0 + 1 + 0 + 1 + (0 + 1 + 1)) (0 + 6 + 0 + 2 + (0 + z 2 + z 2)) (by omega) (by omega)
  refine x_aload_n C2 dX10_init_24 rfl (q := 0) rfl ?_
  refine y_new C2 cl_X8 (2, 0, 0) (fs := [.null, .null]) (fun j hj => by rcases (show j = 0 ∨ j = 1 by omega) with rfl | rfl <;> rfl) cw_X10_18 cn_X8 cz_X8 C3.2.2.1 dX10_init_25 (fun t ht => ?_)
  have ot : ¬ o = t := fun e => by rw [e, ht] at a0; cases a0
  have qt : ¬ q = t := fun e => by rw [yB1, e, ht] at a1; cases a1
  refine x_dup C3 dX10_init_28 rfl ?_
  refine x_aload_n C3 dX10_init_29 rfl (q := 0) rfl ?_
  refine y_get C3 cl_X10 ((yU_o _ _ ot).trans a0) (k := 0) (by decide) fl_X10_12_X10 rfl dX10_init_30 ?_
  refine x_callI C3 (k_X8 (n := z 2) (3, 0, 0) (4, 0, 0) z2 (yU_s _ _ _) ((yU_o _ _ qt).trans a1) rfl) wi_X10_20 rfl (Nat.le_of_ble_eq_true rfl) ⟨⟨rfl, rfl⟩, Nat.le_of_ble_eq_true rfl, Nat.le_of_ble_eq_true rfl⟩ dX10_init_33 C4.2.2.1 rfl ?_
  refine y_ex (fun t3 => ?_)
  refine y_ex (fun t4 => ?_)
  refine y_and (fun hf2 => ?_)
  refine x_gen (P := fun W2 => yX (yU W1 t ((2, 0, 0), .inr (7, [.null, .null]))) W2 t ∧ yB2 cA z W2 t t3 t4) (t_chain (yU_s _ _ _) hf2) (fun W2 hW2 => ?_)
  obtain ⟨b0, b5⟩ := hW2
  have hE := yX.ext ht b0
  refine y_putF C4 cl_X10 (hE _ _ a0) (k := 1) (by decide) fl_X10_23_X10 rfl hnm rfl rfl rfl (Nat.le_of_ble_eq_true rfl) dX10_init_36 ?_
  have hF : yF bX W2 (yU W2 o ((0, 0, 0), .inr (9, [.ref q, .ref t, .null, .null, .null, .null, .int 0, .int 0]))) := yF.set (hE _ _ a0) rfl
  refine x_gen (P := fun W => W o = some ((0, 0, 0), .inr (9, [.ref q, .ref t, .null, .null, .null, .null, .int 0, .int 0])) ∧ yB1 z W q ∧ yB2 cA z W t t3 t4) ⟨yU_s _ _ _, hF _ _ _ _ _ (hE _ _ a1) rfl, b5.keep hF⟩ (fun W3 hW3 => ?_)
  clear hF hE b5 b0 a0 a1 ht ot qt
  obtain ⟨a0, a1, a2⟩ := hW3
  -- Keys
  have C5 := G (0 + 1 + 0 + 1 + (0 + 1 + 1) + 1) (0 + 6 + 0 + 2 + (0 + z 2 + z 2) + 4) (by omega) (by omega)
  have C6 := G (0 + 1 + 0 + 1 + (0 + 1 + 1) + 1 + (0 + 1 + 1 + z 2 + 1 + z 2)) (0 + 6 + 0 + 2 + (0 + z 2 + z 2) + 4 + (0 + z 3 + z 2 + z 2 * z 3 + z 2 + z 2 * z 3)) (by omega) (by rw [hn5]; omega)
  refine x_aload_n C4 dX10_init_39 rfl (q := 0) rfl ?_
  refine y_new C4 cl_X1 (5, 0, 0) (fs := [.null, .null, .null, .null]) (fun j hj => by rcases (show j = 0 ∨ j = 1 ∨ j = 2 ∨ j = 3 by omega) with rfl | rfl | rfl | rfl <;> rfl) cw_X10_27 cn_X1 cz_X1 C5.2.2.1 dX10_init_40 (fun kx hkx => ?_)
  have ot : ¬ o = kx := fun e => by rw [e, hkx] at a0; cases a0
  have qt : ¬ q = kx := fun e => by rw [yB1, e, hkx] at a1; cases a1
  refine x_dup C5 dX10_init_43 rfl ?_
  refine x_aload_n C5 dX10_init_44 rfl (q := 0) rfl ?_
  refine y_get C5 cl_X10 ((yU_o _ _ ot).trans a0) (k := 0) (by decide) fl_X10_12_X10 rfl dX10_init_45 ?_
  refine x_callI C5 (k_X1 (t := z 2) (k := z 3) (6, 0, 0) (7, 0, 0) (9, 0, 0) (fun i => (8, i, 0)) (fun i => (10, i, 0)) z2 z3 (yU_s _ _ _) ((yU_o _ _ qt).trans a1) rfl rfl) wi_X10_29 rfl (Nat.le_of_ble_eq_true rfl) ⟨⟨rfl, rfl⟩, Nat.le_of_ble_eq_true rfl, Nat.le_of_ble_eq_true rfl⟩ dX10_init_48 C6.2.2.1 rfl ?_
  refine y_ex (fun k6 => ?_)
  refine y_ex (fun k7 => ?_)
  refine y_ex (fun k9 => ?_)
  refine y_and (fun hf5 => ?_)
  refine x_gen (P := fun W4 => yX (yU W3 kx ((5, 0, 0), .inr (1, [.null, .null, .null, .null]))) W4 kx ∧ yB5 cA z W4 q kx k6 k7 k9) (k_chain (yU_s _ _ _) hf5) (fun W4 hW4 => ?_)
  obtain ⟨b0, b5⟩ := hW4
  have hE := yX.ext hkx b0
  refine y_putF C6 cl_X10 (hE _ _ a0) (k := 2) (by decide) fl_X10_30_X10 rfl hnm rfl rfl rfl (Nat.le_of_ble_eq_true rfl) dX10_init_51 ?_
  have hF : yF bX W4 (yU W4 o ((0, 0, 0), .inr (9, [.ref q, .ref t, .ref kx, .null, .null, .null, .int 0, .int 0]))) := yF.set (hE _ _ a0) rfl
  refine x_gen (P := fun W => W o = some ((0, 0, 0), .inr (9, [.ref q, .ref t, .ref kx, .null, .null, .null, .int 0, .int 0])) ∧ yB1 z W q ∧ yB2 cA z W t t3 t4 ∧ yB5 cA z W q kx k6 k7 k9) ⟨yU_s _ _ _, hF _ _ _ _ _ (hE _ _ a1) rfl, (a2.keep (yF.ext hE)).keep hF, b5.keep hF⟩ (fun W5 hW5 => ?_)
  clear hF hE b5 b0 a0 a1 a2 hkx ot qt
  obtain ⟨a0, a1, a2, a3⟩ := hW5
  -- Pool
  have C7 := G (0 + 1 + 0 + 1 + (0 + 1 + 1) + 1 + (0 + 1 + 1 + z 2 + 1 + z 2) + 1) (0 + 6 + 0 + 2 + (0 + z 2 + z 2) + 4 + (0 + z 3 + z 2 + z 2 * z 3 + z 2 + z 2 * z 3) + 7) (by omega) (by rw [hn5]; omega)
  have C8 := G (0 + 1 + 0 + 1 + (0 + 1 + 1) + 1 + (0 + 1 + 1 + z 2 + 1 + z 2) + 1 + (0 + 1 + 3 * (z 4 + 2))) (0 + 6 + 0 + 2 + (0 + z 2 + z 2) + 4 + (0 + z 3 + z 2 + z 2 * z 3 + z 2 + z 2 * z 3) + 7 + (0 + z 4 + (9 + (z 0 + z 0)) * (z 4 + 2))) (by omega) (by rw [hn5, hn6]; omega)
  refine x_aload_n C6 dX10_init_54 rfl (q := 0) rfl ?_
  refine y_new C6 cl_X5 (11, 0, 0) (fs := [.null, .null, .null, .null, .int 0, .int 0, .int 0]) (fun j hj => by rcases (show j = 0 ∨ j = 1 ∨ j = 2 ∨ j = 3 ∨ j = 4 ∨ j = 5 ∨ j = 6 by omega) with rfl | rfl | rfl | rfl | rfl | rfl | rfl <;> rfl) cw_X10_34 cn_X5 cz_X5 C7.2.2.1 dX10_init_55 (fun pl hpl => ?_)
  have ot : ¬ o = pl := fun e => by rw [e, hpl] at a0; cases a0
  have qt : ¬ q = pl := fun e => by rw [yB1, e, hpl] at a1; cases a1
  refine x_dup C7 dX10_init_58 rfl ?_
  refine x_aload_n C7 dX10_init_59 rfl (q := 0) rfl ?_
  refine y_get C7 cl_X10 ((yU_o _ _ ot).trans a0) (k := 0) (by decide) fl_X10_12_X10 rfl dX10_init_60 ?_
  refine x_callI C7 (k_X5 (n := z 0) (w := z 4) (kar := (12, 0, 0)) z0 z4 (yU_s _ _ _) ((yU_o _ _ qt).trans a1) rfl rfl) wi_X10_36 rfl (Nat.le_of_ble_eq_true rfl) ⟨⟨rfl, rfl⟩, Nat.le_of_ble_eq_true rfl, Nat.le_of_ble_eq_true rfl⟩ dX10_init_63 C8.2.2.1 rfl ?_
  refine y_ex (fun W6 => ?_)
  refine y_ex (fun ar => ?_)
  refine y_ex (fun ad => ?_)
  refine y_ex (fun p1 => ?_)
  refine y_ex (fun p2 => ?_)
  refine y_ex (fun dr => ?_)
  refine y_ex (fun d1 => ?_)
  refine y_ex (fun d2 => ?_)
  refine y_ex (fun hd => ?_)
  refine y_ex (fun e1 => ?_)
  refine y_ex (fun e2 => ?_)
  refine y_and (fun hf11 => ?_)
  obtain ⟨b0, b5⟩ := p_chain hf11.1 hf11.2.1 hf11.2.2
  generalize plP (z 4) ad p1 p2 dr d1 d2 hd e1 e2 = P at b5
  have hE := yX.ext hpl b0
  refine y_putF C8 cl_X10 (hE _ _ a0) (k := 3) (by decide) fl_X10_37_X10 rfl hnm rfl rfl rfl (Nat.le_of_ble_eq_true rfl) dX10_init_66 ?_
  have hF : yF bX W6 (yU W6 o ((0, 0, 0), .inr (9, [.ref q, .ref t, .ref kx, .ref pl, .null, .null, .int 0, .int 0]))) := yF.set (hE _ _ a0) rfl
  refine x_gen (P := fun W => W o = some ((0, 0, 0), .inr (9, [.ref q, .ref t, .ref kx, .ref pl, .null, .null, .int 0, .int 0])) ∧ yB1 z W q ∧ yB2 cA z W t t3 t4 ∧ yB5 cA z W q kx k6 k7 k9 ∧ yB11 cA z W q pl ar P) ⟨yU_s _ _ _, hF _ _ _ _ _ (hE _ _ a1) rfl, (a2.keep (yF.ext hE)).keep hF, (a3.keep (yF.ext hE)).keep hF, b5.keep hF⟩ (fun W7 hW7 => ?_)
  clear hF hE b5 b0 a0 a1 a2 a3 hpl ot qt hf11
  obtain ⟨a0, a1, a2, a3, a4⟩ := hW7
  -- the shards' array
  refine x_aload_n C8 dX10_init_69 rfl (q := 0) rfl ?_
  refine x_aload_n C8 dX10_init_70 rfl (q := 0) rfl ?_
  refine y_get C8 cl_X10 a0 (k := 0) (by decide) fl_X10_12_X10 rfl dX10_init_71 ?_
  refine y_get C8 cl_X7 a1 (k := 0) (by decide) fl_X10_41_X7 rfl dX10_init_74 ?_
  generalize hcs : 0 + 1 + 0 + 1 + (0 + 1 + 1) + 1 + (0 + 1 + 1 + z 2 + 1 + z 2) + 1 + (0 + 1 + 3 * (z 4 + 2)) = u1 at C8 ⊢
  generalize hss : 0 + 6 + 0 + 2 + (0 + z 2 + z 2) + 4 + (0 + z 3 + z 2 + z 2 * z 3 + z 2 + z 2 * z 3) + 7 + (0 + z 4 + (9 + (z 0 + z 0)) * (z 4 + 2)) = u2 at C8 ⊢
  have hMC : TC = u1 + 1 + n1 + 1 + n2 := by omega
  have hMS : TS = u2 + z 0 + n3 + z 1 + n4 := by rw [← hss, hn5, hn6]; omega
  have C9 := G (u1 + 1) (u2 + z 0) (by omega) (by omega)
  refine y_newq C8 (16, 0, 0) 6 rfl cw_X10_45 (by decide) (by omega) (by omega) C9.2.2.1 dX10_init_77 (fun sa hsa => ?_)
  have osa : ¬ o = sa := fun e => by rw [e, hsa] at a0; cases a0
  refine y_putF C9 cl_X10 ((yU_o _ _ osa).trans a0) (k := 4) (by decide) fl_X10_47_X10 rfl hnm rfl rfl rfl (Nat.le_of_ble_eq_true rfl) dX10_init_80 ?_
  have hE : ∀ x q', W7 x = some q' → yU W7 sa ((16, 0, 0), .inl (cA 6, z 0, .inr (.inr (.inr (.inr (fun _ => none)))))) x = some q' := fun x q' hx => (yU_o _ _ (fun e => by rw [e, hsa] at hx; cases hx)).trans hx
  have hF : yF bX _ (yU (yU W7 sa ((16, 0, 0), .inl (cA 6, z 0, .inr (.inr (.inr (.inr (fun _ => none))))))) o ((0, 0, 0), .inr (9, [.ref q, .ref t, .ref kx, .ref pl, .ref sa, .null, .int 0, .int 0]))) := yF.set (hE _ _ a0) rfl
  refine x_gen (P := fun W => W o = some ((0, 0, 0), .inr (9, [.ref q, .ref t, .ref kx, .ref pl, .ref sa, .null, .int 0, .int 0])) ∧ yB1 z W q ∧ yB2 cA z W t t3 t4 ∧ yB5 cA z W q kx k6 k7 k9 ∧ yB11 cA z W q pl ar P ∧ yShs cA z W 0 sa q pl kx (fun _ _ => 0)) ⟨yU_s _ _ _, hF _ _ _ _ _ (hE _ _ a1) rfl, (a2.keep (yF.ext hE)).keep hF, (a3.keep (yF.ext hE)).keep hF, (a4.keep (yF.ext hE)).keep hF, (yU_o _ _ (fun e => osa e.symm)).trans (yU_s _ _ _), fun i hi => absurd hi (Nat.not_lt_zero _)⟩ (fun W8 hW8 => ?_)
  clear hF hE a0 a1 a2 a3 a4
  refine x_iconst C9 (v := 0) dX10_init_83 (by decide) ?_
  refine x_istore C9 (L' := [(7, .int 0), (0, .ref o), (1, .int x1), (2, .int x2), (3, .int x3), (4, .int x4), (5, .int x5), (6, .int x6)]) dX10_init_84 (by decide) rfl ?_
  obtain ⟨a0, a1, a2, a3, a4, a5⟩ := hW8
  clear hcs hss C1 C2 C3 C4 C5 C6 C7 C8 hq hf2 hf5 hsa W1 W2 W3 W4 W5 W6 W7 oq
  -- the acceptors' loop
  have hlA : ∀ (aa : Nat) (j k cells slots : Nat) (W : yM) (S T : Nat → Nat → Nat) (V : Nat → Nat → Nat → Nat), k + j = z 1 → cells + q2 * j = TC → slots + r2 * j = TS → W o = some ((0, 0, 0), .inr (9, [.ref q, .ref t, .ref kx, .ref pl, .ref sa, .ref aa, .int 0, .int 0])) → yB1 z W q → yB2 cA z W t t3 t4 → yB5 cA z W q kx k6 k7 k9 → yB11 cA z W q pl ar P → yShs cA z W (z 0) sa q pl kx S → yAcs cA z W k aa q t pl T V →
      XW p l e (rm_X10i z) s m args below meth c cells slots 8 bs (xQ below args s bs none (fun H => ∃ W A P S T V, (A 0 = o ∧ ySt cA z W A P S T V) ∧ yW D bs sb sc W H) TC TS) (yW D bs sb sc W) 147 [(0, .ref o), (1, .int x1), (2, .int x2), (3, .int x3), (4, .int x4), (5, .int x5), (6, .int x6), (7, .int (nI k))] [] := by
    intro aa j
    induction j with
    | zero =>
      intro k cells slots W S T V hk hc hs g0 g1 g2 g3 g4 g5 g6
      have hk : k = z 1 := by omega
      subst hk
      have D0 := G cells slots (by omega) (by omega)
      refine x_iload D0 dX10_init_147 (q := 7) rfl ?_
      refine x_aload_n D0 dX10_init_149 rfl (q := 0) rfl ?_
      refine y_get D0 cl_X10 g0 (k := 5) (by decide) fl_X10_59_X10 rfl dX10_init_150 ?_
      refine y_alen D0 7 rfl g6.1 dX10_init_153 ?_
      refine x_icmp_ge D0 (tgt := 191) (A := some ()) (B := none) (rr := ()) dX10_init_154 (by decide) (if_pos (nI_le (Nat.le_refl _) (by omega))) (fun _ _ => ?_) (fun _ h => by cases h)
      have e8 : cells = TC := by omega
      have e9 : slots = TS := by omega
      rw [← e8, ← e9]
      exact xr_v D0 hr dX10_init_191 (fun H h => ⟨W, stA o q t t3 t4 kx k6 k7 k9 pl ar sa aa, P, S, T, V, ⟨rfl, g0, g1, g2, g3, g4, g5, g6⟩, h⟩)
    | succ j ih =>
      intro k cells slots W S T V hk hc hs g0 g1 g2 g3 g4 g5 g6
      rw [Nat.mul_succ] at hc hs
      have D0 := G cells slots (by omega) (by omega)
      have D1 := G (cells + 1) (slots + 8) (by omega) (by omega)
      have D2 := G (cells + 1 + (0 + (0 + 1 + (0 + 1 + z 5)) + 1 + z 2 * 7)) (slots + 8 + (0 + (0 + 2 + (0 + z 5 + z 5 * 4)) + z 2 + z 2 * (11 + 6 * z 0))) (by omega) (by rw [hr3]; omega)
      refine x_iload D0 dX10_init_147 (q := 7) rfl ?_
      refine x_aload_n D0 dX10_init_149 rfl (q := 0) rfl ?_
      refine y_get D0 cl_X10 g0 (k := 5) (by decide) fl_X10_59_X10 rfl dX10_init_150 ?_
      refine y_alen D0 7 rfl g6.1 dX10_init_153 ?_
      refine x_icmp_ge D0 (tgt := 191) (A := none) (B := some ()) (rr := ()) dX10_init_154 (by decide) (if_neg (nI_ge (show k < z 1 by omega) (by omega))) (fun _ h => by cases h) (fun _ _ => ?_)
      refine x_aload_n D0 dX10_init_157 rfl (q := 0) rfl ?_
      refine y_get D0 cl_X10 g0 (k := 5) (by decide) fl_X10_59_X10 rfl dX10_init_158 ?_
      refine x_iload D0 dX10_init_161 (q := 7) rfl ?_
      refine y_new D0 cl_X0 (25, k, 0) (fs := dX0) (fun j hj => by rcases (show j = 0 ∨ j = 1 ∨ j = 2 ∨ j = 3 ∨ j = 4 ∨ j = 5 ∨ j = 6 ∨ j = 7 by omega) with rfl | rfl | rfl | rfl | rfl | rfl | rfl | rfl <;> rfl) cw_X10_57 cn_X0 cz_X0 D1.2.2.1 dX10_init_163 (fun a ha => ?_)
      have oa : ¬ o = a := fun e => by rw [e, ha] at g0; cases g0
      have qa : ¬ q = a := fun e => by rw [yB1, e, ha] at g1; cases g1
      refine x_dup D1 dX10_init_166 rfl ?_
      refine x_iload D1 dX10_init_167 (q := 7) rfl ?_
      refine x_aload_n D1 dX10_init_169 rfl (q := 0) rfl ?_
      refine y_get D1 cl_X10 ((yU_o _ _ oa).trans g0) (k := 0) (by decide) fl_X10_12_X10 rfl dX10_init_170 ?_
      refine x_aload_n D1 dX10_init_173 rfl (q := 0) rfl ?_
      refine y_get D1 cl_X10 ((yU_o _ _ oa).trans g0) (k := 1) (by decide) fl_X10_23_X10 rfl dX10_init_174 ?_
      refine x_aload_n D1 dX10_init_177 rfl (q := 0) rfl ?_
      refine y_get D1 cl_X10 ((yU_o _ _ oa).trans g0) (k := 3) (by decide) fl_X10_37_X10 rfl dX10_init_178 ?_
      refine x_callI D1 (k_X0 (n := z 0) (T := z 2) (g := z 5) (i := k) z0 z2 z5 (by omega) (yU_s _ _ _) ((yU_o _ _ qa).trans g1) rfl rfl rfl) wi_X10_63 rfl (Nat.le_of_ble_eq_true rfl) ⟨⟨rfl, rfl⟩, Nat.le_of_ble_eq_true rfl, Nat.le_of_ble_eq_true rfl⟩ dX10_init_181 D2.2.2.1 rfl ?_
      refine y_ex (fun W2 => ?_)
      refine y_ex (fun A => ?_)
      refine y_ex (fun B => ?_)
      refine y_and (fun hf => ?_)
      obtain ⟨f0, f1, f2⟩ := hf
      have hE := yX.ext ha f0
      have hA25 : W2 a = some ((25, k, 0), .inr (0, [.int (nI (z 0 + k)), .ref q, .ref pl, .ref (A 18), .int 1, .ref (A 26), .int (nI k), .ref t])) := by
        have := f2.1
        rw [f1] at this
        exact this
      refine y_aast D2 7 rfl cl_X0 (hE _ _ g6.1) hA25 (show k < z 1 by omega) (by omega) dX10_init_184 ?_
      refine x_iinc D2 (v := nI (k + 1)) (L' := [(7, .int (nI (k + 1))), (0, .ref o), (1, .int x1), (2, .int x2), (3, .int x3), (4, .int x4), (5, .int x5), (6, .int x6)]) dX10_init_185 (k := 7) rfl (by rw [nI_succ]; rfl) (by decide) rfl ?_
      refine x_goto D2 (tgt := 147) dX10_init_188 (by decide) ?_
      have hV' := g6.add hE f2
      have hF : yF bX W2 (yU W2 aa ((24, 0, 0), .inl (cA 7, z 1, .inr (.inr (.inr (.inr (fun k' => if k' = k then some (A 25) else if k' < k then some (T k' 25) else none))))))) := yF.set (hE _ _ g6.1) rfl
      have hoa : ¬ o = aa := y_ne g0 g6.1 (by decide)
      have hsa : ¬ sa = aa := y_ne g5.1 g6.1 (by decide)
      rw [f1] at hV' hF
      exact x_sub [1, 2, 3, 4, 5, 6, 7, 0] rfl (ih (k + 1) _ _ _ _ _ _ (by omega) (by omega) (by rw [hr3]; omega) ((yU_o _ _ hoa).trans (hE _ _ g0)) (hF _ _ _ _ _ (hE _ _ g1) rfl) ((g2.keep (yF.ext hE)).keep hF) ((g3.keep (yF.ext hE)).keep hF) ((g4.keep (yF.ext hE)).keep hF) (((g5.keep (yF.ext hE) ((hE _ _ g5.1).trans g5.1.symm))).keep hF (yU_o _ _ hsa)) hV')
  -- the shards' loop
  have hlS : ∀ (j k cells slots : Nat) (W : yM) (S : Nat → Nat → Nat), k + j = z 0 → cells + q1 * j = u1 + 1 + n1 → slots + r1 * j = u2 + z 0 + n3 → W o = some ((0, 0, 0), .inr (9, [.ref q, .ref t, .ref kx, .ref pl, .ref sa, .null, .int 0, .int 0])) → yB1 z W q → yB2 cA z W t t3 t4 → yB5 cA z W q kx k6 k7 k9 → yB11 cA z W q pl ar P → yShs cA z W k sa q pl kx S →
      XW p l e (rm_X10i z) s m args below meth c cells slots 8 bs (xQ below args s bs none (fun H => ∃ W A P S T V, (A 0 = o ∧ ySt cA z W A P S T V) ∧ yW D bs sb sc W H) TC TS) (yW D bs sb sc W) 86 [(0, .ref o), (1, .int x1), (2, .int x2), (3, .int x3), (4, .int x4), (5, .int x5), (6, .int x6), (7, .int (nI k))] [] := by
    intro j
    induction j with
    | zero =>
      intro k cells slots W S hk hc hs g0 g1 g2 g3 g4 g5
      have hk : k = z 0 := by omega
      subst hk
      have D0 := G cells slots (by omega) (by omega)
      refine x_iload D0 dX10_init_86 (q := 7) rfl ?_
      refine x_aload_n D0 dX10_init_88 rfl (q := 0) rfl ?_
      refine y_get D0 cl_X10 g0 (k := 4) (by decide) fl_X10_47_X10 rfl dX10_init_89 ?_
      refine y_alen D0 6 rfl g5.1 dX10_init_92 ?_
      refine x_icmp_ge D0 (tgt := 130) (A := some ()) (B := none) (rr := ()) dX10_init_93 (by decide) (if_pos (nI_le (Nat.le_refl _) (by omega))) (fun _ _ => ?_) (fun _ h => by cases h)
      refine x_aload_n D0 dX10_init_130 rfl (q := 0) rfl ?_
      refine x_aload_n D0 dX10_init_131 rfl (q := 0) rfl ?_
      refine y_get D0 cl_X10 g0 (k := 0) (by decide) fl_X10_12_X10 rfl dX10_init_132 ?_
      refine y_get D0 cl_X7 g1 (k := 1) (by decide) fl_X10_54_X7 rfl dX10_init_135 ?_
      have D1 := G (cells + 1) (slots + z 1) (by omega) (by omega)
      refine y_newq D0 (24, 0, 0) 7 rfl cw_X10_57 (by decide) (by omega) (by omega) D1.2.2.1 dX10_init_138 (fun aa haa => ?_)
      have oaa : ¬ o = aa := fun e => by rw [e, haa] at g0; cases g0
      refine y_putF D1 cl_X10 ((yU_o _ _ oaa).trans g0) (k := 5) (by decide) fl_X10_59_X10 rfl hnm rfl rfl rfl (Nat.le_of_ble_eq_true rfl) dX10_init_141 ?_
      have hE : ∀ x q', W x = some q' → yU W aa ((24, 0, 0), .inl (cA 7, z 1, .inr (.inr (.inr (.inr (fun _ => none)))))) x = some q' := fun x q' hx => (yU_o _ _ (fun e => by rw [e, haa] at hx; cases hx)).trans hx
      have hF : yF bX _ (yU (yU W aa ((24, 0, 0), .inl (cA 7, z 1, .inr (.inr (.inr (.inr (fun _ => none))))))) o ((0, 0, 0), .inr (9, [.ref q, .ref t, .ref kx, .ref pl, .ref sa, .ref aa, .int 0, .int 0]))) := yF.set (hE _ _ g0) rfl
      have hso : ¬ sa = o := y_ne g5.1 g0 (by decide)
      refine x_iconst D1 (v := 0) dX10_init_144 (by decide) ?_
      refine x_istore D1 (L' := [(7, .int 0), (0, .ref o), (1, .int x1), (2, .int x2), (3, .int x3), (4, .int x4), (5, .int x5), (6, .int x6)]) dX10_init_145 (by decide) rfl ?_
      exact x_sub [1, 2, 3, 4, 5, 6, 7, 0] rfl (hlA aa (z 1) 0 _ _ _ S (fun _ _ => 0) (fun _ _ _ => 0) (by omega) (by rw [Nat.mul_comm, hn2]; omega) (by rw [Nat.mul_comm, hn4]; omega) (yU_s _ _ _) (hF _ _ _ _ _ (hE _ _ g1) rfl) ((g2.keep (yF.ext hE)).keep hF) ((g3.keep (yF.ext hE)).keep hF) ((g4.keep (yF.ext hE)).keep hF) ((g5.keep (yF.ext hE) ((hE _ _ g5.1).trans g5.1.symm)).keep hF (yU_o _ _ hso)) ⟨(yU_o _ _ (fun e => oaa e.symm)).trans (yU_s _ _ _), fun i hi => absurd hi (Nat.not_lt_zero _)⟩)
    | succ j ih =>
      intro k cells slots W S hk hc hs g0 g1 g2 g3 g4 g5
      rw [Nat.mul_succ] at hc hs
      have D0 := G cells slots (by omega) (by omega)
      have D1 := G (cells + 1) (slots + 9) (by omega) (by omega)
      have D2 := G (cells + 1 + (0 + (0 + 1 + (0 + 1 + z 5)) + 1 + 1 + 1)) (slots + 9 + (0 + (0 + 2 + (0 + z 5 + z 5 * 4)) + z 2 + z 2 + z 2)) (by omega) (by omega)
      refine x_iload D0 dX10_init_86 (q := 7) rfl ?_
      refine x_aload_n D0 dX10_init_88 rfl (q := 0) rfl ?_
      refine y_get D0 cl_X10 g0 (k := 4) (by decide) fl_X10_47_X10 rfl dX10_init_89 ?_
      refine y_alen D0 6 rfl g5.1 dX10_init_92 ?_
      refine x_icmp_ge D0 (tgt := 130) (A := none) (B := some ()) (rr := ()) dX10_init_93 (by decide) (if_neg (nI_ge (show k < z 0 by omega) (by omega))) (fun _ h => by cases h) (fun _ _ => ?_)
      refine x_aload_n D0 dX10_init_96 rfl (q := 0) rfl ?_
      refine y_get D0 cl_X10 g0 (k := 4) (by decide) fl_X10_47_X10 rfl dX10_init_97 ?_
      refine x_iload D0 dX10_init_100 (q := 7) rfl ?_
      refine y_new D0 cl_X6 (17, k, 0) (fs := dX6) (fun j hj => by rcases (show j = 0 ∨ j = 1 ∨ j = 2 ∨ j = 3 ∨ j = 4 ∨ j = 5 ∨ j = 6 ∨ j = 7 ∨ j = 8 by omega) with rfl | rfl | rfl | rfl | rfl | rfl | rfl | rfl | rfl <;> rfl) cw_X10_45 cn_X6 cz_X6 D1.2.2.1 dX10_init_102 (fun a ha => ?_)
      have oa : ¬ o = a := fun e => by rw [e, ha] at g0; cases g0
      have qa : ¬ q = a := fun e => by rw [yB1, e, ha] at g1; cases g1
      refine x_dup D1 dX10_init_105 rfl ?_
      refine x_iload D1 dX10_init_106 (q := 7) rfl ?_
      refine x_aload_n D1 dX10_init_108 rfl (q := 0) rfl ?_
      refine y_get D1 cl_X10 ((yU_o _ _ oa).trans g0) (k := 0) (by decide) fl_X10_12_X10 rfl dX10_init_109 ?_
      refine x_aload_n D1 dX10_init_112 rfl (q := 0) rfl ?_
      refine y_get D1 cl_X10 ((yU_o _ _ oa).trans g0) (k := 2) (by decide) fl_X10_30_X10 rfl dX10_init_113 ?_
      refine x_aload_n D1 dX10_init_116 rfl (q := 0) rfl ?_
      refine y_get D1 cl_X10 ((yU_o _ _ oa).trans g0) (k := 3) (by decide) fl_X10_37_X10 rfl dX10_init_117 ?_
      refine x_callI D1 (k_X6 (n := z 5) (t := z 2) (18, k, 0) (19, k, 0) (21, k, 0) (22, k, 0) (23, k, 0) (fun j => (20, k, j)) z5 z2 (yU_s _ _ _) ((yU_o _ _ qa).trans g1) rfl rfl) wi_X10_51 rfl (Nat.le_of_ble_eq_true rfl) ⟨⟨rfl, rfl⟩, Nat.le_of_ble_eq_true rfl, Nat.le_of_ble_eq_true rfl⟩ dX10_init_120 D2.2.2.1 rfl ?_
      refine y_ex (fun W2 => ?_)
      refine y_ex (fun b1 => ?_)
      refine y_ex (fun b2 => ?_)
      refine y_ex (fun b3 => ?_)
      refine y_ex (fun b4 => ?_)
      refine y_ex (fun b5 => ?_)
      refine y_and (fun hf => ?_)
      obtain ⟨f0, f1⟩ := hf
      have hE := yX.ext ha f0
      have f2 : ySh cA z W2 k q pl kx (shA a b1 b2 b3 b4 b5) := f1
      refine y_aast D2 6 rfl cl_X6 (hE _ _ g5.1) f1.1 (show k < z 0 by omega) (by omega) dX10_init_123 ?_
      refine x_iinc D2 (v := nI (k + 1)) (L' := [(7, .int (nI (k + 1))), (0, .ref o), (1, .int x1), (2, .int x2), (3, .int x3), (4, .int x4), (5, .int x5), (6, .int x6)]) dX10_init_124 (k := 7) rfl (by rw [nI_succ]; rfl) (by decide) rfl ?_
      refine x_goto D2 (tgt := 86) dX10_init_127 (by decide) ?_
      have hV' := g5.add hE f2
      have hF : yF bX W2 (yU W2 sa ((16, 0, 0), .inl (cA 6, z 0, .inr (.inr (.inr (.inr (fun k' => if k' = k then some a else if k' < k then some (S k' 17) else none))))))) := yF.set (hE _ _ g5.1) rfl
      have hos : ¬ o = sa := y_ne g0 g5.1 (by decide)
      exact x_sub [1, 2, 3, 4, 5, 6, 7, 0] rfl (ih (k + 1) _ _ _ _ (by omega) (by omega) (by omega) ((yU_o _ _ hos).trans (hE _ _ g0)) (hF _ _ _ _ _ (hE _ _ g1) rfl) ((g2.keep (yF.ext hE)).keep hF) ((g3.keep (yF.ext hE)).keep hF) ((g4.keep (yF.ext hE)).keep hF) hV')
  exact x_sub [1, 2, 3, 4, 5, 6, 7, 0] rfl (hlS (z 0) 0 _ _ _ _ (by omega) (by rw [Nat.mul_comm, hn1]) (by rw [Nat.mul_comm, hn3]) a0 a1 a2 a3 a4 a5)
end STORE
