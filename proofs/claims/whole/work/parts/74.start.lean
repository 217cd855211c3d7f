/-! the sizes, the room, the whole law -/
theorem odd_e (x : Int32) : ∃ N, 1 ≤ N ∧ N ≤ 5 ∧ N % 2 = 1 ∧ odd x = nI N ∧ mdd x = nI N := by
  unfold odd mdd
  have e2 : (2 : Int32).toInt = 2 := by decide
  have e3 : (3 : Int32).toInt = 3 := by decide
  have e4 : (4 : Int32).toInt = 4 := by decide
  have e5 : (5 : Int32).toInt = 5 := by decide
  by_cases a : (2 : Int32) < x
  · have a' := a
    rw [Int32.lt_iff_toInt_lt, e2] at a'
    have b : (3 : Int32) ≤ x := by rw [Int32.le_iff_toInt_le, e3]; omega
    rw [if_pos a, if_pos b]
    by_cases c : (4 : Int32) < x
    · have c' := c
      rw [Int32.lt_iff_toInt_lt, e4] at c'
      have d : (5 : Int32) ≤ x := by rw [Int32.le_iff_toInt_le, e5]; omega
      rw [if_pos c, if_pos d]
      exact ⟨5, by decide, by decide, rfl, rfl, rfl⟩
    · have c' := c
      rw [Int32.lt_iff_toInt_lt, e4] at c'
      have d : ¬ (5 : Int32) ≤ x := by rw [Int32.le_iff_toInt_le, e5]; omega
      rw [if_neg c, if_neg d]
      exact ⟨3, by decide, by decide, rfl, rfl, rfl⟩
  · have a' := a
    rw [Int32.lt_iff_toInt_lt, e2] at a'
    have b : ¬ (3 : Int32) ≤ x := by rw [Int32.le_iff_toInt_le, e3]; omega
    rw [if_neg a, if_neg b]
    exact ⟨1, by decide, by decide, rfl, rfl, rfl⟩
def zf (n0 n1 n2 n3 n4 n5 : Nat) (k : Nat) : Nat := match k with | 0 => n0 | 1 => n1 | 2 => n2 | 3 => n3 | 4 => n4 | _ => n5
theorem sizes_e (x1 x2 x3 x4 x5 x6 : Int32) : ∃ z : Nat → Nat, zOK z ∧ (nrs x1 4 = nI (z 0) ∧ odd x2 = nI (z 1) ∧ nrs x3 16 = nI (z 2) ∧ nrs x4 32 = nI (z 3) ∧ nrs x5 200 = nI (z 4) ∧ nrs x6 200 = nI (z 5)) ∧ (nrm x1 1 4 = nI (z 0) ∧ mdd x2 = nI (z 1) ∧ nrm x3 1 16 = nI (z 2) ∧ nrm x4 1 32 = nI (z 3) ∧ nrm x5 1 200 = nI (z 4) ∧ nrm x6 1 200 = nI (z 5)) := by
  obtain ⟨n0, a0, b0, c0, d0⟩ := nrs_e x1 (h := 4) (by decide) (by decide)
  obtain ⟨n1, a1, b1, e1, c1, d1⟩ := odd_e x2
  obtain ⟨n2, a2, b2, c2, d2⟩ := nrs_e x3 (h := 16) (by decide) (by decide)
  obtain ⟨n3, a3, b3, c3, d3⟩ := nrs_e x4 (h := 32) (by decide) (by decide)
  obtain ⟨n4, a4, b4, c4, d4⟩ := nrs_e x5 (h := 200) (by decide) (by decide)
  obtain ⟨n5, a5, b5, c5, d5⟩ := nrs_e x6 (h := 200) (by decide) (by decide)
  exact ⟨zf n0 n1 n2 n3 n4 n5, ⟨a0, b0, a1, b1, a2, b2, a3, b3, a4, b4, a5, b5, e1⟩, ⟨c0, c1, c2, c3, c4, c5⟩, ⟨d0, d1, d2, d3, d4, d5⟩⟩
theorem room_X10 {z : Nat → Nat} (hz : zOK z) : (rm_X10i z).cells ≤ 20000 ∧ (rm_X10i z).slots ≤ 100000 := by
  unfold zOK at hz
  obtain ⟨-, b0, -, b1, -, b2, -, b3, -, b4, -, b5, -⟩ := hz
  have h1 : z 0 * (1 + (0 + (0 + 1 + (0 + 1 + z 5)) + 1 + 1 + 1)) ≤ 4 * 300 := Nat.mul_le_mul b0 (by omega)
  have h2 : z 1 * (1 + (0 + (0 + 1 + (0 + 1 + z 5)) + 1 + z 2 * 7)) ≤ 5 * 400 := Nat.mul_le_mul b1 (by omega)
  have h3 : z 2 * z 3 ≤ 16 * 32 := Nat.mul_le_mul b2 b3
  have h4 : (9 + (z 0 + z 0)) * (z 4 + 2) ≤ 17 * 202 := Nat.mul_le_mul (by omega) (by omega)
  have h5 : z 0 * (9 + (0 + (0 + 2 + (0 + z 5 + z 5 * 4)) + z 2 + z 2 + z 2)) ≤ 4 * 1200 := Nat.mul_le_mul b0 (by omega)
  have h6 : z 2 * (11 + 6 * z 0) ≤ 16 * 35 := Nat.mul_le_mul b2 (by omega)
  have h7 : z 1 * (8 + (0 + (0 + 2 + (0 + z 5 + z 5 * 4)) + z 2 + z 2 * (11 + 6 * z 0))) ≤ 5 * 2000 := Nat.mul_le_mul b1 (by omega)
  constructor
  · show 0 + 1 + 0 + 1 + (0 + 1 + 1) + 1 + (0 + 1 + 1 + z 2 + 1 + z 2) + 1 + (0 + 1 + 3 * (z 4 + 2)) + 1 + z 0 * (1 + (0 + (0 + 1 + (0 + 1 + z 5)) + 1 + 1 + 1)) + 1 + z 1 * (1 + (0 + (0 + 1 + (0 + 1 + z 5)) + 1 + z 2 * 7)) ≤ 20000
    generalize z 0 * (1 + (0 + (0 + 1 + (0 + 1 + z 5)) + 1 + 1 + 1)) = p1 at *
    generalize z 1 * (1 + (0 + (0 + 1 + (0 + 1 + z 5)) + 1 + z 2 * 7)) = p2 at *
    omega
  · show 0 + 6 + 0 + 2 + (0 + z 2 + z 2) + 4 + (0 + z 3 + z 2 + z 2 * z 3 + z 2 + z 2 * z 3) + 7 + (0 + z 4 + (9 + (z 0 + z 0)) * (z 4 + 2)) + z 0 + z 0 * (9 + (0 + (0 + 2 + (0 + z 5 + z 5 * 4)) + z 2 + z 2 + z 2)) + z 1 + z 1 * (8 + (0 + (0 + 2 + (0 + z 5 + z 5 * 4)) + z 2 + z 2 * (11 + 6 * z 0))) ≤ 100000
    generalize z 1 * (8 + (0 + (0 + 2 + (0 + z 5 + z 5 * 4)) + z 2 + z 2 * (11 + 6 * z 0))) = p1 at *
    generalize z 0 * (9 + (0 + (0 + 2 + (0 + z 5 + z 5 * 4)) + z 2 + z 2 + z 2)) = p2 at *
    generalize (9 + (z 0 + z 0)) * (z 4 + 2) = p3 at *
    generalize z 2 * z 3 = p4 at *
    omega
theorem ySt.ext {cA : Nat → ClassId} {z : Nat → Nat} {W W' : yM} {A : Nat → Nat} {P S T : Nat → Nat → Nat} {V : Nat → Nat → Nat → Nat} (h : ySt cA z W A P S T V) (hE : ∀ x q, W x = some q → W' x = some q) : ySt cA z W' A P S T V := by
  obtain ⟨h0, h1, h2, h3, h4, h5, h6⟩ := h
  exact ⟨hE _ _ h0, hE _ _ h1, h2.keep (yF.ext hE), h3.keep (yF.ext hE), h4.keep (yF.ext hE), h5.keep (yF.ext hE) ((hE _ _ h5.1).trans h5.1.symm), hE _ _ h6.1, fun i hi => (h6.2 i hi).keepX (yF.ext hE)⟩
theorem law_6 {z : Nat → Nat} {xs : Nat → Int32} {L : Nat} {σ : Sg} {τ : Tg} (hz : zOK z) (hL : L ≤ 2566) (h : Rel z 6 0 σ τ) : f_law_L z xs L FU (nI 6) σ τ = some 1 := by
  have hF := FU_big
  by_cases h0 : L = 0
  · subst h0
    obtain ⟨n, hn⟩ : ∃ n, FU = n + 1 := ⟨FU - 1, by omega⟩
    rw [hn, f_law_L, if_pos (by decide)]
  · exact law_1 hz hL FU 6 0 σ τ h (by omega) (by omega)
theorem whole_start {p : Program} {e : Env} {s : State} {m : MethodId} {below : List Frame} {meth : Method} {c : Code} (l : Launch) (hflags : l.flags = flags0) {b L : Nat} {xs : Nat → Int32} (hL : L ≤ 2566) (C0 : lw_At p s m meth c b L xs) : W p l e room_1 s m #[Value.ref b] below meth c s.heap [] 0 0 (lw_Z below #[Value.ref b] s) (entryFrame m ([Value.ref b] : List Value).toArray 4) := by
  obtain ⟨D, cA, hE⟩ := law_env C0
  have C00 := C0
  obtain ⟨c1, c2, c3, c4, c5, c6, ⟨sc, s1, s2, s3, s4, s5⟩, c8, c9, -⟩ := C0
  have C : xC p m c cL_law 4 s #[Value.ref b] RL meth room_1 0 0 D cA := ⟨⟨c1, c2, c4, c5, fun w hw => c6 w (List.mem_filter.mp hw).1⟩, c9, ⟨Nat.zero_le _, Nat.zero_le _⟩, hE⟩
  have K : XW p l e room_1 s m #[Value.ref b] below meth c 0 0 4 s.heap.size (lw_Z below #[Value.ref b] s) (yW D s.heap.size b sc (fun _ => none)) 0 [(0, .ref b)] [] := by
    obtain ⟨z, hz, v, w⟩ := sizes_e (cv L xs 0) (cv L xs 1) (cv L xs 2) (cv L xs 3) (cv L xs 4) (cv L xs 5)
    obtain ⟨r1, r2⟩ := room_X10 hz
    have hzz := hz
    unfold zOK at hzz
    have hLs : L < 2147483648 := by omega
    generalize hTC : (rm_X10i z).cells = TC at r1
    generalize hTS : (rm_X10i z).slots = TS at r2
    have G : ∀ a b', a ≤ 600000 → b' ≤ 7302250 → xC p m c cL_law 4 s #[Value.ref b] RL meth room_1 a b' D cA := fun a b' h1 h2 => C.grow h1 h2
    have C1 := G (0 + 1) (0 + 8) (by omega) (by omega)
    have C2 := G (0 + 1 + TC) (0 + 8 + TS) (by omega) (by omega)
    have C3 := G (0 + 1 + TC + 1) (0 + 8 + TS + 38) (by omega) (by omega)
    have C4 := G (0 + 1 + TC + 1 + 27) (0 + 8 + TS + 38 + 13817) (by omega) (by omega)
    have hR : 1 ≤ room_1.frames ∧ 21 ≤ room_1.locals := ⟨Nat.le_of_ble_eq_true rfl, Nat.le_of_ble_eq_true rfl⟩
    have hΩ0 : ∀ (M : yM) (H : Heap), yW D s.heap.size b sc M H → H[b]? = some sc := fun M H h => h.1.1
    refine y_new C cl_X10 (0, 0, 0) (fs := dX10) (fun j hj => by rcases (show j = 0 ∨ j = 1 ∨ j = 2 ∨ j = 3 ∨ j = 4 ∨ j = 5 ∨ j = 6 ∨ j = 7 by omega) with rfl | rfl | rfl | rfl | rfl | rfl | rfl | rfl <;> rfl) cw_L_7 cn_X10 cz_X10 C1.2.2.1 dL_law_0 (fun o ho => ?_)
    refine x_dup C1 dL_law_3 rfl ?_
    refine x_aload_n C1 dL_law_4 rfl (q := 0) rfl ?_
    refine x_iconst C1 (v := nI 0) dL_law_5 (by decide) ?_
    refine y_cell C1 s2 s3 (hΩ0 _) s4 s5 hLs (by decide) (Nat.le_of_ble_eq_true rfl) hR dL_law_6 ?_
    refine x_aload_n C1 dL_law_9 rfl (q := 0) rfl ?_
    refine x_iconst C1 (v := nI 1) dL_law_10 (by decide) ?_
    refine y_cell C1 s2 s3 (hΩ0 _) s4 s5 hLs (by decide) (Nat.le_of_ble_eq_true rfl) hR dL_law_11 ?_
    refine x_aload_n C1 dL_law_14 rfl (q := 0) rfl ?_
    refine x_iconst C1 (v := nI 2) dL_law_15 (by decide) ?_
    refine y_cell C1 s2 s3 (hΩ0 _) s4 s5 hLs (by decide) (Nat.le_of_ble_eq_true rfl) hR dL_law_16 ?_
    refine x_aload_n C1 dL_law_19 rfl (q := 0) rfl ?_
    refine x_iconst C1 (v := nI 3) dL_law_20 (by decide) ?_
    refine y_cell C1 s2 s3 (hΩ0 _) s4 s5 hLs (by decide) (Nat.le_of_ble_eq_true rfl) hR dL_law_21 ?_
    refine x_aload_n C1 dL_law_24 rfl (q := 0) rfl ?_
    refine x_iconst C1 (v := nI 4) dL_law_25 (by decide) ?_
    refine y_cell C1 s2 s3 (hΩ0 _) s4 s5 hLs (by decide) (Nat.le_of_ble_eq_true rfl) hR dL_law_26 ?_
    refine x_aload_n C1 dL_law_29 rfl (q := 0) rfl ?_
    refine x_iconst C1 (v := nI 5) dL_law_30 (by decide) ?_
    refine y_cell C1 s2 s3 (hΩ0 _) s4 s5 hLs (by decide) (Nat.le_of_ble_eq_true rfl) hR dL_law_31 ?_
    refine x_callI C1 (k_X10 (z := z) ⟨by omega, by omega, by omega, by omega, by omega, by omega⟩ v (yU_s _ _ _)) wi_L_15 rfl (Nat.le_of_ble_eq_true rfl) ⟨⟨rfl, rfl⟩, Nat.le_of_ble_eq_true rfl, Nat.le_of_ble_eq_true rfl⟩ dL_law_34 (by rw [hTC, hTS]; exact C2.2.2.1) rfl ?_
    rw [hTC, hTS]
    refine y_ex (fun W1 => ?_)
    refine y_ex (fun A => ?_)
    refine y_ex (fun P => ?_)
    refine y_ex (fun S => ?_)
    refine y_ex (fun T => ?_)
    refine y_ex (fun V => ?_)
    refine y_and (fun hf => ?_)
    obtain ⟨hA0, hSt⟩ := hf
    refine x_astore_n C2 (L' := [(1, .ref o), (0, .ref b)]) dL_law_37 rfl (by decide) rfl ?_
    refine y_new C2 cl_X11 (100, 0, 0) (fs := mfl g0) (fun j hj => by rcases (show j = 0 ∨ j = 1 ∨ j = 2 ∨ j = 3 ∨ j = 4 ∨ j = 5 ∨ j = 6 ∨ j = 7 ∨ j = 8 ∨ j = 9 ∨ j = 10 ∨ j = 11 ∨ j = 12 ∨ j = 13 ∨ j = 14 ∨ j = 15 ∨ j = 16 ∨ j = 17 ∨ j = 18 ∨ j = 19 ∨ j = 20 ∨ j = 21 ∨ j = 22 ∨ j = 23 ∨ j = 24 ∨ j = 25 ∨ j = 26 ∨ j = 27 ∨ j = 28 ∨ j = 29 ∨ j = 30 ∨ j = 31 ∨ j = 32 ∨ j = 33 ∨ j = 34 ∨ j = 35 ∨ j = 36 ∨ j = 37 by omega) with rfl | rfl | rfl | rfl | rfl | rfl | rfl | rfl | rfl | rfl | rfl | rfl | rfl | rfl | rfl | rfl | rfl | rfl | rfl | rfl | rfl | rfl | rfl | rfl | rfl | rfl | rfl | rfl | rfl | rfl | rfl | rfl | rfl | rfl | rfl | rfl | rfl | rfl <;> rfl) cw_L_18 cn_X11 cz_X11 C3.2.2.1 dL_law_38 (fun o2 ho2 => ?_)
    have hSt2 := hSt.ext (W' := yU W1 o2 ((100, 0, 0), .inr (10, mfl g0))) (fun x q hx => (yU_o _ _ (fun e => by rw [e, ho2] at hx; cases hx)).trans hx)
    refine x_dup C3 dL_law_41 rfl ?_
    refine x_aload_n C3 dL_law_42 rfl (q := 1) rfl ?_
    refine x_iconst C3 (v := nI 0) dL_law_43 (by decide) ?_
    refine y_cell C3 s2 s3 (hΩ0 _) s4 s5 hLs (by decide) (Nat.le_of_ble_eq_true rfl) hR dL_law_44 ?_
    refine x_aload_n C3 dL_law_47 rfl (q := 1) rfl ?_
    refine x_iconst C3 (v := nI 1) dL_law_48 (by decide) ?_
    refine y_cell C3 s2 s3 (hΩ0 _) s4 s5 hLs (by decide) (Nat.le_of_ble_eq_true rfl) hR dL_law_49 ?_
    refine x_aload_n C3 dL_law_52 rfl (q := 1) rfl ?_
    refine x_iconst C3 (v := nI 2) dL_law_53 (by decide) ?_
    refine y_cell C3 s2 s3 (hΩ0 _) s4 s5 hLs (by decide) (Nat.le_of_ble_eq_true rfl) hR dL_law_54 ?_
    refine x_aload_n C3 dL_law_57 rfl (q := 1) rfl ?_
    refine x_iconst C3 (v := nI 3) dL_law_58 (by decide) ?_
    refine y_cell C3 s2 s3 (hΩ0 _) s4 s5 hLs (by decide) (Nat.le_of_ble_eq_true rfl) hR dL_law_59 ?_
    refine x_aload_n C3 dL_law_62 rfl (q := 1) rfl ?_
    refine x_iconst C3 (v := nI 4) dL_law_63 (by decide) ?_
    refine y_cell C3 s2 s3 (hΩ0 _) s4 s5 hLs (by decide) (Nat.le_of_ble_eq_true rfl) hR dL_law_64 ?_
    refine x_aload_n C3 dL_law_67 rfl (q := 1) rfl ?_
    refine x_iconst C3 (v := nI 5) dL_law_68 (by decide) ?_
    refine y_cell C3 s2 s3 (hΩ0 _) s4 s5 hLs (by decide) (Nat.le_of_ble_eq_true rfl) hR dL_law_69 ?_
    refine x_callI C3 (k_X11 (z := z) w (yU_s _ _ _) hSt2) wi_L_20 rfl (Nat.le_of_ble_eq_true rfl) ⟨⟨rfl, rfl⟩, Nat.le_of_ble_eq_true rfl, Nat.le_of_ble_eq_true rfl⟩ dL_law_72 C4.2.2.1 rfl ?_
    refine y_ex (fun Am => ?_)
    refine y_ex (fun τ => ?_)
    refine y_and (fun hg => ?_)
    obtain ⟨hg, hAm⟩ := hg
    subst hA0
    subst hAm
    refine x_astore_n C4 (L' := [(2, .ref (Am 0)), (1, .ref (A 0)), (0, .ref b)]) dL_law_75 rfl (by decide) rfl ?_
    refine x_bipush C4 (v := nI 6) dL_law_76 (by decide) ?_
    refine x_istore_n C4 (L' := [(3, .int (nI 6)), (2, .ref (Am 0)), (1, .ref (A 0)), (0, .ref b)]) dL_law_78 rfl (by decide) rfl ?_
    refine x_sub (L' := [(0, .ref b), (1, .ref (A 0)), (2, .ref (Am 0)), (3, .int (nI 6))]) [3, 2, 1, 0] rfl ?_
    exact law_loop (G := (D, cA, stX z A P S T V, Am, s.heap.size, b, sc)) (z := z) C00 rfl C4 ⟨s2, s3, s4, s5⟩ FU (nI 6) (sg0 z) τ (law_6 hz hL ((rel_0 hz hg).mono (Nat.zero_le _)))
  rw [lg_entry_eq m [Value.ref b] 4]
  exact K s.heap [] _ ⟨⟨s1, c8, Nat.le_refl _⟩, fun a k e h => by cases h⟩ (fun q h => by cases h) (lv_entry [Value.ref b] (Nat.le_of_ble_eq_true rfl))
