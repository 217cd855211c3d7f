/-! Arrays.fill in the raw world, and Keys' constructor -/
theorem yU_yU (M : yM) (a : Nat) (q q' : yK × va_E) : yU (yU M a q) a q' = yU M a q' := by
  funext b
  by_cases h : b = a
  · subst h; rw [yU_s, yU_s]
  · rw [yU_o _ _ h, yU_o _ _ h, yU_o _ _ h]
def rm_X1i (t k : Nat) : Room := { frames := 1, cells := 0 + 1 + 1 + t + 1 + t, slots := 0 + k + t + t * k + t + t * k, locals := 30 }
section LEAF3
variable {l : Launch} {D : va_G} {cA : Nat → ClassId} {bs sb o n : Nat} {sc : Cell} {M : yM} {key : yK}
theorem k_fill {a : Nat} {v : Int32} {g : Nat → Int32} (hn : n < 2147483647) (ha : M a = some (key, .inl (cA 0, n, .inl g))) : xMet l D cA bs yJ7_fill_53178 cJ7_fill_53178 4 none rm_J7_fill [.ref a, .int v] (yW D bs sb sc M) (yW D bs sb sc (yU M a (key, .inl (cA 0, n, .inl (fun j => if j < n then v else g j))))) none 0 0 := by
  refine xMet.of RJ7 rfl (by decide +kernel) (Nat.le_of_ble_eq_true rfl) ?_
  intro p e s m args below meth c C hr hnm
  refine x_sub (L' := [(0, .ref a), (1, .int v)]) [0, 1] rfl ?_
  refine x_iconst C (v := 0) dJ7_fill_53178_0 (by decide) ?_
  refine x_istore_n C (L' := [(2, .int 0), (0, .ref a), (1, .int v)]) dJ7_fill_53178_1 rfl (by decide) rfl ?_
  refine x_aload_n C dJ7_fill_53178_2 rfl (q := 1) rfl ?_
  refine y_alen C 0 rfl ha dJ7_fill_53178_3 ?_
  refine x_istore_n C (L' := [(3, .int (nI n)), (2, .int 0), (0, .ref a), (1, .int v)]) dJ7_fill_53178_4 rfl (by decide) rfl ?_
  have hl : ∀ i k : Nat, k + i = n → XW p l e rm_J7_fill s m args below meth c 0 0 4 bs (xQ below args s bs none (yW D bs sb sc (yU M a (key, .inl (cA 0, n, .inl (fun j => if j < n then v else g j))))) 0 0) (yW D bs sb sc (yU M a (key, .inl (cA 0, n, .inl (fun j => if j < k then v else g j))))) 5 [(0, .ref a), (1, .int v), (2, .int (nI k)), (3, .int (nI n))] [] := by
    intro i
    induction i with
    | zero =>
      intro k hk
      have hk : k = n := by omega
      subst hk
      refine x_iload_n C dJ7_fill_53178_5 rfl (q := 2) rfl ?_
      refine x_iload_n C dJ7_fill_53178_6 rfl (q := 3) rfl ?_
      refine x_icmp_ge C (tgt := 20) (A := some ()) (B := none) (rr := ()) dJ7_fill_53178_7 (by decide) (if_pos (nI_le (Nat.le_refl _) (by omega))) (fun _ _ => ?_) (fun _ h => by cases h)
      exact xr_v C hr dJ7_fill_53178_20 (fun _ h => h)
    | succ i ih =>
      intro k hk
      refine x_iload_n C dJ7_fill_53178_5 rfl (q := 2) rfl ?_
      refine x_iload_n C dJ7_fill_53178_6 rfl (q := 3) rfl ?_
      refine x_icmp_ge C (tgt := 20) (A := none) (B := some ()) (rr := ()) dJ7_fill_53178_7 (by decide) (if_neg (nI_ge (by omega) (by omega))) (fun _ h => by cases h) (fun _ _ => ?_)
      refine x_aload_n C dJ7_fill_53178_10 rfl (q := 0) rfl ?_
      refine x_iload_n C dJ7_fill_53178_11 rfl (q := 2) rfl ?_
      refine x_iload_n C dJ7_fill_53178_12 rfl (q := 1) rfl ?_
      refine y_iast C (yU_s _ _ _) (show k < n by omega) (by omega) dJ7_fill_53178_13 ?_
      rw [yU_yU]
      refine x_iinc C (v := nI (k + 1)) (L' := [(2, .int (nI (k + 1))), (0, .ref a), (1, .int v), (3, .int (nI n))]) dJ7_fill_53178_14 (k := 2) rfl (by rw [nI_succ]; rfl) (by decide) rfl ?_
      refine x_goto C (tgt := 5) dJ7_fill_53178_17 (by decide) ?_
      have e : (fun k' => if k' = k then v else (if k' < k then v else g k')) = (fun j => if j < k + 1 then v else g j) := by
        funext j
        by_cases h1 : j = k
        · rw [if_pos h1, if_pos (by omega)]
        · by_cases h2 : j < k
          · rw [if_neg h1, if_pos h2, if_pos (by omega)]
          · rw [if_neg h1, if_neg h2, if_neg (by omega)]
      rw [e]
      exact x_sub [1, 2, 0, 3] rfl (ih (k + 1) (by omega))
  have h0 := hl n 0 (by omega)
  have e0 : yU M a (key, .inl (cA 0, n, .inl (fun j => if j < 0 then v else g j))) = M := by
    funext b
    by_cases h : b = a
    · subst h
      rw [yU_s, ha]
      rfl
    · rw [yU_o _ _ h]
  rw [e0] at h0
  exact x_sub [2, 3, 1, 0] rfl h0
end LEAF3
