def f_X11_near (x1 : Int32) (x2 : Int32) (x3 : Int32) : Option Int32 :=
  if x2 ≤ x1 then (if x1 ≤ x3 then (some (x1)) else (some (x3))) else (some (x2))
def rm_X11_near : Room := { frames := 0, cells := 0, slots := 0, locals := 0 }
set_option maxRecDepth 100000 in
set_option maxHeartbeats 4000000 in
theorem m_X11_near {l : Launch} {D : va_G} {cA : Nat → ClassId} {bs : Nat} {Ω : Heap → Prop} {x1 : Int32} {x2 : Int32} {x3 : Int32} {rF : Int32} (h : f_X11_near x1 x2 x3 = some (rF)) : xMet l D cA bs yX11_near cX11_near 3 (Option.some Jvm.ClassFile.FieldType.int) rm_X11_near [.int x1, .int x2, .int x3] Ω Ω (some (.int rF)) 0 0 := by
  refine xMet.of RX11 rfl (by decide +kernel) (Nat.le_of_ble_eq_true rfl) ?_
  intro p e s m args below meth c C hr hnm
  unfold f_X11_near at h
  refine x_sub (L' := [(0, .int x1), (1, .int x2), (2, .int x3)]) [0, 1, 2] rfl ?_
  refine x_iload_n C dX11_near_0 rfl (q := 0) rfl ?_
  refine x_iload_n C dX11_near_1 rfl (q := 1) rfl ?_
  refine x_icmp_ge C (tgt := 9) dX11_near_2 (by decide) h (fun hc1 h => ?_) (fun hc1 h => ?_)
  · refine x_iload_n C dX11_near_9 rfl (q := 0) rfl ?_
    refine x_iload_n C dX11_near_10 rfl (q := 2) rfl ?_
    refine x_icmp_le C (tgt := 18) dX11_near_11 (by decide) h (fun hc2 h => ?_) (fun hc2 h => ?_)
    · refine x_iload_n C dX11_near_18 rfl (q := 0) rfl ?_
      cases h
      exact xr_i C hr dX11_near_19 (fun _ h => h)
    · refine x_iload_n C dX11_near_14 rfl (q := 2) rfl ?_
      refine x_goto C (tgt := 19) dX11_near_15 (by decide) ?_
      cases h
      exact xr_i C hr dX11_near_19 (fun _ h => h)
  · refine x_iload_n C dX11_near_5 rfl (q := 1) rfl ?_
    refine x_goto C (tgt := 19) dX11_near_6 (by decide) ?_
    cases h
    exact xr_i C hr dX11_near_19 (fun _ h => h)
def f_X11_in (x1 : Int32) (x2 : Int32) (x3 : Int32) : Option Int32 :=
  if x1 < x2 then (some (0)) else (if x3 < x1 then (some (0)) else (some (1)))
def rm_X11_in : Room := { frames := 0, cells := 0, slots := 0, locals := 0 }
set_option maxRecDepth 100000 in
set_option maxHeartbeats 4000000 in
theorem m_X11_in {l : Launch} {D : va_G} {cA : Nat → ClassId} {bs : Nat} {Ω : Heap → Prop} {x1 : Int32} {x2 : Int32} {x3 : Int32} {rF : Int32} (h : f_X11_in x1 x2 x3 = some (rF)) : xMet l D cA bs yX11_in cX11_in 3 (Option.some Jvm.ClassFile.FieldType.boolean) rm_X11_in [.int x1, .int x2, .int x3] Ω Ω (some (.int rF)) 0 0 := by
  refine xMet.of RX11 rfl (by decide +kernel) (Nat.le_of_ble_eq_true rfl) ?_
  intro p e s m args below meth c C hr hnm
  unfold f_X11_in at h
  refine x_sub (L' := [(0, .int x1), (1, .int x2), (2, .int x3)]) [0, 1, 2] rfl ?_
  refine x_iload_n C dX11_in_0 rfl (q := 0) rfl ?_
  refine x_iload_n C dX11_in_1 rfl (q := 1) rfl ?_
  refine x_icmp_lt C (tgt := 14) dX11_in_2 (by decide) h (fun hc1 h => ?_) (fun hc1 h => ?_)
  · refine x_iconst C (v := 0) dX11_in_14 (by decide) ?_
    cases h
    exact xr_z C (by decide) hr dX11_in_15 (fun _ h => h)
  · refine x_iload_n C dX11_in_5 rfl (q := 0) rfl ?_
    refine x_iload_n C dX11_in_6 rfl (q := 2) rfl ?_
    refine x_icmp_gt C (tgt := 14) dX11_in_7 (by decide) h (fun hc2 h => ?_) (fun hc2 h => ?_)
    · refine x_iconst C (v := 0) dX11_in_14 (by decide) ?_
      cases h
      exact xr_z C (by decide) hr dX11_in_15 (fun _ h => h)
    · refine x_iconst C (v := 1) dX11_in_10 (by decide) ?_
      refine x_goto C (tgt := 15) dX11_in_11 (by decide) ?_
      cases h
      exact xr_z C (by decide) hr dX11_in_15 (fun _ h => h)
def f_X11_isTxn (z : Nat → Nat) (τ : Tg) (x1 : Int32) : Option Int32 :=
  bnd1 (f_X11_in x1 0 ((nI (z 2)) - 1)) fun r2 => gdb r2 <| some (r2)
def rm_X11_isTxn : Room := { frames := 1, cells := 0, slots := 0, locals := 22 }
set_option maxRecDepth 100000 in
set_option maxHeartbeats 4000000 in
theorem m_X11_isTxn {l : Launch} {G : xG} {z : Nat → Nat} {σ : Sg} {τ : Tg} {x1 : Int32} {rF : Int32} (h : f_X11_isTxn z τ x1 = some (rF)) : xMet l (xD G) (xcA G) (xbs G) yX11_isTxn cX11_isTxn 2 (Option.some Jvm.ClassFile.FieldType.boolean) rm_X11_isTxn [.ref (xaM G 0), .int x1] (xRep G z σ τ) (xRep G z σ τ) (some (.int rF)) 0 0 := by
  refine xMet.of RX11 rfl (by decide +kernel) (Nat.le_of_ble_eq_true rfl) ?_
  intro p e s m args below meth c C hr hnm
  unfold f_X11_isTxn at h
  refine x_sub (L' := [(0, .ref (xaM G 0)), (1, .int x1)]) [0, 1] rfl ?_
  refine x_iload_n C dX11_isTxn_0 rfl (q := 1) rfl ?_
  refine x_iconst C (v := 0) dX11_isTxn_1 (by decide) ?_
  refine x_aload_n C dX11_isTxn_2 rfl (q := 0) rfl ?_
  refine m_get C cl_X11 2 (by decide) fl_X11_104_X11 rfl rfl dX11_isTxn_3 ?_
  refine x_iconst C (v := 1) dX11_isTxn_6 (by decide) ?_
  refine x_isub C dX11_isTxn_7 ?_
  obtain ⟨r2, hq1, h⟩ := bnd1_some h
  refine x_callS_i C (m_X11_in hq1) ws_X11_120 rfl (Nat.le_of_ble_eq_true rfl) ⟨⟨rfl, rfl⟩, Nat.le_of_ble_eq_true rfl, Nat.le_of_ble_eq_true rfl⟩ dX11_isTxn_8 rfl ?_
  obtain ⟨hb, h⟩ := gdb_some h
  cases h
  exact xr_z C hb hr dX11_isTxn_11 (fun _ h => h)
def f_X11_isKey (z : Nat → Nat) (τ : Tg) (x1 : Int32) : Option Int32 :=
  bnd1 (f_X11_in x1 0 ((nI (z 3)) - 1)) fun r2 => gdb r2 <| some (r2)
def rm_X11_isKey : Room := { frames := 1, cells := 0, slots := 0, locals := 22 }
set_option maxRecDepth 100000 in
set_option maxHeartbeats 4000000 in
theorem m_X11_isKey {l : Launch} {G : xG} {z : Nat → Nat} {σ : Sg} {τ : Tg} {x1 : Int32} {rF : Int32} (h : f_X11_isKey z τ x1 = some (rF)) : xMet l (xD G) (xcA G) (xbs G) yX11_isKey cX11_isKey 2 (Option.some Jvm.ClassFile.FieldType.boolean) rm_X11_isKey [.ref (xaM G 0), .int x1] (xRep G z σ τ) (xRep G z σ τ) (some (.int rF)) 0 0 := by
  refine xMet.of RX11 rfl (by decide +kernel) (Nat.le_of_ble_eq_true rfl) ?_
  intro p e s m args below meth c C hr hnm
  unfold f_X11_isKey at h
  refine x_sub (L' := [(0, .ref (xaM G 0)), (1, .int x1)]) [0, 1] rfl ?_
  refine x_iload_n C dX11_isKey_0 rfl (q := 1) rfl ?_
  refine x_iconst C (v := 0) dX11_isKey_1 (by decide) ?_
  refine x_aload_n C dX11_isKey_2 rfl (q := 0) rfl ?_
  refine m_get C cl_X11 3 (by decide) fl_X11_107_X11 rfl rfl dX11_isKey_3 ?_
  refine x_iconst C (v := 1) dX11_isKey_6 (by decide) ?_
  refine x_isub C dX11_isKey_7 ?_
  obtain ⟨r2, hq1, h⟩ := bnd1_some h
  refine x_callS_i C (m_X11_in hq1) ws_X11_120 rfl (Nat.le_of_ble_eq_true rfl) ⟨⟨rfl, rfl⟩, Nat.le_of_ble_eq_true rfl, Nat.le_of_ble_eq_true rfl⟩ dX11_isKey_8 rfl ?_
  obtain ⟨hb, h⟩ := gdb_some h
  cases h
  exact xr_z C hb hr dX11_isKey_11 (fun _ h => h)
def f_X11_isNode (z : Nat → Nat) (τ : Tg) (x1 : Int32) : Option Int32 :=
  bnd1 (f_X11_in x1 0 (((nI (z 0)) + (nI (z 1))) - 1)) fun r2 => gdb r2 <| some (r2)
def rm_X11_isNode : Room := { frames := 1, cells := 0, slots := 0, locals := 22 }
set_option maxRecDepth 100000 in
set_option maxHeartbeats 4000000 in
theorem m_X11_isNode {l : Launch} {G : xG} {z : Nat → Nat} {σ : Sg} {τ : Tg} {x1 : Int32} {rF : Int32} (h : f_X11_isNode z τ x1 = some (rF)) : xMet l (xD G) (xcA G) (xbs G) yX11_isNode cX11_isNode 2 (Option.some Jvm.ClassFile.FieldType.boolean) rm_X11_isNode [.ref (xaM G 0), .int x1] (xRep G z σ τ) (xRep G z σ τ) (some (.int rF)) 0 0 := by
  refine xMet.of RX11 rfl (by decide +kernel) (Nat.le_of_ble_eq_true rfl) ?_
  intro p e s m args below meth c C hr hnm
  unfold f_X11_isNode at h
  refine x_sub (L' := [(0, .ref (xaM G 0)), (1, .int x1)]) [0, 1] rfl ?_
  refine x_iload_n C dX11_isNode_0 rfl (q := 1) rfl ?_
  refine x_iconst C (v := 0) dX11_isNode_1 (by decide) ?_
  refine x_aload_n C dX11_isNode_2 rfl (q := 0) rfl ?_
  refine m_get C cl_X11 0 (by decide) fl_X11_97_X11 rfl rfl dX11_isNode_3 ?_
  refine x_aload_n C dX11_isNode_6 rfl (q := 0) rfl ?_
  refine m_get C cl_X11 1 (by decide) fl_X11_101_X11 rfl rfl dX11_isNode_7 ?_
  refine x_iadd C dX11_isNode_10 ?_
  refine x_iconst C (v := 1) dX11_isNode_11 (by decide) ?_
  refine x_isub C dX11_isNode_12 ?_
  obtain ⟨r2, hq1, h⟩ := bnd1_some h
  refine x_callS_i C (m_X11_in hq1) ws_X11_120 rfl (Nat.le_of_ble_eq_true rfl) ⟨⟨rfl, rfl⟩, Nat.le_of_ble_eq_true rfl, Nat.le_of_ble_eq_true rfl⟩ dX11_isNode_13 rfl ?_
  obtain ⟨hb, h⟩ := gdb_some h
  cases h
  exact xr_z C hb hr dX11_isNode_16 (fun _ h => h)
def f_X11_isAcceptor (z : Nat → Nat) (τ : Tg) (x1 : Int32) : Option Int32 :=
  bnd1 (f_X11_in x1 (nI (z 0)) (((nI (z 0)) + (nI (z 1))) - 1)) fun r2 => gdb r2 <| some (r2)
def rm_X11_isAcceptor : Room := { frames := 1, cells := 0, slots := 0, locals := 22 }
set_option maxRecDepth 100000 in
set_option maxHeartbeats 4000000 in
theorem m_X11_isAcceptor {l : Launch} {G : xG} {z : Nat → Nat} {σ : Sg} {τ : Tg} {x1 : Int32} {rF : Int32} (h : f_X11_isAcceptor z τ x1 = some (rF)) : xMet l (xD G) (xcA G) (xbs G) yX11_isAcceptor cX11_isAcceptor 2 (Option.some Jvm.ClassFile.FieldType.boolean) rm_X11_isAcceptor [.ref (xaM G 0), .int x1] (xRep G z σ τ) (xRep G z σ τ) (some (.int rF)) 0 0 := by
  refine xMet.of RX11 rfl (by decide +kernel) (Nat.le_of_ble_eq_true rfl) ?_
  intro p e s m args below meth c C hr hnm
  unfold f_X11_isAcceptor at h
  refine x_sub (L' := [(0, .ref (xaM G 0)), (1, .int x1)]) [0, 1] rfl ?_
  refine x_iload_n C dX11_isAcceptor_0 rfl (q := 1) rfl ?_
  refine x_aload_n C dX11_isAcceptor_1 rfl (q := 0) rfl ?_
  refine m_get C cl_X11 0 (by decide) fl_X11_97_X11 rfl rfl dX11_isAcceptor_2 ?_
  refine x_aload_n C dX11_isAcceptor_5 rfl (q := 0) rfl ?_
  refine m_get C cl_X11 0 (by decide) fl_X11_97_X11 rfl rfl dX11_isAcceptor_6 ?_
  refine x_aload_n C dX11_isAcceptor_9 rfl (q := 0) rfl ?_
  refine m_get C cl_X11 1 (by decide) fl_X11_101_X11 rfl rfl dX11_isAcceptor_10 ?_
  refine x_iadd C dX11_isAcceptor_13 ?_
  refine x_iconst C (v := 1) dX11_isAcceptor_14 (by decide) ?_
  refine x_isub C dX11_isAcceptor_15 ?_
  obtain ⟨r2, hq1, h⟩ := bnd1_some h
  refine x_callS_i C (m_X11_in hq1) ws_X11_120 rfl (Nat.le_of_ble_eq_true rfl) ⟨⟨rfl, rfl⟩, Nat.le_of_ble_eq_true rfl, Nat.le_of_ble_eq_true rfl⟩ dX11_isAcceptor_16 rfl ?_
  obtain ⟨hb, h⟩ := gdb_some h
  cases h
  exact xr_z C hb hr dX11_isAcceptor_19 (fun _ h => h)
def f_X11_touches (z : Nat → Nat) (τ : Tg) (x1 : Int32) (x2 : Int32) : Option Int32 :=
  gdx x1 (mlen 13) fun k1 => letv (τ.1 13 k1) fun v2 => if ((v2 >>> (x2 &&& 31)) &&& 1) = 1 then (some (1)) else (some (0))
def rm_X11_touches : Room := { frames := 0, cells := 0, slots := 0, locals := 0 }
set_option maxRecDepth 100000 in
set_option maxHeartbeats 4000000 in
theorem m_X11_touches {l : Launch} {G : xG} {z : Nat → Nat} {σ : Sg} {τ : Tg} {x1 : Int32} {x2 : Int32} {rF : Int32} (h : f_X11_touches z τ x1 x2 = some (rF)) : xMet l (xD G) (xcA G) (xbs G) yX11_touches cX11_touches 3 (Option.some Jvm.ClassFile.FieldType.boolean) rm_X11_touches [.ref (xaM G 0), .int x1, .int x2] (xRep G z σ τ) (xRep G z σ τ) (some (.int rF)) 0 0 := by
  refine xMet.of RX11 rfl (by decide +kernel) (Nat.le_of_ble_eq_true rfl) ?_
  intro p e s m args below meth c C hr hnm
  unfold f_X11_touches at h
  refine x_sub (L' := [(0, .ref (xaM G 0)), (1, .int x1), (2, .int x2)]) [0, 1, 2] rfl ?_
  refine x_aload_n C dX11_touches_0 rfl (q := 0) rfl ?_
  refine m_get C cl_X11 13 (by decide) fl_X11_33_X11 rfl rfl dX11_touches_1 ?_
  refine x_iload_n C dX11_touches_4 rfl (q := 1) rfl ?_
  refine m_iald C rfl (fun _ _ => rfl) dX11_touches_5 h (fun k1 hk1 h => ?_)
  refine x_letI h (fun v2 h => ?_)
  refine x_iload_n C dX11_touches_6 rfl (q := 2) rfl ?_
  refine x_ishr C dX11_touches_7 ?_
  refine x_iconst C (v := 1) dX11_touches_8 (by decide) ?_
  refine x_iand C dX11_touches_9 ?_
  refine x_iconst C (v := 1) dX11_touches_10 (by decide) ?_
  refine x_icmp_ne C (tgt := 18) dX11_touches_11 (by decide) h (fun hc3 h => ?_) (fun hc3 h => ?_)
  · refine x_iconst C (v := 0) dX11_touches_18 (by decide) ?_
    cases h
    exact xr_z C (by decide) hr dX11_touches_19 (fun _ h => h)
  · refine x_iconst C (v := 1) dX11_touches_14 (by decide) ?_
    refine x_goto C (tgt := 19) dX11_touches_15 (by decide) ?_
    cases h
    exact xr_z C (by decide) hr dX11_touches_19 (fun _ h => h)
def f_X11_bits_L4 (x1 : Int32) : Nat → Int32 → Int32 → Option Int32
  | 0, _, _ => none
  | n + 1, y1, y2 => if 16 ≤ y2 then (some (y1)) else (letv (y1 + ((x1 >>> (y2 &&& 31)) &&& 1)) fun v7 => letv (y2 + 1) fun v8 => f_X11_bits_L4 x1 n v7 v8)
def f_X11_bits (x1 : Int32) : Option Int32 :=
  bnd1 (f_X11_bits_L4 x1 FU 0 0) fun (v3 : Int32) => some (v3)
def rm_X11_bits : Room := { frames := 0, cells := 0, slots := 0, locals := 0 }
set_option maxRecDepth 100000 in
set_option maxHeartbeats 4000000 in
theorem m_X11_bits {l : Launch} {D : va_G} {cA : Nat → ClassId} {bs : Nat} {Ω : Heap → Prop} {x1 : Int32} {rF : Int32} (h : f_X11_bits x1 = some (rF)) : xMet l D cA bs yX11_bits cX11_bits 3 (Option.some Jvm.ClassFile.FieldType.int) rm_X11_bits [.int x1] Ω Ω (some (.int rF)) 0 0 := by
  refine xMet.of RX11 rfl (by decide +kernel) (Nat.le_of_ble_eq_true rfl) ?_
  intro p e s m args below meth c C hr hnm
  unfold f_X11_bits at h
  refine x_sub (L' := [(0, .int x1)]) [0] rfl ?_
  refine x_iconst C (v := 0) dX11_bits_0 (by decide) ?_
  refine x_istore_n C (L' := [(1, .int 0), (0, .int x1)]) dX11_bits_1 rfl (by decide) rfl ?_
  refine x_iconst C (v := 0) dX11_bits_2 (by decide) ?_
  refine x_istore_n C (L' := [(2, .int 0), (1, .int 0), (0, .int x1)]) dX11_bits_3 rfl (by decide) rfl ?_
  obtain ⟨v3, hv5, h⟩ := bnd1_some h
  refine x_join (Ω' := Ω) (pc' := 24) (L' := [(1, .int v3)]) (st' := []) ?_ (fun hj4 => ?_)
  · refine x_iload_n C dX11_bits_24 rfl (q := 0) rfl ?_
    cases h
    exact xr_i C hr dX11_bits_25 (fun _ h => h)
  · have hl9 : ∀ (n : Nat) (y1 : Int32) (y2 : Int32), f_X11_bits_L4 x1 n y1 y2 = some (v3) → XW p l e rm_X11_bits s m args below meth c 0 0 3 bs (xQ below args s bs (some (.int rF)) Ω 0 0) Ω 4 [(0, .int x1), (1, .int y1), (2, .int y2)] [] := by
      intro n
      induction n with
      | zero =>
        intro y1 y2 h
        exact absurd h (by rw [f_X11_bits_L4]; intro q; cases q)
      | succ n ih =>
        intro y1 y2 h
        rw [f_X11_bits_L4] at h
        refine x_iload_n C dX11_bits_4 rfl (q := 2) rfl ?_
        refine x_bipush C (v := 16) dX11_bits_5 (by decide) ?_
        refine x_icmp_ge C (tgt := 24) dX11_bits_7 (by decide) h (fun hc6 h => ?_) (fun hc6 h => ?_)
        · cases h
          exact x_sub [1] rfl hj4
        · refine x_iload_n C dX11_bits_10 rfl (q := 1) rfl ?_
          refine x_iload_n C dX11_bits_11 rfl (q := 0) rfl ?_
          refine x_iload_n C dX11_bits_12 rfl (q := 2) rfl ?_
          refine x_ishr C dX11_bits_13 ?_
          refine x_iconst C (v := 1) dX11_bits_14 (by decide) ?_
          refine x_iand C dX11_bits_15 ?_
          refine x_iadd C dX11_bits_16 ?_
          refine x_letI h (fun v7 h => ?_)
          refine x_istore_n C (L' := [(1, .int v7), (0, .int x1), (2, .int y2)]) dX11_bits_17 rfl (by decide) rfl ?_
          refine x_iincL C (w := 1) (L' := fun v8 => [(2, .int v8), (1, .int v7), (0, .int x1)]) dX11_bits_18 (k := 2) rfl (by decide) (by decide) (fun _ => rfl) h (fun v8 h => ?_)
          refine x_goto C (tgt := 4) dX11_bits_21 (by decide) ?_
          exact x_sub [2, 1, 0] rfl (ih _ _ h)
    exact x_sub [2, 1, 0] rfl (hl9 FU _ _ hv5)
def f_X11_isMajority (z : Nat → Nat) (τ : Tg) (x1 : Int32) : Option Int32 :=
  bnd1 (f_X11_bits x1) fun r2 => if (2 * r2) ≤ (nI (z 1)) then (some (0)) else (some (1))
def rm_X11_isMajority : Room := { frames := 1, cells := 0, slots := 0, locals := 22 }
set_option maxRecDepth 100000 in
set_option maxHeartbeats 4000000 in
theorem m_X11_isMajority {l : Launch} {G : xG} {z : Nat → Nat} {σ : Sg} {τ : Tg} {x1 : Int32} {rF : Int32} (h : f_X11_isMajority z τ x1 = some (rF)) : xMet l (xD G) (xcA G) (xbs G) yX11_isMajority cX11_isMajority 2 (Option.some Jvm.ClassFile.FieldType.boolean) rm_X11_isMajority [.ref (xaM G 0), .int x1] (xRep G z σ τ) (xRep G z σ τ) (some (.int rF)) 0 0 := by
  refine xMet.of RX11 rfl (by decide +kernel) (Nat.le_of_ble_eq_true rfl) ?_
  intro p e s m args below meth c C hr hnm
  unfold f_X11_isMajority at h
  refine x_sub (L' := [(0, .ref (xaM G 0)), (1, .int x1)]) [0, 1] rfl ?_
  refine x_iconst C (v := 2) dX11_isMajority_0 (by decide) ?_
  refine x_iload_n C dX11_isMajority_1 rfl (q := 1) rfl ?_
  obtain ⟨r2, hq1, h⟩ := bnd1_some h
  refine x_callS_i C (m_X11_bits hq1) ws_X11_124 rfl (Nat.le_of_ble_eq_true rfl) ⟨⟨rfl, rfl⟩, Nat.le_of_ble_eq_true rfl, Nat.le_of_ble_eq_true rfl⟩ dX11_isMajority_2 rfl ?_
  refine x_imul C dX11_isMajority_5 ?_
  refine x_aload_n C dX11_isMajority_6 rfl (q := 0) rfl ?_
  refine m_get C cl_X11 1 (by decide) fl_X11_101_X11 rfl rfl dX11_isMajority_7 ?_
  refine x_icmp_le C (tgt := 17) dX11_isMajority_10 (by decide) h (fun hc3 h => ?_) (fun hc3 h => ?_)
  · refine x_iconst C (v := 0) dX11_isMajority_17 (by decide) ?_
    cases h
    exact xr_z C (by decide) hr dX11_isMajority_18 (fun _ h => h)
  · refine x_iconst C (v := 1) dX11_isMajority_13 (by decide) ?_
    refine x_goto C (tgt := 18) dX11_isMajority_14 (by decide) ?_
    cases h
    exact xr_z C (by decide) hr dX11_isMajority_18 (fun _ h => h)
def f_X11_endSession_L14 (z : Nat → Nat) (x2 : Int32) : Nat → Int32 → Tg → Option Tg
  | 0, _, _ => none
  | n + 1, y3, s4 => if (nI (z 3)) ≤ y3 then (some (s4)) else (gdx y3 (mlen 10) fun k9 => letv (s4.1 10 k9) fun v10 => gdx y3 (mlen 10) fun k11 => letv (tpI s4 10 k11 (v10 &&& ((1 <<< (x2 &&& 31)) ^^^ (-1)))) fun s12 => gdx y3 (mlen 11) fun k13 => letv (s12.1 11 k13) fun v14 => bnd1 (α := Int32) (if v14 = x2 then (some ((-1))) else (gdx y3 (mlen 11) fun k19 => letv (s12.1 11 k19) fun v20 => some (v20))) fun (v15 : Int32) => gdx y3 (mlen 11) fun k21 => letv (tpI s12 11 k21 v15) fun s22 => gdx ((32 * x2) + y3) (mlen 14) fun k23 => letv (tpI s22 14 k23 0) fun s24 => letv (y3 + (nI (z 0))) fun v25 => f_X11_endSession_L14 z x2 n v25 s24)
def f_X11_endSession (z : Nat → Nat) (τ : Tg) (x1 : Int32) (x2 : Int32) : Option Tg :=
  gdx ((16 * x1) + x2) (mlen 16) fun k1 => letv (tpI τ 16 k1 0) fun s2 => bnd1 (f_X11_endSession_L14 z x2 FU x1 s2) fun (s5 : Tg) => some (s5)
def rm_X11_endSession : Room := { frames := 0, cells := 0, slots := 0, locals := 0 }
set_option maxRecDepth 100000 in
set_option maxHeartbeats 4000000 in
theorem m_X11_endSession {l : Launch} {G : xG} {z : Nat → Nat} {σ : Sg} {τ : Tg} {x1 : Int32} {x2 : Int32} {sF : Tg} (h : f_X11_endSession z τ x1 x2 = some (sF)) : xMet l (xD G) (xcA G) (xbs G) yX11_endSession cX11_endSession 4 (Option.none : Option Jvm.ClassFile.FieldType) rm_X11_endSession [.ref (xaM G 0), .int x1, .int x2] (xRep G z σ τ) (xRep G z σ sF) none 0 0 := by
  refine xMet.of RX11 rfl (by decide +kernel) (Nat.le_of_ble_eq_true rfl) ?_
  intro p e s m args below meth c C hr hnm
  unfold f_X11_endSession at h
  refine x_sub (L' := [(0, .ref (xaM G 0)), (1, .int x1), (2, .int x2)]) [0, 1, 2] rfl ?_
  refine x_aload_n C dX11_endSession_0 rfl (q := 0) rfl ?_
  refine m_get C cl_X11 16 (by decide) fl_X11_42_X11 rfl rfl dX11_endSession_1 ?_
  refine x_bipush C (v := 16) dX11_endSession_4 (by decide) ?_
  refine x_iload_n C dX11_endSession_6 rfl (q := 1) rfl ?_
  refine x_imul C dX11_endSession_7 ?_
  refine x_iload_n C dX11_endSession_8 rfl (q := 2) rfl ?_
  refine x_iadd C dX11_endSession_9 ?_
  refine x_iconst C (v := 0) dX11_endSession_10 (by decide) ?_
  refine m_bast C (by decide) rfl (fun _ _ => rfl) dX11_endSession_11 h (fun k1 hk1 h => ?_)
  refine m_letS h (fun s2 h => ?_)
  refine x_iload_n C dX11_endSession_12 rfl (q := 1) rfl ?_
  refine x_istore_n C (L' := [(3, .int x1), (0, .ref (xaM G 0)), (1, .int x1), (2, .int x2)]) dX11_endSession_13 rfl (by decide) rfl ?_
  obtain ⟨s5, hv7, h⟩ := bnd1_some h
  refine x_join (Ω' := (xRep G z σ s5)) (pc' := 84) (L' := []) (st' := []) ?_ (fun hj6 => ?_)
  · cases h
    exact xr_v C hr dX11_endSession_84 (fun _ h => h)
  · have hl26 : ∀ (n : Nat) (y3 : Int32) (s4 : Tg), f_X11_endSession_L14 z x2 n y3 s4 = some (s5) → XW p l e rm_X11_endSession s m args below meth c 0 0 4 (xbs G) (xQ below args s (xbs G) none (xRep G z σ sF) 0 0) (xRep G z σ s4) 14 [(0, .ref (xaM G 0)), (2, .int x2), (3, .int y3)] [] := by
      intro n
      induction n with
      | zero =>
        intro y3 s4 h
        exact absurd h (by rw [f_X11_endSession_L14]; intro q; cases q)
      | succ n ih =>
        intro y3 s4 h
        rw [f_X11_endSession_L14] at h
        refine x_iload_n C dX11_endSession_14 rfl (q := 2) rfl ?_
        refine x_aload_n C dX11_endSession_15 rfl (q := 0) rfl ?_
        refine m_get C cl_X11 3 (by decide) fl_X11_107_X11 rfl rfl dX11_endSession_16 ?_
        refine x_icmp_ge C (tgt := 84) dX11_endSession_19 (by decide) h (fun hc8 h => ?_) (fun hc8 h => ?_)
        · cases h
          exact x_sub [] rfl hj6
        · refine x_aload_n C dX11_endSession_22 rfl (q := 0) rfl ?_
          refine m_get C cl_X11 10 (by decide) fl_X11_24_X11 rfl rfl dX11_endSession_23 ?_
          refine x_iload_n C dX11_endSession_26 rfl (q := 2) rfl ?_
          refine x_dup2 C dX11_endSession_27 rfl rfl ?_
          refine m_iald C rfl (fun _ _ => rfl) dX11_endSession_28 h (fun k9 hk9 h => ?_)
          refine x_letI h (fun v10 h => ?_)
          refine x_iconst C (v := 1) dX11_endSession_29 (by decide) ?_
          refine x_iload_n C dX11_endSession_30 rfl (q := 1) rfl ?_
          refine x_ishl C dX11_endSession_31 ?_
          refine x_iconst C (v := (-1)) dX11_endSession_32 (by decide) ?_
          refine x_ixor C dX11_endSession_33 ?_
          refine x_iand C dX11_endSession_34 ?_
          refine m_iast C rfl (fun _ _ => rfl) dX11_endSession_35 h (fun k11 hk11 h => ?_)
          refine m_letS h (fun s12 h => ?_)
          refine x_aload_n C dX11_endSession_36 rfl (q := 0) rfl ?_
          refine m_get C cl_X11 11 (by decide) fl_X11_27_X11 rfl rfl dX11_endSession_37 ?_
          refine x_iload_n C dX11_endSession_40 rfl (q := 2) rfl ?_
          refine x_aload_n C dX11_endSession_41 rfl (q := 0) rfl ?_
          refine m_get C cl_X11 11 (by decide) fl_X11_27_X11 rfl rfl dX11_endSession_42 ?_
          refine x_iload_n C dX11_endSession_45 rfl (q := 2) rfl ?_
          refine m_iald C rfl (fun _ _ => rfl) dX11_endSession_46 h (fun k13 hk13 h => ?_)
          refine x_letI h (fun v14 h => ?_)
          refine x_iload_n C dX11_endSession_47 rfl (q := 1) rfl ?_
          obtain ⟨v15, hv17, h⟩ := bnd1_some h
          refine x_join (Ω' := (xRep G z σ s12)) (pc' := 61) (L' := [(0, .ref (xaM G 0)), (2, .int x2), (3, .int y3)]) (st' := [.int v15, .int y3, .ref (xaM G 11)]) ?_ (fun hj16 => ?_)
          · refine m_iast C rfl (fun _ _ => rfl) dX11_endSession_61 h (fun k21 hk21 h => ?_)
            refine m_letS h (fun s22 h => ?_)
            refine x_aload_n C dX11_endSession_62 rfl (q := 0) rfl ?_
            refine m_get C cl_X11 14 (by decide) fl_X11_36_X11 rfl rfl dX11_endSession_63 ?_
            refine x_bipush C (v := 32) dX11_endSession_66 (by decide) ?_
            refine x_iload_n C dX11_endSession_68 rfl (q := 1) rfl ?_
            refine x_imul C dX11_endSession_69 ?_
            refine x_iload_n C dX11_endSession_70 rfl (q := 2) rfl ?_
            refine x_iadd C dX11_endSession_71 ?_
            refine x_iconst C (v := 0) dX11_endSession_72 (by decide) ?_
            refine m_bast C (by decide) rfl (fun _ _ => rfl) dX11_endSession_73 h (fun k23 hk23 h => ?_)
            refine m_letS h (fun s24 h => ?_)
            refine x_iload_n C dX11_endSession_74 rfl (q := 2) rfl ?_
            refine x_aload_n C dX11_endSession_75 rfl (q := 0) rfl ?_
            refine m_get C cl_X11 0 (by decide) fl_X11_97_X11 rfl rfl dX11_endSession_76 ?_
            refine x_iadd C dX11_endSession_79 ?_
            refine x_letI h (fun v25 h => ?_)
            refine x_istore_n C (L' := [(3, .int v25), (0, .ref (xaM G 0)), (2, .int x2)]) dX11_endSession_80 rfl (by decide) rfl ?_
            refine x_goto C (tgt := 14) dX11_endSession_81 (by decide) ?_
            exact x_sub [1, 2, 0] rfl (ih _ _ h)
          · replace h := hv17
            clear hv17
            refine x_icmp_ne C (tgt := 55) dX11_endSession_48 (by decide) h (fun hc18 h => ?_) (fun hc18 h => ?_)
            · refine x_aload_n C dX11_endSession_55 rfl (q := 0) rfl ?_
              refine m_get C cl_X11 11 (by decide) fl_X11_27_X11 rfl rfl dX11_endSession_56 ?_
              refine x_iload_n C dX11_endSession_59 rfl (q := 2) rfl ?_
              refine m_iald C rfl (fun _ _ => rfl) dX11_endSession_60 h (fun k19 hk19 h => ?_)
              refine x_letI h (fun v20 h => ?_)
              cases h
              exact x_sub [0, 1, 2] rfl hj16
            · refine x_iconst C (v := (-1)) dX11_endSession_51 (by decide) ?_
              refine x_goto C (tgt := 61) dX11_endSession_52 (by decide) ?_
              cases h
              exact x_sub [0, 1, 2] rfl hj16
    exact x_sub [1, 3, 0] rfl (hl26 FU _ _ hv7)
def f_X11_locks (z : Nat → Nat) (τ : Tg) (x1 : Int32) (x2 : Int32) (x3 : Int32) : Option (Int32 × Tg) :=
  gnz (nI (z 0)) <| letv (x2 - x2 / (nI (z 0)) * (nI (z 0))) fun v1 => gdx x1 (mlen 12) fun k2 => letv (τ.1 12 k2) fun v3 => if v3 = 1 then (gdx v1 (mlen 6) fun k5 => letv (τ.1 6 k5) fun v6 => if v6 = 0 then (some (3, τ)) else (bnd1 (f_X11_touches z τ x1 v1) fun r9 => if r9 = 0 then (bnd1 (α := Int32) (if x3 = 0 then (gdx x2 (mlen 11) fun k15 => letv (τ.1 11 k15) fun v16 => if v16 < 0 then (some (0)) else (gdx x2 (mlen 11) fun k18 => letv (τ.1 11 k18) fun v19 => if v19 = x1 then (some (0)) else (some (1)))) else (gdx x2 (mlen 10) fun k21 => letv (τ.1 10 k21) fun v22 => if (v22 &&& ((1 <<< (x1 &&& 31)) ^^^ (-1))) = 0 then (some (0)) else (some (1)))) fun (v11 : Int32) => if v11 = 0 then (gdx ((16 * v1) + x1) (mlen 16) fun k25 => letv (tpI τ 16 k25 1) fun s26 => gdx x1 (mlen 13) fun k27 => letv (s26.1 13 k27) fun v28 => gdx x1 (mlen 13) fun k29 => letv (tpI s26 13 k29 (v28 ||| (1 <<< (v1 &&& 31)))) fun s30 => gdx x2 (mlen 10) fun k31 => letv (s30.1 10 k31) fun v32 => gdx x2 (mlen 10) fun k33 => letv (tpI s30 10 k33 (v32 ||| (1 <<< (x1 &&& 31)))) fun s34 => bnd1 (α := Int32) (if x3 = 0 then (gdx x2 (mlen 11) fun k39 => letv (s34.1 11 k39) fun v40 => some (v40)) else (some (x1))) fun (v35 : Int32) => gdx x2 (mlen 11) fun k41 => letv (tpI s34 11 k41 v35) fun s42 => some (1, s42)) else (some (2, τ))) else (gdx ((16 * v1) + x1) (mlen 16) fun k43 => letv (τ.1 16 k43) fun v44 => if v44 = 0 then (some (4, τ)) else (bnd1 (α := Int32) (if x3 = 0 then (gdx x2 (mlen 11) fun k50 => letv (τ.1 11 k50) fun v51 => if v51 < 0 then (some (0)) else (gdx x2 (mlen 11) fun k53 => letv (τ.1 11 k53) fun v54 => if v54 = x1 then (some (0)) else (some (1)))) else (gdx x2 (mlen 10) fun k56 => letv (τ.1 10 k56) fun v57 => if (v57 &&& ((1 <<< (x1 &&& 31)) ^^^ (-1))) = 0 then (some (0)) else (some (1)))) fun (v46 : Int32) => if v46 = 0 then (gdx ((16 * v1) + x1) (mlen 16) fun k60 => letv (tpI τ 16 k60 1) fun s61 => gdx x1 (mlen 13) fun k62 => letv (s61.1 13 k62) fun v63 => gdx x1 (mlen 13) fun k64 => letv (tpI s61 13 k64 (v63 ||| (1 <<< (v1 &&& 31)))) fun s65 => gdx x2 (mlen 10) fun k66 => letv (s65.1 10 k66) fun v67 => gdx x2 (mlen 10) fun k68 => letv (tpI s65 10 k68 (v67 ||| (1 <<< (x1 &&& 31)))) fun s69 => bnd1 (α := Int32) (if x3 = 0 then (gdx x2 (mlen 11) fun k74 => letv (s69.1 11 k74) fun v75 => some (v75)) else (some (x1))) fun (v70 : Int32) => gdx x2 (mlen 11) fun k76 => letv (tpI s69 11 k76 v70) fun s77 => some (1, s77)) else (some (2, τ)))))) else (some (0, τ))
def rm_X11_locks : Room := { frames := 1, cells := 0, slots := 0, locals := 22 }
set_option maxRecDepth 100000 in
set_option maxHeartbeats 4000000 in
theorem m_X11_locks {l : Launch} {G : xG} {z : Nat → Nat} {σ : Sg} {τ : Tg} {x1 : Int32} {x2 : Int32} {x3 : Int32} {rF : Int32} {sF : Tg} (h : f_X11_locks z τ x1 x2 x3 = some (rF, sF)) : xMet l (xD G) (xcA G) (xbs G) yX11_locks cX11_locks 6 (Option.some Jvm.ClassFile.FieldType.int) rm_X11_locks [.ref (xaM G 0), .int x1, .int x2, .int x3] (xRep G z σ τ) (xRep G z σ sF) (some (.int rF)) 0 0 := by
  refine xMet.of RX11 rfl (by decide +kernel) (Nat.le_of_ble_eq_true rfl) ?_
  intro p e s m args below meth c C hr hnm
  unfold f_X11_locks at h
  refine x_sub (L' := [(0, .ref (xaM G 0)), (1, .int x1), (2, .int x2), (3, .int x3)]) [0, 1, 2, 3] rfl ?_
  refine x_iload_n C dX11_locks_0 rfl (q := 2) rfl ?_
  refine x_aload_n C dX11_locks_1 rfl (q := 0) rfl ?_
  refine m_get C cl_X11 0 (by decide) fl_X11_97_X11 rfl rfl dX11_locks_2 ?_
  refine x_irem C dX11_locks_5 h (fun h => ?_)
  refine x_letI h (fun v1 h => ?_)
  refine x_istore C (L' := [(4, .int v1), (0, .ref (xaM G 0)), (1, .int x1), (2, .int x2), (3, .int x3)]) dX11_locks_6 (by decide) rfl ?_
  refine x_aload_n C dX11_locks_8 rfl (q := 1) rfl ?_
  refine m_get C cl_X11 12 (by decide) fl_X11_30_X11 rfl rfl dX11_locks_9 ?_
  refine x_iload_n C dX11_locks_12 rfl (q := 2) rfl ?_
  refine m_iald C rfl (fun _ _ => rfl) dX11_locks_13 h (fun k2 hk2 h => ?_)
  refine x_letI h (fun v3 h => ?_)
  refine x_iconst C (v := 1) dX11_locks_14 (by decide) ?_
  refine x_icmp_eq C (tgt := 20) dX11_locks_15 (by decide) h (fun hc4 h => ?_) (fun hc4 h => ?_)
  · refine x_aload_n C dX11_locks_20 rfl (q := 1) rfl ?_
    refine m_get C cl_X11 6 (by decide) fl_X11_7_X11 rfl rfl dX11_locks_21 ?_
    refine x_iload C dX11_locks_24 (q := 0) rfl ?_
    refine m_bald C rfl (fun _ _ => rfl) dX11_locks_26 h (fun k5 hk5 h => ?_)
    refine x_letI h (fun v6 h => ?_)
    refine x_if_ne C (tgt := 32) dX11_locks_27 (by decide) h (fun hc7 h => ?_) (fun hc7 h => ?_)
    · refine x_aload_n C dX11_locks_32 rfl (q := 1) rfl ?_
      refine x_iload_n C dX11_locks_33 rfl (q := 2) rfl ?_
      refine x_iload C dX11_locks_34 (q := 0) rfl ?_
      obtain ⟨r9, hq8, h⟩ := bnd1_some h
      refine x_callV_i C (m_X11_touches hq8) wv_X11_128 (m_recv C.2.2.2 cl_X11 rfl) rfl (Nat.le_of_ble_eq_true rfl) ⟨⟨rfl, rfl⟩, Nat.le_of_ble_eq_true rfl, Nat.le_of_ble_eq_true rfl⟩ dX11_locks_36 rfl ?_
      refine x_if_eq C (tgt := 59) dX11_locks_39 (by decide) h (fun hc10 h => ?_) (fun hc10 h => ?_)
      · refine x_iload_n C dX11_locks_59 rfl (q := 4) rfl ?_
        obtain ⟨v11, hv13, h⟩ := bnd1_some h
        refine x_join (Ω' := (xRep G z σ τ)) (pc' := 110) (L' := [(0, .ref (xaM G 0)), (1, .int x1), (2, .int x2), (3, .int x3), (4, .int v1)]) (st' := [.int v11]) ?_ (fun hj12 => ?_)
        · refine x_istore C (L' := [(5, .int v11), (0, .ref (xaM G 0)), (1, .int x1), (2, .int x2), (3, .int x3), (4, .int v1)]) dX11_locks_110 (by decide) rfl ?_
          refine x_iload C dX11_locks_112 (q := 0) rfl ?_
          refine x_if_eq C (tgt := 119) dX11_locks_114 (by decide) h (fun hc24 h => ?_) (fun hc24 h => ?_)
          · refine x_aload_n C dX11_locks_119 rfl (q := 1) rfl ?_
            refine m_get C cl_X11 16 (by decide) fl_X11_42_X11 rfl rfl dX11_locks_120 ?_
            refine x_bipush C (v := 16) dX11_locks_123 (by decide) ?_
            refine x_iload C dX11_locks_125 (q := 5) rfl ?_
            refine x_imul C dX11_locks_127 ?_
            refine x_iload_n C dX11_locks_128 rfl (q := 2) rfl ?_
            refine x_iadd C dX11_locks_129 ?_
            refine x_iconst C (v := 1) dX11_locks_130 (by decide) ?_
            refine m_bast C (by decide) rfl (fun _ _ => rfl) dX11_locks_131 h (fun k25 hk25 h => ?_)
            refine m_letS h (fun s26 h => ?_)
            refine x_aload_n C dX11_locks_132 rfl (q := 1) rfl ?_
            refine m_get C cl_X11 13 (by decide) fl_X11_33_X11 rfl rfl dX11_locks_133 ?_
            refine x_iload_n C dX11_locks_136 rfl (q := 2) rfl ?_
            refine x_dup2 C dX11_locks_137 rfl rfl ?_
            refine m_iald C rfl (fun _ _ => rfl) dX11_locks_138 h (fun k27 hk27 h => ?_)
            refine x_letI h (fun v28 h => ?_)
            refine x_iconst C (v := 1) dX11_locks_139 (by decide) ?_
            refine x_iload C dX11_locks_140 (q := 5) rfl ?_
            refine x_ishl C dX11_locks_142 ?_
            refine x_ior C dX11_locks_143 ?_
            refine m_iast C rfl (fun _ _ => rfl) dX11_locks_144 h (fun k29 hk29 h => ?_)
            refine m_letS h (fun s30 h => ?_)
            refine x_aload_n C dX11_locks_145 rfl (q := 1) rfl ?_
            refine m_get C cl_X11 10 (by decide) fl_X11_24_X11 rfl rfl dX11_locks_146 ?_
            refine x_iload_n C dX11_locks_149 rfl (q := 3) rfl ?_
            refine x_dup2 C dX11_locks_150 rfl rfl ?_
            refine m_iald C rfl (fun _ _ => rfl) dX11_locks_151 h (fun k31 hk31 h => ?_)
            refine x_letI h (fun v32 h => ?_)
            refine x_iconst C (v := 1) dX11_locks_152 (by decide) ?_
            refine x_iload_n C dX11_locks_153 rfl (q := 2) rfl ?_
            refine x_ishl C dX11_locks_154 ?_
            refine x_ior C dX11_locks_155 ?_
            refine m_iast C rfl (fun _ _ => rfl) dX11_locks_156 h (fun k33 hk33 h => ?_)
            refine m_letS h (fun s34 h => ?_)
            refine x_aload_n C dX11_locks_157 rfl (q := 1) rfl ?_
            refine m_get C cl_X11 11 (by decide) fl_X11_27_X11 rfl rfl dX11_locks_158 ?_
            refine x_iload_n C dX11_locks_161 rfl (q := 3) rfl ?_
            refine x_iload_n C dX11_locks_162 rfl (q := 4) rfl ?_
            obtain ⟨v35, hv37, h⟩ := bnd1_some h
            refine x_join (Ω' := (xRep G z σ s34)) (pc' := 176) (L' := []) (st' := [.int v35, .int x2, .ref (xaM G 11)]) ?_ (fun hj36 => ?_)
            · refine m_iast C rfl (fun _ _ => rfl) dX11_locks_176 h (fun k41 hk41 h => ?_)
              refine m_letS h (fun s42 h => ?_)
              refine x_iconst C (v := 1) dX11_locks_177 (by decide) ?_
              cases h
              exact xr_i C hr dX11_locks_178 (fun _ h => h)
            · replace h := hv37
              clear hv37
              refine x_if_eq C (tgt := 170) dX11_locks_163 (by decide) h (fun hc38 h => ?_) (fun hc38 h => ?_)
              · refine x_aload_n C dX11_locks_170 rfl (q := 1) rfl ?_
                refine m_get C cl_X11 11 (by decide) fl_X11_27_X11 rfl rfl dX11_locks_171 ?_
                refine x_iload_n C dX11_locks_174 rfl (q := 3) rfl ?_
                refine m_iald C rfl (fun _ _ => rfl) dX11_locks_175 h (fun k39 hk39 h => ?_)
                refine x_letI h (fun v40 h => ?_)
                cases h
                exact x_sub [] rfl hj36
              · refine x_iload_n C dX11_locks_166 rfl (q := 2) rfl ?_
                refine x_goto C (tgt := 176) dX11_locks_167 (by decide) ?_
                cases h
                exact x_sub [] rfl hj36
          · refine x_iconst C (v := 2) dX11_locks_117 (by decide) ?_
            cases h
            exact xr_i C hr dX11_locks_118 (fun _ h => h)
        · replace h := hv13
          clear hv13
          refine x_if_eq C (tgt := 86) dX11_locks_60 (by decide) h (fun hc14 h => ?_) (fun hc14 h => ?_)
          · refine x_aload_n C dX11_locks_86 rfl (q := 1) rfl ?_
            refine m_get C cl_X11 11 (by decide) fl_X11_27_X11 rfl rfl dX11_locks_87 ?_
            refine x_iload_n C dX11_locks_90 rfl (q := 3) rfl ?_
            refine m_iald C rfl (fun _ _ => rfl) dX11_locks_91 h (fun k15 hk15 h => ?_)
            refine x_letI h (fun v16 h => ?_)
            refine x_if_lt C (tgt := 109) dX11_locks_92 (by decide) h (fun hc17 h => ?_) (fun hc17 h => ?_)
            · refine x_iconst C (v := 0) dX11_locks_109 (by decide) ?_
              cases h
              exact x_sub [1, 2, 3, 4, 0] rfl hj12
            · refine x_aload_n C dX11_locks_95 rfl (q := 1) rfl ?_
              refine m_get C cl_X11 11 (by decide) fl_X11_27_X11 rfl rfl dX11_locks_96 ?_
              refine x_iload_n C dX11_locks_99 rfl (q := 3) rfl ?_
              refine m_iald C rfl (fun _ _ => rfl) dX11_locks_100 h (fun k18 hk18 h => ?_)
              refine x_letI h (fun v19 h => ?_)
              refine x_iload_n C dX11_locks_101 rfl (q := 2) rfl ?_
              refine x_icmp_eq C (tgt := 109) dX11_locks_102 (by decide) h (fun hc20 h => ?_) (fun hc20 h => ?_)
              · refine x_iconst C (v := 0) dX11_locks_109 (by decide) ?_
                cases h
                exact x_sub [1, 2, 3, 4, 0] rfl hj12
              · refine x_iconst C (v := 1) dX11_locks_105 (by decide) ?_
                refine x_goto C (tgt := 110) dX11_locks_106 (by decide) ?_
                cases h
                exact x_sub [1, 2, 3, 4, 0] rfl hj12
          · refine x_aload_n C dX11_locks_63 rfl (q := 1) rfl ?_
            refine m_get C cl_X11 10 (by decide) fl_X11_24_X11 rfl rfl dX11_locks_64 ?_
            refine x_iload_n C dX11_locks_67 rfl (q := 3) rfl ?_
            refine m_iald C rfl (fun _ _ => rfl) dX11_locks_68 h (fun k21 hk21 h => ?_)
            refine x_letI h (fun v22 h => ?_)
            refine x_iconst C (v := 1) dX11_locks_69 (by decide) ?_
            refine x_iload_n C dX11_locks_70 rfl (q := 2) rfl ?_
            refine x_ishl C dX11_locks_71 ?_
            refine x_iconst C (v := (-1)) dX11_locks_72 (by decide) ?_
            refine x_ixor C dX11_locks_73 ?_
            refine x_iand C dX11_locks_74 ?_
            refine x_if_eq C (tgt := 82) dX11_locks_75 (by decide) h (fun hc23 h => ?_) (fun hc23 h => ?_)
            · refine x_iconst C (v := 0) dX11_locks_82 (by decide) ?_
              refine x_goto C (tgt := 110) dX11_locks_83 (by decide) ?_
              cases h
              exact x_sub [1, 2, 3, 4, 0] rfl hj12
            · refine x_iconst C (v := 1) dX11_locks_78 (by decide) ?_
              refine x_goto C (tgt := 110) dX11_locks_79 (by decide) ?_
              cases h
              exact x_sub [1, 2, 3, 4, 0] rfl hj12
      · refine x_aload_n C dX11_locks_42 rfl (q := 1) rfl ?_
        refine m_get C cl_X11 16 (by decide) fl_X11_42_X11 rfl rfl dX11_locks_43 ?_
        refine x_bipush C (v := 16) dX11_locks_46 (by decide) ?_
        refine x_iload C dX11_locks_48 (q := 0) rfl ?_
        refine x_imul C dX11_locks_50 ?_
        refine x_iload_n C dX11_locks_51 rfl (q := 2) rfl ?_
        refine x_iadd C dX11_locks_52 ?_
        refine m_bald C rfl (fun _ _ => rfl) dX11_locks_53 h (fun k43 hk43 h => ?_)
        refine x_letI h (fun v44 h => ?_)
        refine x_if_ne C (tgt := 59) dX11_locks_54 (by decide) h (fun hc45 h => ?_) (fun hc45 h => ?_)
        · refine x_iload_n C dX11_locks_59 rfl (q := 4) rfl ?_
          obtain ⟨v46, hv48, h⟩ := bnd1_some h
          refine x_join (Ω' := (xRep G z σ τ)) (pc' := 110) (L' := [(0, .ref (xaM G 0)), (1, .int x1), (2, .int x2), (3, .int x3), (4, .int v1)]) (st' := [.int v46]) ?_ (fun hj47 => ?_)
          · refine x_istore C (L' := [(5, .int v46), (0, .ref (xaM G 0)), (1, .int x1), (2, .int x2), (3, .int x3), (4, .int v1)]) dX11_locks_110 (by decide) rfl ?_
            refine x_iload C dX11_locks_112 (q := 0) rfl ?_
            refine x_if_eq C (tgt := 119) dX11_locks_114 (by decide) h (fun hc59 h => ?_) (fun hc59 h => ?_)
            · refine x_aload_n C dX11_locks_119 rfl (q := 1) rfl ?_
              refine m_get C cl_X11 16 (by decide) fl_X11_42_X11 rfl rfl dX11_locks_120 ?_
              refine x_bipush C (v := 16) dX11_locks_123 (by decide) ?_
              refine x_iload C dX11_locks_125 (q := 5) rfl ?_
              refine x_imul C dX11_locks_127 ?_
              refine x_iload_n C dX11_locks_128 rfl (q := 2) rfl ?_
              refine x_iadd C dX11_locks_129 ?_
              refine x_iconst C (v := 1) dX11_locks_130 (by decide) ?_
              refine m_bast C (by decide) rfl (fun _ _ => rfl) dX11_locks_131 h (fun k60 hk60 h => ?_)
              refine m_letS h (fun s61 h => ?_)
              refine x_aload_n C dX11_locks_132 rfl (q := 1) rfl ?_
              refine m_get C cl_X11 13 (by decide) fl_X11_33_X11 rfl rfl dX11_locks_133 ?_
              refine x_iload_n C dX11_locks_136 rfl (q := 2) rfl ?_
              refine x_dup2 C dX11_locks_137 rfl rfl ?_
              refine m_iald C rfl (fun _ _ => rfl) dX11_locks_138 h (fun k62 hk62 h => ?_)
              refine x_letI h (fun v63 h => ?_)
              refine x_iconst C (v := 1) dX11_locks_139 (by decide) ?_
              refine x_iload C dX11_locks_140 (q := 5) rfl ?_
              refine x_ishl C dX11_locks_142 ?_
              refine x_ior C dX11_locks_143 ?_
              refine m_iast C rfl (fun _ _ => rfl) dX11_locks_144 h (fun k64 hk64 h => ?_)
              refine m_letS h (fun s65 h => ?_)
              refine x_aload_n C dX11_locks_145 rfl (q := 1) rfl ?_
              refine m_get C cl_X11 10 (by decide) fl_X11_24_X11 rfl rfl dX11_locks_146 ?_
              refine x_iload_n C dX11_locks_149 rfl (q := 3) rfl ?_
              refine x_dup2 C dX11_locks_150 rfl rfl ?_
              refine m_iald C rfl (fun _ _ => rfl) dX11_locks_151 h (fun k66 hk66 h => ?_)
              refine x_letI h (fun v67 h => ?_)
              refine x_iconst C (v := 1) dX11_locks_152 (by decide) ?_
              refine x_iload_n C dX11_locks_153 rfl (q := 2) rfl ?_
              refine x_ishl C dX11_locks_154 ?_
              refine x_ior C dX11_locks_155 ?_
              refine m_iast C rfl (fun _ _ => rfl) dX11_locks_156 h (fun k68 hk68 h => ?_)
              refine m_letS h (fun s69 h => ?_)
              refine x_aload_n C dX11_locks_157 rfl (q := 1) rfl ?_
              refine m_get C cl_X11 11 (by decide) fl_X11_27_X11 rfl rfl dX11_locks_158 ?_
              refine x_iload_n C dX11_locks_161 rfl (q := 3) rfl ?_
              refine x_iload_n C dX11_locks_162 rfl (q := 4) rfl ?_
              obtain ⟨v70, hv72, h⟩ := bnd1_some h
              refine x_join (Ω' := (xRep G z σ s69)) (pc' := 176) (L' := []) (st' := [.int v70, .int x2, .ref (xaM G 11)]) ?_ (fun hj71 => ?_)
              · refine m_iast C rfl (fun _ _ => rfl) dX11_locks_176 h (fun k76 hk76 h => ?_)
                refine m_letS h (fun s77 h => ?_)
                refine x_iconst C (v := 1) dX11_locks_177 (by decide) ?_
                cases h
                exact xr_i C hr dX11_locks_178 (fun _ h => h)
              · replace h := hv72
                clear hv72
                refine x_if_eq C (tgt := 170) dX11_locks_163 (by decide) h (fun hc73 h => ?_) (fun hc73 h => ?_)
                · refine x_aload_n C dX11_locks_170 rfl (q := 1) rfl ?_
                  refine m_get C cl_X11 11 (by decide) fl_X11_27_X11 rfl rfl dX11_locks_171 ?_
                  refine x_iload_n C dX11_locks_174 rfl (q := 3) rfl ?_
                  refine m_iald C rfl (fun _ _ => rfl) dX11_locks_175 h (fun k74 hk74 h => ?_)
                  refine x_letI h (fun v75 h => ?_)
                  cases h
                  exact x_sub [] rfl hj71
                · refine x_iload_n C dX11_locks_166 rfl (q := 2) rfl ?_
                  refine x_goto C (tgt := 176) dX11_locks_167 (by decide) ?_
                  cases h
                  exact x_sub [] rfl hj71
            · refine x_iconst C (v := 2) dX11_locks_117 (by decide) ?_
              cases h
              exact xr_i C hr dX11_locks_118 (fun _ h => h)
          · replace h := hv48
            clear hv48
            refine x_if_eq C (tgt := 86) dX11_locks_60 (by decide) h (fun hc49 h => ?_) (fun hc49 h => ?_)
            · refine x_aload_n C dX11_locks_86 rfl (q := 1) rfl ?_
              refine m_get C cl_X11 11 (by decide) fl_X11_27_X11 rfl rfl dX11_locks_87 ?_
              refine x_iload_n C dX11_locks_90 rfl (q := 3) rfl ?_
              refine m_iald C rfl (fun _ _ => rfl) dX11_locks_91 h (fun k50 hk50 h => ?_)
              refine x_letI h (fun v51 h => ?_)
              refine x_if_lt C (tgt := 109) dX11_locks_92 (by decide) h (fun hc52 h => ?_) (fun hc52 h => ?_)
              · refine x_iconst C (v := 0) dX11_locks_109 (by decide) ?_
                cases h
                exact x_sub [1, 2, 3, 4, 0] rfl hj47
              · refine x_aload_n C dX11_locks_95 rfl (q := 1) rfl ?_
                refine m_get C cl_X11 11 (by decide) fl_X11_27_X11 rfl rfl dX11_locks_96 ?_
                refine x_iload_n C dX11_locks_99 rfl (q := 3) rfl ?_
                refine m_iald C rfl (fun _ _ => rfl) dX11_locks_100 h (fun k53 hk53 h => ?_)
                refine x_letI h (fun v54 h => ?_)
                refine x_iload_n C dX11_locks_101 rfl (q := 2) rfl ?_
                refine x_icmp_eq C (tgt := 109) dX11_locks_102 (by decide) h (fun hc55 h => ?_) (fun hc55 h => ?_)
                · refine x_iconst C (v := 0) dX11_locks_109 (by decide) ?_
                  cases h
                  exact x_sub [1, 2, 3, 4, 0] rfl hj47
                · refine x_iconst C (v := 1) dX11_locks_105 (by decide) ?_
                  refine x_goto C (tgt := 110) dX11_locks_106 (by decide) ?_
                  cases h
                  exact x_sub [1, 2, 3, 4, 0] rfl hj47
            · refine x_aload_n C dX11_locks_63 rfl (q := 1) rfl ?_
              refine m_get C cl_X11 10 (by decide) fl_X11_24_X11 rfl rfl dX11_locks_64 ?_
              refine x_iload_n C dX11_locks_67 rfl (q := 3) rfl ?_
              refine m_iald C rfl (fun _ _ => rfl) dX11_locks_68 h (fun k56 hk56 h => ?_)
              refine x_letI h (fun v57 h => ?_)
              refine x_iconst C (v := 1) dX11_locks_69 (by decide) ?_
              refine x_iload_n C dX11_locks_70 rfl (q := 2) rfl ?_
              refine x_ishl C dX11_locks_71 ?_
              refine x_iconst C (v := (-1)) dX11_locks_72 (by decide) ?_
              refine x_ixor C dX11_locks_73 ?_
              refine x_iand C dX11_locks_74 ?_
              refine x_if_eq C (tgt := 82) dX11_locks_75 (by decide) h (fun hc58 h => ?_) (fun hc58 h => ?_)
              · refine x_iconst C (v := 0) dX11_locks_82 (by decide) ?_
                refine x_goto C (tgt := 110) dX11_locks_83 (by decide) ?_
                cases h
                exact x_sub [1, 2, 3, 4, 0] rfl hj47
              · refine x_iconst C (v := 1) dX11_locks_78 (by decide) ?_
                refine x_goto C (tgt := 110) dX11_locks_79 (by decide) ?_
                cases h
                exact x_sub [1, 2, 3, 4, 0] rfl hj47
        · refine x_iconst C (v := 4) dX11_locks_57 (by decide) ?_
          cases h
          exact xr_i C hr dX11_locks_58 (fun _ h => h)
    · refine x_iconst C (v := 3) dX11_locks_30 (by decide) ?_
      cases h
      exact xr_i C hr dX11_locks_31 (fun _ h => h)
  · refine x_iconst C (v := 0) dX11_locks_18 (by decide) ?_
    cases h
    exact xr_i C hr dX11_locks_19 (fun _ h => h)
def f_X11_begin (z : Nat → Nat) (τ : Tg) (x1 : Int32) : Option (Int32 × Tg) :=
  bnd1 (f_X11_isTxn z τ x1) fun r2 => if r2 = 0 then (some ((-1), τ)) else (gdx x1 (mlen 12) fun k4 => letv (τ.1 12 k4) fun v5 => if v5 = 0 then (gdx x1 (mlen 12) fun k7 => letv (tpI τ 12 k7 1) fun s8 => some (1, s8)) else (some (0, τ)))
def rm_X11_begin : Room := { frames := 2, cells := 0, slots := 0, locals := 43 }
set_option maxRecDepth 100000 in
set_option maxHeartbeats 4000000 in
theorem m_X11_begin {l : Launch} {G : xG} {z : Nat → Nat} {σ : Sg} {τ : Tg} {x1 : Int32} {rF : Int32} {sF : Tg} (h : f_X11_begin z τ x1 = some (rF, sF)) : xMet l (xD G) (xcA G) (xbs G) yX11_begin cX11_begin 2 (Option.some Jvm.ClassFile.FieldType.int) rm_X11_begin [.ref (xaM G 0), .int x1] (xRep G z σ τ) (xRep G z σ sF) (some (.int rF)) 0 0 := by
  refine xMet.of RX11 rfl (by decide +kernel) (Nat.le_of_ble_eq_true rfl) ?_
  intro p e s m args below meth c C hr hnm
  unfold f_X11_begin at h
  refine x_sub (L' := [(0, .ref (xaM G 0)), (1, .int x1)]) [0, 1] rfl ?_
  refine x_aload_n C dX11_begin_0 rfl (q := 0) rfl ?_
  refine x_iload_n C dX11_begin_1 rfl (q := 1) rfl ?_
  obtain ⟨r2, hq1, h⟩ := bnd1_some h
  refine x_callV_i C (m_X11_isTxn hq1) wv_X11_132 (m_recv C.2.2.2 cl_X11 rfl) rfl (Nat.le_of_ble_eq_true rfl) ⟨⟨rfl, rfl⟩, Nat.le_of_ble_eq_true rfl, Nat.le_of_ble_eq_true rfl⟩ dX11_begin_2 rfl ?_
  refine x_if_ne C (tgt := 10) dX11_begin_5 (by decide) h (fun hc3 h => ?_) (fun hc3 h => ?_)
  · refine x_aload_n C dX11_begin_10 rfl (q := 0) rfl ?_
    refine m_get C cl_X11 12 (by decide) fl_X11_30_X11 rfl rfl dX11_begin_11 ?_
    refine x_iload_n C dX11_begin_14 rfl (q := 1) rfl ?_
    refine m_iald C rfl (fun _ _ => rfl) dX11_begin_15 h (fun k4 hk4 h => ?_)
    refine x_letI h (fun v5 h => ?_)
    refine x_if_eq C (tgt := 21) dX11_begin_16 (by decide) h (fun hc6 h => ?_) (fun hc6 h => ?_)
    · refine x_aload_n C dX11_begin_21 rfl (q := 0) rfl ?_
      refine m_get C cl_X11 12 (by decide) fl_X11_30_X11 rfl rfl dX11_begin_22 ?_
      refine x_iload_n C dX11_begin_25 rfl (q := 1) rfl ?_
      refine x_iconst C (v := 1) dX11_begin_26 (by decide) ?_
      refine m_iast C rfl (fun _ _ => rfl) dX11_begin_27 h (fun k7 hk7 h => ?_)
      refine m_letS h (fun s8 h => ?_)
      refine x_iconst C (v := 1) dX11_begin_28 (by decide) ?_
      cases h
      exact xr_i C hr dX11_begin_29 (fun _ h => h)
    · refine x_iconst C (v := 0) dX11_begin_19 (by decide) ?_
      cases h
      exact xr_i C hr dX11_begin_20 (fun _ h => h)
  · refine x_iconst C (v := (-1)) dX11_begin_8 (by decide) ?_
    cases h
    exact xr_i C hr dX11_begin_9 (fun _ h => h)
def f_X11_read (z : Nat → Nat) (τ : Tg) (x1 : Int32) (x2 : Int32) : Option (Int64 × Tg) :=
  bnd1 (f_X11_isTxn z τ x1) fun r2 => if r2 = 0 then (letv (tpI τ 0 35 (-1)) fun s4 => some (0, s4)) else (bnd1 (f_X11_isKey z τ x2) fun r6 => if r6 = 0 then (letv (tpI τ 0 35 (-1)) fun s21 => some (0, s21)) else (bnd2 (f_X11_locks z τ x1 x2 0) fun r9 s10 => letv (tpI s10 0 35 r9) fun s11 => letv (s11.1 0 35) fun v12 => if v12 = 1 then (gdx ((32 * x1) + x2) (mlen 14) fun k14 => letv (s11.1 14 k14) fun v15 => if v15 = 0 then (gdx x2 (mlen 9) fun k17 => letv (s11.2 9 k17) fun v18 => some (v18, s11)) else (gdx ((32 * x1) + x2) (mlen 15) fun k19 => letv (s11.2 15 k19) fun v20 => some (v20, s11))) else (some (0, s11))))
def rm_X11_read : Room := { frames := 2, cells := 0, slots := 0, locals := 47 }
set_option maxRecDepth 100000 in
set_option maxHeartbeats 4000000 in
theorem m_X11_read {l : Launch} {G : xG} {z : Nat → Nat} {σ : Sg} {τ : Tg} {x1 : Int32} {x2 : Int32} {rF : Int64} {sF : Tg} (h : f_X11_read z τ x1 x2 = some (rF, sF)) : xMet l (xD G) (xcA G) (xbs G) yX11_read cX11_read 3 (Option.some Jvm.ClassFile.FieldType.long) rm_X11_read [.ref (xaM G 0), .int x1, .int x2] (xRep G z σ τ) (xRep G z σ sF) (some (.long rF)) 0 0 := by
  refine xMet.of RX11 rfl (by decide +kernel) (Nat.le_of_ble_eq_true rfl) ?_
  intro p e s m args below meth c C hr hnm
  unfold f_X11_read at h
  refine x_sub (L' := [(0, .ref (xaM G 0)), (1, .int x1), (2, .int x2)]) [0, 1, 2] rfl ?_
  refine x_aload_n C dX11_read_0 rfl (q := 0) rfl ?_
  refine x_iload_n C dX11_read_1 rfl (q := 1) rfl ?_
  obtain ⟨r2, hq1, h⟩ := bnd1_some h
  refine x_callV_i C (m_X11_isTxn hq1) wv_X11_132 (m_recv C.2.2.2 cl_X11 rfl) rfl (Nat.le_of_ble_eq_true rfl) ⟨⟨rfl, rfl⟩, Nat.le_of_ble_eq_true rfl, Nat.le_of_ble_eq_true rfl⟩ dX11_read_2 rfl ?_
  refine x_if_eq C (tgt := 16) dX11_read_5 (by decide) h (fun hc3 h => ?_) (fun hc3 h => ?_)
  · refine x_aload_n C dX11_read_16 rfl (q := 0) rfl ?_
    refine x_iconst C (v := (-1)) dX11_read_17 (by decide) ?_
    refine m_putI C cl_X11 35 (by decide) fl_X11_139_X11 rfl (fun _ _ => rfl) (fun _ _ => rfl) (fun _ _ => Nat.le_of_ble_eq_true rfl) rfl rfl dX11_read_18 h (fun s4 h => ?_)
    refine x_lconst C (v := 0) dX11_read_21 (by decide) ?_
    cases h
    exact xr_l C hr dX11_read_22 (fun _ h => h)
  · refine x_aload_n C dX11_read_8 rfl (q := 0) rfl ?_
    refine x_iload_n C dX11_read_9 rfl (q := 2) rfl ?_
    obtain ⟨r6, hq5, h⟩ := bnd1_some h
    refine x_callV_i C (m_X11_isKey hq5) wv_X11_136 (m_recv C.2.2.2 cl_X11 rfl) rfl (Nat.le_of_ble_eq_true rfl) ⟨⟨rfl, rfl⟩, Nat.le_of_ble_eq_true rfl, Nat.le_of_ble_eq_true rfl⟩ dX11_read_10 rfl ?_
    refine x_if_ne C (tgt := 23) dX11_read_13 (by decide) h (fun hc7 h => ?_) (fun hc7 h => ?_)
    · refine x_aload_n C dX11_read_23 rfl (q := 0) rfl ?_
      refine x_aload_n C dX11_read_24 rfl (q := 0) rfl ?_
      refine x_iload_n C dX11_read_25 rfl (q := 1) rfl ?_
      refine x_iload_n C dX11_read_26 rfl (q := 2) rfl ?_
      refine x_iconst C (v := 0) dX11_read_27 (by decide) ?_
      obtain ⟨r9, s10, hq8, h⟩ := bnd2_some h
      refine x_callV_i C (m_X11_locks hq8) wv_X11_142 (m_recv C.2.2.2 cl_X11 rfl) rfl (Nat.le_of_ble_eq_true rfl) ⟨⟨rfl, rfl⟩, Nat.le_of_ble_eq_true rfl, Nat.le_of_ble_eq_true rfl⟩ dX11_read_28 rfl ?_
      refine m_putI C cl_X11 35 (by decide) fl_X11_139_X11 rfl (fun _ _ => rfl) (fun _ _ => rfl) (fun _ _ => Nat.le_of_ble_eq_true rfl) rfl rfl dX11_read_31 h (fun s11 h => ?_)
      refine x_aload_n C dX11_read_34 rfl (q := 0) rfl ?_
      refine m_get C cl_X11 35 (by decide) fl_X11_139_X11 rfl rfl dX11_read_35 ?_
      refine x_letI h (fun v12 h => ?_)
      refine x_iconst C (v := 1) dX11_read_38 (by decide) ?_
      refine x_icmp_eq C (tgt := 44) dX11_read_39 (by decide) h (fun hc13 h => ?_) (fun hc13 h => ?_)
      · refine x_aload_n C dX11_read_44 rfl (q := 0) rfl ?_
        refine m_get C cl_X11 14 (by decide) fl_X11_36_X11 rfl rfl dX11_read_45 ?_
        refine x_bipush C (v := 32) dX11_read_48 (by decide) ?_
        refine x_iload_n C dX11_read_50 rfl (q := 1) rfl ?_
        refine x_imul C dX11_read_51 ?_
        refine x_iload_n C dX11_read_52 rfl (q := 2) rfl ?_
        refine x_iadd C dX11_read_53 ?_
        refine m_bald C rfl (fun _ _ => rfl) dX11_read_54 h (fun k14 hk14 h => ?_)
        refine x_letI h (fun v15 h => ?_)
        refine x_if_eq C (tgt := 72) dX11_read_55 (by decide) h (fun hc16 h => ?_) (fun hc16 h => ?_)
        · refine x_aload_n C dX11_read_72 rfl (q := 0) rfl ?_
          refine m_get C cl_X11 9 (by decide) fl_X11_20_X11 rfl rfl dX11_read_73 ?_
          refine x_iload_n C dX11_read_76 rfl (q := 2) rfl ?_
          refine m_lald C rfl (fun _ _ => rfl) dX11_read_77 h (fun k17 hk17 h => ?_)
          refine x_letL h (fun v18 h => ?_)
          cases h
          exact xr_l C hr dX11_read_78 (fun _ h => h)
        · refine x_aload_n C dX11_read_58 rfl (q := 0) rfl ?_
          refine m_get C cl_X11 15 (by decide) fl_X11_39_X11 rfl rfl dX11_read_59 ?_
          refine x_bipush C (v := 32) dX11_read_62 (by decide) ?_
          refine x_iload_n C dX11_read_64 rfl (q := 1) rfl ?_
          refine x_imul C dX11_read_65 ?_
          refine x_iload_n C dX11_read_66 rfl (q := 2) rfl ?_
          refine x_iadd C dX11_read_67 ?_
          refine m_lald C rfl (fun _ _ => rfl) dX11_read_68 h (fun k19 hk19 h => ?_)
          refine x_letL h (fun v20 h => ?_)
          refine x_goto C (tgt := 78) dX11_read_69 (by decide) ?_
          cases h
          exact xr_l C hr dX11_read_78 (fun _ h => h)
      · refine x_lconst C (v := 0) dX11_read_42 (by decide) ?_
        cases h
        exact xr_l C hr dX11_read_43 (fun _ h => h)
    · refine x_aload_n C dX11_read_16 rfl (q := 0) rfl ?_
      refine x_iconst C (v := (-1)) dX11_read_17 (by decide) ?_
      refine m_putI C cl_X11 35 (by decide) fl_X11_139_X11 rfl (fun _ _ => rfl) (fun _ _ => rfl) (fun _ _ => Nat.le_of_ble_eq_true rfl) rfl rfl dX11_read_18 h (fun s21 h => ?_)
      refine x_lconst C (v := 0) dX11_read_21 (by decide) ?_
      cases h
      exact xr_l C hr dX11_read_22 (fun _ h => h)
def f_X11_readStatus (z : Nat → Nat) (τ : Tg) : Option Int32 :=
  letv (τ.1 0 35) fun v1 => some (v1)
def rm_X11_readStatus : Room := { frames := 0, cells := 0, slots := 0, locals := 0 }
set_option maxRecDepth 100000 in
set_option maxHeartbeats 4000000 in
theorem m_X11_readStatus {l : Launch} {G : xG} {z : Nat → Nat} {σ : Sg} {τ : Tg} {rF : Int32} (h : f_X11_readStatus z τ = some (rF)) : xMet l (xD G) (xcA G) (xbs G) yX11_readStatus cX11_readStatus 1 (Option.some Jvm.ClassFile.FieldType.int) rm_X11_readStatus [.ref (xaM G 0)] (xRep G z σ τ) (xRep G z σ τ) (some (.int rF)) 0 0 := by
  refine xMet.of RX11 rfl (by decide +kernel) (Nat.le_of_ble_eq_true rfl) ?_
  intro p e s m args below meth c C hr hnm
  unfold f_X11_readStatus at h
  refine x_sub (L' := [(0, .ref (xaM G 0))]) [0] rfl ?_
  refine x_aload_n C dX11_readStatus_0 rfl (q := 0) rfl ?_
  refine m_get C cl_X11 35 (by decide) fl_X11_139_X11 rfl rfl dX11_readStatus_1 ?_
  refine x_letI h (fun v1 h => ?_)
  cases h
  exact xr_i C hr dX11_readStatus_4 (fun _ h => h)
def f_X11_write (z : Nat → Nat) (τ : Tg) (x1 : Int32) (x2 : Int32) (x3 : Int64) : Option (Int32 × Tg) :=
  bnd1 (f_X11_isTxn z τ x1) fun r2 => if r2 = 0 then (some ((-1), τ)) else (bnd1 (f_X11_isKey z τ x2) fun r5 => if r5 = 0 then (some ((-1), τ)) else (bnd2 (f_X11_locks z τ x1 x2 1) fun r8 s9 => if r8 = 1 then (gdx ((32 * x1) + x2) (mlen 14) fun k11 => letv (tpI s9 14 k11 1) fun s12 => gdx ((32 * x1) + x2) (mlen 15) fun k13 => letv (tpL s12 15 k13 x3) fun s14 => some (r8, s14)) else (some (r8, s9))))
def rm_X11_write : Room := { frames := 2, cells := 0, slots := 0, locals := 47 }
set_option maxRecDepth 100000 in
set_option maxHeartbeats 4000000 in
theorem m_X11_write {l : Launch} {G : xG} {z : Nat → Nat} {σ : Sg} {τ : Tg} {x1 : Int32} {x2 : Int32} {x3 : Int64} {rF : Int32} {sF : Tg} (h : f_X11_write z τ x1 x2 x3 = some (rF, sF)) : xMet l (xD G) (xcA G) (xbs G) yX11_write cX11_write 6 (Option.some Jvm.ClassFile.FieldType.int) rm_X11_write [.ref (xaM G 0), .int x1, .int x2, .long x3] (xRep G z σ τ) (xRep G z σ sF) (some (.int rF)) 0 0 := by
  refine xMet.of RX11 rfl (by decide +kernel) (Nat.le_of_ble_eq_true rfl) ?_
  intro p e s m args below meth c C hr hnm
  unfold f_X11_write at h
  refine x_sub (L' := [(0, .ref (xaM G 0)), (1, .int x1), (2, .int x2), (3, .long x3)]) [0, 1, 2, 3] rfl ?_
  refine x_aload_n C dX11_write_0 rfl (q := 0) rfl ?_
  refine x_iload_n C dX11_write_1 rfl (q := 1) rfl ?_
  obtain ⟨r2, hq1, h⟩ := bnd1_some h
  refine x_callV_i C (m_X11_isTxn hq1) wv_X11_132 (m_recv C.2.2.2 cl_X11 rfl) rfl (Nat.le_of_ble_eq_true rfl) ⟨⟨rfl, rfl⟩, Nat.le_of_ble_eq_true rfl, Nat.le_of_ble_eq_true rfl⟩ dX11_write_2 rfl ?_
  refine x_if_eq C (tgt := 16) dX11_write_5 (by decide) h (fun hc3 h => ?_) (fun hc3 h => ?_)
  · refine x_iconst C (v := (-1)) dX11_write_16 (by decide) ?_
    cases h
    exact xr_i C hr dX11_write_17 (fun _ h => h)
  · refine x_aload_n C dX11_write_8 rfl (q := 0) rfl ?_
    refine x_iload_n C dX11_write_9 rfl (q := 2) rfl ?_
    obtain ⟨r5, hq4, h⟩ := bnd1_some h
    refine x_callV_i C (m_X11_isKey hq4) wv_X11_136 (m_recv C.2.2.2 cl_X11 rfl) rfl (Nat.le_of_ble_eq_true rfl) ⟨⟨rfl, rfl⟩, Nat.le_of_ble_eq_true rfl, Nat.le_of_ble_eq_true rfl⟩ dX11_write_10 rfl ?_
    refine x_if_ne C (tgt := 18) dX11_write_13 (by decide) h (fun hc6 h => ?_) (fun hc6 h => ?_)
    · refine x_aload_n C dX11_write_18 rfl (q := 0) rfl ?_
      refine x_iload_n C dX11_write_19 rfl (q := 1) rfl ?_
      refine x_iload_n C dX11_write_20 rfl (q := 2) rfl ?_
      refine x_iconst C (v := 1) dX11_write_21 (by decide) ?_
      obtain ⟨r8, s9, hq7, h⟩ := bnd2_some h
      refine x_callV_i C (m_X11_locks hq7) wv_X11_142 (m_recv C.2.2.2 cl_X11 rfl) rfl (Nat.le_of_ble_eq_true rfl) ⟨⟨rfl, rfl⟩, Nat.le_of_ble_eq_true rfl, Nat.le_of_ble_eq_true rfl⟩ dX11_write_22 rfl ?_
      refine x_istore C (L' := [(5, .int r8), (0, .ref (xaM G 0)), (1, .int x1), (2, .int x2), (3, .long x3)]) dX11_write_25 (by decide) rfl ?_
      refine x_iload C dX11_write_27 (q := 0) rfl ?_
      refine x_iconst C (v := 1) dX11_write_29 (by decide) ?_
      refine x_icmp_ne C (tgt := 57) dX11_write_30 (by decide) h (fun hc10 h => ?_) (fun hc10 h => ?_)
      · refine x_iload C dX11_write_57 (q := 0) rfl ?_
        cases h
        exact xr_i C hr dX11_write_59 (fun _ h => h)
      · refine x_aload_n C dX11_write_33 rfl (q := 1) rfl ?_
        refine m_get C cl_X11 14 (by decide) fl_X11_36_X11 rfl rfl dX11_write_34 ?_
        refine x_bipush C (v := 32) dX11_write_37 (by decide) ?_
        refine x_iload_n C dX11_write_39 rfl (q := 2) rfl ?_
        refine x_imul C dX11_write_40 ?_
        refine x_iload_n C dX11_write_41 rfl (q := 3) rfl ?_
        refine x_iadd C dX11_write_42 ?_
        refine x_iconst C (v := 1) dX11_write_43 (by decide) ?_
        refine m_bast C (by decide) rfl (fun _ _ => rfl) dX11_write_44 h (fun k11 hk11 h => ?_)
        refine m_letS h (fun s12 h => ?_)
        refine x_aload_n C dX11_write_45 rfl (q := 1) rfl ?_
        refine m_get C cl_X11 15 (by decide) fl_X11_39_X11 rfl rfl dX11_write_46 ?_
        refine x_bipush C (v := 32) dX11_write_49 (by decide) ?_
        refine x_iload_n C dX11_write_51 rfl (q := 2) rfl ?_
        refine x_imul C dX11_write_52 ?_
        refine x_iload_n C dX11_write_53 rfl (q := 3) rfl ?_
        refine x_iadd C dX11_write_54 ?_
        refine x_lload_n C dX11_write_55 rfl (q := 4) rfl ?_
        refine m_last C rfl (fun _ _ => rfl) dX11_write_56 h (fun k13 hk13 h => ?_)
        refine m_letS h (fun s14 h => ?_)
        refine x_iload C dX11_write_57 (q := 0) rfl ?_
        cases h
        exact xr_i C hr dX11_write_59 (fun _ h => h)
    · refine x_iconst C (v := (-1)) dX11_write_16 (by decide) ?_
      cases h
      exact xr_i C hr dX11_write_17 (fun _ h => h)
def f_X11_post (z : Nat → Nat) (τ : Tg) (x1 : Int32) (x2 : Int32) (x3 : Int32) (x4 : Int32) (x5 : Int32) (x6 : Int32) (x7 : Int32) : Option (Int32 × Tg) :=
  letv (τ.1 0 32) fun v1 => letv (tpI τ 0 32 (v1 + 1)) fun s2 => letv (s2.1 0 29) fun v3 => if v3 = (nI (z 4)) then (letv (s2.1 0 33) fun v24 => letv (tpI s2 0 33 (v24 + 1)) fun s25 => some ((-1), s25)) else (letv (s2.1 0 29) fun v5 => letv (7 * v5) fun v6 => gdx v6 (mlen 30) fun k7 => letv (tpI s2 30 k7 x1) fun s8 => gdx (v6 + 1) (mlen 30) fun k9 => letv (tpI s8 30 k9 x2) fun s10 => gdx (v6 + 2) (mlen 30) fun k11 => letv (tpI s10 30 k11 x3) fun s12 => gdx (v6 + 3) (mlen 30) fun k13 => letv (tpI s12 30 k13 x4) fun s14 => gdx (v6 + 4) (mlen 30) fun k15 => letv (tpI s14 30 k15 x5) fun s16 => gdx (v6 + 5) (mlen 30) fun k17 => letv (tpI s16 30 k17 x6) fun s18 => gdx (v6 + 6) (mlen 30) fun k19 => letv (tpI s18 30 k19 x7) fun s20 => letv (s20.1 0 29) fun v21 => letv (tpI s20 0 29 (v21 + 1)) fun s22 => letv (s22.1 0 29) fun v23 => some (v23 - 1, s22))
def rm_X11_post : Room := { frames := 0, cells := 0, slots := 0, locals := 0 }
set_option maxRecDepth 100000 in
set_option maxHeartbeats 4000000 in
theorem m_X11_post {l : Launch} {G : xG} {z : Nat → Nat} {σ : Sg} {τ : Tg} {x1 : Int32} {x2 : Int32} {x3 : Int32} {x4 : Int32} {x5 : Int32} {x6 : Int32} {x7 : Int32} {rF : Int32} {sF : Tg} (h : f_X11_post z τ x1 x2 x3 x4 x5 x6 x7 = some (rF, sF)) : xMet l (xD G) (xcA G) (xbs G) yX11_post cX11_post 9 (Option.some Jvm.ClassFile.FieldType.int) rm_X11_post [.ref (xaM G 0), .int x1, .int x2, .int x3, .int x4, .int x5, .int x6, .int x7] (xRep G z σ τ) (xRep G z σ sF) (some (.int rF)) 0 0 := by
  refine xMet.of RX11 rfl (by decide +kernel) (Nat.le_of_ble_eq_true rfl) ?_
  intro p e s m args below meth c C hr hnm
  unfold f_X11_post at h
  refine x_sub (L' := [(0, .ref (xaM G 0)), (1, .int x1), (2, .int x2), (3, .int x3), (4, .int x4), (5, .int x5), (6, .int x6), (7, .int x7)]) [0, 1, 2, 3, 4, 5, 6, 7] rfl ?_
  refine x_aload_n C dX11_post_0 rfl (q := 0) rfl ?_
  refine x_dup C dX11_post_1 rfl ?_
  refine m_get C cl_X11 32 (by decide) fl_X11_154_X11 rfl rfl dX11_post_2 ?_
  refine x_letI h (fun v1 h => ?_)
  refine x_iconst C (v := 1) dX11_post_5 (by decide) ?_
  refine x_iadd C dX11_post_6 ?_
  refine m_putI C cl_X11 32 (by decide) fl_X11_154_X11 rfl (fun _ _ => rfl) (fun _ _ => rfl) (fun _ _ => Nat.le_of_ble_eq_true rfl) rfl rfl dX11_post_7 h (fun s2 h => ?_)
  refine x_aload_n C dX11_post_10 rfl (q := 0) rfl ?_
  refine m_get C cl_X11 29 (by decide) fl_X11_157_X11 rfl rfl dX11_post_11 ?_
  refine x_letI h (fun v3 h => ?_)
  refine x_aload_n C dX11_post_14 rfl (q := 0) rfl ?_
  refine m_get C cl_X11 4 (by decide) fl_X11_110_X11 rfl rfl dX11_post_15 ?_
  refine x_icmp_ne C (tgt := 33) dX11_post_18 (by decide) h (fun hc4 h => ?_) (fun hc4 h => ?_)
  · refine x_bipush C (v := 7) dX11_post_33 (by decide) ?_
    refine x_aload_n C dX11_post_35 rfl (q := 0) rfl ?_
    refine m_get C cl_X11 29 (by decide) fl_X11_157_X11 rfl rfl dX11_post_36 ?_
    refine x_letI h (fun v5 h => ?_)
    refine x_imul C dX11_post_39 ?_
    refine x_letI h (fun v6 h => ?_)
    refine x_istore C (L' := [(8, .int v6), (0, .ref (xaM G 0)), (1, .int x1), (2, .int x2), (3, .int x3), (4, .int x4), (5, .int x5), (6, .int x6), (7, .int x7)]) dX11_post_40 (by decide) rfl ?_
    refine x_aload_n C dX11_post_42 rfl (q := 1) rfl ?_
    refine m_get C cl_X11 30 (by decide) fl_X11_81_X11 rfl rfl dX11_post_43 ?_
    refine x_iload C dX11_post_46 (q := 0) rfl ?_
    refine x_iload_n C dX11_post_48 rfl (q := 2) rfl ?_
    refine m_iast C rfl (fun _ _ => rfl) dX11_post_49 h (fun k7 hk7 h => ?_)
    refine m_letS h (fun s8 h => ?_)
    refine x_aload_n C dX11_post_50 rfl (q := 1) rfl ?_
    refine m_get C cl_X11 30 (by decide) fl_X11_81_X11 rfl rfl dX11_post_51 ?_
    refine x_iload C dX11_post_54 (q := 0) rfl ?_
    refine x_iconst C (v := 1) dX11_post_56 (by decide) ?_
    refine x_iadd C dX11_post_57 ?_
    refine x_iload_n C dX11_post_58 rfl (q := 3) rfl ?_
    refine m_iast C rfl (fun _ _ => rfl) dX11_post_59 h (fun k9 hk9 h => ?_)
    refine m_letS h (fun s10 h => ?_)
    refine x_aload_n C dX11_post_60 rfl (q := 1) rfl ?_
    refine m_get C cl_X11 30 (by decide) fl_X11_81_X11 rfl rfl dX11_post_61 ?_
    refine x_iload C dX11_post_64 (q := 0) rfl ?_
    refine x_iconst C (v := 2) dX11_post_66 (by decide) ?_
    refine x_iadd C dX11_post_67 ?_
    refine x_iload_n C dX11_post_68 rfl (q := 4) rfl ?_
    refine m_iast C rfl (fun _ _ => rfl) dX11_post_69 h (fun k11 hk11 h => ?_)
    refine m_letS h (fun s12 h => ?_)
    refine x_aload_n C dX11_post_70 rfl (q := 1) rfl ?_
    refine m_get C cl_X11 30 (by decide) fl_X11_81_X11 rfl rfl dX11_post_71 ?_
    refine x_iload C dX11_post_74 (q := 0) rfl ?_
    refine x_iconst C (v := 3) dX11_post_76 (by decide) ?_
    refine x_iadd C dX11_post_77 ?_
    refine x_iload C dX11_post_78 (q := 5) rfl ?_
    refine m_iast C rfl (fun _ _ => rfl) dX11_post_80 h (fun k13 hk13 h => ?_)
    refine m_letS h (fun s14 h => ?_)
    refine x_aload_n C dX11_post_81 rfl (q := 1) rfl ?_
    refine m_get C cl_X11 30 (by decide) fl_X11_81_X11 rfl rfl dX11_post_82 ?_
    refine x_iload C dX11_post_85 (q := 0) rfl ?_
    refine x_iconst C (v := 4) dX11_post_87 (by decide) ?_
    refine x_iadd C dX11_post_88 ?_
    refine x_iload C dX11_post_89 (q := 6) rfl ?_
    refine m_iast C rfl (fun _ _ => rfl) dX11_post_91 h (fun k15 hk15 h => ?_)
    refine m_letS h (fun s16 h => ?_)
    refine x_aload_n C dX11_post_92 rfl (q := 1) rfl ?_
    refine m_get C cl_X11 30 (by decide) fl_X11_81_X11 rfl rfl dX11_post_93 ?_
    refine x_iload C dX11_post_96 (q := 0) rfl ?_
    refine x_iconst C (v := 5) dX11_post_98 (by decide) ?_
    refine x_iadd C dX11_post_99 ?_
    refine x_iload C dX11_post_100 (q := 7) rfl ?_
    refine m_iast C rfl (fun _ _ => rfl) dX11_post_102 h (fun k17 hk17 h => ?_)
    refine m_letS h (fun s18 h => ?_)
    refine x_aload_n C dX11_post_103 rfl (q := 1) rfl ?_
    refine m_get C cl_X11 30 (by decide) fl_X11_81_X11 rfl rfl dX11_post_104 ?_
    refine x_iload C dX11_post_107 (q := 0) rfl ?_
    refine x_bipush C (v := 6) dX11_post_109 (by decide) ?_
    refine x_iadd C dX11_post_111 ?_
    refine x_iload C dX11_post_112 (q := 8) rfl ?_
    refine m_iast C rfl (fun _ _ => rfl) dX11_post_114 h (fun k19 hk19 h => ?_)
    refine m_letS h (fun s20 h => ?_)
    refine x_aload_n C dX11_post_115 rfl (q := 1) rfl ?_
    refine x_dup C dX11_post_116 rfl ?_
    refine m_get C cl_X11 29 (by decide) fl_X11_157_X11 rfl rfl dX11_post_117 ?_
    refine x_letI h (fun v21 h => ?_)
    refine x_iconst C (v := 1) dX11_post_120 (by decide) ?_
    refine x_iadd C dX11_post_121 ?_
    refine m_putI C cl_X11 29 (by decide) fl_X11_157_X11 rfl (fun _ _ => rfl) (fun _ _ => rfl) (fun _ _ => Nat.le_of_ble_eq_true rfl) rfl rfl dX11_post_122 h (fun s22 h => ?_)
    refine x_aload_n C dX11_post_125 rfl (q := 1) rfl ?_
    refine m_get C cl_X11 29 (by decide) fl_X11_157_X11 rfl rfl dX11_post_126 ?_
    refine x_letI h (fun v23 h => ?_)
    refine x_iconst C (v := 1) dX11_post_129 (by decide) ?_
    refine x_isub C dX11_post_130 ?_
    cases h
    exact xr_i C hr dX11_post_131 (fun _ h => h)
  · refine x_aload_n C dX11_post_21 rfl (q := 0) rfl ?_
    refine x_dup C dX11_post_22 rfl ?_
    refine m_get C cl_X11 33 (by decide) fl_X11_160_X11 rfl rfl dX11_post_23 ?_
    refine x_letI h (fun v24 h => ?_)
    refine x_iconst C (v := 1) dX11_post_26 (by decide) ?_
    refine x_iadd C dX11_post_27 ?_
    refine m_putI C cl_X11 33 (by decide) fl_X11_160_X11 rfl (fun _ _ => rfl) (fun _ _ => rfl) (fun _ _ => Nat.le_of_ble_eq_true rfl) rfl rfl dX11_post_28 h (fun s25 h => ?_)
    refine x_iconst C (v := (-1)) dX11_post_31 (by decide) ?_
    cases h
    exact xr_i C hr dX11_post_32 (fun _ h => h)
def f_X11_requestCommit_L46 (z : Nat → Nat) (x1 : Int32) : Nat → Int32 → Int32 → Tg → Option (Int32 × Tg)
  | 0, _, _, _ => none
  | n + 1, y15, y16, s17 => if (nI (z 0)) ≤ y16 then (some (y15, s17)) else (bnd1 (f_X11_touches z s17 x1 y16) fun r24 => if r24 = 0 then (letv (y16 + 1) fun v26 => f_X11_requestCommit_L46 z x1 n y15 v26 s17) else (bnd2 (f_X11_post z s17 1 y16 x1 0 0 0 ((nI (z 0)) + (nI (z 1)))) fun r28 s29 => letv (y15 + 1) fun v30 => letv (y16 + 1) fun v31 => f_X11_requestCommit_L46 z x1 n v30 v31 s29))
def f_X11_requestCommit (z : Nat → Nat) (τ : Tg) (x1 : Int32) : Option (Int32 × Tg) :=
  bnd1 (f_X11_isTxn z τ x1) fun r2 => if r2 = 0 then (some ((-1), τ)) else (gdx x1 (mlen 12) fun k4 => letv (τ.1 12 k4) fun v5 => if v5 = 1 then (gdx x1 (mlen 13) fun k7 => letv (τ.1 13 k7) fun v8 => bnd1 (α := Int32) (if v8 = 0 then (some (3)) else (some (2))) fun (v9 : Int32) => gdx x1 (mlen 12) fun k13 => letv (tpI τ 12 k13 v9) fun s14 => bnd2 (f_X11_requestCommit_L46 z x1 FU 0 0 s14) fun (v18 : Int32) (s19 : Tg) => some (v18, s19)) else (some (0, τ)))
def rm_X11_requestCommit : Room := { frames := 2, cells := 0, slots := 0, locals := 43 }
set_option maxRecDepth 100000 in
set_option maxHeartbeats 4000000 in
theorem m_X11_requestCommit {l : Launch} {G : xG} {z : Nat → Nat} {σ : Sg} {τ : Tg} {x1 : Int32} {rF : Int32} {sF : Tg} (h : f_X11_requestCommit z τ x1 = some (rF, sF)) : xMet l (xD G) (xcA G) (xbs G) yX11_requestCommit cX11_requestCommit 4 (Option.some Jvm.ClassFile.FieldType.int) rm_X11_requestCommit [.ref (xaM G 0), .int x1] (xRep G z σ τ) (xRep G z σ sF) (some (.int rF)) 0 0 := by
  refine xMet.of RX11 rfl (by decide +kernel) (Nat.le_of_ble_eq_true rfl) ?_
  intro p e s m args below meth c C hr hnm
  unfold f_X11_requestCommit at h
  refine x_sub (L' := [(0, .ref (xaM G 0)), (1, .int x1)]) [0, 1] rfl ?_
  refine x_aload_n C dX11_requestCommit_0 rfl (q := 0) rfl ?_
  refine x_iload_n C dX11_requestCommit_1 rfl (q := 1) rfl ?_
  obtain ⟨r2, hq1, h⟩ := bnd1_some h
  refine x_callV_i C (m_X11_isTxn hq1) wv_X11_132 (m_recv C.2.2.2 cl_X11 rfl) rfl (Nat.le_of_ble_eq_true rfl) ⟨⟨rfl, rfl⟩, Nat.le_of_ble_eq_true rfl, Nat.le_of_ble_eq_true rfl⟩ dX11_requestCommit_2 rfl ?_
  refine x_if_ne C (tgt := 10) dX11_requestCommit_5 (by decide) h (fun hc3 h => ?_) (fun hc3 h => ?_)
  · refine x_aload_n C dX11_requestCommit_10 rfl (q := 0) rfl ?_
    refine m_get C cl_X11 12 (by decide) fl_X11_30_X11 rfl rfl dX11_requestCommit_11 ?_
    refine x_iload_n C dX11_requestCommit_14 rfl (q := 1) rfl ?_
    refine m_iald C rfl (fun _ _ => rfl) dX11_requestCommit_15 h (fun k4 hk4 h => ?_)
    refine x_letI h (fun v5 h => ?_)
    refine x_iconst C (v := 1) dX11_requestCommit_16 (by decide) ?_
    refine x_icmp_eq C (tgt := 22) dX11_requestCommit_17 (by decide) h (fun hc6 h => ?_) (fun hc6 h => ?_)
    · refine x_aload_n C dX11_requestCommit_22 rfl (q := 0) rfl ?_
      refine m_get C cl_X11 12 (by decide) fl_X11_30_X11 rfl rfl dX11_requestCommit_23 ?_
      refine x_iload_n C dX11_requestCommit_26 rfl (q := 1) rfl ?_
      refine x_aload_n C dX11_requestCommit_27 rfl (q := 0) rfl ?_
      refine m_get C cl_X11 13 (by decide) fl_X11_33_X11 rfl rfl dX11_requestCommit_28 ?_
      refine x_iload_n C dX11_requestCommit_31 rfl (q := 1) rfl ?_
      refine m_iald C rfl (fun _ _ => rfl) dX11_requestCommit_32 h (fun k7 hk7 h => ?_)
      refine x_letI h (fun v8 h => ?_)
      obtain ⟨v9, hv11, h⟩ := bnd1_some h
      refine x_join (Ω' := (xRep G z σ τ)) (pc' := 41) (L' := [(0, .ref (xaM G 0)), (1, .int x1)]) (st' := [.int v9, .int x1, .ref (xaM G 12)]) ?_ (fun hj10 => ?_)
      · refine m_iast C rfl (fun _ _ => rfl) dX11_requestCommit_41 h (fun k13 hk13 h => ?_)
        refine m_letS h (fun s14 h => ?_)
        refine x_iconst C (v := 0) dX11_requestCommit_42 (by decide) ?_
        refine x_istore_n C (L' := [(2, .int 0), (0, .ref (xaM G 0)), (1, .int x1)]) dX11_requestCommit_43 rfl (by decide) rfl ?_
        refine x_iconst C (v := 0) dX11_requestCommit_44 (by decide) ?_
        refine x_istore_n C (L' := [(3, .int 0), (2, .int 0), (0, .ref (xaM G 0)), (1, .int x1)]) dX11_requestCommit_45 rfl (by decide) rfl ?_
        obtain ⟨v18, s19, hv21, h⟩ := bnd2_some h
        refine x_join (Ω' := (xRep G z σ s19)) (pc' := 92) (L' := [(2, .int v18)]) (st' := []) ?_ (fun hj20 => ?_)
        · refine x_iload_n C dX11_requestCommit_92 rfl (q := 0) rfl ?_
          cases h
          exact xr_i C hr dX11_requestCommit_93 (fun _ h => h)
        · have hl32 : ∀ (n : Nat) (y15 : Int32) (y16 : Int32) (s17 : Tg), f_X11_requestCommit_L46 z x1 n y15 y16 s17 = some (v18, s19) → XW p l e rm_X11_requestCommit s m args below meth c 0 0 4 (xbs G) (xQ below args s (xbs G) (some (.int rF)) (xRep G z σ sF) 0 0) (xRep G z σ s17) 46 [(0, .ref (xaM G 0)), (1, .int x1), (2, .int y15), (3, .int y16)] [] := by
            intro n
            induction n with
            | zero =>
              intro y15 y16 s17 h
              exact absurd h (by rw [f_X11_requestCommit_L46]; intro q; cases q)
            | succ n ih =>
              intro y15 y16 s17 h
              rw [f_X11_requestCommit_L46] at h
              refine x_iload_n C dX11_requestCommit_46 rfl (q := 3) rfl ?_
              refine x_aload_n C dX11_requestCommit_47 rfl (q := 0) rfl ?_
              refine m_get C cl_X11 0 (by decide) fl_X11_97_X11 rfl rfl dX11_requestCommit_48 ?_
              refine x_icmp_ge C (tgt := 92) dX11_requestCommit_51 (by decide) h (fun hc22 h => ?_) (fun hc22 h => ?_)
              · cases h
                exact x_sub [2] rfl hj20
              · refine x_aload_n C dX11_requestCommit_54 rfl (q := 0) rfl ?_
                refine x_iload_n C dX11_requestCommit_55 rfl (q := 1) rfl ?_
                refine x_iload_n C dX11_requestCommit_56 rfl (q := 3) rfl ?_
                obtain ⟨r24, hq23, h⟩ := bnd1_some h
                refine x_callV_i C (m_X11_touches hq23) wv_X11_128 (m_recv C.2.2.2 cl_X11 rfl) rfl (Nat.le_of_ble_eq_true rfl) ⟨⟨rfl, rfl⟩, Nat.le_of_ble_eq_true rfl, Nat.le_of_ble_eq_true rfl⟩ dX11_requestCommit_57 rfl ?_
                refine x_if_eq C (tgt := 86) dX11_requestCommit_60 (by decide) h (fun hc25 h => ?_) (fun hc25 h => ?_)
                · refine x_iincL C (w := 1) (L' := fun v26 => [(3, .int v26), (0, .ref (xaM G 0)), (1, .int x1), (2, .int y15)]) dX11_requestCommit_86 (k := 3) rfl (by decide) (by decide) (fun _ => rfl) h (fun v26 h => ?_)
                  refine x_goto C (tgt := 46) dX11_requestCommit_89 (by decide) ?_
                  exact x_sub [1, 2, 3, 0] rfl (ih _ _ _ h)
                · refine x_aload_n C dX11_requestCommit_63 rfl (q := 0) rfl ?_
                  refine x_iconst C (v := 1) dX11_requestCommit_64 (by decide) ?_
                  refine x_iload_n C dX11_requestCommit_65 rfl (q := 3) rfl ?_
                  refine x_iload_n C dX11_requestCommit_66 rfl (q := 1) rfl ?_
                  refine x_iconst C (v := 0) dX11_requestCommit_67 (by decide) ?_
                  refine x_iconst C (v := 0) dX11_requestCommit_68 (by decide) ?_
                  refine x_iconst C (v := 0) dX11_requestCommit_69 (by decide) ?_
                  refine x_aload_n C dX11_requestCommit_70 rfl (q := 0) rfl ?_
                  refine m_get C cl_X11 0 (by decide) fl_X11_97_X11 rfl rfl dX11_requestCommit_71 ?_
                  refine x_aload_n C dX11_requestCommit_74 rfl (q := 0) rfl ?_
                  refine m_get C cl_X11 1 (by decide) fl_X11_101_X11 rfl rfl dX11_requestCommit_75 ?_
                  refine x_iadd C dX11_requestCommit_78 ?_
                  obtain ⟨r28, s29, hq27, h⟩ := bnd2_some h
                  refine x_callV_i C (m_X11_post hq27) wv_X11_146 (m_recv C.2.2.2 cl_X11 rfl) rfl (Nat.le_of_ble_eq_true rfl) ⟨⟨rfl, rfl⟩, Nat.le_of_ble_eq_true rfl, Nat.le_of_ble_eq_true rfl⟩ dX11_requestCommit_79 rfl ?_
                  refine x_pop C dX11_requestCommit_82 rfl ?_
                  refine x_iincL C (w := 1) (L' := fun v30 => [(2, .int v30), (0, .ref (xaM G 0)), (1, .int x1), (3, .int y16)]) dX11_requestCommit_83 (k := 2) rfl (by decide) (by decide) (fun _ => rfl) h (fun v30 h => ?_)
                  refine x_iincL C (w := 1) (L' := fun v31 => [(3, .int v31), (2, .int v30), (0, .ref (xaM G 0)), (1, .int x1)]) dX11_requestCommit_86 (k := 3) rfl (by decide) (by decide) (fun _ => rfl) h (fun v31 h => ?_)
                  refine x_goto C (tgt := 46) dX11_requestCommit_89 (by decide) ?_
                  exact x_sub [2, 3, 1, 0] rfl (ih _ _ _ h)
          exact x_sub [2, 3, 1, 0] rfl (hl32 FU _ _ _ hv21)
      · replace h := hv11
        clear hv11
        refine x_if_ne C (tgt := 40) dX11_requestCommit_33 (by decide) h (fun hc12 h => ?_) (fun hc12 h => ?_)
        · refine x_iconst C (v := 2) dX11_requestCommit_40 (by decide) ?_
          cases h
          exact x_sub [0, 1] rfl hj10
        · refine x_iconst C (v := 3) dX11_requestCommit_36 (by decide) ?_
          refine x_goto C (tgt := 41) dX11_requestCommit_37 (by decide) ?_
          cases h
          exact x_sub [0, 1] rfl hj10
    · refine x_iconst C (v := 0) dX11_requestCommit_20 (by decide) ?_
      cases h
      exact xr_i C hr dX11_requestCommit_21 (fun _ h => h)
  · refine x_iconst C (v := (-1)) dX11_requestCommit_8 (by decide) ?_
    cases h
    exact xr_i C hr dX11_requestCommit_9 (fun _ h => h)
def f_X11_abort_L31 (z : Nat → Nat) (x1 : Int32) : Nat → Int32 → Tg → Option Tg
  | 0, _, _ => none
  | n + 1, y9, s10 => if (nI (z 0)) ≤ y9 then (some (s10)) else (gdx y9 (mlen 6) fun k15 => letv (s10.1 6 k15) fun v16 => if v16 = 0 then (letv (y9 + 1) fun v18 => f_X11_abort_L31 z x1 n v18 s10) else (gdx ((16 * y9) + x1) (mlen 16) fun k19 => letv (s10.1 16 k19) fun v20 => if v20 = 0 then (letv (y9 + 1) fun v22 => f_X11_abort_L31 z x1 n v22 s10) else (bnd1 (f_X11_endSession z s10 y9 x1) fun s24 => letv (y9 + 1) fun v25 => f_X11_abort_L31 z x1 n v25 s24)))
def f_X11_abort (z : Nat → Nat) (τ : Tg) (x1 : Int32) : Option (Int32 × Tg) :=
  bnd1 (f_X11_isTxn z τ x1) fun r2 => if r2 = 0 then (some ((-1), τ)) else (gdx x1 (mlen 12) fun k4 => letv (τ.1 12 k4) fun v5 => if v5 = 1 then (gdx x1 (mlen 12) fun k7 => letv (tpI τ 12 k7 4) fun s8 => bnd1 (f_X11_abort_L31 z x1 FU 0 s8) fun (s11 : Tg) => some (1, s11)) else (some (0, τ)))
def rm_X11_abort : Room := { frames := 2, cells := 0, slots := 0, locals := 43 }
set_option maxRecDepth 100000 in
set_option maxHeartbeats 4000000 in
theorem m_X11_abort {l : Launch} {G : xG} {z : Nat → Nat} {σ : Sg} {τ : Tg} {x1 : Int32} {rF : Int32} {sF : Tg} (h : f_X11_abort z τ x1 = some (rF, sF)) : xMet l (xD G) (xcA G) (xbs G) yX11_abort cX11_abort 3 (Option.some Jvm.ClassFile.FieldType.int) rm_X11_abort [.ref (xaM G 0), .int x1] (xRep G z σ τ) (xRep G z σ sF) (some (.int rF)) 0 0 := by
  refine xMet.of RX11 rfl (by decide +kernel) (Nat.le_of_ble_eq_true rfl) ?_
  intro p e s m args below meth c C hr hnm
  unfold f_X11_abort at h
  refine x_sub (L' := [(0, .ref (xaM G 0)), (1, .int x1)]) [0, 1] rfl ?_
  refine x_aload_n C dX11_abort_0 rfl (q := 0) rfl ?_
  refine x_iload_n C dX11_abort_1 rfl (q := 1) rfl ?_
  obtain ⟨r2, hq1, h⟩ := bnd1_some h
  refine x_callV_i C (m_X11_isTxn hq1) wv_X11_132 (m_recv C.2.2.2 cl_X11 rfl) rfl (Nat.le_of_ble_eq_true rfl) ⟨⟨rfl, rfl⟩, Nat.le_of_ble_eq_true rfl, Nat.le_of_ble_eq_true rfl⟩ dX11_abort_2 rfl ?_
  refine x_if_ne C (tgt := 10) dX11_abort_5 (by decide) h (fun hc3 h => ?_) (fun hc3 h => ?_)
  · refine x_aload_n C dX11_abort_10 rfl (q := 0) rfl ?_
    refine m_get C cl_X11 12 (by decide) fl_X11_30_X11 rfl rfl dX11_abort_11 ?_
    refine x_iload_n C dX11_abort_14 rfl (q := 1) rfl ?_
    refine m_iald C rfl (fun _ _ => rfl) dX11_abort_15 h (fun k4 hk4 h => ?_)
    refine x_letI h (fun v5 h => ?_)
    refine x_iconst C (v := 1) dX11_abort_16 (by decide) ?_
    refine x_icmp_eq C (tgt := 22) dX11_abort_17 (by decide) h (fun hc6 h => ?_) (fun hc6 h => ?_)
    · refine x_aload_n C dX11_abort_22 rfl (q := 0) rfl ?_
      refine m_get C cl_X11 12 (by decide) fl_X11_30_X11 rfl rfl dX11_abort_23 ?_
      refine x_iload_n C dX11_abort_26 rfl (q := 1) rfl ?_
      refine x_iconst C (v := 4) dX11_abort_27 (by decide) ?_
      refine m_iast C rfl (fun _ _ => rfl) dX11_abort_28 h (fun k7 hk7 h => ?_)
      refine m_letS h (fun s8 h => ?_)
      refine x_iconst C (v := 0) dX11_abort_29 (by decide) ?_
      refine x_istore_n C (L' := [(2, .int 0), (0, .ref (xaM G 0)), (1, .int x1)]) dX11_abort_30 rfl (by decide) rfl ?_
      obtain ⟨s11, hv13, h⟩ := bnd1_some h
      refine x_join (Ω' := (xRep G z σ s11)) (pc' := 74) (L' := []) (st' := []) ?_ (fun hj12 => ?_)
      · refine x_iconst C (v := 1) dX11_abort_74 (by decide) ?_
        cases h
        exact xr_i C hr dX11_abort_75 (fun _ h => h)
      · have hl26 : ∀ (n : Nat) (y9 : Int32) (s10 : Tg), f_X11_abort_L31 z x1 n y9 s10 = some (s11) → XW p l e rm_X11_abort s m args below meth c 0 0 3 (xbs G) (xQ below args s (xbs G) (some (.int rF)) (xRep G z σ sF) 0 0) (xRep G z σ s10) 31 [(0, .ref (xaM G 0)), (1, .int x1), (2, .int y9)] [] := by
          intro n
          induction n with
          | zero =>
            intro y9 s10 h
            exact absurd h (by rw [f_X11_abort_L31]; intro q; cases q)
          | succ n ih =>
            intro y9 s10 h
            rw [f_X11_abort_L31] at h
            refine x_iload_n C dX11_abort_31 rfl (q := 2) rfl ?_
            refine x_aload_n C dX11_abort_32 rfl (q := 0) rfl ?_
            refine m_get C cl_X11 0 (by decide) fl_X11_97_X11 rfl rfl dX11_abort_33 ?_
            refine x_icmp_ge C (tgt := 74) dX11_abort_36 (by decide) h (fun hc14 h => ?_) (fun hc14 h => ?_)
            · cases h
              exact x_sub [] rfl hj12
            · refine x_aload_n C dX11_abort_39 rfl (q := 0) rfl ?_
              refine m_get C cl_X11 6 (by decide) fl_X11_7_X11 rfl rfl dX11_abort_40 ?_
              refine x_iload_n C dX11_abort_43 rfl (q := 2) rfl ?_
              refine m_bald C rfl (fun _ _ => rfl) dX11_abort_44 h (fun k15 hk15 h => ?_)
              refine x_letI h (fun v16 h => ?_)
              refine x_if_eq C (tgt := 68) dX11_abort_45 (by decide) h (fun hc17 h => ?_) (fun hc17 h => ?_)
              · refine x_iincL C (w := 1) (L' := fun v18 => [(2, .int v18), (0, .ref (xaM G 0)), (1, .int x1)]) dX11_abort_68 (k := 2) rfl (by decide) (by decide) (fun _ => rfl) h (fun v18 h => ?_)
                refine x_goto C (tgt := 31) dX11_abort_71 (by decide) ?_
                exact x_sub [1, 2, 0] rfl (ih _ _ h)
              · refine x_aload_n C dX11_abort_48 rfl (q := 0) rfl ?_
                refine m_get C cl_X11 16 (by decide) fl_X11_42_X11 rfl rfl dX11_abort_49 ?_
                refine x_bipush C (v := 16) dX11_abort_52 (by decide) ?_
                refine x_iload_n C dX11_abort_54 rfl (q := 2) rfl ?_
                refine x_imul C dX11_abort_55 ?_
                refine x_iload_n C dX11_abort_56 rfl (q := 1) rfl ?_
                refine x_iadd C dX11_abort_57 ?_
                refine m_bald C rfl (fun _ _ => rfl) dX11_abort_58 h (fun k19 hk19 h => ?_)
                refine x_letI h (fun v20 h => ?_)
                refine x_if_eq C (tgt := 68) dX11_abort_59 (by decide) h (fun hc21 h => ?_) (fun hc21 h => ?_)
                · refine x_iincL C (w := 1) (L' := fun v22 => [(2, .int v22), (0, .ref (xaM G 0)), (1, .int x1)]) dX11_abort_68 (k := 2) rfl (by decide) (by decide) (fun _ => rfl) h (fun v22 h => ?_)
                  refine x_goto C (tgt := 31) dX11_abort_71 (by decide) ?_
                  exact x_sub [1, 2, 0] rfl (ih _ _ h)
                · refine x_aload_n C dX11_abort_62 rfl (q := 0) rfl ?_
                  refine x_iload_n C dX11_abort_63 rfl (q := 2) rfl ?_
                  refine x_iload_n C dX11_abort_64 rfl (q := 1) rfl ?_
                  obtain ⟨s24, hq23, h⟩ := bnd1_some h
                  refine x_callV_v C (m_X11_endSession hq23) wv_X11_150 (m_recv C.2.2.2 cl_X11 rfl) rfl (Nat.le_of_ble_eq_true rfl) ⟨⟨rfl, rfl⟩, Nat.le_of_ble_eq_true rfl, Nat.le_of_ble_eq_true rfl⟩ dX11_abort_65 rfl ?_
                  refine x_iincL C (w := 1) (L' := fun v25 => [(2, .int v25), (0, .ref (xaM G 0)), (1, .int x1)]) dX11_abort_68 (k := 2) rfl (by decide) (by decide) (fun _ => rfl) h (fun v25 h => ?_)
                  refine x_goto C (tgt := 31) dX11_abort_71 (by decide) ?_
                  exact x_sub [1, 2, 0] rfl (ih _ _ h)
        exact x_sub [1, 2, 0] rfl (hl26 FU _ _ hv13)
    · refine x_iconst C (v := 0) dX11_abort_20 (by decide) ?_
      cases h
      exact xr_i C hr dX11_abort_21 (fun _ h => h)
  · refine x_iconst C (v := (-1)) dX11_abort_8 (by decide) ?_
    cases h
    exact xr_i C hr dX11_abort_9 (fun _ h => h)
def f_X11_outcome (z : Nat → Nat) (τ : Tg) (x1 : Int32) : Option Int32 :=
  bnd1 (f_X11_isTxn z τ x1) fun r2 => if r2 = 0 then (some ((-1))) else (gdx x1 (mlen 12) fun k4 => letv (τ.1 12 k4) fun v5 => some (v5))
def rm_X11_outcome : Room := { frames := 2, cells := 0, slots := 0, locals := 43 }
set_option maxRecDepth 100000 in
set_option maxHeartbeats 4000000 in
theorem m_X11_outcome {l : Launch} {G : xG} {z : Nat → Nat} {σ : Sg} {τ : Tg} {x1 : Int32} {rF : Int32} (h : f_X11_outcome z τ x1 = some (rF)) : xMet l (xD G) (xcA G) (xbs G) yX11_outcome cX11_outcome 2 (Option.some Jvm.ClassFile.FieldType.int) rm_X11_outcome [.ref (xaM G 0), .int x1] (xRep G z σ τ) (xRep G z σ τ) (some (.int rF)) 0 0 := by
  refine xMet.of RX11 rfl (by decide +kernel) (Nat.le_of_ble_eq_true rfl) ?_
  intro p e s m args below meth c C hr hnm
  unfold f_X11_outcome at h
  refine x_sub (L' := [(0, .ref (xaM G 0)), (1, .int x1)]) [0, 1] rfl ?_
  refine x_aload_n C dX11_outcome_0 rfl (q := 0) rfl ?_
  refine x_iload_n C dX11_outcome_1 rfl (q := 1) rfl ?_
  obtain ⟨r2, hq1, h⟩ := bnd1_some h
  refine x_callV_i C (m_X11_isTxn hq1) wv_X11_132 (m_recv C.2.2.2 cl_X11 rfl) rfl (Nat.le_of_ble_eq_true rfl) ⟨⟨rfl, rfl⟩, Nat.le_of_ble_eq_true rfl, Nat.le_of_ble_eq_true rfl⟩ dX11_outcome_2 rfl ?_
  refine x_if_eq C (tgt := 17) dX11_outcome_5 (by decide) h (fun hc3 h => ?_) (fun hc3 h => ?_)
  · refine x_iconst C (v := (-1)) dX11_outcome_17 (by decide) ?_
    cases h
    exact xr_i C hr dX11_outcome_18 (fun _ h => h)
  · refine x_aload_n C dX11_outcome_8 rfl (q := 0) rfl ?_
    refine m_get C cl_X11 12 (by decide) fl_X11_30_X11 rfl rfl dX11_outcome_9 ?_
    refine x_iload_n C dX11_outcome_12 rfl (q := 1) rfl ?_
    refine m_iald C rfl (fun _ _ => rfl) dX11_outcome_13 h (fun k4 hk4 h => ?_)
    refine x_letI h (fun v5 h => ?_)
    refine x_goto C (tgt := 18) dX11_outcome_14 (by decide) ?_
    cases h
    exact xr_i C hr dX11_outcome_18 (fun _ h => h)
def f_X11_committedValue (z : Nat → Nat) (τ : Tg) (x1 : Int32) : Option Int64 :=
  bnd1 (f_X11_isKey z τ x1) fun r2 => if r2 = 0 then (some (0)) else (gdx x1 (mlen 9) fun k4 => letv (τ.2 9 k4) fun v5 => some (v5))
def rm_X11_committedValue : Room := { frames := 2, cells := 0, slots := 0, locals := 43 }
set_option maxRecDepth 100000 in
set_option maxHeartbeats 4000000 in
theorem m_X11_committedValue {l : Launch} {G : xG} {z : Nat → Nat} {σ : Sg} {τ : Tg} {x1 : Int32} {rF : Int64} (h : f_X11_committedValue z τ x1 = some (rF)) : xMet l (xD G) (xcA G) (xbs G) yX11_committedValue cX11_committedValue 2 (Option.some Jvm.ClassFile.FieldType.long) rm_X11_committedValue [.ref (xaM G 0), .int x1] (xRep G z σ τ) (xRep G z σ τ) (some (.long rF)) 0 0 := by
  refine xMet.of RX11 rfl (by decide +kernel) (Nat.le_of_ble_eq_true rfl) ?_
  intro p e s m args below meth c C hr hnm
  unfold f_X11_committedValue at h
  refine x_sub (L' := [(0, .ref (xaM G 0)), (1, .int x1)]) [0, 1] rfl ?_
  refine x_aload_n C dX11_committedValue_0 rfl (q := 0) rfl ?_
  refine x_iload_n C dX11_committedValue_1 rfl (q := 1) rfl ?_
  obtain ⟨r2, hq1, h⟩ := bnd1_some h
  refine x_callV_i C (m_X11_isKey hq1) wv_X11_136 (m_recv C.2.2.2 cl_X11 rfl) rfl (Nat.le_of_ble_eq_true rfl) ⟨⟨rfl, rfl⟩, Nat.le_of_ble_eq_true rfl, Nat.le_of_ble_eq_true rfl⟩ dX11_committedValue_2 rfl ?_
  refine x_if_eq C (tgt := 17) dX11_committedValue_5 (by decide) h (fun hc3 h => ?_) (fun hc3 h => ?_)
  · refine x_lconst C (v := 0) dX11_committedValue_17 (by decide) ?_
    cases h
    exact xr_l C hr dX11_committedValue_18 (fun _ h => h)
  · refine x_aload_n C dX11_committedValue_8 rfl (q := 0) rfl ?_
    refine m_get C cl_X11 9 (by decide) fl_X11_20_X11 rfl rfl dX11_committedValue_9 ?_
    refine x_iload_n C dX11_committedValue_12 rfl (q := 1) rfl ?_
    refine m_lald C rfl (fun _ _ => rfl) dX11_committedValue_13 h (fun k4 hk4 h => ?_)
    refine x_letL h (fun v5 h => ?_)
    refine x_goto C (tgt := 18) dX11_committedValue_14 (by decide) ?_
    cases h
    exact xr_l C hr dX11_committedValue_18 (fun _ h => h)
def f_X11_postAll_L3 (z : Nat → Nat) (x1 : Int32) (x2 : Int32) (x3 : Int32) (x4 : Int32) (x5 : Int32) (x6 : Int32) : Nat → Int32 → Tg → Option Tg
  | 0, _, _ => none
  | n + 1, y1, s2 => if (nI (z 1)) ≤ y1 then (some (s2)) else (bnd2 (f_X11_post z s2 x1 ((nI (z 0)) + y1) x2 x3 x4 x5 x6) fun r8 s9 => letv (y1 + 1) fun v10 => f_X11_postAll_L3 z x1 x2 x3 x4 x5 x6 n v10 s9)
def f_X11_postAll (z : Nat → Nat) (τ : Tg) (x1 : Int32) (x2 : Int32) (x3 : Int32) (x4 : Int32) (x5 : Int32) (x6 : Int32) : Option Tg :=
  bnd1 (f_X11_postAll_L3 z x1 x2 x3 x4 x5 x6 FU 0 τ) fun (s3 : Tg) => some (s3)
def rm_X11_postAll : Room := { frames := 1, cells := 0, slots := 0, locals := 28 }
set_option maxRecDepth 100000 in
set_option maxHeartbeats 4000000 in
theorem m_X11_postAll {l : Launch} {G : xG} {z : Nat → Nat} {σ : Sg} {τ : Tg} {x1 : Int32} {x2 : Int32} {x3 : Int32} {x4 : Int32} {x5 : Int32} {x6 : Int32} {sF : Tg} (h : f_X11_postAll z τ x1 x2 x3 x4 x5 x6 = some (sF)) : xMet l (xD G) (xcA G) (xbs G) yX11_postAll cX11_postAll 9 (Option.none : Option Jvm.ClassFile.FieldType) rm_X11_postAll [.ref (xaM G 0), .int x1, .int x2, .int x3, .int x4, .int x5, .int x6] (xRep G z σ τ) (xRep G z σ sF) none 0 0 := by
  refine xMet.of RX11 rfl (by decide +kernel) (Nat.le_of_ble_eq_true rfl) ?_
  intro p e s m args below meth c C hr hnm
  unfold f_X11_postAll at h
  refine x_sub (L' := [(0, .ref (xaM G 0)), (1, .int x1), (2, .int x2), (3, .int x3), (4, .int x4), (5, .int x5), (6, .int x6)]) [0, 1, 2, 3, 4, 5, 6] rfl ?_
  refine x_iconst C (v := 0) dX11_postAll_0 (by decide) ?_
  refine x_istore C (L' := [(7, .int 0), (0, .ref (xaM G 0)), (1, .int x1), (2, .int x2), (3, .int x3), (4, .int x4), (5, .int x5), (6, .int x6)]) dX11_postAll_1 (by decide) rfl ?_
  obtain ⟨s3, hv5, h⟩ := bnd1_some h
  refine x_join (Ω' := (xRep G z σ s3)) (pc' := 40) (L' := []) (st' := []) ?_ (fun hj4 => ?_)
  · cases h
    exact xr_v C hr dX11_postAll_40 (fun _ h => h)
  · have hl11 : ∀ (n : Nat) (y1 : Int32) (s2 : Tg), f_X11_postAll_L3 z x1 x2 x3 x4 x5 x6 n y1 s2 = some (s3) → XW p l e rm_X11_postAll s m args below meth c 0 0 9 (xbs G) (xQ below args s (xbs G) none (xRep G z σ sF) 0 0) (xRep G z σ s2) 3 [(0, .ref (xaM G 0)), (1, .int x1), (2, .int x2), (3, .int x3), (4, .int x4), (5, .int x5), (6, .int x6), (7, .int y1)] [] := by
      intro n
      induction n with
      | zero =>
        intro y1 s2 h
        exact absurd h (by rw [f_X11_postAll_L3]; intro q; cases q)
      | succ n ih =>
        intro y1 s2 h
        rw [f_X11_postAll_L3] at h
        refine x_iload C dX11_postAll_3 (q := 7) rfl ?_
        refine x_aload_n C dX11_postAll_5 rfl (q := 0) rfl ?_
        refine m_get C cl_X11 1 (by decide) fl_X11_101_X11 rfl rfl dX11_postAll_6 ?_
        refine x_icmp_ge C (tgt := 40) dX11_postAll_9 (by decide) h (fun hc6 h => ?_) (fun hc6 h => ?_)
        · cases h
          exact x_sub [] rfl hj4
        · refine x_aload_n C dX11_postAll_12 rfl (q := 0) rfl ?_
          refine x_iload_n C dX11_postAll_13 rfl (q := 1) rfl ?_
          refine x_aload_n C dX11_postAll_14 rfl (q := 0) rfl ?_
          refine m_get C cl_X11 0 (by decide) fl_X11_97_X11 rfl rfl dX11_postAll_15 ?_
          refine x_iload C dX11_postAll_18 (q := 7) rfl ?_
          refine x_iadd C dX11_postAll_20 ?_
          refine x_iload_n C dX11_postAll_21 rfl (q := 2) rfl ?_
          refine x_iload_n C dX11_postAll_22 rfl (q := 3) rfl ?_
          refine x_iload C dX11_postAll_23 (q := 4) rfl ?_
          refine x_iload C dX11_postAll_25 (q := 5) rfl ?_
          refine x_iload C dX11_postAll_27 (q := 6) rfl ?_
          obtain ⟨r8, s9, hq7, h⟩ := bnd2_some h
          refine x_callV_i C (m_X11_post hq7) wv_X11_146 (m_recv C.2.2.2 cl_X11 rfl) rfl (Nat.le_of_ble_eq_true rfl) ⟨⟨rfl, rfl⟩, Nat.le_of_ble_eq_true rfl, Nat.le_of_ble_eq_true rfl⟩ dX11_postAll_29 rfl ?_
          refine x_istore C (L' := [(8, .int r8), (0, .ref (xaM G 0)), (1, .int x1), (2, .int x2), (3, .int x3), (4, .int x4), (5, .int x5), (6, .int x6), (7, .int y1)]) dX11_postAll_32 (by decide) rfl ?_
          refine x_iincL C (w := 1) (L' := fun v10 => [(7, .int v10), (8, .int r8), (0, .ref (xaM G 0)), (1, .int x1), (2, .int x2), (3, .int x3), (4, .int x4), (5, .int x5), (6, .int x6)]) dX11_postAll_34 (k := 8) rfl (by decide) (by decide) (fun _ => rfl) h (fun v10 h => ?_)
          refine x_goto C (tgt := 3) dX11_postAll_37 (by decide) ?_
          exact x_sub [2, 3, 4, 5, 6, 7, 8, 0] rfl (ih _ _ h)
    exact x_sub [1, 2, 3, 4, 5, 6, 7, 0] rfl (hl11 FU _ _ hv5)
def f_X11_takeOut_L2 (z : Nat → Nat) (x1 : Int32) : Nat → Int32 → Tg → Option Tg
  | 0, _, _ => none
  | n + 1, y1, s2 => if 7 ≤ y1 then (some (s2)) else (gdx ((7 * x1) + y1) (mlen 30) fun k7 => letv (s2.1 30 k7) fun v8 => gdx y1 (mlen 36) fun k9 => letv (tpI s2 36 k9 v8) fun s10 => letv (y1 + 1) fun v11 => f_X11_takeOut_L2 z x1 n v11 s10)
def f_X11_takeOut_L33 (z : Nat → Nat) (x1 : Int32) : Nat → Int32 → Tg → Option Tg
  | 0, _, _ => none
  | n + 1, y12, s13 => if 8 ≤ y12 then (some (s13)) else (gdx ((8 * x1) + y12) (mlen 31) fun k18 => letv (s13.1 31 k18) fun v19 => gdx y12 (mlen 37) fun k20 => letv (tpI s13 37 k20 v19) fun s21 => letv (y12 + 1) fun v22 => f_X11_takeOut_L33 z x1 n v22 s21)
def f_X11_takeOut_L67 (z : Nat → Nat) (x1 : Int32) : Nat → Int32 → Tg → Option Tg
  | 0, _, _ => none
  | n + 1, y24, s25 => letv (s25.1 0 29) fun v29 => if (7 * v29) ≤ (y24 + 7) then (some (s25)) else (gdx (y24 + 7) (mlen 30) fun k31 => letv (s25.1 30 k31) fun v32 => gdx y24 (mlen 30) fun k33 => letv (tpI s25 30 k33 v32) fun s34 => letv (y24 + 1) fun v35 => f_X11_takeOut_L67 z x1 n v35 s34)
def f_X11_takeOut_L107 (z : Nat → Nat) : Nat → Int32 → Tg → Option Tg
  | 0, _, _ => none
  | n + 1, y37, s38 => letv (s38.1 0 29) fun v42 => if (8 * v42) ≤ (y37 + 8) then (some (s38)) else (gdx (y37 + 8) (mlen 31) fun k44 => letv (s38.1 31 k44) fun v45 => gdx y37 (mlen 31) fun k46 => letv (tpI s38 31 k46 v45) fun s47 => letv (y37 + 1) fun v48 => f_X11_takeOut_L107 z n v48 s47)
def f_X11_takeOut (z : Nat → Nat) (τ : Tg) (x1 : Int32) : Option Tg :=
  bnd1 (f_X11_takeOut_L2 z x1 FU 0 τ) fun (s3 : Tg) => bnd1 (f_X11_takeOut_L33 z x1 FU 0 s3) fun (s14 : Tg) => letv (7 * x1) fun v23 => bnd1 (f_X11_takeOut_L67 z x1 FU v23 s14) fun (s26 : Tg) => letv (8 * x1) fun v36 => bnd1 (f_X11_takeOut_L107 z FU v36 s26) fun (s39 : Tg) => letv (s39.1 0 29) fun v49 => letv (tpI s39 0 29 (v49 - 1)) fun s50 => some (s50)
def rm_X11_takeOut : Room := { frames := 0, cells := 0, slots := 0, locals := 0 }
set_option maxRecDepth 100000 in
set_option maxHeartbeats 4000000 in
theorem m_X11_takeOut {l : Launch} {G : xG} {z : Nat → Nat} {σ : Sg} {τ : Tg} {x1 : Int32} {sF : Tg} (h : f_X11_takeOut z τ x1 = some (sF)) : xMet l (xD G) (xcA G) (xbs G) yX11_takeOut cX11_takeOut 3 (Option.none : Option Jvm.ClassFile.FieldType) rm_X11_takeOut [.ref (xaM G 0), .int x1] (xRep G z σ τ) (xRep G z σ sF) none 0 0 := by
  refine xMet.of RX11 rfl (by decide +kernel) (Nat.le_of_ble_eq_true rfl) ?_
  intro p e s m args below meth c C hr hnm
  unfold f_X11_takeOut at h
  refine x_sub (L' := [(0, .ref (xaM G 0)), (1, .int x1)]) [0, 1] rfl ?_
  refine x_iconst C (v := 0) dX11_takeOut_0 (by decide) ?_
  refine x_istore_n C (L' := [(2, .int 0), (0, .ref (xaM G 0)), (1, .int x1)]) dX11_takeOut_1 rfl (by decide) rfl ?_
  obtain ⟨s3, hv5, h⟩ := bnd1_some h
  refine x_join (Ω' := (xRep G z σ s3)) (pc' := 31) (L' := [(0, .ref (xaM G 0)), (1, .int x1)]) (st' := []) ?_ (fun hj4 => ?_)
  · refine x_iconst C (v := 0) dX11_takeOut_31 (by decide) ?_
    refine x_istore_n C (L' := [(2, .int 0), (0, .ref (xaM G 0)), (1, .int x1)]) dX11_takeOut_32 rfl (by decide) rfl ?_
    obtain ⟨s14, hv16, h⟩ := bnd1_some h
    refine x_join (Ω' := (xRep G z σ s14)) (pc' := 62) (L' := [(0, .ref (xaM G 0)), (1, .int x1)]) (st' := []) ?_ (fun hj15 => ?_)
    · refine x_bipush C (v := 7) dX11_takeOut_62 (by decide) ?_
      refine x_iload_n C dX11_takeOut_64 rfl (q := 1) rfl ?_
      refine x_imul C dX11_takeOut_65 ?_
      refine x_letI h (fun v23 h => ?_)
      refine x_istore_n C (L' := [(2, .int v23), (0, .ref (xaM G 0)), (1, .int x1)]) dX11_takeOut_66 rfl (by decide) rfl ?_
      obtain ⟨s26, hv28, h⟩ := bnd1_some h
      refine x_join (Ω' := (xRep G z σ s26)) (pc' := 102) (L' := [(0, .ref (xaM G 0)), (1, .int x1)]) (st' := []) ?_ (fun hj27 => ?_)
      · refine x_bipush C (v := 8) dX11_takeOut_102 (by decide) ?_
        refine x_iload_n C dX11_takeOut_104 rfl (q := 1) rfl ?_
        refine x_imul C dX11_takeOut_105 ?_
        refine x_letI h (fun v36 h => ?_)
        refine x_istore_n C (L' := [(2, .int v36), (0, .ref (xaM G 0)), (1, .int x1)]) dX11_takeOut_106 rfl (by decide) rfl ?_
        obtain ⟨s39, hv41, h⟩ := bnd1_some h
        refine x_join (Ω' := (xRep G z σ s39)) (pc' := 142) (L' := [(0, .ref (xaM G 0))]) (st' := []) ?_ (fun hj40 => ?_)
        · refine x_aload_n C dX11_takeOut_142 rfl (q := 0) rfl ?_
          refine x_dup C dX11_takeOut_143 rfl ?_
          refine m_get C cl_X11 29 (by decide) fl_X11_157_X11 rfl rfl dX11_takeOut_144 ?_
          refine x_letI h (fun v49 h => ?_)
          refine x_iconst C (v := 1) dX11_takeOut_147 (by decide) ?_
          refine x_isub C dX11_takeOut_148 ?_
          refine m_putI C cl_X11 29 (by decide) fl_X11_157_X11 rfl (fun _ _ => rfl) (fun _ _ => rfl) (fun _ _ => Nat.le_of_ble_eq_true rfl) rfl rfl dX11_takeOut_149 h (fun s50 h => ?_)
          cases h
          exact xr_v C hr dX11_takeOut_152 (fun _ h => h)
        · have hl51 : ∀ (n : Nat) (y37 : Int32) (s38 : Tg), f_X11_takeOut_L107 z n y37 s38 = some (s39) → XW p l e rm_X11_takeOut s m args below meth c 0 0 3 (xbs G) (xQ below args s (xbs G) none (xRep G z σ sF) 0 0) (xRep G z σ s38) 107 [(0, .ref (xaM G 0)), (2, .int y37)] [] := by
            intro n
            induction n with
            | zero =>
              intro y37 s38 h
              exact absurd h (by rw [f_X11_takeOut_L107]; intro q; cases q)
            | succ n ih =>
              intro y37 s38 h
              rw [f_X11_takeOut_L107] at h
              refine x_iload_n C dX11_takeOut_107 rfl (q := 1) rfl ?_
              refine x_bipush C (v := 8) dX11_takeOut_108 (by decide) ?_
              refine x_iadd C dX11_takeOut_110 ?_
              refine x_bipush C (v := 8) dX11_takeOut_111 (by decide) ?_
              refine x_aload_n C dX11_takeOut_113 rfl (q := 0) rfl ?_
              refine m_get C cl_X11 29 (by decide) fl_X11_157_X11 rfl rfl dX11_takeOut_114 ?_
              refine x_letI h (fun v42 h => ?_)
              refine x_imul C dX11_takeOut_117 ?_
              refine x_icmp_ge C (tgt := 142) dX11_takeOut_118 (by decide) h (fun hc43 h => ?_) (fun hc43 h => ?_)
              · cases h
                exact x_sub [0] rfl hj40
              · refine x_aload_n C dX11_takeOut_121 rfl (q := 0) rfl ?_
                refine m_get C cl_X11 31 (by decide) fl_X11_84_X11 rfl rfl dX11_takeOut_122 ?_
                refine x_iload_n C dX11_takeOut_125 rfl (q := 1) rfl ?_
                refine x_aload_n C dX11_takeOut_126 rfl (q := 0) rfl ?_
                refine m_get C cl_X11 31 (by decide) fl_X11_84_X11 rfl rfl dX11_takeOut_127 ?_
                refine x_iload_n C dX11_takeOut_130 rfl (q := 1) rfl ?_
                refine x_bipush C (v := 8) dX11_takeOut_131 (by decide) ?_
                refine x_iadd C dX11_takeOut_133 ?_
                refine m_iald C rfl (fun _ _ => rfl) dX11_takeOut_134 h (fun k44 hk44 h => ?_)
                refine x_letI h (fun v45 h => ?_)
                refine m_iast C rfl (fun _ _ => rfl) dX11_takeOut_135 h (fun k46 hk46 h => ?_)
                refine m_letS h (fun s47 h => ?_)
                refine x_iincL C (w := 1) (L' := fun v48 => [(2, .int v48), (0, .ref (xaM G 0))]) dX11_takeOut_136 (k := 1) rfl (by decide) (by decide) (fun _ => rfl) h (fun v48 h => ?_)
                refine x_goto C (tgt := 107) dX11_takeOut_139 (by decide) ?_
                exact x_sub [1, 0] rfl (ih _ _ h)
          exact x_sub [1, 0] rfl (hl51 FU _ _ hv41)
      · have hl52 : ∀ (n : Nat) (y24 : Int32) (s25 : Tg), f_X11_takeOut_L67 z x1 n y24 s25 = some (s26) → XW p l e rm_X11_takeOut s m args below meth c 0 0 3 (xbs G) (xQ below args s (xbs G) none (xRep G z σ sF) 0 0) (xRep G z σ s25) 67 [(0, .ref (xaM G 0)), (1, .int x1), (2, .int y24)] [] := by
          intro n
          induction n with
          | zero =>
            intro y24 s25 h
            exact absurd h (by rw [f_X11_takeOut_L67]; intro q; cases q)
          | succ n ih =>
            intro y24 s25 h
            rw [f_X11_takeOut_L67] at h
            refine x_iload_n C dX11_takeOut_67 rfl (q := 2) rfl ?_
            refine x_bipush C (v := 7) dX11_takeOut_68 (by decide) ?_
            refine x_iadd C dX11_takeOut_70 ?_
            refine x_bipush C (v := 7) dX11_takeOut_71 (by decide) ?_
            refine x_aload_n C dX11_takeOut_73 rfl (q := 0) rfl ?_
            refine m_get C cl_X11 29 (by decide) fl_X11_157_X11 rfl rfl dX11_takeOut_74 ?_
            refine x_letI h (fun v29 h => ?_)
            refine x_imul C dX11_takeOut_77 ?_
            refine x_icmp_ge C (tgt := 102) dX11_takeOut_78 (by decide) h (fun hc30 h => ?_) (fun hc30 h => ?_)
            · cases h
              exact x_sub [0, 1] rfl hj27
            · refine x_aload_n C dX11_takeOut_81 rfl (q := 0) rfl ?_
              refine m_get C cl_X11 30 (by decide) fl_X11_81_X11 rfl rfl dX11_takeOut_82 ?_
              refine x_iload_n C dX11_takeOut_85 rfl (q := 2) rfl ?_
              refine x_aload_n C dX11_takeOut_86 rfl (q := 0) rfl ?_
              refine m_get C cl_X11 30 (by decide) fl_X11_81_X11 rfl rfl dX11_takeOut_87 ?_
              refine x_iload_n C dX11_takeOut_90 rfl (q := 2) rfl ?_
              refine x_bipush C (v := 7) dX11_takeOut_91 (by decide) ?_
              refine x_iadd C dX11_takeOut_93 ?_
              refine m_iald C rfl (fun _ _ => rfl) dX11_takeOut_94 h (fun k31 hk31 h => ?_)
              refine x_letI h (fun v32 h => ?_)
              refine m_iast C rfl (fun _ _ => rfl) dX11_takeOut_95 h (fun k33 hk33 h => ?_)
              refine m_letS h (fun s34 h => ?_)
              refine x_iincL C (w := 1) (L' := fun v35 => [(2, .int v35), (0, .ref (xaM G 0)), (1, .int x1)]) dX11_takeOut_96 (k := 2) rfl (by decide) (by decide) (fun _ => rfl) h (fun v35 h => ?_)
              refine x_goto C (tgt := 67) dX11_takeOut_99 (by decide) ?_
              exact x_sub [1, 2, 0] rfl (ih _ _ h)
        exact x_sub [1, 2, 0] rfl (hl52 FU _ _ hv28)
    · have hl53 : ∀ (n : Nat) (y12 : Int32) (s13 : Tg), f_X11_takeOut_L33 z x1 n y12 s13 = some (s14) → XW p l e rm_X11_takeOut s m args below meth c 0 0 3 (xbs G) (xQ below args s (xbs G) none (xRep G z σ sF) 0 0) (xRep G z σ s13) 33 [(0, .ref (xaM G 0)), (1, .int x1), (2, .int y12)] [] := by
        intro n
        induction n with
        | zero =>
          intro y12 s13 h
          exact absurd h (by rw [f_X11_takeOut_L33]; intro q; cases q)
        | succ n ih =>
          intro y12 s13 h
          rw [f_X11_takeOut_L33] at h
          refine x_iload_n C dX11_takeOut_33 rfl (q := 2) rfl ?_
          refine x_bipush C (v := 8) dX11_takeOut_34 (by decide) ?_
          refine x_icmp_ge C (tgt := 62) dX11_takeOut_36 (by decide) h (fun hc17 h => ?_) (fun hc17 h => ?_)
          · cases h
            exact x_sub [0, 1] rfl hj15
          · refine x_aload_n C dX11_takeOut_39 rfl (q := 0) rfl ?_
            refine m_get C cl_X11 37 (by decide) fl_X11_90_X11 rfl rfl dX11_takeOut_40 ?_
            refine x_iload_n C dX11_takeOut_43 rfl (q := 2) rfl ?_
            refine x_aload_n C dX11_takeOut_44 rfl (q := 0) rfl ?_
            refine m_get C cl_X11 31 (by decide) fl_X11_84_X11 rfl rfl dX11_takeOut_45 ?_
            refine x_bipush C (v := 8) dX11_takeOut_48 (by decide) ?_
            refine x_iload_n C dX11_takeOut_50 rfl (q := 1) rfl ?_
            refine x_imul C dX11_takeOut_51 ?_
            refine x_iload_n C dX11_takeOut_52 rfl (q := 2) rfl ?_
            refine x_iadd C dX11_takeOut_53 ?_
            refine m_iald C rfl (fun _ _ => rfl) dX11_takeOut_54 h (fun k18 hk18 h => ?_)
            refine x_letI h (fun v19 h => ?_)
            refine m_iast C rfl (fun _ _ => rfl) dX11_takeOut_55 h (fun k20 hk20 h => ?_)
            refine m_letS h (fun s21 h => ?_)
            refine x_iincL C (w := 1) (L' := fun v22 => [(2, .int v22), (0, .ref (xaM G 0)), (1, .int x1)]) dX11_takeOut_56 (k := 2) rfl (by decide) (by decide) (fun _ => rfl) h (fun v22 h => ?_)
            refine x_goto C (tgt := 33) dX11_takeOut_59 (by decide) ?_
            exact x_sub [1, 2, 0] rfl (ih _ _ h)
      exact x_sub [1, 2, 0] rfl (hl53 FU _ _ hv16)
  · have hl54 : ∀ (n : Nat) (y1 : Int32) (s2 : Tg), f_X11_takeOut_L2 z x1 n y1 s2 = some (s3) → XW p l e rm_X11_takeOut s m args below meth c 0 0 3 (xbs G) (xQ below args s (xbs G) none (xRep G z σ sF) 0 0) (xRep G z σ s2) 2 [(0, .ref (xaM G 0)), (1, .int x1), (2, .int y1)] [] := by
      intro n
      induction n with
      | zero =>
        intro y1 s2 h
        exact absurd h (by rw [f_X11_takeOut_L2]; intro q; cases q)
      | succ n ih =>
        intro y1 s2 h
        rw [f_X11_takeOut_L2] at h
        refine x_iload_n C dX11_takeOut_2 rfl (q := 2) rfl ?_
        refine x_bipush C (v := 7) dX11_takeOut_3 (by decide) ?_
        refine x_icmp_ge C (tgt := 31) dX11_takeOut_5 (by decide) h (fun hc6 h => ?_) (fun hc6 h => ?_)
        · cases h
          exact x_sub [0, 1] rfl hj4
        · refine x_aload_n C dX11_takeOut_8 rfl (q := 0) rfl ?_
          refine m_get C cl_X11 36 (by decide) fl_X11_87_X11 rfl rfl dX11_takeOut_9 ?_
          refine x_iload_n C dX11_takeOut_12 rfl (q := 2) rfl ?_
          refine x_aload_n C dX11_takeOut_13 rfl (q := 0) rfl ?_
          refine m_get C cl_X11 30 (by decide) fl_X11_81_X11 rfl rfl dX11_takeOut_14 ?_
          refine x_bipush C (v := 7) dX11_takeOut_17 (by decide) ?_
          refine x_iload_n C dX11_takeOut_19 rfl (q := 1) rfl ?_
          refine x_imul C dX11_takeOut_20 ?_
          refine x_iload_n C dX11_takeOut_21 rfl (q := 2) rfl ?_
          refine x_iadd C dX11_takeOut_22 ?_
          refine m_iald C rfl (fun _ _ => rfl) dX11_takeOut_23 h (fun k7 hk7 h => ?_)
          refine x_letI h (fun v8 h => ?_)
          refine m_iast C rfl (fun _ _ => rfl) dX11_takeOut_24 h (fun k9 hk9 h => ?_)
          refine m_letS h (fun s10 h => ?_)
          refine x_iincL C (w := 1) (L' := fun v11 => [(2, .int v11), (0, .ref (xaM G 0)), (1, .int x1)]) dX11_takeOut_25 (k := 2) rfl (by decide) (by decide) (fun _ => rfl) h (fun v11 h => ?_)
          refine x_goto C (tgt := 2) dX11_takeOut_28 (by decide) ?_
          exact x_sub [1, 2, 0] rfl (ih _ _ h)
    exact x_sub [1, 2, 0] rfl (hl54 FU _ _ hv5)
def f_X11_isMessage (z : Nat → Nat) (τ : Tg) (x1 : Int32) : Option Int32 :=
  letv (τ.1 0 29) fun v1 => bnd1 (f_X11_in x1 0 (v1 - 1)) fun r3 => gdb r3 <| some (r3)
def rm_X11_isMessage : Room := { frames := 1, cells := 0, slots := 0, locals := 22 }
set_option maxRecDepth 100000 in
set_option maxHeartbeats 4000000 in
theorem m_X11_isMessage {l : Launch} {G : xG} {z : Nat → Nat} {σ : Sg} {τ : Tg} {x1 : Int32} {rF : Int32} (h : f_X11_isMessage z τ x1 = some (rF)) : xMet l (xD G) (xcA G) (xbs G) yX11_isMessage cX11_isMessage 2 (Option.some Jvm.ClassFile.FieldType.boolean) rm_X11_isMessage [.ref (xaM G 0), .int x1] (xRep G z σ τ) (xRep G z σ τ) (some (.int rF)) 0 0 := by
  refine xMet.of RX11 rfl (by decide +kernel) (Nat.le_of_ble_eq_true rfl) ?_
  intro p e s m args below meth c C hr hnm
  unfold f_X11_isMessage at h
  refine x_sub (L' := [(0, .ref (xaM G 0)), (1, .int x1)]) [0, 1] rfl ?_
  refine x_iload_n C dX11_isMessage_0 rfl (q := 1) rfl ?_
  refine x_iconst C (v := 0) dX11_isMessage_1 (by decide) ?_
  refine x_aload_n C dX11_isMessage_2 rfl (q := 0) rfl ?_
  refine m_get C cl_X11 29 (by decide) fl_X11_157_X11 rfl rfl dX11_isMessage_3 ?_
  refine x_letI h (fun v1 h => ?_)
  refine x_iconst C (v := 1) dX11_isMessage_6 (by decide) ?_
  refine x_isub C dX11_isMessage_7 ?_
  obtain ⟨r3, hq2, h⟩ := bnd1_some h
  refine x_callS_i C (m_X11_in hq2) ws_X11_120 rfl (Nat.le_of_ble_eq_true rfl) ⟨⟨rfl, rfl⟩, Nat.le_of_ble_eq_true rfl, Nat.le_of_ble_eq_true rfl⟩ dX11_isMessage_8 rfl ?_
  obtain ⟨hb, h⟩ := gdb_some h
  cases h
  exact xr_z C hb hr dX11_isMessage_11 (fun _ h => h)
def f_X11_writes (z : Nat → Nat) (τ : Tg) (x1 : Int32) (x2 : Int32) (x3 : Int32) (x4 : Int32) (x5 : Int32) : Option (Int32 × Tg) :=
  gdx x1 (mlen 7) fun k1 => letv (τ.1 7 k1) fun v2 => if v2 = (nI (z 5)) then (some (0, τ)) else (gdx x1 (mlen 7) fun k4 => letv (τ.1 7 k4) fun v5 => letv ((800 * x1) + (4 * v5)) fun v6 => gdx v6 (mlen 8) fun k7 => letv (tpI τ 8 k7 x2) fun s8 => gdx (v6 + 1) (mlen 8) fun k9 => letv (tpI s8 8 k9 x3) fun s10 => gdx (v6 + 2) (mlen 8) fun k11 => letv (tpI s10 8 k11 x4) fun s12 => gdx (v6 + 3) (mlen 8) fun k13 => letv (tpI s12 8 k13 x5) fun s14 => gdx x1 (mlen 7) fun k15 => letv (s14.1 7 k15) fun v16 => gdx x1 (mlen 7) fun k17 => letv (tpI s14 7 k17 (v16 + 1)) fun s18 => some (1, s18))
def rm_X11_writes : Room := { frames := 0, cells := 0, slots := 0, locals := 0 }
set_option maxRecDepth 100000 in
set_option maxHeartbeats 4000000 in
theorem m_X11_writes {l : Launch} {G : xG} {z : Nat → Nat} {σ : Sg} {τ : Tg} {x1 : Int32} {x2 : Int32} {x3 : Int32} {x4 : Int32} {x5 : Int32} {rF : Int32} {sF : Tg} (h : f_X11_writes z τ x1 x2 x3 x4 x5 = some (rF, sF)) : xMet l (xD G) (xcA G) (xbs G) yX11_writes cX11_writes 7 (Option.some Jvm.ClassFile.FieldType.boolean) rm_X11_writes [.ref (xaM G 0), .int x1, .int x2, .int x3, .int x4, .int x5] (xRep G z σ τ) (xRep G z σ sF) (some (.int rF)) 0 0 := by
  refine xMet.of RX11 rfl (by decide +kernel) (Nat.le_of_ble_eq_true rfl) ?_
  intro p e s m args below meth c C hr hnm
  unfold f_X11_writes at h
  refine x_sub (L' := [(0, .ref (xaM G 0)), (1, .int x1), (2, .int x2), (3, .int x3), (4, .int x4), (5, .int x5)]) [0, 1, 2, 3, 4, 5] rfl ?_
  refine x_aload_n C dX11_writes_0 rfl (q := 0) rfl ?_
  refine m_get C cl_X11 7 (by decide) fl_X11_13_X11 rfl rfl dX11_writes_1 ?_
  refine x_iload_n C dX11_writes_4 rfl (q := 1) rfl ?_
  refine m_iald C rfl (fun _ _ => rfl) dX11_writes_5 h (fun k1 hk1 h => ?_)
  refine x_letI h (fun v2 h => ?_)
  refine x_aload_n C dX11_writes_6 rfl (q := 0) rfl ?_
  refine m_get C cl_X11 5 (by decide) fl_X11_113_X11 rfl rfl dX11_writes_7 ?_
  refine x_icmp_ne C (tgt := 15) dX11_writes_10 (by decide) h (fun hc3 h => ?_) (fun hc3 h => ?_)
  · refine x_sipush C (v := 800) dX11_writes_15 (by decide) ?_
    refine x_iload_n C dX11_writes_18 rfl (q := 1) rfl ?_
    refine x_imul C dX11_writes_19 ?_
    refine x_iconst C (v := 4) dX11_writes_20 (by decide) ?_
    refine x_aload_n C dX11_writes_21 rfl (q := 0) rfl ?_
    refine m_get C cl_X11 7 (by decide) fl_X11_13_X11 rfl rfl dX11_writes_22 ?_
    refine x_iload_n C dX11_writes_25 rfl (q := 1) rfl ?_
    refine m_iald C rfl (fun _ _ => rfl) dX11_writes_26 h (fun k4 hk4 h => ?_)
    refine x_letI h (fun v5 h => ?_)
    refine x_imul C dX11_writes_27 ?_
    refine x_iadd C dX11_writes_28 ?_
    refine x_letI h (fun v6 h => ?_)
    refine x_istore C (L' := [(6, .int v6), (0, .ref (xaM G 0)), (1, .int x1), (2, .int x2), (3, .int x3), (4, .int x4), (5, .int x5)]) dX11_writes_29 (by decide) rfl ?_
    refine x_aload_n C dX11_writes_31 rfl (q := 1) rfl ?_
    refine m_get C cl_X11 8 (by decide) fl_X11_17_X11 rfl rfl dX11_writes_32 ?_
    refine x_iload C dX11_writes_35 (q := 0) rfl ?_
    refine x_iload_n C dX11_writes_37 rfl (q := 3) rfl ?_
    refine m_iast C rfl (fun _ _ => rfl) dX11_writes_38 h (fun k7 hk7 h => ?_)
    refine m_letS h (fun s8 h => ?_)
    refine x_aload_n C dX11_writes_39 rfl (q := 1) rfl ?_
    refine m_get C cl_X11 8 (by decide) fl_X11_17_X11 rfl rfl dX11_writes_40 ?_
    refine x_iload C dX11_writes_43 (q := 0) rfl ?_
    refine x_iconst C (v := 1) dX11_writes_45 (by decide) ?_
    refine x_iadd C dX11_writes_46 ?_
    refine x_iload_n C dX11_writes_47 rfl (q := 4) rfl ?_
    refine m_iast C rfl (fun _ _ => rfl) dX11_writes_48 h (fun k9 hk9 h => ?_)
    refine m_letS h (fun s10 h => ?_)
    refine x_aload_n C dX11_writes_49 rfl (q := 1) rfl ?_
    refine m_get C cl_X11 8 (by decide) fl_X11_17_X11 rfl rfl dX11_writes_50 ?_
    refine x_iload C dX11_writes_53 (q := 0) rfl ?_
    refine x_iconst C (v := 2) dX11_writes_55 (by decide) ?_
    refine x_iadd C dX11_writes_56 ?_
    refine x_iload C dX11_writes_57 (q := 5) rfl ?_
    refine m_iast C rfl (fun _ _ => rfl) dX11_writes_59 h (fun k11 hk11 h => ?_)
    refine m_letS h (fun s12 h => ?_)
    refine x_aload_n C dX11_writes_60 rfl (q := 1) rfl ?_
    refine m_get C cl_X11 8 (by decide) fl_X11_17_X11 rfl rfl dX11_writes_61 ?_
    refine x_iload C dX11_writes_64 (q := 0) rfl ?_
    refine x_iconst C (v := 3) dX11_writes_66 (by decide) ?_
    refine x_iadd C dX11_writes_67 ?_
    refine x_iload C dX11_writes_68 (q := 6) rfl ?_
    refine m_iast C rfl (fun _ _ => rfl) dX11_writes_70 h (fun k13 hk13 h => ?_)
    refine m_letS h (fun s14 h => ?_)
    refine x_aload_n C dX11_writes_71 rfl (q := 1) rfl ?_
    refine m_get C cl_X11 7 (by decide) fl_X11_13_X11 rfl rfl dX11_writes_72 ?_
    refine x_iload_n C dX11_writes_75 rfl (q := 2) rfl ?_
    refine x_dup2 C dX11_writes_76 rfl rfl ?_
    refine m_iald C rfl (fun _ _ => rfl) dX11_writes_77 h (fun k15 hk15 h => ?_)
    refine x_letI h (fun v16 h => ?_)
    refine x_iconst C (v := 1) dX11_writes_78 (by decide) ?_
    refine x_iadd C dX11_writes_79 ?_
    refine m_iast C rfl (fun _ _ => rfl) dX11_writes_80 h (fun k17 hk17 h => ?_)
    refine m_letS h (fun s18 h => ?_)
    refine x_iconst C (v := 1) dX11_writes_81 (by decide) ?_
    cases h
    exact xr_z C (by decide) hr dX11_writes_82 (fun _ h => h)
  · refine x_iconst C (v := 0) dX11_writes_13 (by decide) ?_
    cases h
    exact xr_z C (by decide) hr dX11_writes_14 (fun _ h => h)
