def f_X7_shardOf (z : Nat → Nat) (σ : Sg) (x1 : Int32) : Option Int32 :=
  gnz (nI (z 0)) <| some (x1 - x1 / (nI (z 0)) * (nI (z 0)))
def rm_X7_shardOf : Room := { frames := 0, cells := 0, slots := 0, locals := 0 }
set_option maxRecDepth 100000 in
set_option maxHeartbeats 4000000 in
theorem m_X7_shardOf {l : Launch} {G : xG} {z : Nat → Nat} {σ : Sg} {τ : Tg} {x1 : Int32} {rF : Int32} (h : f_X7_shardOf z σ x1 = some (rF)) : xMet l (xD G) (xcA G) (xbs G) yX7_shardOf cX7_shardOf 2 (Option.some Jvm.ClassFile.FieldType.int) rm_X7_shardOf [.ref (xad G 1 0 0), .int x1] (xRep G z σ τ) (xRep G z σ τ) (some (.int rF)) 0 0 := by
  refine xMet.of RX7 rfl (by decide +kernel) (Nat.le_of_ble_eq_true rfl) ?_
  intro p e s m args below meth c C hr hnm
  unfold f_X7_shardOf at h
  refine x_sub (L' := [(0, .ref (xad G 1 0 0)), (1, .int x1)]) [0, 1] rfl ?_
  refine x_iload_n C dX7_shardOf_0 rfl (q := 1) rfl ?_
  refine x_aload_n C dX7_shardOf_1 rfl (q := 0) rfl ?_
  refine x_get C cl_X7 0 (by decide) fl_X7_13_X7 (dm_1 z) rfl rfl dX7_shardOf_2 ?_
  refine x_irem C dX7_shardOf_5 h (fun h => ?_)
  cases h
  exact xr_i C hr dX7_shardOf_6 (fun _ h => h)
def f_X8_touches (z : Nat → Nat) (σ : Sg) (x1 : Int32) (x2 : Int32) : Option Int32 :=
  gdx x1 (z 2) fun k1 => letv (σ.1 4 0 0 k1) fun v2 => if (v2 &&& (1 <<< (x2 &&& 31))) = 0 then (some (0)) else (some (1))
def rm_X8_touches : Room := { frames := 0, cells := 0, slots := 0, locals := 0 }
set_option maxRecDepth 100000 in
set_option maxHeartbeats 4000000 in
theorem m_X8_touches {l : Launch} {G : xG} {z : Nat → Nat} {σ : Sg} {τ : Tg} {x1 : Int32} {x2 : Int32} {rF : Int32} (h : f_X8_touches z σ x1 x2 = some (rF)) : xMet l (xD G) (xcA G) (xbs G) yX8_touches cX8_touches 3 (Option.some Jvm.ClassFile.FieldType.boolean) rm_X8_touches [.ref (xad G 2 0 0), .int x1, .int x2] (xRep G z σ τ) (xRep G z σ τ) (some (.int rF)) 0 0 := by
  refine xMet.of RX8 rfl (by decide +kernel) (Nat.le_of_ble_eq_true rfl) ?_
  intro p e s m args below meth c C hr hnm
  unfold f_X8_touches at h
  refine x_sub (L' := [(0, .ref (xad G 2 0 0)), (1, .int x1), (2, .int x2)]) [0, 1, 2] rfl ?_
  refine x_aload_n C dX8_touches_0 rfl (q := 0) rfl ?_
  refine x_get C cl_X8 1 (by decide) fl_X8_21_X8 (dm_2 z) rfl rfl dX8_touches_1 ?_
  refine x_iload_n C dX8_touches_4 rfl (q := 1) rfl ?_
  refine x_iald C (dm_4 z) (fun _ _ _ => rfl) dX8_touches_5 h (fun k1 hk1 h => ?_)
  refine x_letI h (fun v2 h => ?_)
  refine x_iconst C (v := 1) dX8_touches_6 (by decide) ?_
  refine x_iload_n C dX8_touches_7 rfl (q := 2) rfl ?_
  refine x_ishl C dX8_touches_8 ?_
  refine x_iand C dX8_touches_9 ?_
  refine x_if_eq C (tgt := 17) dX8_touches_10 (by decide) h (fun hc3 h => ?_) (fun hc3 h => ?_)
  · refine x_iconst C (v := 0) dX8_touches_17 (by decide) ?_
    cases h
    exact xr_z C (by decide) hr dX8_touches_18 (fun _ h => h)
  · refine x_iconst C (v := 1) dX8_touches_13 (by decide) ?_
    refine x_goto C (tgt := 18) dX8_touches_14 (by decide) ?_
    cases h
    exact xr_z C (by decide) hr dX8_touches_18 (fun _ h => h)
def f_J9_max_7cf53 (x1 : Int32) (x2 : Int32) : Option Int32 :=
  if x1 < x2 then (some (x2)) else (some (x1))
def rm_J9_max_7cf53 : Room := { frames := 0, cells := 0, slots := 0, locals := 0 }
set_option maxRecDepth 100000 in
set_option maxHeartbeats 4000000 in
theorem m_J9_max_7cf53 {l : Launch} {D : va_G} {cA : Nat → ClassId} {bs : Nat} {Ω : Heap → Prop} {x1 : Int32} {x2 : Int32} {rF : Int32} (h : f_J9_max_7cf53 x1 x2 = some (rF)) : xMet l D cA bs yJ9_max_7cf53 cJ9_max_7cf53 2 (Option.some Jvm.ClassFile.FieldType.int) rm_J9_max_7cf53 [.int x1, .int x2] Ω Ω (some (.int rF)) 0 0 := by
  refine xMet.of RJ9 rfl (by decide +kernel) (Nat.le_of_ble_eq_true rfl) ?_
  intro p e s m args below meth c C hr hnm
  unfold f_J9_max_7cf53 at h
  refine x_sub (L' := [(0, .int x1), (1, .int x2)]) [0, 1] rfl ?_
  refine x_iload_n C dJ9_max_7cf53_0 rfl (q := 0) rfl ?_
  refine x_iload_n C dJ9_max_7cf53_1 rfl (q := 1) rfl ?_
  refine x_icmp_lt C (tgt := 9) dJ9_max_7cf53_2 (by decide) h (fun hc1 h => ?_) (fun hc1 h => ?_)
  · refine x_iload_n C dJ9_max_7cf53_9 rfl (q := 1) rfl ?_
    cases h
    exact xr_i C hr dJ9_max_7cf53_10 (fun _ h => h)
  · refine x_iload_n C dJ9_max_7cf53_5 rfl (q := 0) rfl ?_
    refine x_goto C (tgt := 10) dJ9_max_7cf53_6 (by decide) ?_
    cases h
    exact xr_i C hr dJ9_max_7cf53_10 (fun _ h => h)
def f_X8_touch (z : Nat → Nat) (σ : Sg) (x1 : Int32) (x2 : Int32) : Option Sg :=
  gdx x1 (z 2) fun k1 => letv (σ.1 4 0 0 k1) fun v2 => gdx x1 (z 2) fun k3 => letv (upI σ 4 0 0 k3 (v2 ||| (1 <<< (x2 &&& 31)))) fun s4 => some (s4)
def rm_X8_touch : Room := { frames := 0, cells := 0, slots := 0, locals := 0 }
set_option maxRecDepth 100000 in
set_option maxHeartbeats 4000000 in
theorem m_X8_touch {l : Launch} {G : xG} {z : Nat → Nat} {σ : Sg} {τ : Tg} {x1 : Int32} {x2 : Int32} {sF : Sg} (h : f_X8_touch z σ x1 x2 = some (sF)) : xMet l (xD G) (xcA G) (xbs G) yX8_touch cX8_touch 3 (Option.none : Option Jvm.ClassFile.FieldType) rm_X8_touch [.ref (xad G 2 0 0), .int x1, .int x2] (xRep G z σ τ) (xRep G z sF τ) none 0 0 := by
  refine xMet.of RX8 rfl (by decide +kernel) (Nat.le_of_ble_eq_true rfl) ?_
  intro p e s m args below meth c C hr hnm
  unfold f_X8_touch at h
  refine x_sub (L' := [(0, .ref (xad G 2 0 0)), (1, .int x1), (2, .int x2)]) [0, 1, 2] rfl ?_
  refine x_aload_n C dX8_touch_0 rfl (q := 0) rfl ?_
  refine x_get C cl_X8 1 (by decide) fl_X8_21_X8 (dm_2 z) rfl rfl dX8_touch_1 ?_
  refine x_iload_n C dX8_touch_4 rfl (q := 1) rfl ?_
  refine x_dup2 C dX8_touch_5 rfl rfl ?_
  refine x_iald C (dm_4 z) (fun _ _ _ => rfl) dX8_touch_6 h (fun k1 hk1 h => ?_)
  refine x_letI h (fun v2 h => ?_)
  refine x_iconst C (v := 1) dX8_touch_7 (by decide) ?_
  refine x_iload_n C dX8_touch_8 rfl (q := 2) rfl ?_
  refine x_ishl C dX8_touch_9 ?_
  refine x_ior C dX8_touch_10 ?_
  refine x_iast C (dm_4 z) (fun _ _ _ => rfl) dX8_touch_11 h (fun k3 hk3 h => ?_)
  refine x_letS h (fun s4 h => ?_)
  cases h
  exact xr_v C hr dX8_touch_12 (fun _ h => h)
def f_X8_touchesNone (z : Nat → Nat) (σ : Sg) (x1 : Int32) : Option Int32 :=
  gdx x1 (z 2) fun k1 => letv (σ.1 4 0 0 k1) fun v2 => if v2 = 0 then (some (1)) else (some (0))
def rm_X8_touchesNone : Room := { frames := 0, cells := 0, slots := 0, locals := 0 }
set_option maxRecDepth 100000 in
set_option maxHeartbeats 4000000 in
theorem m_X8_touchesNone {l : Launch} {G : xG} {z : Nat → Nat} {σ : Sg} {τ : Tg} {x1 : Int32} {rF : Int32} (h : f_X8_touchesNone z σ x1 = some (rF)) : xMet l (xD G) (xcA G) (xbs G) yX8_touchesNone cX8_touchesNone 2 (Option.some Jvm.ClassFile.FieldType.boolean) rm_X8_touchesNone [.ref (xad G 2 0 0), .int x1] (xRep G z σ τ) (xRep G z σ τ) (some (.int rF)) 0 0 := by
  refine xMet.of RX8 rfl (by decide +kernel) (Nat.le_of_ble_eq_true rfl) ?_
  intro p e s m args below meth c C hr hnm
  unfold f_X8_touchesNone at h
  refine x_sub (L' := [(0, .ref (xad G 2 0 0)), (1, .int x1)]) [0, 1] rfl ?_
  refine x_aload_n C dX8_touchesNone_0 rfl (q := 0) rfl ?_
  refine x_get C cl_X8 1 (by decide) fl_X8_21_X8 (dm_2 z) rfl rfl dX8_touchesNone_1 ?_
  refine x_iload_n C dX8_touchesNone_4 rfl (q := 1) rfl ?_
  refine x_iald C (dm_4 z) (fun _ _ _ => rfl) dX8_touchesNone_5 h (fun k1 hk1 h => ?_)
  refine x_letI h (fun v2 h => ?_)
  refine x_if_ne C (tgt := 13) dX8_touchesNone_6 (by decide) h (fun hc3 h => ?_) (fun hc3 h => ?_)
  · refine x_iconst C (v := 0) dX8_touchesNone_13 (by decide) ?_
    cases h
    exact xr_z C (by decide) hr dX8_touchesNone_14 (fun _ h => h)
  · refine x_iconst C (v := 1) dX8_touchesNone_9 (by decide) ?_
    refine x_goto C (tgt := 14) dX8_touchesNone_10 (by decide) ?_
    cases h
    exact xr_z C (by decide) hr dX8_touchesNone_14 (fun _ h => h)
def f_X7_client (z : Nat → Nat) (σ : Sg) : Option Int32 :=
  some ((nI (z 0)) + (nI (z 1)))
def rm_X7_client : Room := { frames := 0, cells := 0, slots := 0, locals := 0 }
set_option maxRecDepth 100000 in
set_option maxHeartbeats 4000000 in
theorem m_X7_client {l : Launch} {G : xG} {z : Nat → Nat} {σ : Sg} {τ : Tg} {rF : Int32} (h : f_X7_client z σ = some (rF)) : xMet l (xD G) (xcA G) (xbs G) yX7_client cX7_client 1 (Option.some Jvm.ClassFile.FieldType.int) rm_X7_client [.ref (xad G 1 0 0)] (xRep G z σ τ) (xRep G z σ τ) (some (.int rF)) 0 0 := by
  refine xMet.of RX7 rfl (by decide +kernel) (Nat.le_of_ble_eq_true rfl) ?_
  intro p e s m args below meth c C hr hnm
  unfold f_X7_client at h
  refine x_sub (L' := [(0, .ref (xad G 1 0 0))]) [0] rfl ?_
  refine x_aload_n C dX7_client_0 rfl (q := 0) rfl ?_
  refine x_get C cl_X7 0 (by decide) fl_X7_13_X7 (dm_1 z) rfl rfl dX7_client_1 ?_
  refine x_aload_n C dX7_client_4 rfl (q := 0) rfl ?_
  refine x_get C cl_X7 1 (by decide) fl_X7_21_X7 (dm_1 z) rfl rfl dX7_client_5 ?_
  refine x_iadd C dX7_client_8 ?_
  cases h
  exact xr_i C hr dX7_client_9 (fun _ h => h)
def f_X5_startDraft (z : Nat → Nat) (σ : Sg) (x1 : Int32) (x2 : Int32) (x3 : Int32) : Option Sg :=
  letv (upI σ 13 (z 4) 0 0 x1) fun s1 => letv (upI s1 13 (z 4) 0 2 x2) fun s2 => letv (upI s2 13 (z 4) 0 6 x3) fun s3 => letv (upI s3 13 (z 4) 0 3 0) fun s4 => letv (upI s4 13 (z 4) 0 4 0) fun s5 => letv (upI s5 13 (z 4) 0 5 0) fun s6 => some (s6)
def rm_X5_startDraft : Room := { frames := 0, cells := 0, slots := 0, locals := 0 }
set_option maxRecDepth 100000 in
set_option maxHeartbeats 4000000 in
theorem m_X5_startDraft {l : Launch} {G : xG} {z : Nat → Nat} {σ : Sg} {τ : Tg} {x1 : Int32} {x2 : Int32} {x3 : Int32} {sF : Sg} (h : f_X5_startDraft z σ x1 x2 x3 = some (sF)) : xMet l (xD G) (xcA G) (xbs G) yX5_startDraft cX5_startDraft 4 (Option.none : Option Jvm.ClassFile.FieldType) rm_X5_startDraft [.ref (xad G 11 0 0), .int x1, .int x2, .int x3] (xRep G z σ τ) (xRep G z sF τ) none 0 0 := by
  refine xMet.of RX5 rfl (by decide +kernel) (Nat.le_of_ble_eq_true rfl) ?_
  intro p e s m args below meth c C hr hnm
  unfold f_X5_startDraft at h
  refine x_sub (L' := [(0, .ref (xad G 11 0 0)), (1, .int x1), (2, .int x2), (3, .int x3)]) [0, 1, 2, 3] rfl ?_
  refine x_aload_n C dX5_startDraft_0 rfl (q := 0) rfl ?_
  refine x_get C cl_X5 2 (by decide) fl_X5_31_X5 (dm_11 z) rfl rfl dX5_startDraft_1 ?_
  refine x_iload_n C dX5_startDraft_4 rfl (q := 1) rfl ?_
  refine x_putI C cl_X3 0 (by decide) fl_X5_41_X3 rfl (dm_13 xb_d) (fun _ _ _ => rfl) (fun _ _ _ => rfl) (fun _ _ _ => Nat.le_of_ble_eq_true rfl) rfl rfl dX5_startDraft_5 h (fun s1 h => ?_)
  refine x_aload_n C dX5_startDraft_8 rfl (q := 0) rfl ?_
  refine x_get C cl_X5 2 (by decide) fl_X5_31_X5 (dm_11 z) rfl rfl dX5_startDraft_9 ?_
  refine x_iload_n C dX5_startDraft_12 rfl (q := 2) rfl ?_
  refine x_putI C cl_X3 2 (by decide) fl_X5_44_X3 rfl (dm_13 xb_d) (fun _ _ _ => rfl) (fun _ _ _ => rfl) (fun _ _ _ => Nat.le_of_ble_eq_true rfl) rfl rfl dX5_startDraft_13 h (fun s2 h => ?_)
  refine x_aload_n C dX5_startDraft_16 rfl (q := 0) rfl ?_
  refine x_get C cl_X5 2 (by decide) fl_X5_31_X5 (dm_11 z) rfl rfl dX5_startDraft_17 ?_
  refine x_iload_n C dX5_startDraft_20 rfl (q := 3) rfl ?_
  refine x_putI C cl_X3 6 (by decide) fl_X5_47_X3 rfl (dm_13 xb_d) (fun _ _ _ => rfl) (fun _ _ _ => rfl) (fun _ _ _ => Nat.le_of_ble_eq_true rfl) rfl rfl dX5_startDraft_21 h (fun s3 h => ?_)
  refine x_aload_n C dX5_startDraft_24 rfl (q := 0) rfl ?_
  refine x_get C cl_X5 2 (by decide) fl_X5_31_X5 (dm_11 z) rfl rfl dX5_startDraft_25 ?_
  refine x_iconst C (v := 0) dX5_startDraft_28 (by decide) ?_
  refine x_putI C cl_X3 3 (by decide) fl_X5_50_X3 rfl (dm_13 xb_d) (fun _ _ _ => rfl) (fun _ _ _ => rfl) (fun _ _ _ => Nat.le_of_ble_eq_true rfl) rfl rfl dX5_startDraft_29 h (fun s4 h => ?_)
  refine x_aload_n C dX5_startDraft_32 rfl (q := 0) rfl ?_
  refine x_get C cl_X5 2 (by decide) fl_X5_31_X5 (dm_11 z) rfl rfl dX5_startDraft_33 ?_
  refine x_iconst C (v := 0) dX5_startDraft_36 (by decide) ?_
  refine x_putI C cl_X3 4 (by decide) fl_X5_53_X3 rfl (dm_13 xb_d) (fun _ _ _ => rfl) (fun _ _ _ => rfl) (fun _ _ _ => Nat.le_of_ble_eq_true rfl) rfl rfl dX5_startDraft_37 h (fun s5 h => ?_)
  refine x_aload_n C dX5_startDraft_40 rfl (q := 0) rfl ?_
  refine x_get C cl_X5 2 (by decide) fl_X5_31_X5 (dm_11 z) rfl rfl dX5_startDraft_41 ?_
  refine x_iconst C (v := 0) dX5_startDraft_44 (by decide) ?_
  refine x_putI C cl_X3 5 (by decide) fl_X5_56_X3 rfl (dm_13 xb_d) (fun _ _ _ => rfl) (fun _ _ _ => rfl) (fun _ _ _ => Nat.le_of_ble_eq_true rfl) rfl rfl dX5_startDraft_45 h (fun s6 h => ?_)
  cases h
  exact xr_v C hr dX5_startDraft_48 (fun _ h => h)
def f_X3_copyFrom_L55 (z : Nat → Nat) (i : Nat) (mi : Nat) : Nat → Int32 → Sg → Option Sg
  | 0, _, _ => none
  | n + 1, y14, s15 => if (nI (z 0)) ≤ y14 then (some (s15)) else (gdx y14 (z 0) fun k20 => letv (s15.1 14 mi 0 k20) fun v21 => gdx y14 (z 0) fun k22 => letv (upI s15 14 i 0 k22 v21) fun s23 => gdx y14 (z 0) fun k24 => letv (s23.1 15 mi 0 k24) fun v25 => gdx y14 (z 0) fun k26 => letv (upI s23 15 i 0 k26 v25) fun s27 => letv (y14 + 1) fun v28 => f_X3_copyFrom_L55 z i mi n v28 s27)
def f_X3_copyFrom (z : Nat → Nat) (σ : Sg) (i : Nat) (mi : Nat) (x2 : Int32) : Option Sg :=
  letv (σ.1 13 mi 0 0) fun v1 => letv (upI σ 13 i 0 0 v1) fun s2 => letv (upI s2 13 i 0 1 x2) fun s3 => letv (s3.1 13 mi 0 2) fun v4 => letv (upI s3 13 i 0 2 v4) fun s5 => letv (s5.1 13 mi 0 3) fun v6 => letv (upI s5 13 i 0 3 v6) fun s7 => letv (s7.1 13 mi 0 4) fun v8 => letv (upI s7 13 i 0 4 v8) fun s9 => letv (s9.1 13 mi 0 5) fun v10 => letv (upI s9 13 i 0 5 v10) fun s11 => letv (s11.1 13 mi 0 6) fun v12 => letv (upI s11 13 i 0 6 v12) fun s13 => bnd1 (f_X3_copyFrom_L55 z i mi FU 0 s13) fun (s16 : Sg) => some (s16)
def rm_X3_copyFrom : Room := { frames := 0, cells := 0, slots := 0, locals := 0 }
set_option maxRecDepth 100000 in
set_option maxHeartbeats 4000000 in
theorem m_X3_copyFrom {l : Launch} {G : xG} {z : Nat → Nat} {σ : Sg} {τ : Tg} {i : Nat} {mi : Nat} {x2 : Int32} {sF : Sg} (hi : i < z 4 + 2) (hmi : mi < z 4 + 2) (h : f_X3_copyFrom z σ i mi x2 = some (sF)) : xMet l (xD G) (xcA G) (xbs G) yX3_copyFrom cX3_copyFrom 4 (Option.none : Option Jvm.ClassFile.FieldType) rm_X3_copyFrom [.ref (xad G 13 i 0), .ref (xad G 13 mi 0), .int x2] (xRep G z σ τ) (xRep G z sF τ) none 0 0 := by
  refine xMet.of RX3 rfl (by decide +kernel) (Nat.le_of_ble_eq_true rfl) ?_
  intro p e s m args below meth c C hr hnm
  unfold f_X3_copyFrom at h
  refine x_sub (L' := [(0, .ref (xad G 13 i 0)), (1, .ref (xad G 13 mi 0)), (2, .int x2)]) [0, 1, 2] rfl ?_
  refine x_aload_n C dX3_copyFrom_0 rfl (q := 0) rfl ?_
  refine x_aload_n C dX3_copyFrom_1 rfl (q := 1) rfl ?_
  refine x_get C cl_X3 0 (by decide) fl_X3_18_X3 (dm_13 hmi) rfl rfl dX3_copyFrom_2 ?_
  refine x_letI h (fun v1 h => ?_)
  refine x_putI C cl_X3 0 (by decide) fl_X3_18_X3 rfl (dm_13 hi) (fun _ _ _ => rfl) (fun _ _ _ => rfl) (fun _ _ _ => Nat.le_of_ble_eq_true rfl) rfl rfl dX3_copyFrom_5 h (fun s2 h => ?_)
  refine x_aload_n C dX3_copyFrom_8 rfl (q := 0) rfl ?_
  refine x_iload_n C dX3_copyFrom_9 rfl (q := 2) rfl ?_
  refine x_putI C cl_X3 1 (by decide) fl_X3_22_X3 rfl (dm_13 hi) (fun _ _ _ => rfl) (fun _ _ _ => rfl) (fun _ _ _ => Nat.le_of_ble_eq_true rfl) rfl rfl dX3_copyFrom_10 h (fun s3 h => ?_)
  refine x_aload_n C dX3_copyFrom_13 rfl (q := 0) rfl ?_
  refine x_aload_n C dX3_copyFrom_14 rfl (q := 1) rfl ?_
  refine x_get C cl_X3 2 (by decide) fl_X3_25_X3 (dm_13 hmi) rfl rfl dX3_copyFrom_15 ?_
  refine x_letI h (fun v4 h => ?_)
  refine x_putI C cl_X3 2 (by decide) fl_X3_25_X3 rfl (dm_13 hi) (fun _ _ _ => rfl) (fun _ _ _ => rfl) (fun _ _ _ => Nat.le_of_ble_eq_true rfl) rfl rfl dX3_copyFrom_18 h (fun s5 h => ?_)
  refine x_aload_n C dX3_copyFrom_21 rfl (q := 0) rfl ?_
  refine x_aload_n C dX3_copyFrom_22 rfl (q := 1) rfl ?_
  refine x_get C cl_X3 3 (by decide) fl_X3_28_X3 (dm_13 hmi) rfl rfl dX3_copyFrom_23 ?_
  refine x_letI h (fun v6 h => ?_)
  refine x_putI C cl_X3 3 (by decide) fl_X3_28_X3 rfl (dm_13 hi) (fun _ _ _ => rfl) (fun _ _ _ => rfl) (fun _ _ _ => Nat.le_of_ble_eq_true rfl) rfl rfl dX3_copyFrom_26 h (fun s7 h => ?_)
  refine x_aload_n C dX3_copyFrom_29 rfl (q := 0) rfl ?_
  refine x_aload_n C dX3_copyFrom_30 rfl (q := 1) rfl ?_
  refine x_get C cl_X3 4 (by decide) fl_X3_31_X3 (dm_13 hmi) rfl rfl dX3_copyFrom_31 ?_
  refine x_letI h (fun v8 h => ?_)
  refine x_putI C cl_X3 4 (by decide) fl_X3_31_X3 rfl (dm_13 hi) (fun _ _ _ => rfl) (fun _ _ _ => rfl) (fun _ _ _ => Nat.le_of_ble_eq_true rfl) rfl rfl dX3_copyFrom_34 h (fun s9 h => ?_)
  refine x_aload_n C dX3_copyFrom_37 rfl (q := 0) rfl ?_
  refine x_aload_n C dX3_copyFrom_38 rfl (q := 1) rfl ?_
  refine x_get C cl_X3 5 (by decide) fl_X3_34_X3 (dm_13 hmi) rfl rfl dX3_copyFrom_39 ?_
  refine x_letI h (fun v10 h => ?_)
  refine x_putI C cl_X3 5 (by decide) fl_X3_34_X3 rfl (dm_13 hi) (fun _ _ _ => rfl) (fun _ _ _ => rfl) (fun _ _ _ => Nat.le_of_ble_eq_true rfl) rfl rfl dX3_copyFrom_42 h (fun s11 h => ?_)
  refine x_aload_n C dX3_copyFrom_45 rfl (q := 0) rfl ?_
  refine x_aload_n C dX3_copyFrom_46 rfl (q := 1) rfl ?_
  refine x_get C cl_X3 6 (by decide) fl_X3_37_X3 (dm_13 hmi) rfl rfl dX3_copyFrom_47 ?_
  refine x_letI h (fun v12 h => ?_)
  refine x_putI C cl_X3 6 (by decide) fl_X3_37_X3 rfl (dm_13 hi) (fun _ _ _ => rfl) (fun _ _ _ => rfl) (fun _ _ _ => Nat.le_of_ble_eq_true rfl) rfl rfl dX3_copyFrom_50 h (fun s13 h => ?_)
  refine x_iconst C (v := 0) dX3_copyFrom_53 (by decide) ?_
  refine x_istore_n C (L' := [(3, .int 0), (0, .ref (xad G 13 i 0)), (1, .ref (xad G 13 mi 0)), (2, .int x2)]) dX3_copyFrom_54 rfl (by decide) rfl ?_
  obtain ⟨s16, hv18, h⟩ := bnd1_some h
  refine x_join (Ω' := (xRep G z s16 τ)) (pc' := 94) (L' := []) (st' := []) ?_ (fun hj17 => ?_)
  · cases h
    exact xr_v C hr dX3_copyFrom_94 (fun _ h => h)
  · have hl29 : ∀ (n : Nat) (y14 : Int32) (s15 : Sg), f_X3_copyFrom_L55 z i mi n y14 s15 = some (s16) → XW p l e rm_X3_copyFrom s m args below meth c 0 0 4 (xbs G) (xQ below args s (xbs G) none (xRep G z sF τ) 0 0) (xRep G z s15 τ) 55 [(0, .ref (xad G 13 i 0)), (1, .ref (xad G 13 mi 0)), (3, .int y14)] [] := by
      intro n
      induction n with
      | zero =>
        intro y14 s15 h
        exact absurd h (by rw [f_X3_copyFrom_L55]; intro q; cases q)
      | succ n ih =>
        intro y14 s15 h
        rw [f_X3_copyFrom_L55] at h
        refine x_iload_n C dX3_copyFrom_55 rfl (q := 2) rfl ?_
        refine x_aload_n C dX3_copyFrom_56 rfl (q := 0) rfl ?_
        refine x_get C cl_X3 7 (by decide) fl_X3_9_X3 (dm_13 hi) rfl rfl dX3_copyFrom_57 ?_
        refine x_alen C 0 rfl (dm_14 hi) rfl dX3_copyFrom_60 ?_
        refine x_icmp_ge C (tgt := 94) dX3_copyFrom_61 (by decide) h (fun hc19 h => ?_) (fun hc19 h => ?_)
        · cases h
          exact x_sub [] rfl hj17
        · refine x_aload_n C dX3_copyFrom_64 rfl (q := 0) rfl ?_
          refine x_get C cl_X3 7 (by decide) fl_X3_9_X3 (dm_13 hi) rfl rfl dX3_copyFrom_65 ?_
          refine x_iload_n C dX3_copyFrom_68 rfl (q := 2) rfl ?_
          refine x_aload_n C dX3_copyFrom_69 rfl (q := 1) rfl ?_
          refine x_get C cl_X3 7 (by decide) fl_X3_9_X3 (dm_13 hmi) rfl rfl dX3_copyFrom_70 ?_
          refine x_iload_n C dX3_copyFrom_73 rfl (q := 2) rfl ?_
          refine x_iald C (dm_14 hmi) (fun _ _ _ => rfl) dX3_copyFrom_74 h (fun k20 hk20 h => ?_)
          refine x_letI h (fun v21 h => ?_)
          refine x_iast C (dm_14 hi) (fun _ _ _ => rfl) dX3_copyFrom_75 h (fun k22 hk22 h => ?_)
          refine x_letS h (fun s23 h => ?_)
          refine x_aload_n C dX3_copyFrom_76 rfl (q := 0) rfl ?_
          refine x_get C cl_X3 8 (by decide) fl_X3_15_X3 (dm_13 hi) rfl rfl dX3_copyFrom_77 ?_
          refine x_iload_n C dX3_copyFrom_80 rfl (q := 2) rfl ?_
          refine x_aload_n C dX3_copyFrom_81 rfl (q := 1) rfl ?_
          refine x_get C cl_X3 8 (by decide) fl_X3_15_X3 (dm_13 hmi) rfl rfl dX3_copyFrom_82 ?_
          refine x_iload_n C dX3_copyFrom_85 rfl (q := 2) rfl ?_
          refine x_iald C (dm_15 hmi) (fun _ _ _ => rfl) dX3_copyFrom_86 h (fun k24 hk24 h => ?_)
          refine x_letI h (fun v25 h => ?_)
          refine x_iast C (dm_15 hi) (fun _ _ _ => rfl) dX3_copyFrom_87 h (fun k26 hk26 h => ?_)
          refine x_letS h (fun s27 h => ?_)
          refine x_iincL C (w := 1) (L' := fun v28 => [(3, .int v28), (0, .ref (xad G 13 i 0)), (1, .ref (xad G 13 mi 0))]) dX3_copyFrom_88 (k := 2) rfl (by decide) (by decide) (fun _ => rfl) h (fun v28 h => ?_)
          refine x_goto C (tgt := 55) dX3_copyFrom_91 (by decide) ?_
          exact x_sub [1, 2, 0] rfl (ih _ _ h)
    exact x_sub [1, 2, 0] rfl (hl29 FU _ _ hv18)
def f_X5_post (z : Nat → Nat) (σ : Sg) (mi : Nat) (x2 : Int32) : Option (Int32 × Sg) :=
  letv (σ.1 11 0 0 5) fun v1 => letv (upI σ 11 0 0 5 (v1 + 1)) fun s2 => letv (s2.1 11 0 0 4) fun v3 => if v3 < (nI (z 4)) then (letv (s2.1 11 0 0 4) fun v5 => gdx v5 (z 4) fun k6 => gdr (s2.2.2 12 k6) (z 4 + 2) fun m7 => bnd1 (f_X3_copyFrom z s2 m7 mi x2) fun s9 => letv (s9.1 11 0 0 4) fun v10 => letv (upI s9 11 0 0 4 (v10 + 1)) fun s11 => some (1, s11)) else (letv (s2.1 11 0 0 6) fun v12 => letv (upI s2 11 0 0 6 (v12 + 1)) fun s13 => some (0, s13))
def rm_X5_post : Room := { frames := 1, cells := 0, slots := 0, locals := 23 }
set_option maxRecDepth 100000 in
set_option maxHeartbeats 4000000 in
theorem m_X5_post {l : Launch} {G : xG} {z : Nat → Nat} {σ : Sg} {τ : Tg} {mi : Nat} {x2 : Int32} {rF : Int32} {sF : Sg} (hmi : mi < z 4 + 2) (h : f_X5_post z σ mi x2 = some (rF, sF)) : xMet l (xD G) (xcA G) (xbs G) yX5_post cX5_post 3 (Option.some Jvm.ClassFile.FieldType.boolean) rm_X5_post [.ref (xad G 11 0 0), .ref (xad G 13 mi 0), .int x2] (xRep G z σ τ) (xRep G z sF τ) (some (.int rF)) 0 0 := by
  refine xMet.of RX5 rfl (by decide +kernel) (Nat.le_of_ble_eq_true rfl) ?_
  intro p e s m args below meth c C hr hnm
  unfold f_X5_post at h
  refine x_sub (L' := [(0, .ref (xad G 11 0 0)), (1, .ref (xad G 13 mi 0)), (2, .int x2)]) [0, 1, 2] rfl ?_
  refine x_aload_n C dX5_post_0 rfl (q := 0) rfl ?_
  refine x_dup C dX5_post_1 rfl ?_
  refine x_get C cl_X5 5 (by decide) fl_X5_70_X5 (dm_11 z) rfl rfl dX5_post_2 ?_
  refine x_letI h (fun v1 h => ?_)
  refine x_iconst C (v := 1) dX5_post_5 (by decide) ?_
  refine x_iadd C dX5_post_6 ?_
  refine x_putI C cl_X5 5 (by decide) fl_X5_70_X5 rfl (dm_11 z) (fun _ _ _ => rfl) (fun _ _ _ => rfl) (fun _ _ _ => Nat.le_of_ble_eq_true rfl) rfl rfl dX5_post_7 h (fun s2 h => ?_)
  refine x_aload_n C dX5_post_10 rfl (q := 0) rfl ?_
  refine x_get C cl_X5 4 (by decide) fl_X5_38_X5 (dm_11 z) rfl rfl dX5_post_11 ?_
  refine x_letI h (fun v3 h => ?_)
  refine x_aload_n C dX5_post_14 rfl (q := 0) rfl ?_
  refine x_get C cl_X5 1 (by decide) fl_X5_21_X5 (dm_11 z) rfl rfl dX5_post_15 ?_
  refine x_alen C 5 rfl (dm_12 z) rfl dX5_post_18 ?_
  refine x_icmp_lt C (tgt := 34) dX5_post_19 (by decide) h (fun hc4 h => ?_) (fun hc4 h => ?_)
  · refine x_aload_n C dX5_post_34 rfl (q := 0) rfl ?_
    refine x_get C cl_X5 1 (by decide) fl_X5_21_X5 (dm_11 z) rfl rfl dX5_post_35 ?_
    refine x_aload_n C dX5_post_38 rfl (q := 0) rfl ?_
    refine x_get C cl_X5 4 (by decide) fl_X5_38_X5 (dm_11 z) rfl rfl dX5_post_39 ?_
    refine x_letI h (fun v5 h => ?_)
    refine x_aald C 5 rfl rfl (dm_12 z) rfl dX5_post_42 h (fun k6 hk6 h => ?_)
    refine x_gdr h (fun m7 hm7 h => ?_)
    refine x_aload_n C dX5_post_43 rfl (q := 1) rfl ?_
    refine x_iload_n C dX5_post_44 rfl (q := 2) rfl ?_
    obtain ⟨s9, hq8, h⟩ := bnd1_some h
    refine x_callV_v C (m_X3_copyFrom hm7 hmi hq8) wv_X5_76 (x_recv C.2.2.2 cl_X3 (dm_13 hm7) rfl) rfl (Nat.le_of_ble_eq_true rfl) ⟨⟨rfl, rfl⟩, Nat.le_of_ble_eq_true rfl, Nat.le_of_ble_eq_true rfl⟩ dX5_post_45 rfl ?_
    refine x_aload_n C dX5_post_48 rfl (q := 0) rfl ?_
    refine x_dup C dX5_post_49 rfl ?_
    refine x_get C cl_X5 4 (by decide) fl_X5_38_X5 (dm_11 z) rfl rfl dX5_post_50 ?_
    refine x_letI h (fun v10 h => ?_)
    refine x_iconst C (v := 1) dX5_post_53 (by decide) ?_
    refine x_iadd C dX5_post_54 ?_
    refine x_putI C cl_X5 4 (by decide) fl_X5_38_X5 rfl (dm_11 z) (fun _ _ _ => rfl) (fun _ _ _ => rfl) (fun _ _ _ => Nat.le_of_ble_eq_true rfl) rfl rfl dX5_post_55 h (fun s11 h => ?_)
    refine x_iconst C (v := 1) dX5_post_58 (by decide) ?_
    cases h
    exact xr_z C (by decide) hr dX5_post_59 (fun _ h => h)
  · refine x_aload_n C dX5_post_22 rfl (q := 0) rfl ?_
    refine x_dup C dX5_post_23 rfl ?_
    refine x_get C cl_X5 6 (by decide) fl_X5_73_X5 (dm_11 z) rfl rfl dX5_post_24 ?_
    refine x_letI h (fun v12 h => ?_)
    refine x_iconst C (v := 1) dX5_post_27 (by decide) ?_
    refine x_iadd C dX5_post_28 ?_
    refine x_putI C cl_X5 6 (by decide) fl_X5_73_X5 rfl (dm_11 z) (fun _ _ _ => rfl) (fun _ _ _ => rfl) (fun _ _ _ => Nat.le_of_ble_eq_true rfl) rfl rfl dX5_post_29 h (fun s13 h => ?_)
    refine x_iconst C (v := 0) dX5_post_32 (by decide) ?_
    cases h
    exact xr_z C (by decide) hr dX5_post_33 (fun _ h => h)
def f_X5_has (z : Nat → Nat) (σ : Sg) (x1 : Int32) : Option Int32 :=
  if x1 < 0 then (some (0)) else (letv (σ.1 11 0 0 4) fun v2 => if v2 ≤ x1 then (some (0)) else (some (1)))
def rm_X5_has : Room := { frames := 0, cells := 0, slots := 0, locals := 0 }
set_option maxRecDepth 100000 in
set_option maxHeartbeats 4000000 in
theorem m_X5_has {l : Launch} {G : xG} {z : Nat → Nat} {σ : Sg} {τ : Tg} {x1 : Int32} {rF : Int32} (h : f_X5_has z σ x1 = some (rF)) : xMet l (xD G) (xcA G) (xbs G) yX5_has cX5_has 2 (Option.some Jvm.ClassFile.FieldType.boolean) rm_X5_has [.ref (xad G 11 0 0), .int x1] (xRep G z σ τ) (xRep G z σ τ) (some (.int rF)) 0 0 := by
  refine xMet.of RX5 rfl (by decide +kernel) (Nat.le_of_ble_eq_true rfl) ?_
  intro p e s m args below meth c C hr hnm
  unfold f_X5_has at h
  refine x_sub (L' := [(0, .ref (xad G 11 0 0)), (1, .int x1)]) [0, 1] rfl ?_
  refine x_iload_n C dX5_has_0 rfl (q := 1) rfl ?_
  refine x_if_lt C (tgt := 16) dX5_has_1 (by decide) h (fun hc1 h => ?_) (fun hc1 h => ?_)
  · refine x_iconst C (v := 0) dX5_has_16 (by decide) ?_
    cases h
    exact xr_z C (by decide) hr dX5_has_17 (fun _ h => h)
  · refine x_iload_n C dX5_has_4 rfl (q := 1) rfl ?_
    refine x_aload_n C dX5_has_5 rfl (q := 0) rfl ?_
    refine x_get C cl_X5 4 (by decide) fl_X5_38_X5 (dm_11 z) rfl rfl dX5_has_6 ?_
    refine x_letI h (fun v2 h => ?_)
    refine x_icmp_ge C (tgt := 16) dX5_has_9 (by decide) h (fun hc3 h => ?_) (fun hc3 h => ?_)
    · refine x_iconst C (v := 0) dX5_has_16 (by decide) ?_
      cases h
      exact xr_z C (by decide) hr dX5_has_17 (fun _ h => h)
    · refine x_iconst C (v := 1) dX5_has_12 (by decide) ?_
      refine x_goto C (tgt := 17) dX5_has_13 (by decide) ?_
      cases h
      exact xr_z C (by decide) hr dX5_has_17 (fun _ h => h)
def f_X5_take_L11 (z : Nat → Nat) (m2 : Nat) : Nat → Int32 → Sg → Option Sg
  | 0, _, _ => none
  | n + 1, y4, s5 => letv (s5.1 11 0 0 4) fun v9 => if v9 ≤ y4 then (some (s5)) else (gdx y4 (z 4) fun k11 => gdr (s5.2.2 12 k11) (z 4 + 2) fun m12 => gdx (y4 - 1) (z 4) fun k13 => letv (upR s5 12 k13 m12) fun s14 => letv (y4 + 1) fun v15 => f_X5_take_L11 z m2 n v15 s14)
def f_X5_take (z : Nat → Nat) (σ : Sg) (x1 : Int32) : Option (Nat × Sg) :=
  gdx x1 (z 4) fun k1 => gdr (σ.2.2 12 k1) (z 4 + 2) fun m2 => letv (x1 + 1) fun v3 => bnd1 (f_X5_take_L11 z m2 FU v3 σ) fun (s6 : Sg) => letv (s6.1 11 0 0 4) fun v16 => letv (upI s6 11 0 0 4 (v16 - 1)) fun s17 => letv (s17.1 11 0 0 4) fun v18 => gdr (s17.2.2 11 3) (z 4 + 2) fun m19 => gdx v18 (z 4) fun k20 => letv (upR s17 12 k20 m19) fun s21 => letv (upR s21 11 3 m2) fun s22 => some (m2, s22)
def rm_X5_take : Room := { frames := 0, cells := 0, slots := 0, locals := 0 }
set_option maxRecDepth 100000 in
set_option maxHeartbeats 4000000 in
theorem m_X5_take {l : Launch} {G : xG} {z : Nat → Nat} {σ : Sg} {τ : Tg} {x1 : Int32} {rF : Nat} {sF : Sg} (h : f_X5_take z σ x1 = some (rF, sF)) : xMet l (xD G) (xcA G) (xbs G) yX5_take cX5_take 4 (Option.some (Jvm.ClassFile.FieldType.object "CommitShards$Message")) rm_X5_take [.ref (xad G 11 0 0), .int x1] (xRep G z σ τ) (xRep G z sF τ) (some (.ref (xad G 13 rF 0))) 0 0 := by
  refine xMet.of RX5 rfl (by decide +kernel) (Nat.le_of_ble_eq_true rfl) ?_
  intro p e s m args below meth c C hr hnm
  unfold f_X5_take at h
  refine x_sub (L' := [(0, .ref (xad G 11 0 0)), (1, .int x1)]) [0, 1] rfl ?_
  refine x_aload_n C dX5_take_0 rfl (q := 0) rfl ?_
  refine x_get C cl_X5 1 (by decide) fl_X5_21_X5 (dm_11 z) rfl rfl dX5_take_1 ?_
  refine x_iload_n C dX5_take_4 rfl (q := 1) rfl ?_
  refine x_aald C 5 rfl rfl (dm_12 z) rfl dX5_take_5 h (fun k1 hk1 h => ?_)
  refine x_gdr h (fun m2 hm2 h => ?_)
  refine x_astore_n C (L' := [(2, .ref (xad G 13 m2 0)), (0, .ref (xad G 11 0 0)), (1, .int x1)]) dX5_take_6 rfl (by decide) rfl ?_
  refine x_iload_n C dX5_take_7 rfl (q := 2) rfl ?_
  refine x_iconst C (v := 1) dX5_take_8 (by decide) ?_
  refine x_iadd C dX5_take_9 ?_
  refine x_letI h (fun v3 h => ?_)
  refine x_istore_n C (L' := [(3, .int v3), (2, .ref (xad G 13 m2 0)), (0, .ref (xad G 11 0 0)), (1, .int x1)]) dX5_take_10 rfl (by decide) rfl ?_
  obtain ⟨s6, hv8, h⟩ := bnd1_some h
  refine x_join (Ω' := (xRep G z s6 τ)) (pc' := 39) (L' := [(0, .ref (xad G 11 0 0)), (2, .ref (xad G 13 m2 0))]) (st' := []) ?_ (fun hj7 => ?_)
  · refine x_aload_n C dX5_take_39 rfl (q := 0) rfl ?_
    refine x_dup C dX5_take_40 rfl ?_
    refine x_get C cl_X5 4 (by decide) fl_X5_38_X5 (dm_11 z) rfl rfl dX5_take_41 ?_
    refine x_letI h (fun v16 h => ?_)
    refine x_iconst C (v := 1) dX5_take_44 (by decide) ?_
    refine x_isub C dX5_take_45 ?_
    refine x_putI C cl_X5 4 (by decide) fl_X5_38_X5 rfl (dm_11 z) (fun _ _ _ => rfl) (fun _ _ _ => rfl) (fun _ _ _ => Nat.le_of_ble_eq_true rfl) rfl rfl dX5_take_46 h (fun s17 h => ?_)
    refine x_aload_n C dX5_take_49 rfl (q := 0) rfl ?_
    refine x_get C cl_X5 1 (by decide) fl_X5_21_X5 (dm_11 z) rfl rfl dX5_take_50 ?_
    refine x_aload_n C dX5_take_53 rfl (q := 0) rfl ?_
    refine x_get C cl_X5 4 (by decide) fl_X5_38_X5 (dm_11 z) rfl rfl dX5_take_54 ?_
    refine x_letI h (fun v18 h => ?_)
    refine x_aload_n C dX5_take_57 rfl (q := 0) rfl ?_
    refine x_get C cl_X5 3 (by decide) fl_X5_35_X5 (dm_11 z) rfl rfl dX5_take_58 ?_
    refine x_gdr h (fun m19 hm19 h => ?_)
    refine x_aastQ C (dm_12 z) hm19 dX5_take_61 h (fun k20 hk20 h => ?_)
    refine x_letS h (fun s21 h => ?_)
    refine x_aload_n C dX5_take_62 rfl (q := 0) rfl ?_
    refine x_aload_n C dX5_take_63 rfl (q := 1) rfl ?_
    refine x_putR C (v := m2) cl_X5 3 (by decide) fl_X5_35_X5 rfl (dm_11 z) (fun i j hd => ⟨Nat.lt_one_iff.mp hd.1, Nat.lt_one_iff.mp hd.2⟩) (fun _ _ _ => rfl) (fun _ _ _ => rfl) (fun _ _ _ => Nat.le_of_ble_eq_true rfl) rfl rfl dX5_take_64 h (fun s22 h => ?_)
    refine x_aload_n C dX5_take_67 rfl (q := 1) rfl ?_
    cases h
    exact xr_a C hr dX5_take_68 (fun _ h => h)
  · have hl23 : ∀ (n : Nat) (y4 : Int32) (s5 : Sg), f_X5_take_L11 z m2 n y4 s5 = some (s6) → XW p l e rm_X5_take s m args below meth c 0 0 4 (xbs G) (xQ below args s (xbs G) (some (.ref (xad G 13 rF 0))) (xRep G z sF τ) 0 0) (xRep G z s5 τ) 11 [(0, .ref (xad G 11 0 0)), (2, .ref (xad G 13 m2 0)), (3, .int y4)] [] := by
      intro n
      induction n with
      | zero =>
        intro y4 s5 h
        exact absurd h (by rw [f_X5_take_L11]; intro q; cases q)
      | succ n ih =>
        intro y4 s5 h
        rw [f_X5_take_L11] at h
        refine x_iload_n C dX5_take_11 rfl (q := 2) rfl ?_
        refine x_aload_n C dX5_take_12 rfl (q := 0) rfl ?_
        refine x_get C cl_X5 4 (by decide) fl_X5_38_X5 (dm_11 z) rfl rfl dX5_take_13 ?_
        refine x_letI h (fun v9 h => ?_)
        refine x_icmp_ge C (tgt := 39) dX5_take_16 (by decide) h (fun hc10 h => ?_) (fun hc10 h => ?_)
        · cases h
          exact x_sub [0, 1] rfl hj7
        · refine x_aload_n C dX5_take_19 rfl (q := 0) rfl ?_
          refine x_get C cl_X5 1 (by decide) fl_X5_21_X5 (dm_11 z) rfl rfl dX5_take_20 ?_
          refine x_iload_n C dX5_take_23 rfl (q := 2) rfl ?_
          refine x_iconst C (v := 1) dX5_take_24 (by decide) ?_
          refine x_isub C dX5_take_25 ?_
          refine x_aload_n C dX5_take_26 rfl (q := 0) rfl ?_
          refine x_get C cl_X5 1 (by decide) fl_X5_21_X5 (dm_11 z) rfl rfl dX5_take_27 ?_
          refine x_iload_n C dX5_take_30 rfl (q := 2) rfl ?_
          refine x_aald C 5 rfl rfl (dm_12 z) rfl dX5_take_31 h (fun k11 hk11 h => ?_)
          refine x_gdr h (fun m12 hm12 h => ?_)
          refine x_aastQ C (dm_12 z) hm12 dX5_take_32 h (fun k13 hk13 h => ?_)
          refine x_letS h (fun s14 h => ?_)
          refine x_iincL C (w := 1) (L' := fun v15 => [(3, .int v15), (0, .ref (xad G 11 0 0)), (2, .ref (xad G 13 m2 0))]) dX5_take_33 (k := 2) rfl (by decide) (by decide) (fun _ => rfl) h (fun v15 h => ?_)
          refine x_goto C (tgt := 11) dX5_take_36 (by decide) ?_
          exact x_sub [1, 2, 0] rfl (ih _ _ h)
    exact x_sub [2, 1, 0] rfl (hl23 FU _ _ hv8)
def f_X8_hearEnd (z : Nat → Nat) (σ : Sg) (x1 : Int32) (x2 : Int32) : Option Sg :=
  gdx x1 (z 2) fun k1 => letv (σ.1 3 0 0 k1) fun v2 => if v2 = 2 then (gdx x1 (z 2) fun k4 => letv (upI σ 3 0 0 k4 x2) fun s5 => some (s5)) else (some (σ))
def rm_X8_hearEnd : Room := { frames := 0, cells := 0, slots := 0, locals := 0 }
set_option maxRecDepth 100000 in
set_option maxHeartbeats 4000000 in
theorem m_X8_hearEnd {l : Launch} {G : xG} {z : Nat → Nat} {σ : Sg} {τ : Tg} {x1 : Int32} {x2 : Int32} {sF : Sg} (h : f_X8_hearEnd z σ x1 x2 = some (sF)) : xMet l (xD G) (xcA G) (xbs G) yX8_hearEnd cX8_hearEnd 3 (Option.none : Option Jvm.ClassFile.FieldType) rm_X8_hearEnd [.ref (xad G 2 0 0), .int x1, .int x2] (xRep G z σ τ) (xRep G z sF τ) none 0 0 := by
  refine xMet.of RX8 rfl (by decide +kernel) (Nat.le_of_ble_eq_true rfl) ?_
  intro p e s m args below meth c C hr hnm
  unfold f_X8_hearEnd at h
  refine x_sub (L' := [(0, .ref (xad G 2 0 0)), (1, .int x1), (2, .int x2)]) [0, 1, 2] rfl ?_
  refine x_aload_n C dX8_hearEnd_0 rfl (q := 0) rfl ?_
  refine x_get C cl_X8 0 (by decide) fl_X8_15_X8 (dm_2 z) rfl rfl dX8_hearEnd_1 ?_
  refine x_iload_n C dX8_hearEnd_4 rfl (q := 1) rfl ?_
  refine x_iald C (dm_3 z) (fun _ _ _ => rfl) dX8_hearEnd_5 h (fun k1 hk1 h => ?_)
  refine x_letI h (fun v2 h => ?_)
  refine x_iconst C (v := 2) dX8_hearEnd_6 (by decide) ?_
  refine x_icmp_ne C (tgt := 17) dX8_hearEnd_7 (by decide) h (fun hc3 h => ?_) (fun hc3 h => ?_)
  · cases h
    exact xr_v C hr dX8_hearEnd_17 (fun _ h => h)
  · refine x_aload_n C dX8_hearEnd_10 rfl (q := 0) rfl ?_
    refine x_get C cl_X8 0 (by decide) fl_X8_15_X8 (dm_2 z) rfl rfl dX8_hearEnd_11 ?_
    refine x_iload_n C dX8_hearEnd_14 rfl (q := 1) rfl ?_
    refine x_iload_n C dX8_hearEnd_15 rfl (q := 2) rfl ?_
    refine x_iast C (dm_3 z) (fun _ _ _ => rfl) dX8_hearEnd_16 h (fun k4 hk4 h => ?_)
    refine x_letS h (fun s5 h => ?_)
    cases h
    exact xr_v C hr dX8_hearEnd_17 (fun _ h => h)
def f_X2_isFull (z : Nat → Nat) (σ : Sg) (i : Nat) : Option Int32 :=
  letv (σ.1 18 i 0 1) fun v1 => if v1 < (nI (z 5)) then (some (0)) else (some (1))
def rm_X2_isFull : Room := { frames := 0, cells := 0, slots := 0, locals := 0 }
set_option maxRecDepth 100000 in
set_option maxHeartbeats 4000000 in
theorem m_X2_isFull {l : Launch} {G : xG} {z : Nat → Nat} {σ : Sg} {τ : Tg} {i : Nat} {rF : Int32} (hi : i < z 0 + z 1) (h : f_X2_isFull z σ i = some (rF)) : xMet l (xD G) (xcA G) (xbs G) yX2_isFull cX2_isFull 1 (Option.some Jvm.ClassFile.FieldType.boolean) rm_X2_isFull [.ref (xad G 18 i 0)] (xRep G z σ τ) (xRep G z σ τ) (some (.int rF)) 0 0 := by
  refine xMet.of RX2 rfl (by decide +kernel) (Nat.le_of_ble_eq_true rfl) ?_
  intro p e s m args below meth c C hr hnm
  unfold f_X2_isFull at h
  refine x_sub (L' := [(0, .ref (xad G 18 i 0))]) [0] rfl ?_
  refine x_aload_n C dX2_isFull_0 rfl (q := 0) rfl ?_
  refine x_get C cl_X2 1 (by decide) fl_X2_16_X2 (dm_18 hi) rfl rfl dX2_isFull_1 ?_
  refine x_letI h (fun v1 h => ?_)
  refine x_aload_n C dX2_isFull_4 rfl (q := 0) rfl ?_
  refine x_get C cl_X2 0 (by decide) fl_X2_11_X2 (dm_18 hi) rfl rfl dX2_isFull_5 ?_
  refine x_alen C 3 rfl (dm_19 hi) rfl dX2_isFull_8 ?_
  refine x_icmp_lt C (tgt := 16) dX2_isFull_9 (by decide) h (fun hc2 h => ?_) (fun hc2 h => ?_)
  · refine x_iconst C (v := 0) dX2_isFull_16 (by decide) ?_
    cases h
    exact xr_z C (by decide) hr dX2_isFull_17 (fun _ h => h)
  · refine x_iconst C (v := 1) dX2_isFull_12 (by decide) ?_
    refine x_goto C (tgt := 17) dX2_isFull_13 (by decide) ?_
    cases h
    exact xr_z C (by decide) hr dX2_isFull_17 (fun _ h => h)
def f_X2_put (z : Nat → Nat) (σ : Sg) (i : Nat) (x1 : Int32) (x2 : Int32) (x3 : Int32) (x4 : Int32) : Option Sg :=
  bnd1 (f_X2_isFull z σ i) fun r2 => if r2 = 0 then (letv (σ.1 18 i 0 1) fun v4 => gdx v4 (z 5) fun k5 => gdx 0 4 fun k6 => letv (upI σ 20 i k5 k6 x1) fun s7 => letv (s7.1 18 i 0 1) fun v8 => gdx v8 (z 5) fun k9 => gdx 1 4 fun k10 => letv (upI s7 20 i k9 k10 x2) fun s11 => letv (s11.1 18 i 0 1) fun v12 => gdx v12 (z 5) fun k13 => gdx 2 4 fun k14 => letv (upI s11 20 i k13 k14 x3) fun s15 => letv (s15.1 18 i 0 1) fun v16 => gdx v16 (z 5) fun k17 => gdx 3 4 fun k18 => letv (upI s15 20 i k17 k18 x4) fun s19 => letv (s19.1 18 i 0 1) fun v20 => letv (upI s19 18 i 0 1 (v20 + 1)) fun s21 => some (s21)) else (some (σ))
def rm_X2_put : Room := { frames := 1, cells := 0, slots := 0, locals := 20 }
set_option maxRecDepth 100000 in
set_option maxHeartbeats 4000000 in
theorem m_X2_put {l : Launch} {G : xG} {z : Nat → Nat} {σ : Sg} {τ : Tg} {i : Nat} {x1 : Int32} {x2 : Int32} {x3 : Int32} {x4 : Int32} {sF : Sg} (hi : i < z 0 + z 1) (h : f_X2_put z σ i x1 x2 x3 x4 = some (sF)) : xMet l (xD G) (xcA G) (xbs G) yX2_put cX2_put 5 (Option.none : Option Jvm.ClassFile.FieldType) rm_X2_put [.ref (xad G 18 i 0), .int x1, .int x2, .int x3, .int x4] (xRep G z σ τ) (xRep G z sF τ) none 0 0 := by
  refine xMet.of RX2 rfl (by decide +kernel) (Nat.le_of_ble_eq_true rfl) ?_
  intro p e s m args below meth c C hr hnm
  unfold f_X2_put at h
  refine x_sub (L' := [(0, .ref (xad G 18 i 0)), (1, .int x1), (2, .int x2), (3, .int x3), (4, .int x4)]) [0, 1, 2, 3, 4] rfl ?_
  refine x_aload_n C dX2_put_0 rfl (q := 0) rfl ?_
  obtain ⟨r2, hq1, h⟩ := bnd1_some h
  refine x_callV_i C (m_X2_isFull hi hq1) wv_X2_20 (x_recv C.2.2.2 cl_X2 (dm_18 hi) rfl) rfl (Nat.le_of_ble_eq_true rfl) ⟨⟨rfl, rfl⟩, Nat.le_of_ble_eq_true rfl, Nat.le_of_ble_eq_true rfl⟩ dX2_put_1 rfl ?_
  refine x_if_eq C (tgt := 8) dX2_put_4 (by decide) h (fun hc3 h => ?_) (fun hc3 h => ?_)
  · refine x_aload_n C dX2_put_8 rfl (q := 0) rfl ?_
    refine x_get C cl_X2 0 (by decide) fl_X2_11_X2 (dm_18 hi) rfl rfl dX2_put_9 ?_
    refine x_aload_n C dX2_put_12 rfl (q := 0) rfl ?_
    refine x_get C cl_X2 1 (by decide) fl_X2_16_X2 (dm_18 hi) rfl rfl dX2_put_13 ?_
    refine x_letI h (fun v4 h => ?_)
    refine x_aald C 3 rfl rfl (dm_19 hi) rfl dX2_put_16 h (fun k5 hk5 h => ?_)
    refine x_iconst C (v := 0) dX2_put_17 (by decide) ?_
    refine x_iload_n C dX2_put_18 rfl (q := 1) rfl ?_
    refine x_iast C (dm_20 hi hk5) (fun _ _ _ => rfl) dX2_put_19 h (fun k6 hk6 h => ?_)
    refine x_letS h (fun s7 h => ?_)
    refine x_aload_n C dX2_put_20 rfl (q := 0) rfl ?_
    refine x_get C cl_X2 0 (by decide) fl_X2_11_X2 (dm_18 hi) rfl rfl dX2_put_21 ?_
    refine x_aload_n C dX2_put_24 rfl (q := 0) rfl ?_
    refine x_get C cl_X2 1 (by decide) fl_X2_16_X2 (dm_18 hi) rfl rfl dX2_put_25 ?_
    refine x_letI h (fun v8 h => ?_)
    refine x_aald C 3 rfl rfl (dm_19 hi) rfl dX2_put_28 h (fun k9 hk9 h => ?_)
    refine x_iconst C (v := 1) dX2_put_29 (by decide) ?_
    refine x_iload_n C dX2_put_30 rfl (q := 2) rfl ?_
    refine x_iast C (dm_20 hi hk9) (fun _ _ _ => rfl) dX2_put_31 h (fun k10 hk10 h => ?_)
    refine x_letS h (fun s11 h => ?_)
    refine x_aload_n C dX2_put_32 rfl (q := 0) rfl ?_
    refine x_get C cl_X2 0 (by decide) fl_X2_11_X2 (dm_18 hi) rfl rfl dX2_put_33 ?_
    refine x_aload_n C dX2_put_36 rfl (q := 0) rfl ?_
    refine x_get C cl_X2 1 (by decide) fl_X2_16_X2 (dm_18 hi) rfl rfl dX2_put_37 ?_
    refine x_letI h (fun v12 h => ?_)
    refine x_aald C 3 rfl rfl (dm_19 hi) rfl dX2_put_40 h (fun k13 hk13 h => ?_)
    refine x_iconst C (v := 2) dX2_put_41 (by decide) ?_
    refine x_iload_n C dX2_put_42 rfl (q := 3) rfl ?_
    refine x_iast C (dm_20 hi hk13) (fun _ _ _ => rfl) dX2_put_43 h (fun k14 hk14 h => ?_)
    refine x_letS h (fun s15 h => ?_)
    refine x_aload_n C dX2_put_44 rfl (q := 0) rfl ?_
    refine x_get C cl_X2 0 (by decide) fl_X2_11_X2 (dm_18 hi) rfl rfl dX2_put_45 ?_
    refine x_aload_n C dX2_put_48 rfl (q := 0) rfl ?_
    refine x_get C cl_X2 1 (by decide) fl_X2_16_X2 (dm_18 hi) rfl rfl dX2_put_49 ?_
    refine x_letI h (fun v16 h => ?_)
    refine x_aald C 3 rfl rfl (dm_19 hi) rfl dX2_put_52 h (fun k17 hk17 h => ?_)
    refine x_iconst C (v := 3) dX2_put_53 (by decide) ?_
    refine x_iload C dX2_put_54 (q := 4) rfl ?_
    refine x_iast C (dm_20 hi hk17) (fun _ _ _ => rfl) dX2_put_56 h (fun k18 hk18 h => ?_)
    refine x_letS h (fun s19 h => ?_)
    refine x_aload_n C dX2_put_57 rfl (q := 0) rfl ?_
    refine x_dup C dX2_put_58 rfl ?_
    refine x_get C cl_X2 1 (by decide) fl_X2_16_X2 (dm_18 hi) rfl rfl dX2_put_59 ?_
    refine x_letI h (fun v20 h => ?_)
    refine x_iconst C (v := 1) dX2_put_62 (by decide) ?_
    refine x_iadd C dX2_put_63 ?_
    refine x_putI C cl_X2 1 (by decide) fl_X2_16_X2 rfl (dm_18 hi) (fun _ _ _ => rfl) (fun _ _ _ => rfl) (fun _ _ _ => Nat.le_of_ble_eq_true rfl) rfl rfl dX2_put_64 h (fun s21 h => ?_)
    cases h
    exact xr_v C hr dX2_put_67 (fun _ h => h)
  · cases h
    exact xr_v C hr dX2_put_7 (fun _ h => h)
def f_X5_startDraftOfVote (z : Nat → Nat) (σ : Sg) (x1 : Int32) (x2 : Int32) (x3 : Int32) (x4 : Int32) (x5 : Int32) (x6 : Int32) : Option Sg :=
  bnd1 (f_X5_startDraft z σ x1 x2 x3) fun s2 => letv (upI s2 13 (z 4) 0 3 x4) fun s3 => letv (upI s3 13 (z 4) 0 4 x5) fun s4 => letv (upI s4 13 (z 4) 0 5 x6) fun s5 => some (s5)
def rm_X5_startDraftOfVote : Room := { frames := 1, cells := 0, slots := 0, locals := 23 }
set_option maxRecDepth 100000 in
set_option maxHeartbeats 4000000 in
theorem m_X5_startDraftOfVote {l : Launch} {G : xG} {z : Nat → Nat} {σ : Sg} {τ : Tg} {x1 : Int32} {x2 : Int32} {x3 : Int32} {x4 : Int32} {x5 : Int32} {x6 : Int32} {sF : Sg} (h : f_X5_startDraftOfVote z σ x1 x2 x3 x4 x5 x6 = some (sF)) : xMet l (xD G) (xcA G) (xbs G) yX5_startDraftOfVote cX5_startDraftOfVote 7 (Option.none : Option Jvm.ClassFile.FieldType) rm_X5_startDraftOfVote [.ref (xad G 11 0 0), .int x1, .int x2, .int x3, .int x4, .int x5, .int x6] (xRep G z σ τ) (xRep G z sF τ) none 0 0 := by
  refine xMet.of RX5 rfl (by decide +kernel) (Nat.le_of_ble_eq_true rfl) ?_
  intro p e s m args below meth c C hr hnm
  unfold f_X5_startDraftOfVote at h
  refine x_sub (L' := [(0, .ref (xad G 11 0 0)), (1, .int x1), (2, .int x2), (3, .int x3), (4, .int x4), (5, .int x5), (6, .int x6)]) [0, 1, 2, 3, 4, 5, 6] rfl ?_
  refine x_aload_n C dX5_startDraftOfVote_0 rfl (q := 0) rfl ?_
  refine x_iload_n C dX5_startDraftOfVote_1 rfl (q := 1) rfl ?_
  refine x_iload_n C dX5_startDraftOfVote_2 rfl (q := 2) rfl ?_
  refine x_iload_n C dX5_startDraftOfVote_3 rfl (q := 3) rfl ?_
  obtain ⟨s2, hq1, h⟩ := bnd1_some h
  refine x_callV_v C (m_X5_startDraft hq1) wv_X5_59 (x_recv C.2.2.2 cl_X5 (dm_11 z) rfl) rfl (Nat.le_of_ble_eq_true rfl) ⟨⟨rfl, rfl⟩, Nat.le_of_ble_eq_true rfl, Nat.le_of_ble_eq_true rfl⟩ dX5_startDraftOfVote_4 rfl ?_
  refine x_aload_n C dX5_startDraftOfVote_7 rfl (q := 0) rfl ?_
  refine x_get C cl_X5 2 (by decide) fl_X5_31_X5 (dm_11 z) rfl rfl dX5_startDraftOfVote_8 ?_
  refine x_iload C dX5_startDraftOfVote_11 (q := 4) rfl ?_
  refine x_putI C cl_X3 3 (by decide) fl_X5_50_X3 rfl (dm_13 xb_d) (fun _ _ _ => rfl) (fun _ _ _ => rfl) (fun _ _ _ => Nat.le_of_ble_eq_true rfl) rfl rfl dX5_startDraftOfVote_13 h (fun s3 h => ?_)
  refine x_aload_n C dX5_startDraftOfVote_16 rfl (q := 0) rfl ?_
  refine x_get C cl_X5 2 (by decide) fl_X5_31_X5 (dm_11 z) rfl rfl dX5_startDraftOfVote_17 ?_
  refine x_iload C dX5_startDraftOfVote_20 (q := 5) rfl ?_
  refine x_putI C cl_X3 4 (by decide) fl_X5_53_X3 rfl (dm_13 xb_d) (fun _ _ _ => rfl) (fun _ _ _ => rfl) (fun _ _ _ => Nat.le_of_ble_eq_true rfl) rfl rfl dX5_startDraftOfVote_22 h (fun s4 h => ?_)
  refine x_aload_n C dX5_startDraftOfVote_25 rfl (q := 0) rfl ?_
  refine x_get C cl_X5 2 (by decide) fl_X5_31_X5 (dm_11 z) rfl rfl dX5_startDraftOfVote_26 ?_
  refine x_iload C dX5_startDraftOfVote_29 (q := 6) rfl ?_
  refine x_putI C cl_X3 5 (by decide) fl_X5_56_X3 rfl (dm_13 xb_d) (fun _ _ _ => rfl) (fun _ _ _ => rfl) (fun _ _ _ => Nat.le_of_ble_eq_true rfl) rfl rfl dX5_startDraftOfVote_31 h (fun s5 h => ?_)
  cases h
  exact xr_v C hr dX5_startDraftOfVote_34 (fun _ h => h)
def f_X5_postDraftToAcceptors_L2 (z : Nat → Nat) : Nat → Int32 → Sg → Option Sg
  | 0, _, _ => none
  | n + 1, y1, s2 => if (nI (z 1)) ≤ y1 then (some (s2)) else (bnd2 (f_X5_post z s2 (z 4) ((nI (z 0)) + y1)) fun r8 s9 => letv (y1 + 1) fun v10 => f_X5_postDraftToAcceptors_L2 z n v10 s9)
def f_X5_postDraftToAcceptors (z : Nat → Nat) (σ : Sg) : Option Sg :=
  bnd1 (f_X5_postDraftToAcceptors_L2 z FU 0 σ) fun (s3 : Sg) => some (s3)
def rm_X5_postDraftToAcceptors : Room := { frames := 2, cells := 0, slots := 0, locals := 45 }
set_option maxRecDepth 100000 in
set_option maxHeartbeats 4000000 in
theorem m_X5_postDraftToAcceptors {l : Launch} {G : xG} {z : Nat → Nat} {σ : Sg} {τ : Tg} {sF : Sg} (h : f_X5_postDraftToAcceptors z σ = some (sF)) : xMet l (xD G) (xcA G) (xbs G) yX5_postDraftToAcceptors cX5_postDraftToAcceptors 2 (Option.none : Option Jvm.ClassFile.FieldType) rm_X5_postDraftToAcceptors [.ref (xad G 11 0 0)] (xRep G z σ τ) (xRep G z sF τ) none 0 0 := by
  refine xMet.of RX5 rfl (by decide +kernel) (Nat.le_of_ble_eq_true rfl) ?_
  intro p e s m args below meth c C hr hnm
  unfold f_X5_postDraftToAcceptors at h
  refine x_sub (L' := [(0, .ref (xad G 11 0 0))]) [0] rfl ?_
  refine x_iconst C (v := 0) dX5_postDraftToAcceptors_0 (by decide) ?_
  refine x_istore_n C (L' := [(1, .int 0), (0, .ref (xad G 11 0 0))]) dX5_postDraftToAcceptors_1 rfl (by decide) rfl ?_
  obtain ⟨s3, hv5, h⟩ := bnd1_some h
  refine x_join (Ω' := (xRep G z s3 τ)) (pc' := 37) (L' := []) (st' := []) ?_ (fun hj4 => ?_)
  · cases h
    exact xr_v C hr dX5_postDraftToAcceptors_37 (fun _ h => h)
  · have hl11 : ∀ (n : Nat) (y1 : Int32) (s2 : Sg), f_X5_postDraftToAcceptors_L2 z n y1 s2 = some (s3) → XW p l e rm_X5_postDraftToAcceptors s m args below meth c 0 0 2 (xbs G) (xQ below args s (xbs G) none (xRep G z sF τ) 0 0) (xRep G z s2 τ) 2 [(0, .ref (xad G 11 0 0)), (1, .int y1)] [] := by
      intro n
      induction n with
      | zero =>
        intro y1 s2 h
        exact absurd h (by rw [f_X5_postDraftToAcceptors_L2]; intro q; cases q)
      | succ n ih =>
        intro y1 s2 h
        rw [f_X5_postDraftToAcceptors_L2] at h
        refine x_iload_n C dX5_postDraftToAcceptors_2 rfl (q := 1) rfl ?_
        refine x_aload_n C dX5_postDraftToAcceptors_3 rfl (q := 0) rfl ?_
        refine x_get C cl_X5 0 (by decide) fl_X5_7_X5 (dm_11 z) rfl rfl dX5_postDraftToAcceptors_4 ?_
        refine x_get C cl_X7 1 (by decide) fl_X5_63_X7 (dm_1 z) rfl rfl dX5_postDraftToAcceptors_7 ?_
        refine x_icmp_ge C (tgt := 37) dX5_postDraftToAcceptors_10 (by decide) h (fun hc6 h => ?_) (fun hc6 h => ?_)
        · cases h
          exact x_sub [] rfl hj4
        · refine x_aload_n C dX5_postDraftToAcceptors_13 rfl (q := 0) rfl ?_
          refine x_aload_n C dX5_postDraftToAcceptors_14 rfl (q := 0) rfl ?_
          refine x_get C cl_X5 2 (by decide) fl_X5_31_X5 (dm_11 z) rfl rfl dX5_postDraftToAcceptors_15 ?_
          refine x_aload_n C dX5_postDraftToAcceptors_18 rfl (q := 0) rfl ?_
          refine x_get C cl_X5 0 (by decide) fl_X5_7_X5 (dm_11 z) rfl rfl dX5_postDraftToAcceptors_19 ?_
          refine x_get C cl_X7 0 (by decide) fl_X5_25_X7 (dm_1 z) rfl rfl dX5_postDraftToAcceptors_22 ?_
          refine x_iload_n C dX5_postDraftToAcceptors_25 rfl (q := 1) rfl ?_
          refine x_iadd C dX5_postDraftToAcceptors_26 ?_
          obtain ⟨r8, s9, hq7, h⟩ := bnd2_some h
          refine x_callV_i C (m_X5_post xb_d hq7) wv_X5_66 (x_recv C.2.2.2 cl_X5 (dm_11 z) rfl) rfl (Nat.le_of_ble_eq_true rfl) ⟨⟨rfl, rfl⟩, Nat.le_of_ble_eq_true rfl, Nat.le_of_ble_eq_true rfl⟩ dX5_postDraftToAcceptors_27 rfl ?_
          refine x_pop C dX5_postDraftToAcceptors_30 rfl ?_
          refine x_iincL C (w := 1) (L' := fun v10 => [(1, .int v10), (0, .ref (xad G 11 0 0))]) dX5_postDraftToAcceptors_31 (k := 1) rfl (by decide) (by decide) (fun _ => rfl) h (fun v10 h => ?_)
          refine x_goto C (tgt := 2) dX5_postDraftToAcceptors_34 (by decide) ?_
          exact x_sub [1, 0] rfl (ih _ _ h)
    exact x_sub [1, 0] rfl (hl11 FU _ _ hv5)
def f_X7_acceptorOf (z : Nat → Nat) (σ : Sg) (x1 : Int32) : Option Int32 :=
  gnz (nI (z 1)) <| some ((nI (z 0)) + (x1 - x1 / (nI (z 1)) * (nI (z 1))))
def rm_X7_acceptorOf : Room := { frames := 0, cells := 0, slots := 0, locals := 0 }
set_option maxRecDepth 100000 in
set_option maxHeartbeats 4000000 in
theorem m_X7_acceptorOf {l : Launch} {G : xG} {z : Nat → Nat} {σ : Sg} {τ : Tg} {x1 : Int32} {rF : Int32} (h : f_X7_acceptorOf z σ x1 = some (rF)) : xMet l (xD G) (xcA G) (xbs G) yX7_acceptorOf cX7_acceptorOf 2 (Option.some Jvm.ClassFile.FieldType.int) rm_X7_acceptorOf [.ref (xad G 1 0 0), .int x1] (xRep G z σ τ) (xRep G z σ τ) (some (.int rF)) 0 0 := by
  refine xMet.of RX7 rfl (by decide +kernel) (Nat.le_of_ble_eq_true rfl) ?_
  intro p e s m args below meth c C hr hnm
  unfold f_X7_acceptorOf at h
  refine x_sub (L' := [(0, .ref (xad G 1 0 0)), (1, .int x1)]) [0, 1] rfl ?_
  refine x_aload_n C dX7_acceptorOf_0 rfl (q := 0) rfl ?_
  refine x_get C cl_X7 0 (by decide) fl_X7_13_X7 (dm_1 z) rfl rfl dX7_acceptorOf_1 ?_
  refine x_iload_n C dX7_acceptorOf_4 rfl (q := 1) rfl ?_
  refine x_aload_n C dX7_acceptorOf_5 rfl (q := 0) rfl ?_
  refine x_get C cl_X7 1 (by decide) fl_X7_21_X7 (dm_1 z) rfl rfl dX7_acceptorOf_6 ?_
  refine x_irem C dX7_acceptorOf_9 h (fun h => ?_)
  refine x_iadd C dX7_acceptorOf_10 ?_
  cases h
  exact xr_i C hr dX7_acceptorOf_11 (fun _ h => h)
def f_J6_bitCount_0f7a4 (x1 : Int32) : Option Int32 :=
  letv (x1 - ((iushr x1 1) &&& 1431655765)) fun v1 => letv ((v1 &&& 858993459) + ((iushr v1 2) &&& 858993459)) fun v2 => letv ((v2 + (iushr v2 4)) &&& 252645135) fun v3 => letv (v3 + (iushr v3 8)) fun v4 => letv (v4 + (iushr v4 16)) fun v5 => some (v5 &&& 63)
def rm_J6_bitCount_0f7a4 : Room := { frames := 0, cells := 0, slots := 0, locals := 0 }
set_option maxRecDepth 100000 in
set_option maxHeartbeats 4000000 in
theorem m_J6_bitCount_0f7a4 {l : Launch} {D : va_G} {cA : Nat → ClassId} {bs : Nat} {Ω : Heap → Prop} {x1 : Int32} {rF : Int32} (h : f_J6_bitCount_0f7a4 x1 = some (rF)) : xMet l D cA bs yJ6_bitCount_0f7a4 cJ6_bitCount_0f7a4 1 (Option.some Jvm.ClassFile.FieldType.int) rm_J6_bitCount_0f7a4 [.int x1] Ω Ω (some (.int rF)) 0 0 := by
  refine xMet.of RJ6 rfl (by decide +kernel) (Nat.le_of_ble_eq_true rfl) ?_
  intro p e s m args below meth c C hr hnm
  unfold f_J6_bitCount_0f7a4 at h
  refine x_sub (L' := [(0, .int x1)]) [0] rfl ?_
  refine x_iload_n C dJ6_bitCount_0f7a4_0 rfl (q := 0) rfl ?_
  refine x_iload_n C dJ6_bitCount_0f7a4_1 rfl (q := 0) rfl ?_
  refine x_iconst C (v := 1) dJ6_bitCount_0f7a4_2 (by decide) ?_
  refine x_iushr C (v := iushr _ _) dJ6_bitCount_0f7a4_3 rfl ?_
  refine x_ldc_w C wc_J6_265 dJ6_bitCount_0f7a4_4 ?_
  refine x_iand C dJ6_bitCount_0f7a4_7 ?_
  refine x_isub C dJ6_bitCount_0f7a4_8 ?_
  refine x_letI h (fun v1 h => ?_)
  refine x_istore_n C (L' := [(0, .int v1)]) dJ6_bitCount_0f7a4_9 rfl (by decide) rfl ?_
  refine x_iload_n C dJ6_bitCount_0f7a4_10 rfl (q := 0) rfl ?_
  refine x_ldc_w C wc_J6_266 dJ6_bitCount_0f7a4_11 ?_
  refine x_iand C dJ6_bitCount_0f7a4_14 ?_
  refine x_iload_n C dJ6_bitCount_0f7a4_15 rfl (q := 0) rfl ?_
  refine x_iconst C (v := 2) dJ6_bitCount_0f7a4_16 (by decide) ?_
  refine x_iushr C (v := iushr _ _) dJ6_bitCount_0f7a4_17 rfl ?_
  refine x_ldc_w C wc_J6_266 dJ6_bitCount_0f7a4_18 ?_
  refine x_iand C dJ6_bitCount_0f7a4_21 ?_
  refine x_iadd C dJ6_bitCount_0f7a4_22 ?_
  refine x_letI h (fun v2 h => ?_)
  refine x_istore_n C (L' := [(0, .int v2)]) dJ6_bitCount_0f7a4_23 rfl (by decide) rfl ?_
  refine x_iload_n C dJ6_bitCount_0f7a4_24 rfl (q := 0) rfl ?_
  refine x_iload_n C dJ6_bitCount_0f7a4_25 rfl (q := 0) rfl ?_
  refine x_iconst C (v := 4) dJ6_bitCount_0f7a4_26 (by decide) ?_
  refine x_iushr C (v := iushr _ _) dJ6_bitCount_0f7a4_27 rfl ?_
  refine x_iadd C dJ6_bitCount_0f7a4_28 ?_
  refine x_ldc_w C wc_J6_267 dJ6_bitCount_0f7a4_29 ?_
  refine x_iand C dJ6_bitCount_0f7a4_32 ?_
  refine x_letI h (fun v3 h => ?_)
  refine x_istore_n C (L' := [(0, .int v3)]) dJ6_bitCount_0f7a4_33 rfl (by decide) rfl ?_
  refine x_iload_n C dJ6_bitCount_0f7a4_34 rfl (q := 0) rfl ?_
  refine x_iload_n C dJ6_bitCount_0f7a4_35 rfl (q := 0) rfl ?_
  refine x_bipush C (v := 8) dJ6_bitCount_0f7a4_36 (by decide) ?_
  refine x_iushr C (v := iushr _ _) dJ6_bitCount_0f7a4_38 rfl ?_
  refine x_iadd C dJ6_bitCount_0f7a4_39 ?_
  refine x_letI h (fun v4 h => ?_)
  refine x_istore_n C (L' := [(0, .int v4)]) dJ6_bitCount_0f7a4_40 rfl (by decide) rfl ?_
  refine x_iload_n C dJ6_bitCount_0f7a4_41 rfl (q := 0) rfl ?_
  refine x_iload_n C dJ6_bitCount_0f7a4_42 rfl (q := 0) rfl ?_
  refine x_bipush C (v := 16) dJ6_bitCount_0f7a4_43 (by decide) ?_
  refine x_iushr C (v := iushr _ _) dJ6_bitCount_0f7a4_45 rfl ?_
  refine x_iadd C dJ6_bitCount_0f7a4_46 ?_
  refine x_letI h (fun v5 h => ?_)
  refine x_istore_n C (L' := [(0, .int v5)]) dJ6_bitCount_0f7a4_47 rfl (by decide) rfl ?_
  refine x_iload_n C dJ6_bitCount_0f7a4_48 rfl (q := 0) rfl ?_
  refine x_bipush C (v := 63) dJ6_bitCount_0f7a4_49 (by decide) ?_
  refine x_iand C dJ6_bitCount_0f7a4_51 ?_
  cases h
  exact xr_i C hr dJ6_bitCount_0f7a4_52 (fun _ h => h)
def f_X7_isMajority (z : Nat → Nat) (σ : Sg) (x1 : Int32) : Option Int32 :=
  bnd1 (f_J6_bitCount_0f7a4 x1) fun r2 => gnz 2 <| if r2 ≤ ((nI (z 1)) / 2) then (some (0)) else (some (1))
def rm_X7_isMajority : Room := { frames := 1, cells := 0, slots := 0, locals := 20 }
set_option maxRecDepth 100000 in
set_option maxHeartbeats 4000000 in
theorem m_X7_isMajority {l : Launch} {G : xG} {z : Nat → Nat} {σ : Sg} {τ : Tg} {x1 : Int32} {rF : Int32} (h : f_X7_isMajority z σ x1 = some (rF)) : xMet l (xD G) (xcA G) (xbs G) yX7_isMajority cX7_isMajority 2 (Option.some Jvm.ClassFile.FieldType.boolean) rm_X7_isMajority [.ref (xad G 1 0 0), .int x1] (xRep G z σ τ) (xRep G z σ τ) (some (.int rF)) 0 0 := by
  refine xMet.of RX7 rfl (by decide +kernel) (Nat.le_of_ble_eq_true rfl) ?_
  intro p e s m args below meth c C hr hnm
  unfold f_X7_isMajority at h
  refine x_sub (L' := [(0, .ref (xad G 1 0 0)), (1, .int x1)]) [0, 1] rfl ?_
  refine x_iload_n C dX7_isMajority_0 rfl (q := 1) rfl ?_
  obtain ⟨r2, hq1, h⟩ := bnd1_some h
  refine x_callS_i C (m_J6_bitCount_0f7a4 hq1) ws_X7_44 rfl (Nat.le_of_ble_eq_true rfl) ⟨⟨rfl, rfl⟩, Nat.le_of_ble_eq_true rfl, Nat.le_of_ble_eq_true rfl⟩ dX7_isMajority_1 rfl ?_
  refine x_aload_n C dX7_isMajority_4 rfl (q := 0) rfl ?_
  refine x_get C cl_X7 1 (by decide) fl_X7_21_X7 (dm_1 z) rfl rfl dX7_isMajority_5 ?_
  refine x_iconst C (v := 2) dX7_isMajority_8 (by decide) ?_
  refine x_idiv C dX7_isMajority_9 h (fun h => ?_)
  refine x_icmp_le C (tgt := 17) dX7_isMajority_10 (by decide) h (fun hc3 h => ?_) (fun hc3 h => ?_)
  · refine x_iconst C (v := 0) dX7_isMajority_17 (by decide) ?_
    cases h
    exact xr_z C (by decide) hr dX7_isMajority_18 (fun _ h => h)
  · refine x_iconst C (v := 1) dX7_isMajority_13 (by decide) ?_
    refine x_goto C (tgt := 18) dX7_isMajority_14 (by decide) ?_
    cases h
    exact xr_z C (by decide) hr dX7_isMajority_18 (fun _ h => h)
def f_X3_tell_L2 (z : Nat → Nat) (i : Nat) (ai : Nat) (ti : Nat) : Nat → Int32 → Sg → Option Sg
  | 0, _, _ => none
  | n + 1, y1, s2 => if (nI (z 0)) ≤ y1 then (some (s2)) else (gdx y1 (z 0) fun k7 => letv (s2.1 28 ai ti k7) fun v8 => gdx y1 (z 0) fun k9 => letv (upI s2 14 i 0 k9 v8) fun s10 => gdx y1 (z 0) fun k11 => letv (s10.1 29 ai ti k11) fun v12 => gdx y1 (z 0) fun k13 => letv (upI s10 15 i 0 k13 v12) fun s14 => letv (y1 + 1) fun v15 => f_X3_tell_L2 z i ai ti n v15 s14)
def f_X3_tell (z : Nat → Nat) (σ : Sg) (i : Nat) (ai : Nat) (ti : Nat) : Option Sg :=
  bnd1 (f_X3_tell_L2 z i ai ti FU 0 σ) fun (s3 : Sg) => some (s3)
def rm_X3_tell : Room := { frames := 0, cells := 0, slots := 0, locals := 0 }
set_option maxRecDepth 100000 in
set_option maxHeartbeats 4000000 in
theorem m_X3_tell {l : Launch} {G : xG} {z : Nat → Nat} {σ : Sg} {τ : Tg} {i : Nat} {ai : Nat} {ti : Nat} {sF : Sg} (hi : i < z 4 + 2) (hai : ai < z 1) (hti : ti < z 2) (h : f_X3_tell z σ i ai ti = some (sF)) : xMet l (xD G) (xcA G) (xbs G) yX3_tell cX3_tell 4 (Option.none : Option Jvm.ClassFile.FieldType) rm_X3_tell [.ref (xad G 13 i 0), .ref (xad G 28 ai ti), .ref (xad G 29 ai ti)] (xRep G z σ τ) (xRep G z sF τ) none 0 0 := by
  refine xMet.of RX3 rfl (by decide +kernel) (Nat.le_of_ble_eq_true rfl) ?_
  intro p e s m args below meth c C hr hnm
  unfold f_X3_tell at h
  refine x_sub (L' := [(0, .ref (xad G 13 i 0)), (1, .ref (xad G 28 ai ti)), (2, .ref (xad G 29 ai ti))]) [0, 1, 2] rfl ?_
  refine x_iconst C (v := 0) dX3_tell_0 (by decide) ?_
  refine x_istore_n C (L' := [(3, .int 0), (0, .ref (xad G 13 i 0)), (1, .ref (xad G 28 ai ti)), (2, .ref (xad G 29 ai ti))]) dX3_tell_1 rfl (by decide) rfl ?_
  obtain ⟨s3, hv5, h⟩ := bnd1_some h
  refine x_join (Ω' := (xRep G z s3 τ)) (pc' := 35) (L' := []) (st' := []) ?_ (fun hj4 => ?_)
  · cases h
    exact xr_v C hr dX3_tell_35 (fun _ h => h)
  · have hl16 : ∀ (n : Nat) (y1 : Int32) (s2 : Sg), f_X3_tell_L2 z i ai ti n y1 s2 = some (s3) → XW p l e rm_X3_tell s m args below meth c 0 0 4 (xbs G) (xQ below args s (xbs G) none (xRep G z sF τ) 0 0) (xRep G z s2 τ) 2 [(0, .ref (xad G 13 i 0)), (1, .ref (xad G 28 ai ti)), (2, .ref (xad G 29 ai ti)), (3, .int y1)] [] := by
      intro n
      induction n with
      | zero =>
        intro y1 s2 h
        exact absurd h (by rw [f_X3_tell_L2]; intro q; cases q)
      | succ n ih =>
        intro y1 s2 h
        rw [f_X3_tell_L2] at h
        refine x_iload_n C dX3_tell_2 rfl (q := 3) rfl ?_
        refine x_aload_n C dX3_tell_3 rfl (q := 0) rfl ?_
        refine x_get C cl_X3 7 (by decide) fl_X3_9_X3 (dm_13 hi) rfl rfl dX3_tell_4 ?_
        refine x_alen C 0 rfl (dm_14 hi) rfl dX3_tell_7 ?_
        refine x_icmp_ge C (tgt := 35) dX3_tell_8 (by decide) h (fun hc6 h => ?_) (fun hc6 h => ?_)
        · cases h
          exact x_sub [] rfl hj4
        · refine x_aload_n C dX3_tell_11 rfl (q := 0) rfl ?_
          refine x_get C cl_X3 7 (by decide) fl_X3_9_X3 (dm_13 hi) rfl rfl dX3_tell_12 ?_
          refine x_iload_n C dX3_tell_15 rfl (q := 3) rfl ?_
          refine x_aload_n C dX3_tell_16 rfl (q := 1) rfl ?_
          refine x_iload_n C dX3_tell_17 rfl (q := 3) rfl ?_
          refine x_iald C (dm_28 hai hti) (fun _ _ _ => rfl) dX3_tell_18 h (fun k7 hk7 h => ?_)
          refine x_letI h (fun v8 h => ?_)
          refine x_iast C (dm_14 hi) (fun _ _ _ => rfl) dX3_tell_19 h (fun k9 hk9 h => ?_)
          refine x_letS h (fun s10 h => ?_)
          refine x_aload_n C dX3_tell_20 rfl (q := 0) rfl ?_
          refine x_get C cl_X3 8 (by decide) fl_X3_15_X3 (dm_13 hi) rfl rfl dX3_tell_21 ?_
          refine x_iload_n C dX3_tell_24 rfl (q := 3) rfl ?_
          refine x_aload_n C dX3_tell_25 rfl (q := 2) rfl ?_
          refine x_iload_n C dX3_tell_26 rfl (q := 3) rfl ?_
          refine x_iald C (dm_29 hai hti) (fun _ _ _ => rfl) dX3_tell_27 h (fun k11 hk11 h => ?_)
          refine x_letI h (fun v12 h => ?_)
          refine x_iast C (dm_15 hi) (fun _ _ _ => rfl) dX3_tell_28 h (fun k13 hk13 h => ?_)
          refine x_letS h (fun s14 h => ?_)
          refine x_iincL C (w := 1) (L' := fun v15 => [(3, .int v15), (0, .ref (xad G 13 i 0)), (1, .ref (xad G 28 ai ti)), (2, .ref (xad G 29 ai ti))]) dX3_tell_29 (k := 3) rfl (by decide) (by decide) (fun _ => rfl) h (fun v15 h => ?_)
          refine x_goto C (tgt := 2) dX3_tell_32 (by decide) ?_
          exact x_sub [1, 2, 3, 0] rfl (ih _ _ h)
    exact x_sub [1, 2, 3, 0] rfl (hl16 FU _ _ hv5)
def f_J9_floorMod_7cf53 (x1 : Int32) (x2 : Int32) : Option Int32 :=
  gnz x2 <| letv (x1 - x1 / x2 * x2) fun v1 => if 0 ≤ (x1 ^^^ x2) then (some (v1)) else (if v1 = 0 then (some (v1)) else (some (v1 + x2)))
def rm_J9_floorMod_7cf53 : Room := { frames := 0, cells := 0, slots := 0, locals := 0 }
set_option maxRecDepth 100000 in
set_option maxHeartbeats 4000000 in
theorem m_J9_floorMod_7cf53 {l : Launch} {D : va_G} {cA : Nat → ClassId} {bs : Nat} {Ω : Heap → Prop} {x1 : Int32} {x2 : Int32} {rF : Int32} (h : f_J9_floorMod_7cf53 x1 x2 = some (rF)) : xMet l D cA bs yJ9_floorMod_7cf53 cJ9_floorMod_7cf53 3 (Option.some Jvm.ClassFile.FieldType.int) rm_J9_floorMod_7cf53 [.int x1, .int x2] Ω Ω (some (.int rF)) 0 0 := by
  refine xMet.of RJ9 rfl (by decide +kernel) (Nat.le_of_ble_eq_true rfl) ?_
  intro p e s m args below meth c C hr hnm
  unfold f_J9_floorMod_7cf53 at h
  refine x_sub (L' := [(0, .int x1), (1, .int x2)]) [0, 1] rfl ?_
  refine x_iload_n C dJ9_floorMod_7cf53_0 rfl (q := 0) rfl ?_
  refine x_iload_n C dJ9_floorMod_7cf53_1 rfl (q := 1) rfl ?_
  refine x_irem C dJ9_floorMod_7cf53_2 h (fun h => ?_)
  refine x_letI h (fun v1 h => ?_)
  refine x_istore_n C (L' := [(2, .int v1), (0, .int x1), (1, .int x2)]) dJ9_floorMod_7cf53_3 rfl (by decide) rfl ?_
  refine x_iload_n C dJ9_floorMod_7cf53_4 rfl (q := 1) rfl ?_
  refine x_iload_n C dJ9_floorMod_7cf53_5 rfl (q := 2) rfl ?_
  refine x_ixor C dJ9_floorMod_7cf53_6 ?_
  refine x_if_ge C (tgt := 18) dJ9_floorMod_7cf53_7 (by decide) h (fun hc2 h => ?_) (fun hc2 h => ?_)
  · refine x_iload_n C dJ9_floorMod_7cf53_18 rfl (q := 0) rfl ?_
    cases h
    exact xr_i C hr dJ9_floorMod_7cf53_19 (fun _ h => h)
  · refine x_iload_n C dJ9_floorMod_7cf53_10 rfl (q := 0) rfl ?_
    refine x_if_eq C (tgt := 18) dJ9_floorMod_7cf53_11 (by decide) h (fun hc3 h => ?_) (fun hc3 h => ?_)
    · refine x_iload_n C dJ9_floorMod_7cf53_18 rfl (q := 0) rfl ?_
      cases h
      exact xr_i C hr dJ9_floorMod_7cf53_19 (fun _ h => h)
    · refine x_iload_n C dJ9_floorMod_7cf53_14 rfl (q := 0) rfl ?_
      refine x_iload_n C dJ9_floorMod_7cf53_15 rfl (q := 2) rfl ?_
      refine x_iadd C dJ9_floorMod_7cf53_16 ?_
      cases h
      exact xr_i C hr dJ9_floorMod_7cf53_17 (fun _ h => h)
def f_X3_told (z : Nat → Nat) (σ : Sg) (i : Nat) (x1 : Int32) : Option Int32 :=
  if x1 = 0 then (letv (σ.1 13 i 0 0) fun v2 => some (v2)) else (if x1 = 1 then (letv (σ.1 13 i 0 1) fun v4 => some (v4)) else (if x1 = 2 then (letv (σ.1 13 i 0 2) fun v6 => some (v6)) else (if x1 = 3 then (letv (σ.1 13 i 0 3) fun v8 => some (v8)) else (if x1 = 4 then (letv (σ.1 13 i 0 4) fun v10 => some (v10)) else (if x1 = 5 then (letv (σ.1 13 i 0 5) fun v12 => some (v12)) else (if x1 = 6 then (letv (σ.1 13 i 0 6) fun v14 => some (v14)) else (some ((-1)))))))))
def rm_X3_told : Room := { frames := 0, cells := 0, slots := 0, locals := 0 }
set_option maxRecDepth 100000 in
set_option maxHeartbeats 4000000 in
theorem m_X3_told {l : Launch} {G : xG} {z : Nat → Nat} {σ : Sg} {τ : Tg} {i : Nat} {x1 : Int32} {rF : Int32} (hi : i < z 4 + 2) (h : f_X3_told z σ i x1 = some (rF)) : xMet l (xD G) (xcA G) (xbs G) yX3_told cX3_told 2 (Option.some Jvm.ClassFile.FieldType.int) rm_X3_told [.ref (xad G 13 i 0), .int x1] (xRep G z σ τ) (xRep G z σ τ) (some (.int rF)) 0 0 := by
  refine xMet.of RX3 rfl (by decide +kernel) (Nat.le_of_ble_eq_true rfl) ?_
  intro p e s m args below meth c C hr hnm
  unfold f_X3_told at h
  refine x_sub (L' := [(0, .ref (xad G 13 i 0)), (1, .int x1)]) [0, 1] rfl ?_
  refine x_iload_n C dX3_told_0 rfl (q := 1) rfl ?_
  refine x_ite h (fun hc1 h => ?_) (fun hc1 h => ?_)
  · refine x_tableIn C (off := 43) (tgt := 44) dX3_told_1 0 hc1 (by decide) (by decide) rfl (by decide) ?_
    refine x_aload_n C dX3_told_44 rfl (q := 0) rfl ?_
    refine x_get C cl_X3 0 (by decide) fl_X3_18_X3 (dm_13 hi) rfl rfl dX3_told_45 ?_
    refine x_letI h (fun v2 h => ?_)
    cases h
    exact xr_i C hr dX3_told_48 (fun _ h => h)
  · refine x_ite h (fun hc3 h => ?_) (fun hc3 h => ?_)
    · refine x_tableIn C (off := 48) (tgt := 49) dX3_told_1 1 hc3 (by decide) (by decide) rfl (by decide) ?_
      refine x_aload_n C dX3_told_49 rfl (q := 0) rfl ?_
      refine x_get C cl_X3 1 (by decide) fl_X3_22_X3 (dm_13 hi) rfl rfl dX3_told_50 ?_
      refine x_letI h (fun v4 h => ?_)
      cases h
      exact xr_i C hr dX3_told_53 (fun _ h => h)
    · refine x_ite h (fun hc5 h => ?_) (fun hc5 h => ?_)
      · refine x_tableIn C (off := 53) (tgt := 54) dX3_told_1 2 hc5 (by decide) (by decide) rfl (by decide) ?_
        refine x_aload_n C dX3_told_54 rfl (q := 0) rfl ?_
        refine x_get C cl_X3 2 (by decide) fl_X3_25_X3 (dm_13 hi) rfl rfl dX3_told_55 ?_
        refine x_letI h (fun v6 h => ?_)
        cases h
        exact xr_i C hr dX3_told_58 (fun _ h => h)
      · refine x_ite h (fun hc7 h => ?_) (fun hc7 h => ?_)
        · refine x_tableIn C (off := 58) (tgt := 59) dX3_told_1 3 hc7 (by decide) (by decide) rfl (by decide) ?_
          refine x_aload_n C dX3_told_59 rfl (q := 0) rfl ?_
          refine x_get C cl_X3 3 (by decide) fl_X3_28_X3 (dm_13 hi) rfl rfl dX3_told_60 ?_
          refine x_letI h (fun v8 h => ?_)
          cases h
          exact xr_i C hr dX3_told_63 (fun _ h => h)
        · refine x_ite h (fun hc9 h => ?_) (fun hc9 h => ?_)
          · refine x_tableIn C (off := 63) (tgt := 64) dX3_told_1 4 hc9 (by decide) (by decide) rfl (by decide) ?_
            refine x_aload_n C dX3_told_64 rfl (q := 0) rfl ?_
            refine x_get C cl_X3 4 (by decide) fl_X3_31_X3 (dm_13 hi) rfl rfl dX3_told_65 ?_
            refine x_letI h (fun v10 h => ?_)
            cases h
            exact xr_i C hr dX3_told_68 (fun _ h => h)
          · refine x_ite h (fun hc11 h => ?_) (fun hc11 h => ?_)
            · refine x_tableIn C (off := 68) (tgt := 69) dX3_told_1 5 hc11 (by decide) (by decide) rfl (by decide) ?_
              refine x_aload_n C dX3_told_69 rfl (q := 0) rfl ?_
              refine x_get C cl_X3 5 (by decide) fl_X3_34_X3 (dm_13 hi) rfl rfl dX3_told_70 ?_
              refine x_letI h (fun v12 h => ?_)
              cases h
              exact xr_i C hr dX3_told_73 (fun _ h => h)
            · refine x_ite h (fun hc13 h => ?_) (fun hc13 h => ?_)
              · refine x_tableIn C (off := 73) (tgt := 74) dX3_told_1 6 hc13 (by decide) (by decide) rfl (by decide) ?_
                refine x_aload_n C dX3_told_74 rfl (q := 0) rfl ?_
                refine x_get C cl_X3 6 (by decide) fl_X3_37_X3 (dm_13 hi) rfl rfl dX3_told_75 ?_
                refine x_letI h (fun v14 h => ?_)
                cases h
                exact xr_i C hr dX3_told_78 (fun _ h => h)
              · refine x_tableOut C (tgt := 79) dX3_told_1 (by have a0 := xI_ne (k := 0) 0 (by decide) hc1; have a1 := xI_ne (k := 1) 1 (by decide) hc3; have a2 := xI_ne (k := 2) 2 (by decide) hc5; have a3 := xI_ne (k := 3) 3 (by decide) hc7; have a4 := xI_ne (k := 4) 4 (by decide) hc9; have a5 := xI_ne (k := 5) 5 (by decide) hc11; have a6 := xI_ne (k := 6) 6 (by decide) hc13; omega) (by decide) ?_
                refine x_iconst C (v := (-1)) dX3_told_79 (by decide) ?_
                cases h
                exact xr_i C hr dX3_told_80 (fun _ h => h)
def f_X2_told (z : Nat → Nat) (σ : Sg) (i : Nat) (x1 : Int32) (x2 : Int32) : Option Int32 :=
  if x1 < 0 then (some ((-1))) else (letv (σ.1 18 i 0 1) fun v2 => if v2 ≤ x1 then (some ((-1))) else (if x2 < 0 then (some ((-1))) else (if 4 ≤ x2 then (some ((-1))) else (gdx x1 (z 5) fun k6 => gdx x2 4 fun k7 => letv (σ.1 20 i k6 k7) fun v8 => some (v8)))))
def rm_X2_told : Room := { frames := 0, cells := 0, slots := 0, locals := 0 }
set_option maxRecDepth 100000 in
set_option maxHeartbeats 4000000 in
theorem m_X2_told {l : Launch} {G : xG} {z : Nat → Nat} {σ : Sg} {τ : Tg} {i : Nat} {x1 : Int32} {x2 : Int32} {rF : Int32} (hi : i < z 0 + z 1) (h : f_X2_told z σ i x1 x2 = some (rF)) : xMet l (xD G) (xcA G) (xbs G) yX2_told cX2_told 3 (Option.some Jvm.ClassFile.FieldType.int) rm_X2_told [.ref (xad G 18 i 0), .int x1, .int x2] (xRep G z σ τ) (xRep G z σ τ) (some (.int rF)) 0 0 := by
  refine xMet.of RX2 rfl (by decide +kernel) (Nat.le_of_ble_eq_true rfl) ?_
  intro p e s m args below meth c C hr hnm
  unfold f_X2_told at h
  refine x_sub (L' := [(0, .ref (xad G 18 i 0)), (1, .int x1), (2, .int x2)]) [0, 1, 2] rfl ?_
  refine x_iload_n C dX2_told_0 rfl (q := 1) rfl ?_
  refine x_if_lt C (tgt := 32) dX2_told_1 (by decide) h (fun hc1 h => ?_) (fun hc1 h => ?_)
  · refine x_iconst C (v := (-1)) dX2_told_32 (by decide) ?_
    cases h
    exact xr_i C hr dX2_told_33 (fun _ h => h)
  · refine x_iload_n C dX2_told_4 rfl (q := 1) rfl ?_
    refine x_aload_n C dX2_told_5 rfl (q := 0) rfl ?_
    refine x_get C cl_X2 1 (by decide) fl_X2_16_X2 (dm_18 hi) rfl rfl dX2_told_6 ?_
    refine x_letI h (fun v2 h => ?_)
    refine x_icmp_ge C (tgt := 32) dX2_told_9 (by decide) h (fun hc3 h => ?_) (fun hc3 h => ?_)
    · refine x_iconst C (v := (-1)) dX2_told_32 (by decide) ?_
      cases h
      exact xr_i C hr dX2_told_33 (fun _ h => h)
    · refine x_iload_n C dX2_told_12 rfl (q := 2) rfl ?_
      refine x_if_lt C (tgt := 32) dX2_told_13 (by decide) h (fun hc4 h => ?_) (fun hc4 h => ?_)
      · refine x_iconst C (v := (-1)) dX2_told_32 (by decide) ?_
        cases h
        exact xr_i C hr dX2_told_33 (fun _ h => h)
      · refine x_iload_n C dX2_told_16 rfl (q := 2) rfl ?_
        refine x_iconst C (v := 4) dX2_told_17 (by decide) ?_
        refine x_icmp_ge C (tgt := 32) dX2_told_18 (by decide) h (fun hc5 h => ?_) (fun hc5 h => ?_)
        · refine x_iconst C (v := (-1)) dX2_told_32 (by decide) ?_
          cases h
          exact xr_i C hr dX2_told_33 (fun _ h => h)
        · refine x_aload_n C dX2_told_21 rfl (q := 0) rfl ?_
          refine x_get C cl_X2 0 (by decide) fl_X2_11_X2 (dm_18 hi) rfl rfl dX2_told_22 ?_
          refine x_iload_n C dX2_told_25 rfl (q := 1) rfl ?_
          refine x_aald C 3 rfl rfl (dm_19 hi) rfl dX2_told_26 h (fun k6 hk6 h => ?_)
          refine x_iload_n C dX2_told_27 rfl (q := 2) rfl ?_
          refine x_iald C (dm_20 hi hk6) (fun _ _ _ => rfl) dX2_told_28 h (fun k7 hk7 h => ?_)
          refine x_letI h (fun v8 h => ?_)
          refine x_goto C (tgt := 33) dX2_told_29 (by decide) ?_
          cases h
          exact xr_i C hr dX2_told_33 (fun _ h => h)
def f_X8_in_L14 (z : Nat → Nat) (σ : Sg) (x1 : Int32) (v1 : Int32) : Nat → Int32 → Int32 → Option Int32
  | 0, _, _ => none
  | n + 1, y2, y3 => if v1 ≤ y3 then (some (y2)) else (gdx y3 (z 2) fun k8 => letv (σ.1 3 0 0 k8) fun v9 => if v9 = x1 then (letv (y2 + 1) fun v12 => letv (y3 + 1) fun v13 => f_X8_in_L14 z σ x1 v1 n v12 v13) else (letv (y3 + 1) fun v11 => f_X8_in_L14 z σ x1 v1 n y2 v11))
def f_X8_in (z : Nat → Nat) (σ : Sg) (x1 : Int32) : Option Int32 :=
  letv (nI (z 2)) fun v1 => bnd1 (f_X8_in_L14 z σ x1 v1 FU 0 0) fun (v4 : Int32) => some (v4)
def rm_X8_in : Room := { frames := 0, cells := 0, slots := 0, locals := 0 }
set_option maxRecDepth 100000 in
set_option maxHeartbeats 4000000 in
theorem m_X8_in {l : Launch} {G : xG} {z : Nat → Nat} {σ : Sg} {τ : Tg} {x1 : Int32} {rF : Int32} (h : f_X8_in z σ x1 = some (rF)) : xMet l (xD G) (xcA G) (xbs G) yX8_in cX8_in 7 (Option.some Jvm.ClassFile.FieldType.int) rm_X8_in [.ref (xad G 2 0 0), .int x1] (xRep G z σ τ) (xRep G z σ τ) (some (.int rF)) 0 0 := by
  refine xMet.of RX8 rfl (by decide +kernel) (Nat.le_of_ble_eq_true rfl) ?_
  intro p e s m args below meth c C hr hnm
  unfold f_X8_in at h
  refine x_sub (L' := [(0, .ref (xad G 2 0 0)), (1, .int x1)]) [0, 1] rfl ?_
  refine x_iconst C (v := 0) dX8_in_0 (by decide) ?_
  refine x_istore_n C (L' := [(2, .int 0), (0, .ref (xad G 2 0 0)), (1, .int x1)]) dX8_in_1 rfl (by decide) rfl ?_
  refine x_aload_n C dX8_in_2 rfl (q := 1) rfl ?_
  refine x_get C cl_X8 0 (by decide) fl_X8_15_X8 (dm_2 z) rfl rfl dX8_in_3 ?_
  refine x_astore_n C (L' := [(3, .ref (xad G 3 0 0)), (2, .int 0), (0, .ref (xad G 2 0 0)), (1, .int x1)]) dX8_in_6 rfl (by decide) rfl ?_
  refine x_aload_n C dX8_in_7 rfl (q := 0) rfl ?_
  refine x_alen C 0 rfl (dm_3 z) rfl dX8_in_8 ?_
  refine x_letI h (fun v1 h => ?_)
  refine x_istore C (L' := [(4, .int v1), (3, .ref (xad G 3 0 0)), (2, .int 0), (0, .ref (xad G 2 0 0)), (1, .int x1)]) dX8_in_9 (by decide) rfl ?_
  refine x_iconst C (v := 0) dX8_in_11 (by decide) ?_
  refine x_istore C (L' := [(5, .int 0), (4, .int v1), (3, .ref (xad G 3 0 0)), (2, .int 0), (0, .ref (xad G 2 0 0)), (1, .int x1)]) dX8_in_12 (by decide) rfl ?_
  obtain ⟨v4, hv6, h⟩ := bnd1_some h
  refine x_join (Ω' := (xRep G z σ τ)) (pc' := 42) (L' := [(2, .int v4)]) (st' := []) ?_ (fun hj5 => ?_)
  · refine x_iload_n C dX8_in_42 rfl (q := 0) rfl ?_
    cases h
    exact xr_i C hr dX8_in_43 (fun _ h => h)
  · have hl14 : ∀ (n : Nat) (y2 : Int32) (y3 : Int32), f_X8_in_L14 z σ x1 v1 n y2 y3 = some (v4) → XW p l e rm_X8_in s m args below meth c 0 0 7 (xbs G) (xQ below args s (xbs G) (some (.int rF)) (xRep G z σ τ) 0 0) (xRep G z σ τ) 14 [(1, .int x1), (2, .int y2), (3, .ref (xad G 3 0 0)), (4, .int v1), (5, .int y3)] [] := by
      intro n
      induction n with
      | zero =>
        intro y2 y3 h
        exact absurd h (by rw [f_X8_in_L14]; intro q; cases q)
      | succ n ih =>
        intro y2 y3 h
        rw [f_X8_in_L14] at h
        refine x_iload C dX8_in_14 (q := 4) rfl ?_
        refine x_iload C dX8_in_16 (q := 3) rfl ?_
        refine x_icmp_ge C (tgt := 42) dX8_in_18 (by decide) h (fun hc7 h => ?_) (fun hc7 h => ?_)
        · cases h
          exact x_sub [1] rfl hj5
        · refine x_aload_n C dX8_in_21 rfl (q := 2) rfl ?_
          refine x_iload C dX8_in_22 (q := 4) rfl ?_
          refine x_iald C (dm_3 z) (fun _ _ _ => rfl) dX8_in_24 h (fun k8 hk8 h => ?_)
          refine x_letI h (fun v9 h => ?_)
          refine x_istore C (L' := [(6, .int v9), (1, .int x1), (2, .int y2), (3, .ref (xad G 3 0 0)), (4, .int v1), (5, .int y3)]) dX8_in_25 (by decide) rfl ?_
          refine x_iload C dX8_in_27 (q := 0) rfl ?_
          refine x_iload_n C dX8_in_29 rfl (q := 1) rfl ?_
          refine x_icmp_ne C (tgt := 36) dX8_in_30 (by decide) h (fun hc10 h => ?_) (fun hc10 h => ?_)
          · refine x_iincL C (w := 1) (L' := fun v11 => [(5, .int v11), (6, .int v9), (1, .int x1), (2, .int y2), (3, .ref (xad G 3 0 0)), (4, .int v1)]) dX8_in_36 (k := 5) rfl (by decide) (by decide) (fun _ => rfl) h (fun v11 h => ?_)
            refine x_goto C (tgt := 14) dX8_in_39 (by decide) ?_
            exact x_sub [2, 3, 4, 5, 0] rfl (ih _ _ h)
          · refine x_iincL C (w := 1) (L' := fun v12 => [(2, .int v12), (6, .int v9), (1, .int x1), (3, .ref (xad G 3 0 0)), (4, .int v1), (5, .int y3)]) dX8_in_33 (k := 2) rfl (by decide) (by decide) (fun _ => rfl) h (fun v12 h => ?_)
            refine x_iincL C (w := 1) (L' := fun v13 => [(5, .int v13), (2, .int v12), (6, .int v9), (1, .int x1), (3, .ref (xad G 3 0 0)), (4, .int v1)]) dX8_in_36 (k := 5) rfl (by decide) (by decide) (fun _ => rfl) h (fun v13 h => ?_)
            refine x_goto C (tgt := 14) dX8_in_39 (by decide) ?_
            exact x_sub [3, 1, 4, 5, 0] rfl (ih _ _ h)
    exact x_sub [5, 3, 2, 1, 0] rfl (hl14 FU _ _ hv6)
