def f_X1_canGrant_L3 (z : Nat → Nat) (σ : Sg) (x1 : Int32) (x2 : Int32) (x3 : Int32) : Nat → Int32 → Option Int32
  | 0, _ => none
  | n + 1, y1 => if (nI (z 2)) ≤ y1 then (some (1)) else (gdx y1 (z 2) fun k3 => gdx x2 (z 3) fun k4 => letv (σ.1 8 k3 0 k4) fun v5 => if y1 = x1 then (letv (y1 + 1) fun v7 => f_X1_canGrant_L3 z σ x1 x2 x3 n v7) else (if v5 = 2 then (some (0)) else (if v5 = 1 then (if x3 = 2 then (some (0)) else (letv (y1 + 1) fun v12 => f_X1_canGrant_L3 z σ x1 x2 x3 n v12)) else (letv (y1 + 1) fun v10 => f_X1_canGrant_L3 z σ x1 x2 x3 n v10))))
def f_X1_canGrant (z : Nat → Nat) (σ : Sg) (x1 : Int32) (x2 : Int32) (x3 : Int32) : Option Int32 :=
  f_X1_canGrant_L3 z σ x1 x2 x3 FU 0
def rm_X1_canGrant : Room := { frames := 0, cells := 0, slots := 0, locals := 0 }
set_option maxRecDepth 100000 in
set_option maxHeartbeats 4000000 in
theorem m_X1_canGrant {l : Launch} {G : xG} {z : Nat → Nat} {σ : Sg} {τ : Tg} {x1 : Int32} {x2 : Int32} {x3 : Int32} {rF : Int32} (h : f_X1_canGrant z σ x1 x2 x3 = some (rF)) : xMet l (xD G) (xcA G) (xbs G) yX1_canGrant cX1_canGrant 6 (Option.some Jvm.ClassFile.FieldType.boolean) rm_X1_canGrant [.ref (xad G 5 0 0), .int x1, .int x2, .int x3] (xRep G z σ τ) (xRep G z σ τ) (some (.int rF)) 0 0 := by
  refine xMet.of RX1 rfl (by decide +kernel) (Nat.le_of_ble_eq_true rfl) ?_
  intro p e s m args below meth c C hr hnm
  unfold f_X1_canGrant at h
  refine x_sub (L' := [(0, .ref (xad G 5 0 0)), (1, .int x1), (2, .int x2), (3, .int x3)]) [0, 1, 2, 3] rfl ?_
  refine x_iconst C (v := 0) dX1_canGrant_0 (by decide) ?_
  refine x_istore C (L' := [(4, .int 0), (0, .ref (xad G 5 0 0)), (1, .int x1), (2, .int x2), (3, .int x3)]) dX1_canGrant_1 (by decide) rfl ?_
  have hl13 : ∀ (n : Nat) (y1 : Int32), f_X1_canGrant_L3 z σ x1 x2 x3 n y1 = some (rF) → XW p l e rm_X1_canGrant s m args below meth c 0 0 6 (xbs G) (xQ below args s (xbs G) (some (.int rF)) (xRep G z σ τ) 0 0) (xRep G z σ τ) 3 [(0, .ref (xad G 5 0 0)), (1, .int x1), (2, .int x2), (3, .int x3), (4, .int y1)] [] := by
    intro n
    induction n with
    | zero =>
      intro y1 h
      exact absurd h (by rw [f_X1_canGrant_L3]; intro q; cases q)
    | succ n ih =>
      intro y1 h
      rw [f_X1_canGrant_L3] at h
      refine x_iload C dX1_canGrant_3 (q := 4) rfl ?_
      refine x_aload_n C dX1_canGrant_5 rfl (q := 0) rfl ?_
      refine x_get C cl_X1 2 (by decide) fl_X1_30_X1 (dm_5 z) rfl rfl dX1_canGrant_6 ?_
      refine x_alen C 3 rfl (dm_7 z) rfl dX1_canGrant_9 ?_
      refine x_icmp_ge C (tgt := 55) dX1_canGrant_10 (by decide) h (fun hc2 h => ?_) (fun hc2 h => ?_)
      · refine x_iconst C (v := 1) dX1_canGrant_55 (by decide) ?_
        cases h
        exact xr_z C (by decide) hr dX1_canGrant_56 (fun _ h => h)
      · refine x_aload_n C dX1_canGrant_13 rfl (q := 0) rfl ?_
        refine x_get C cl_X1 2 (by decide) fl_X1_30_X1 (dm_5 z) rfl rfl dX1_canGrant_14 ?_
        refine x_iload C dX1_canGrant_17 (q := 4) rfl ?_
        refine x_aald C 3 rfl rfl (dm_7 z) rfl dX1_canGrant_19 h (fun k3 hk3 h => ?_)
        refine x_iload_n C dX1_canGrant_20 rfl (q := 2) rfl ?_
        refine x_iald C (dm_8 hk3) (fun _ _ _ => rfl) dX1_canGrant_21 h (fun k4 hk4 h => ?_)
        refine x_letI h (fun v5 h => ?_)
        refine x_istore C (L' := [(5, .int v5), (0, .ref (xad G 5 0 0)), (1, .int x1), (2, .int x2), (3, .int x3), (4, .int y1)]) dX1_canGrant_22 (by decide) rfl ?_
        refine x_iload C dX1_canGrant_24 (q := 5) rfl ?_
        refine x_iload_n C dX1_canGrant_26 rfl (q := 2) rfl ?_
        refine x_icmp_eq C (tgt := 49) dX1_canGrant_27 (by decide) h (fun hc6 h => ?_) (fun hc6 h => ?_)
        · refine x_iincL C (w := 1) (L' := fun v7 => [(4, .int v7), (5, .int v5), (0, .ref (xad G 5 0 0)), (1, .int x1), (2, .int x2), (3, .int x3)]) dX1_canGrant_49 (k := 5) rfl (by decide) (by decide) (fun _ => rfl) h (fun v7 h => ?_)
          refine x_goto C (tgt := 3) dX1_canGrant_52 (by decide) ?_
          exact x_sub [2, 3, 4, 5, 0] rfl (ih _ h)
        · refine x_iload C dX1_canGrant_30 (q := 0) rfl ?_
          refine x_iconst C (v := 2) dX1_canGrant_32 (by decide) ?_
          refine x_icmp_eq C (tgt := 47) dX1_canGrant_33 (by decide) h (fun hc8 h => ?_) (fun hc8 h => ?_)
          · refine x_iconst C (v := 0) dX1_canGrant_47 (by decide) ?_
            cases h
            exact xr_z C (by decide) hr dX1_canGrant_48 (fun _ h => h)
          · refine x_iload C dX1_canGrant_36 (q := 0) rfl ?_
            refine x_iconst C (v := 1) dX1_canGrant_38 (by decide) ?_
            refine x_icmp_ne C (tgt := 49) dX1_canGrant_39 (by decide) h (fun hc9 h => ?_) (fun hc9 h => ?_)
            · refine x_iincL C (w := 1) (L' := fun v10 => [(4, .int v10), (5, .int v5), (0, .ref (xad G 5 0 0)), (1, .int x1), (2, .int x2), (3, .int x3)]) dX1_canGrant_49 (k := 5) rfl (by decide) (by decide) (fun _ => rfl) h (fun v10 h => ?_)
              refine x_goto C (tgt := 3) dX1_canGrant_52 (by decide) ?_
              exact x_sub [2, 3, 4, 5, 0] rfl (ih _ h)
            · refine x_iload_n C dX1_canGrant_42 rfl (q := 4) rfl ?_
              refine x_iconst C (v := 2) dX1_canGrant_43 (by decide) ?_
              refine x_icmp_ne C (tgt := 49) dX1_canGrant_44 (by decide) h (fun hc11 h => ?_) (fun hc11 h => ?_)
              · refine x_iincL C (w := 1) (L' := fun v12 => [(4, .int v12), (5, .int v5), (0, .ref (xad G 5 0 0)), (1, .int x1), (2, .int x2), (3, .int x3)]) dX1_canGrant_49 (k := 5) rfl (by decide) (by decide) (fun _ => rfl) h (fun v12 h => ?_)
                refine x_goto C (tgt := 3) dX1_canGrant_52 (by decide) ?_
                exact x_sub [2, 3, 4, 5, 0] rfl (ih _ h)
              · refine x_iconst C (v := 0) dX1_canGrant_47 (by decide) ?_
                cases h
                exact xr_z C (by decide) hr dX1_canGrant_48 (fun _ h => h)
  exact x_sub [1, 2, 3, 4, 0] rfl (hl13 FU _ h)
def f_X1_grant (z : Nat → Nat) (σ : Sg) (x1 : Int32) (x2 : Int32) (x3 : Int32) : Option Sg :=
  gdx x1 (z 2) fun k1 => gdx x1 (z 2) fun k2 => gdx x2 (z 3) fun k3 => letv (σ.1 8 k2 0 k3) fun v4 => bnd1 (f_J9_max_7cf53 x3 v4) fun r6 => gdx x2 (z 3) fun k7 => letv (upI σ 8 k1 0 k7 r6) fun s8 => some (s8)
def rm_X1_grant : Room := { frames := 1, cells := 0, slots := 0, locals := 21 }
set_option maxRecDepth 100000 in
set_option maxHeartbeats 4000000 in
theorem m_X1_grant {l : Launch} {G : xG} {z : Nat → Nat} {σ : Sg} {τ : Tg} {x1 : Int32} {x2 : Int32} {x3 : Int32} {sF : Sg} (h : f_X1_grant z σ x1 x2 x3 = some (sF)) : xMet l (xD G) (xcA G) (xbs G) yX1_grant cX1_grant 4 (Option.none : Option Jvm.ClassFile.FieldType) rm_X1_grant [.ref (xad G 5 0 0), .int x1, .int x2, .int x3] (xRep G z σ τ) (xRep G z sF τ) none 0 0 := by
  refine xMet.of RX1 rfl (by decide +kernel) (Nat.le_of_ble_eq_true rfl) ?_
  intro p e s m args below meth c C hr hnm
  unfold f_X1_grant at h
  refine x_sub (L' := [(0, .ref (xad G 5 0 0)), (1, .int x1), (2, .int x2), (3, .int x3)]) [0, 1, 2, 3] rfl ?_
  refine x_aload_n C dX1_grant_0 rfl (q := 0) rfl ?_
  refine x_get C cl_X1 2 (by decide) fl_X1_30_X1 (dm_5 z) rfl rfl dX1_grant_1 ?_
  refine x_iload_n C dX1_grant_4 rfl (q := 1) rfl ?_
  refine x_aald C 3 rfl rfl (dm_7 z) rfl dX1_grant_5 h (fun k1 hk1 h => ?_)
  refine x_iload_n C dX1_grant_6 rfl (q := 2) rfl ?_
  refine x_iload_n C dX1_grant_7 rfl (q := 3) rfl ?_
  refine x_aload_n C dX1_grant_8 rfl (q := 0) rfl ?_
  refine x_get C cl_X1 2 (by decide) fl_X1_30_X1 (dm_5 z) rfl rfl dX1_grant_9 ?_
  refine x_iload_n C dX1_grant_12 rfl (q := 1) rfl ?_
  refine x_aald C 3 rfl rfl (dm_7 z) rfl dX1_grant_13 h (fun k2 hk2 h => ?_)
  refine x_iload_n C dX1_grant_14 rfl (q := 2) rfl ?_
  refine x_iald C (dm_8 hk2) (fun _ _ _ => rfl) dX1_grant_15 h (fun k3 hk3 h => ?_)
  refine x_letI h (fun v4 h => ?_)
  obtain ⟨r6, hq5, h⟩ := bnd1_some h
  refine x_callS_i C (m_J9_max_7cf53 hq5) ws_X1_38 rfl (Nat.le_of_ble_eq_true rfl) ⟨⟨rfl, rfl⟩, Nat.le_of_ble_eq_true rfl, Nat.le_of_ble_eq_true rfl⟩ dX1_grant_16 rfl ?_
  refine x_iast C (dm_8 hk1) (fun _ _ _ => rfl) dX1_grant_19 h (fun k7 hk7 h => ?_)
  refine x_letS h (fun s8 h => ?_)
  cases h
  exact xr_v C hr dX1_grant_20 (fun _ h => h)
def f_X1_seenBy (z : Nat → Nat) (σ : Sg) (x1 : Int32) (x2 : Int32) : Option Int64 :=
  gdx x1 (z 2) fun k1 => gdx x2 (z 3) fun k2 => letv (σ.1 8 k1 0 k2) fun v3 => if v3 = 2 then (gdx x1 (z 2) fun k7 => gdx x2 (z 3) fun k8 => letv (σ.2.1 10 k7 0 k8) fun v9 => some (v9)) else (gdx x2 (z 3) fun k5 => letv (σ.2.1 6 0 0 k5) fun v6 => some (v6))
def rm_X1_seenBy : Room := { frames := 0, cells := 0, slots := 0, locals := 0 }
set_option maxRecDepth 100000 in
set_option maxHeartbeats 4000000 in
theorem m_X1_seenBy {l : Launch} {G : xG} {z : Nat → Nat} {σ : Sg} {τ : Tg} {x1 : Int32} {x2 : Int32} {rF : Int64} (h : f_X1_seenBy z σ x1 x2 = some (rF)) : xMet l (xD G) (xcA G) (xbs G) yX1_seenBy cX1_seenBy 3 (Option.some Jvm.ClassFile.FieldType.long) rm_X1_seenBy [.ref (xad G 5 0 0), .int x1, .int x2] (xRep G z σ τ) (xRep G z σ τ) (some (.long rF)) 0 0 := by
  refine xMet.of RX1 rfl (by decide +kernel) (Nat.le_of_ble_eq_true rfl) ?_
  intro p e s m args below meth c C hr hnm
  unfold f_X1_seenBy at h
  refine x_sub (L' := [(0, .ref (xad G 5 0 0)), (1, .int x1), (2, .int x2)]) [0, 1, 2] rfl ?_
  refine x_aload_n C dX1_seenBy_0 rfl (q := 0) rfl ?_
  refine x_get C cl_X1 2 (by decide) fl_X1_30_X1 (dm_5 z) rfl rfl dX1_seenBy_1 ?_
  refine x_iload_n C dX1_seenBy_4 rfl (q := 1) rfl ?_
  refine x_aald C 3 rfl rfl (dm_7 z) rfl dX1_seenBy_5 h (fun k1 hk1 h => ?_)
  refine x_iload_n C dX1_seenBy_6 rfl (q := 2) rfl ?_
  refine x_iald C (dm_8 hk1) (fun _ _ _ => rfl) dX1_seenBy_7 h (fun k2 hk2 h => ?_)
  refine x_letI h (fun v3 h => ?_)
  refine x_iconst C (v := 2) dX1_seenBy_8 (by decide) ?_
  refine x_icmp_ne C (tgt := 23) dX1_seenBy_9 (by decide) h (fun hc4 h => ?_) (fun hc4 h => ?_)
  · refine x_aload_n C dX1_seenBy_23 rfl (q := 0) rfl ?_
    refine x_get C cl_X1 0 (by decide) fl_X1_21_X1 (dm_5 z) rfl rfl dX1_seenBy_24 ?_
    refine x_iload_n C dX1_seenBy_27 rfl (q := 2) rfl ?_
    refine x_lald C (dm_6 z) (fun _ _ _ => rfl) dX1_seenBy_28 h (fun k5 hk5 h => ?_)
    refine x_letL h (fun v6 h => ?_)
    cases h
    exact xr_l C hr dX1_seenBy_29 (fun _ h => h)
  · refine x_aload_n C dX1_seenBy_12 rfl (q := 0) rfl ?_
    refine x_get C cl_X1 3 (by decide) fl_X1_35_X1 (dm_5 z) rfl rfl dX1_seenBy_13 ?_
    refine x_iload_n C dX1_seenBy_16 rfl (q := 1) rfl ?_
    refine x_aald C 4 rfl rfl (dm_9 z) rfl dX1_seenBy_17 h (fun k7 hk7 h => ?_)
    refine x_iload_n C dX1_seenBy_18 rfl (q := 2) rfl ?_
    refine x_lald C (dm_10 hk7) (fun _ _ _ => rfl) dX1_seenBy_19 h (fun k8 hk8 h => ?_)
    refine x_letL h (fun v9 h => ?_)
    refine x_goto C (tgt := 29) dX1_seenBy_20 (by decide) ?_
    cases h
    exact xr_l C hr dX1_seenBy_29 (fun _ h => h)
def f_X1_renew (z : Nat → Nat) (σ : Sg) (x1 : Int32) (x2 : Int32) (x3 : Int64) : Option Sg :=
  gdx x1 (z 2) fun k1 => gdx x2 (z 3) fun k2 => letv (upL σ 10 k1 0 k2 x3) fun s3 => some (s3)
def rm_X1_renew : Room := { frames := 0, cells := 0, slots := 0, locals := 0 }
set_option maxRecDepth 100000 in
set_option maxHeartbeats 4000000 in
theorem m_X1_renew {l : Launch} {G : xG} {z : Nat → Nat} {σ : Sg} {τ : Tg} {x1 : Int32} {x2 : Int32} {x3 : Int64} {sF : Sg} (h : f_X1_renew z σ x1 x2 x3 = some (sF)) : xMet l (xD G) (xcA G) (xbs G) yX1_renew cX1_renew 5 (Option.none : Option Jvm.ClassFile.FieldType) rm_X1_renew [.ref (xad G 5 0 0), .int x1, .int x2, .long x3] (xRep G z σ τ) (xRep G z sF τ) none 0 0 := by
  refine xMet.of RX1 rfl (by decide +kernel) (Nat.le_of_ble_eq_true rfl) ?_
  intro p e s m args below meth c C hr hnm
  unfold f_X1_renew at h
  refine x_sub (L' := [(0, .ref (xad G 5 0 0)), (1, .int x1), (2, .int x2), (3, .long x3)]) [0, 1, 2, 3] rfl ?_
  refine x_aload_n C dX1_renew_0 rfl (q := 0) rfl ?_
  refine x_get C cl_X1 3 (by decide) fl_X1_35_X1 (dm_5 z) rfl rfl dX1_renew_1 ?_
  refine x_iload_n C dX1_renew_4 rfl (q := 1) rfl ?_
  refine x_aald C 4 rfl rfl (dm_9 z) rfl dX1_renew_5 h (fun k1 hk1 h => ?_)
  refine x_iload_n C dX1_renew_6 rfl (q := 2) rfl ?_
  refine x_lload_n C dX1_renew_7 rfl (q := 3) rfl ?_
  refine x_last C (dm_10 hk1) (fun _ _ _ => rfl) dX1_renew_8 h (fun k2 hk2 h => ?_)
  refine x_letS h (fun s3 h => ?_)
  cases h
  exact xr_v C hr dX1_renew_9 (fun _ h => h)
def f_X1_dropAll_L2 (z : Nat → Nat) (x1 : Int32) (x2 : Int32) : Nat → Int32 → Sg → Option Sg
  | 0, _, _ => none
  | n + 1, y1, s2 => if (nI (z 3)) ≤ y1 then (some (s2)) else (bnd1 (f_X7_shardOf z s2 y1) fun r8 => if r8 = x2 then (gdx x1 (z 2) fun k11 => gdx y1 (z 3) fun k12 => letv (upI s2 8 k11 0 k12 0) fun s13 => letv (y1 + 1) fun v14 => f_X1_dropAll_L2 z x1 x2 n v14 s13) else (letv (y1 + 1) fun v10 => f_X1_dropAll_L2 z x1 x2 n v10 s2))
def f_X1_dropAll (z : Nat → Nat) (σ : Sg) (x1 : Int32) (x2 : Int32) : Option Sg :=
  bnd1 (f_X1_dropAll_L2 z x1 x2 FU 0 σ) fun (s3 : Sg) => some (s3)
def rm_X1_dropAll : Room := { frames := 1, cells := 0, slots := 0, locals := 21 }
set_option maxRecDepth 100000 in
set_option maxHeartbeats 4000000 in
theorem m_X1_dropAll {l : Launch} {G : xG} {z : Nat → Nat} {σ : Sg} {τ : Tg} {x1 : Int32} {x2 : Int32} {sF : Sg} (h : f_X1_dropAll z σ x1 x2 = some (sF)) : xMet l (xD G) (xcA G) (xbs G) yX1_dropAll cX1_dropAll 4 (Option.none : Option Jvm.ClassFile.FieldType) rm_X1_dropAll [.ref (xad G 5 0 0), .int x1, .int x2] (xRep G z σ τ) (xRep G z sF τ) none 0 0 := by
  refine xMet.of RX1 rfl (by decide +kernel) (Nat.le_of_ble_eq_true rfl) ?_
  intro p e s m args below meth c C hr hnm
  unfold f_X1_dropAll at h
  refine x_sub (L' := [(0, .ref (xad G 5 0 0)), (1, .int x1), (2, .int x2)]) [0, 1, 2] rfl ?_
  refine x_iconst C (v := 0) dX1_dropAll_0 (by decide) ?_
  refine x_istore_n C (L' := [(3, .int 0), (0, .ref (xad G 5 0 0)), (1, .int x1), (2, .int x2)]) dX1_dropAll_1 rfl (by decide) rfl ?_
  obtain ⟨s3, hv5, h⟩ := bnd1_some h
  refine x_join (Ω' := (xRep G z s3 τ)) (pc' := 38) (L' := []) (st' := []) ?_ (fun hj4 => ?_)
  · cases h
    exact xr_v C hr dX1_dropAll_38 (fun _ h => h)
  · have hl15 : ∀ (n : Nat) (y1 : Int32) (s2 : Sg), f_X1_dropAll_L2 z x1 x2 n y1 s2 = some (s3) → XW p l e rm_X1_dropAll s m args below meth c 0 0 4 (xbs G) (xQ below args s (xbs G) none (xRep G z sF τ) 0 0) (xRep G z s2 τ) 2 [(0, .ref (xad G 5 0 0)), (1, .int x1), (2, .int x2), (3, .int y1)] [] := by
      intro n
      induction n with
      | zero =>
        intro y1 s2 h
        exact absurd h (by rw [f_X1_dropAll_L2]; intro q; cases q)
      | succ n ih =>
        intro y1 s2 h
        rw [f_X1_dropAll_L2] at h
        refine x_iload_n C dX1_dropAll_2 rfl (q := 3) rfl ?_
        refine x_aload_n C dX1_dropAll_3 rfl (q := 0) rfl ?_
        refine x_get C cl_X1 0 (by decide) fl_X1_21_X1 (dm_5 z) rfl rfl dX1_dropAll_4 ?_
        refine x_alen C 1 rfl (dm_6 z) rfl dX1_dropAll_7 ?_
        refine x_icmp_ge C (tgt := 38) dX1_dropAll_8 (by decide) h (fun hc6 h => ?_) (fun hc6 h => ?_)
        · cases h
          exact x_sub [] rfl hj4
        · refine x_aload_n C dX1_dropAll_11 rfl (q := 0) rfl ?_
          refine x_get C cl_X1 1 (by decide) fl_X1_9_X1 (dm_5 z) rfl rfl dX1_dropAll_12 ?_
          refine x_iload_n C dX1_dropAll_15 rfl (q := 3) rfl ?_
          obtain ⟨r8, hq7, h⟩ := bnd1_some h
          refine x_callV_i C (m_X7_shardOf hq7) wv_X1_44 (x_recv C.2.2.2 cl_X7 (dm_1 z) rfl) rfl (Nat.le_of_ble_eq_true rfl) ⟨⟨rfl, rfl⟩, Nat.le_of_ble_eq_true rfl, Nat.le_of_ble_eq_true rfl⟩ dX1_dropAll_16 rfl ?_
          refine x_iload_n C dX1_dropAll_19 rfl (q := 2) rfl ?_
          refine x_icmp_ne C (tgt := 32) dX1_dropAll_20 (by decide) h (fun hc9 h => ?_) (fun hc9 h => ?_)
          · refine x_iincL C (w := 1) (L' := fun v10 => [(3, .int v10), (0, .ref (xad G 5 0 0)), (1, .int x1), (2, .int x2)]) dX1_dropAll_32 (k := 3) rfl (by decide) (by decide) (fun _ => rfl) h (fun v10 h => ?_)
            refine x_goto C (tgt := 2) dX1_dropAll_35 (by decide) ?_
            exact x_sub [1, 2, 3, 0] rfl (ih _ _ h)
          · refine x_aload_n C dX1_dropAll_23 rfl (q := 0) rfl ?_
            refine x_get C cl_X1 2 (by decide) fl_X1_30_X1 (dm_5 z) rfl rfl dX1_dropAll_24 ?_
            refine x_iload_n C dX1_dropAll_27 rfl (q := 1) rfl ?_
            refine x_aald C 3 rfl rfl (dm_7 z) rfl dX1_dropAll_28 h (fun k11 hk11 h => ?_)
            refine x_iload_n C dX1_dropAll_29 rfl (q := 3) rfl ?_
            refine x_iconst C (v := 0) dX1_dropAll_30 (by decide) ?_
            refine x_iast C (dm_8 hk11) (fun _ _ _ => rfl) dX1_dropAll_31 h (fun k12 hk12 h => ?_)
            refine x_letS h (fun s13 h => ?_)
            refine x_iincL C (w := 1) (L' := fun v14 => [(3, .int v14), (0, .ref (xad G 5 0 0)), (1, .int x1), (2, .int x2)]) dX1_dropAll_32 (k := 3) rfl (by decide) (by decide) (fun _ => rfl) h (fun v14 h => ?_)
            refine x_goto C (tgt := 2) dX1_dropAll_35 (by decide) ?_
            exact x_sub [1, 2, 3, 0] rfl (ih _ _ h)
    exact x_sub [1, 2, 3, 0] rfl (hl15 FU _ _ hv5)
def f_X6_endSession (z : Nat → Nat) (σ : Sg) (i : Nat) (x1 : Int32) : Option Sg :=
  gdx x1 (z 2) fun k1 => letv (σ.1 21 i 0 k1) fun v2 => if v2 = 0 then (some (σ)) else (gdx x1 (z 2) fun k4 => letv (upI σ 21 i 0 k4 0) fun s5 => bnd1 (f_X1_dropAll z s5 x1 (nI i)) fun s7 => some (s7))
def rm_X6_endSession : Room := { frames := 2, cells := 0, slots := 0, locals := 44 }
set_option maxRecDepth 100000 in
set_option maxHeartbeats 4000000 in
theorem m_X6_endSession {l : Launch} {G : xG} {z : Nat → Nat} {σ : Sg} {τ : Tg} {i : Nat} {x1 : Int32} {sF : Sg} (hi : i < z 0) (h : f_X6_endSession z σ i x1 = some (sF)) : xMet l (xD G) (xcA G) (xbs G) yX6_endSession cX6_endSession 2 (Option.none : Option Jvm.ClassFile.FieldType) rm_X6_endSession [.ref (xad G 17 i 0), .int x1] (xRep G z σ τ) (xRep G z sF τ) none 0 0 := by
  refine xMet.of RX6 rfl (by decide +kernel) (Nat.le_of_ble_eq_true rfl) ?_
  intro p e s m args below meth c C hr hnm
  unfold f_X6_endSession at h
  refine x_sub (L' := [(0, .ref (xad G 17 i 0)), (1, .int x1)]) [0, 1] rfl ?_
  refine x_aload_n C dX6_endSession_0 rfl (q := 0) rfl ?_
  refine x_get C cl_X6 5 (by decide) fl_X6_21_X6 (dm_17 hi) rfl rfl dX6_endSession_1 ?_
  refine x_iload_n C dX6_endSession_4 rfl (q := 1) rfl ?_
  refine x_bald C (dm_21 hi) (fun _ _ _ => rfl) dX6_endSession_5 h (fun k1 hk1 h => ?_)
  refine x_letI h (fun v2 h => ?_)
  refine x_if_eq C (tgt := 28) dX6_endSession_6 (by decide) h (fun hc3 h => ?_) (fun hc3 h => ?_)
  · cases h
    exact xr_v C hr dX6_endSession_28 (fun _ h => h)
  · refine x_aload_n C dX6_endSession_9 rfl (q := 0) rfl ?_
    refine x_get C cl_X6 5 (by decide) fl_X6_21_X6 (dm_17 hi) rfl rfl dX6_endSession_10 ?_
    refine x_iload_n C dX6_endSession_13 rfl (q := 1) rfl ?_
    refine x_iconst C (v := 0) dX6_endSession_14 (by decide) ?_
    refine x_bast C (by decide) (dm_21 hi) (fun _ _ _ => rfl) dX6_endSession_15 h (fun k4 hk4 h => ?_)
    refine x_letS h (fun s5 h => ?_)
    refine x_aload_n C dX6_endSession_16 rfl (q := 0) rfl ?_
    refine x_get C cl_X6 6 (by decide) fl_X6_9_X6 (dm_17 hi) rfl rfl dX6_endSession_17 ?_
    refine x_iload_n C dX6_endSession_20 rfl (q := 1) rfl ?_
    refine x_aload_n C dX6_endSession_21 rfl (q := 0) rfl ?_
    refine x_get C cl_X6 0 (by decide) fl_X6_68_X6 (dm_17 hi) rfl rfl dX6_endSession_22 ?_
    obtain ⟨s7, hq6, h⟩ := bnd1_some h
    refine x_callV_v C (m_X1_dropAll hq6) wv_X6_97 (x_recv C.2.2.2 cl_X1 (dm_5 z) rfl) rfl (Nat.le_of_ble_eq_true rfl) ⟨⟨rfl, rfl⟩, Nat.le_of_ble_eq_true rfl, Nat.le_of_ble_eq_true rfl⟩ dX6_endSession_25 rfl ?_
    cases h
    exact xr_v C hr dX6_endSession_28 (fun _ h => h)
def f_X1_dropShared_L2 (z : Nat → Nat) (x1 : Int32) (x2 : Int32) : Nat → Int32 → Sg → Option Sg
  | 0, _, _ => none
  | n + 1, y1, s2 => if (nI (z 3)) ≤ y1 then (some (s2)) else (bnd1 (f_X7_shardOf z s2 y1) fun r8 => if r8 = x2 then (gdx x1 (z 2) fun k11 => gdx y1 (z 3) fun k12 => letv (s2.1 8 k11 0 k12) fun v13 => if v13 = 1 then (gdx x1 (z 2) fun k16 => gdx y1 (z 3) fun k17 => letv (upI s2 8 k16 0 k17 0) fun s18 => letv (y1 + 1) fun v19 => f_X1_dropShared_L2 z x1 x2 n v19 s18) else (letv (y1 + 1) fun v15 => f_X1_dropShared_L2 z x1 x2 n v15 s2)) else (letv (y1 + 1) fun v10 => f_X1_dropShared_L2 z x1 x2 n v10 s2))
def f_X1_dropShared (z : Nat → Nat) (σ : Sg) (x1 : Int32) (x2 : Int32) : Option Sg :=
  bnd1 (f_X1_dropShared_L2 z x1 x2 FU 0 σ) fun (s3 : Sg) => some (s3)
def rm_X1_dropShared : Room := { frames := 1, cells := 0, slots := 0, locals := 21 }
set_option maxRecDepth 100000 in
set_option maxHeartbeats 4000000 in
theorem m_X1_dropShared {l : Launch} {G : xG} {z : Nat → Nat} {σ : Sg} {τ : Tg} {x1 : Int32} {x2 : Int32} {sF : Sg} (h : f_X1_dropShared z σ x1 x2 = some (sF)) : xMet l (xD G) (xcA G) (xbs G) yX1_dropShared cX1_dropShared 4 (Option.none : Option Jvm.ClassFile.FieldType) rm_X1_dropShared [.ref (xad G 5 0 0), .int x1, .int x2] (xRep G z σ τ) (xRep G z sF τ) none 0 0 := by
  refine xMet.of RX1 rfl (by decide +kernel) (Nat.le_of_ble_eq_true rfl) ?_
  intro p e s m args below meth c C hr hnm
  unfold f_X1_dropShared at h
  refine x_sub (L' := [(0, .ref (xad G 5 0 0)), (1, .int x1), (2, .int x2)]) [0, 1, 2] rfl ?_
  refine x_iconst C (v := 0) dX1_dropShared_0 (by decide) ?_
  refine x_istore_n C (L' := [(3, .int 0), (0, .ref (xad G 5 0 0)), (1, .int x1), (2, .int x2)]) dX1_dropShared_1 rfl (by decide) rfl ?_
  obtain ⟨s3, hv5, h⟩ := bnd1_some h
  refine x_join (Ω' := (xRep G z s3 τ)) (pc' := 50) (L' := []) (st' := []) ?_ (fun hj4 => ?_)
  · cases h
    exact xr_v C hr dX1_dropShared_50 (fun _ h => h)
  · have hl20 : ∀ (n : Nat) (y1 : Int32) (s2 : Sg), f_X1_dropShared_L2 z x1 x2 n y1 s2 = some (s3) → XW p l e rm_X1_dropShared s m args below meth c 0 0 4 (xbs G) (xQ below args s (xbs G) none (xRep G z sF τ) 0 0) (xRep G z s2 τ) 2 [(0, .ref (xad G 5 0 0)), (1, .int x1), (2, .int x2), (3, .int y1)] [] := by
      intro n
      induction n with
      | zero =>
        intro y1 s2 h
        exact absurd h (by rw [f_X1_dropShared_L2]; intro q; cases q)
      | succ n ih =>
        intro y1 s2 h
        rw [f_X1_dropShared_L2] at h
        refine x_iload_n C dX1_dropShared_2 rfl (q := 3) rfl ?_
        refine x_aload_n C dX1_dropShared_3 rfl (q := 0) rfl ?_
        refine x_get C cl_X1 0 (by decide) fl_X1_21_X1 (dm_5 z) rfl rfl dX1_dropShared_4 ?_
        refine x_alen C 1 rfl (dm_6 z) rfl dX1_dropShared_7 ?_
        refine x_icmp_ge C (tgt := 50) dX1_dropShared_8 (by decide) h (fun hc6 h => ?_) (fun hc6 h => ?_)
        · cases h
          exact x_sub [] rfl hj4
        · refine x_aload_n C dX1_dropShared_11 rfl (q := 0) rfl ?_
          refine x_get C cl_X1 1 (by decide) fl_X1_9_X1 (dm_5 z) rfl rfl dX1_dropShared_12 ?_
          refine x_iload_n C dX1_dropShared_15 rfl (q := 3) rfl ?_
          obtain ⟨r8, hq7, h⟩ := bnd1_some h
          refine x_callV_i C (m_X7_shardOf hq7) wv_X1_44 (x_recv C.2.2.2 cl_X7 (dm_1 z) rfl) rfl (Nat.le_of_ble_eq_true rfl) ⟨⟨rfl, rfl⟩, Nat.le_of_ble_eq_true rfl, Nat.le_of_ble_eq_true rfl⟩ dX1_dropShared_16 rfl ?_
          refine x_iload_n C dX1_dropShared_19 rfl (q := 2) rfl ?_
          refine x_icmp_ne C (tgt := 44) dX1_dropShared_20 (by decide) h (fun hc9 h => ?_) (fun hc9 h => ?_)
          · refine x_iincL C (w := 1) (L' := fun v10 => [(3, .int v10), (0, .ref (xad G 5 0 0)), (1, .int x1), (2, .int x2)]) dX1_dropShared_44 (k := 3) rfl (by decide) (by decide) (fun _ => rfl) h (fun v10 h => ?_)
            refine x_goto C (tgt := 2) dX1_dropShared_47 (by decide) ?_
            exact x_sub [1, 2, 3, 0] rfl (ih _ _ h)
          · refine x_aload_n C dX1_dropShared_23 rfl (q := 0) rfl ?_
            refine x_get C cl_X1 2 (by decide) fl_X1_30_X1 (dm_5 z) rfl rfl dX1_dropShared_24 ?_
            refine x_iload_n C dX1_dropShared_27 rfl (q := 1) rfl ?_
            refine x_aald C 3 rfl rfl (dm_7 z) rfl dX1_dropShared_28 h (fun k11 hk11 h => ?_)
            refine x_iload_n C dX1_dropShared_29 rfl (q := 3) rfl ?_
            refine x_iald C (dm_8 hk11) (fun _ _ _ => rfl) dX1_dropShared_30 h (fun k12 hk12 h => ?_)
            refine x_letI h (fun v13 h => ?_)
            refine x_iconst C (v := 1) dX1_dropShared_31 (by decide) ?_
            refine x_icmp_ne C (tgt := 44) dX1_dropShared_32 (by decide) h (fun hc14 h => ?_) (fun hc14 h => ?_)
            · refine x_iincL C (w := 1) (L' := fun v15 => [(3, .int v15), (0, .ref (xad G 5 0 0)), (1, .int x1), (2, .int x2)]) dX1_dropShared_44 (k := 3) rfl (by decide) (by decide) (fun _ => rfl) h (fun v15 h => ?_)
              refine x_goto C (tgt := 2) dX1_dropShared_47 (by decide) ?_
              exact x_sub [1, 2, 3, 0] rfl (ih _ _ h)
            · refine x_aload_n C dX1_dropShared_35 rfl (q := 0) rfl ?_
              refine x_get C cl_X1 2 (by decide) fl_X1_30_X1 (dm_5 z) rfl rfl dX1_dropShared_36 ?_
              refine x_iload_n C dX1_dropShared_39 rfl (q := 1) rfl ?_
              refine x_aald C 3 rfl rfl (dm_7 z) rfl dX1_dropShared_40 h (fun k16 hk16 h => ?_)
              refine x_iload_n C dX1_dropShared_41 rfl (q := 3) rfl ?_
              refine x_iconst C (v := 0) dX1_dropShared_42 (by decide) ?_
              refine x_iast C (dm_8 hk16) (fun _ _ _ => rfl) dX1_dropShared_43 h (fun k17 hk17 h => ?_)
              refine x_letS h (fun s18 h => ?_)
              refine x_iincL C (w := 1) (L' := fun v19 => [(3, .int v19), (0, .ref (xad G 5 0 0)), (1, .int x1), (2, .int x2)]) dX1_dropShared_44 (k := 3) rfl (by decide) (by decide) (fun _ => rfl) h (fun v19 h => ?_)
              refine x_goto C (tgt := 2) dX1_dropShared_47 (by decide) ?_
              exact x_sub [1, 2, 3, 0] rfl (ih _ _ h)
    exact x_sub [1, 2, 3, 0] rfl (hl20 FU _ _ hv5)
def f_X6_vote (z : Nat → Nat) (σ : Sg) (i : Nat) (x1 : Int32) : Option Sg :=
  gdx x1 (z 2) fun k1 => letv (σ.1 21 i 0 k1) fun v2 => bnd1 (α := Int32) (if v2 = 0 then (some (2)) else (some (1))) fun (v3 : Int32) => gdx x1 (z 2) fun k7 => letv (upI σ 22 i 0 k7 v3) fun s8 => gdx x1 (z 2) fun k9 => letv (s8.1 22 i 0 k9) fun v10 => bnd1 (f_X2_put z s8 i 1 x1 v10 0) fun s12 => gdx x1 (z 2) fun k13 => letv (s12.1 21 i 0 k13) fun v14 => if v14 = 0 then (some (s12)) else (bnd1 (f_X1_dropShared z s12 x1 (nI i)) fun s17 => some (s17))
def rm_X6_vote : Room := { frames := 2, cells := 0, slots := 0, locals := 44 }
set_option maxRecDepth 100000 in
set_option maxHeartbeats 4000000 in
theorem m_X6_vote {l : Launch} {G : xG} {z : Nat → Nat} {σ : Sg} {τ : Tg} {i : Nat} {x1 : Int32} {sF : Sg} (hi : i < z 0) (h : f_X6_vote z σ i x1 = some (sF)) : xMet l (xD G) (xcA G) (xbs G) yX6_vote cX6_vote 2 (Option.none : Option Jvm.ClassFile.FieldType) rm_X6_vote [.ref (xad G 17 i 0), .int x1] (xRep G z σ τ) (xRep G z sF τ) none 0 0 := by
  refine xMet.of RX6 rfl (by decide +kernel) (Nat.le_of_ble_eq_true rfl) ?_
  intro p e s m args below meth c C hr hnm
  unfold f_X6_vote at h
  refine x_sub (L' := [(0, .ref (xad G 17 i 0)), (1, .int x1)]) [0, 1] rfl ?_
  refine x_aload_n C dX6_vote_0 rfl (q := 0) rfl ?_
  refine x_get C cl_X6 7 (by decide) fl_X6_25_X6 (dm_17 hi) rfl rfl dX6_vote_1 ?_
  refine x_iload_n C dX6_vote_4 rfl (q := 1) rfl ?_
  refine x_aload_n C dX6_vote_5 rfl (q := 0) rfl ?_
  refine x_get C cl_X6 5 (by decide) fl_X6_21_X6 (dm_17 hi) rfl rfl dX6_vote_6 ?_
  refine x_iload_n C dX6_vote_9 rfl (q := 1) rfl ?_
  refine x_bald C (dm_21 hi) (fun _ _ _ => rfl) dX6_vote_10 h (fun k1 hk1 h => ?_)
  refine x_letI h (fun v2 h => ?_)
  obtain ⟨v3, hv5, h⟩ := bnd1_some h
  refine x_join (Ω' := (xRep G z σ τ)) (pc' := 19) (L' := [(0, .ref (xad G 17 i 0)), (1, .int x1)]) (st' := [.int v3, .int x1, .ref (xad G 22 i 0)]) ?_ (fun hj4 => ?_)
  · refine x_iast C (dm_22 hi) (fun _ _ _ => rfl) dX6_vote_19 h (fun k7 hk7 h => ?_)
    refine x_letS h (fun s8 h => ?_)
    refine x_aload_n C dX6_vote_20 rfl (q := 0) rfl ?_
    refine x_get C cl_X6 3 (by decide) fl_X6_51_X6 (dm_17 hi) rfl rfl dX6_vote_21 ?_
    refine x_iconst C (v := 1) dX6_vote_24 (by decide) ?_
    refine x_iload_n C dX6_vote_25 rfl (q := 1) rfl ?_
    refine x_aload_n C dX6_vote_26 rfl (q := 0) rfl ?_
    refine x_get C cl_X6 7 (by decide) fl_X6_25_X6 (dm_17 hi) rfl rfl dX6_vote_27 ?_
    refine x_iload_n C dX6_vote_30 rfl (q := 1) rfl ?_
    refine x_iald C (dm_22 hi) (fun _ _ _ => rfl) dX6_vote_31 h (fun k9 hk9 h => ?_)
    refine x_letI h (fun v10 h => ?_)
    refine x_iconst C (v := 0) dX6_vote_32 (by decide) ?_
    obtain ⟨s12, hq11, h⟩ := bnd1_some h
    refine x_callV_v C (m_X2_put (xb_s hi) hq11) wv_X6_81 (x_recv C.2.2.2 cl_X2 (dm_18 (xb_s hi)) rfl) rfl (Nat.le_of_ble_eq_true rfl) ⟨⟨rfl, rfl⟩, Nat.le_of_ble_eq_true rfl, Nat.le_of_ble_eq_true rfl⟩ dX6_vote_33 rfl ?_
    refine x_aload_n C dX6_vote_36 rfl (q := 0) rfl ?_
    refine x_get C cl_X6 5 (by decide) fl_X6_21_X6 (dm_17 hi) rfl rfl dX6_vote_37 ?_
    refine x_iload_n C dX6_vote_40 rfl (q := 1) rfl ?_
    refine x_bald C (dm_21 hi) (fun _ _ _ => rfl) dX6_vote_41 h (fun k13 hk13 h => ?_)
    refine x_letI h (fun v14 h => ?_)
    refine x_if_eq C (tgt := 57) dX6_vote_42 (by decide) h (fun hc15 h => ?_) (fun hc15 h => ?_)
    · cases h
      exact xr_v C hr dX6_vote_57 (fun _ h => h)
    · refine x_aload_n C dX6_vote_45 rfl (q := 0) rfl ?_
      refine x_get C cl_X6 6 (by decide) fl_X6_9_X6 (dm_17 hi) rfl rfl dX6_vote_46 ?_
      refine x_iload_n C dX6_vote_49 rfl (q := 1) rfl ?_
      refine x_aload_n C dX6_vote_50 rfl (q := 0) rfl ?_
      refine x_get C cl_X6 0 (by decide) fl_X6_68_X6 (dm_17 hi) rfl rfl dX6_vote_51 ?_
      obtain ⟨s17, hq16, h⟩ := bnd1_some h
      refine x_callV_v C (m_X1_dropShared hq16) wv_X6_85 (x_recv C.2.2.2 cl_X1 (dm_5 z) rfl) rfl (Nat.le_of_ble_eq_true rfl) ⟨⟨rfl, rfl⟩, Nat.le_of_ble_eq_true rfl, Nat.le_of_ble_eq_true rfl⟩ dX6_vote_54 rfl ?_
      cases h
      exact xr_v C hr dX6_vote_57 (fun _ h => h)
  · replace h := hv5
    clear hv5
    refine x_if_eq C (tgt := 18) dX6_vote_11 (by decide) h (fun hc6 h => ?_) (fun hc6 h => ?_)
    · refine x_iconst C (v := 2) dX6_vote_18 (by decide) ?_
      cases h
      exact x_sub [0, 1] rfl hj4
    · refine x_iconst C (v := 1) dX6_vote_14 (by decide) ?_
      refine x_goto C (tgt := 19) dX6_vote_15 (by decide) ?_
      cases h
      exact x_sub [0, 1] rfl hj4
def f_X6_hearPrepare (z : Nat → Nat) (σ : Sg) (i : Nat) (x1 : Int32) : Option (Int32 × Sg) :=
  gdx x1 (z 2) fun k1 => letv (σ.1 23 i 0 k1) fun v2 => if v2 = 0 then (gdx x1 (z 2) fun k4 => letv (σ.1 22 i 0 k4) fun v5 => if v5 = 0 then (bnd1 (f_X2_isFull z σ i) fun r14 => if r14 = 0 then (bnd1 (f_X6_vote z σ i x1) fun s17 => gdx x1 (z 2) fun k18 => letv (s17.1 22 i 0 k18) fun v19 => bnd1 (f_X5_startDraftOfVote z s17 2 x1 (nI i) 0 (nI i) v19) fun s21 => bnd1 (f_X5_postDraftToAcceptors z s21) fun s23 => some (1, s23)) else (some (0, σ))) else (gdx x1 (z 2) fun k7 => letv (σ.1 22 i 0 k7) fun v8 => bnd1 (f_X5_startDraftOfVote z σ 2 x1 (nI i) 0 (nI i) v8) fun s10 => bnd1 (f_X5_postDraftToAcceptors z s10) fun s12 => some (1, s12))) else (some (1, σ))
def rm_X6_hearPrepare : Room := { frames := 3, cells := 0, slots := 0, locals := 66 }
set_option maxRecDepth 100000 in
set_option maxHeartbeats 4000000 in
theorem m_X6_hearPrepare {l : Launch} {G : xG} {z : Nat → Nat} {σ : Sg} {τ : Tg} {i : Nat} {x1 : Int32} {rF : Int32} {sF : Sg} (hi : i < z 0) (h : f_X6_hearPrepare z σ i x1 = some (rF, sF)) : xMet l (xD G) (xcA G) (xbs G) yX6_hearPrepare cX6_hearPrepare 2 (Option.some Jvm.ClassFile.FieldType.boolean) rm_X6_hearPrepare [.ref (xad G 17 i 0), .int x1] (xRep G z σ τ) (xRep G z sF τ) (some (.int rF)) 0 0 := by
  refine xMet.of RX6 rfl (by decide +kernel) (Nat.le_of_ble_eq_true rfl) ?_
  intro p e s m args below meth c C hr hnm
  unfold f_X6_hearPrepare at h
  refine x_sub (L' := [(0, .ref (xad G 17 i 0)), (1, .int x1)]) [0, 1] rfl ?_
  refine x_aload_n C dX6_hearPrepare_0 rfl (q := 0) rfl ?_
  refine x_get C cl_X6 8 (by decide) fl_X6_29_X6 (dm_17 hi) rfl rfl dX6_hearPrepare_1 ?_
  refine x_iload_n C dX6_hearPrepare_4 rfl (q := 1) rfl ?_
  refine x_iald C (dm_23 hi) (fun _ _ _ => rfl) dX6_hearPrepare_5 h (fun k1 hk1 h => ?_)
  refine x_letI h (fun v2 h => ?_)
  refine x_if_eq C (tgt := 11) dX6_hearPrepare_6 (by decide) h (fun hc3 h => ?_) (fun hc3 h => ?_)
  · refine x_aload_n C dX6_hearPrepare_11 rfl (q := 0) rfl ?_
    refine x_get C cl_X6 7 (by decide) fl_X6_25_X6 (dm_17 hi) rfl rfl dX6_hearPrepare_12 ?_
    refine x_iload_n C dX6_hearPrepare_15 rfl (q := 1) rfl ?_
    refine x_iald C (dm_22 hi) (fun _ _ _ => rfl) dX6_hearPrepare_16 h (fun k4 hk4 h => ?_)
    refine x_letI h (fun v5 h => ?_)
    refine x_if_ne C (tgt := 37) dX6_hearPrepare_17 (by decide) h (fun hc6 h => ?_) (fun hc6 h => ?_)
    · refine x_aload_n C dX6_hearPrepare_37 rfl (q := 0) rfl ?_
      refine x_get C cl_X6 2 (by decide) fl_X6_64_X6 (dm_17 hi) rfl rfl dX6_hearPrepare_38 ?_
      refine x_iconst C (v := 2) dX6_hearPrepare_41 (by decide) ?_
      refine x_iload_n C dX6_hearPrepare_42 rfl (q := 1) rfl ?_
      refine x_aload_n C dX6_hearPrepare_43 rfl (q := 0) rfl ?_
      refine x_get C cl_X6 0 (by decide) fl_X6_68_X6 (dm_17 hi) rfl rfl dX6_hearPrepare_44 ?_
      refine x_iconst C (v := 0) dX6_hearPrepare_47 (by decide) ?_
      refine x_aload_n C dX6_hearPrepare_48 rfl (q := 0) rfl ?_
      refine x_get C cl_X6 0 (by decide) fl_X6_68_X6 (dm_17 hi) rfl rfl dX6_hearPrepare_49 ?_
      refine x_aload_n C dX6_hearPrepare_52 rfl (q := 0) rfl ?_
      refine x_get C cl_X6 7 (by decide) fl_X6_25_X6 (dm_17 hi) rfl rfl dX6_hearPrepare_53 ?_
      refine x_iload_n C dX6_hearPrepare_56 rfl (q := 1) rfl ?_
      refine x_iald C (dm_22 hi) (fun _ _ _ => rfl) dX6_hearPrepare_57 h (fun k7 hk7 h => ?_)
      refine x_letI h (fun v8 h => ?_)
      obtain ⟨s10, hq9, h⟩ := bnd1_some h
      refine x_callV_v C (m_X5_startDraftOfVote hq9) wv_X6_71 (x_recv C.2.2.2 cl_X5 (dm_11 z) rfl) rfl (Nat.le_of_ble_eq_true rfl) ⟨⟨rfl, rfl⟩, Nat.le_of_ble_eq_true rfl, Nat.le_of_ble_eq_true rfl⟩ dX6_hearPrepare_58 rfl ?_
      refine x_aload_n C dX6_hearPrepare_61 rfl (q := 0) rfl ?_
      refine x_get C cl_X6 2 (by decide) fl_X6_64_X6 (dm_17 hi) rfl rfl dX6_hearPrepare_62 ?_
      obtain ⟨s12, hq11, h⟩ := bnd1_some h
      refine x_callV_v C (m_X5_postDraftToAcceptors hq11) wv_X6_77 (x_recv C.2.2.2 cl_X5 (dm_11 z) rfl) rfl (Nat.le_of_ble_eq_true rfl) ⟨⟨rfl, rfl⟩, Nat.le_of_ble_eq_true rfl, Nat.le_of_ble_eq_true rfl⟩ dX6_hearPrepare_65 rfl ?_
      refine x_iconst C (v := 1) dX6_hearPrepare_68 (by decide) ?_
      cases h
      exact xr_z C (by decide) hr dX6_hearPrepare_69 (fun _ h => h)
    · refine x_aload_n C dX6_hearPrepare_20 rfl (q := 0) rfl ?_
      refine x_get C cl_X6 3 (by decide) fl_X6_51_X6 (dm_17 hi) rfl rfl dX6_hearPrepare_21 ?_
      obtain ⟨r14, hq13, h⟩ := bnd1_some h
      refine x_callV_i C (m_X2_isFull (xb_s hi) hq13) wv_X6_55 (x_recv C.2.2.2 cl_X2 (dm_18 (xb_s hi)) rfl) rfl (Nat.le_of_ble_eq_true rfl) ⟨⟨rfl, rfl⟩, Nat.le_of_ble_eq_true rfl, Nat.le_of_ble_eq_true rfl⟩ dX6_hearPrepare_24 rfl ?_
      refine x_if_eq C (tgt := 32) dX6_hearPrepare_27 (by decide) h (fun hc15 h => ?_) (fun hc15 h => ?_)
      · refine x_aload_n C dX6_hearPrepare_32 rfl (q := 0) rfl ?_
        refine x_iload_n C dX6_hearPrepare_33 rfl (q := 1) rfl ?_
        obtain ⟨s17, hq16, h⟩ := bnd1_some h
        refine x_callV_v C (m_X6_vote hi hq16) wv_X6_61 (x_recv C.2.2.2 cl_X6 (dm_17 hi) rfl) rfl (Nat.le_of_ble_eq_true rfl) ⟨⟨rfl, rfl⟩, Nat.le_of_ble_eq_true rfl, Nat.le_of_ble_eq_true rfl⟩ dX6_hearPrepare_34 rfl ?_
        refine x_aload_n C dX6_hearPrepare_37 rfl (q := 0) rfl ?_
        refine x_get C cl_X6 2 (by decide) fl_X6_64_X6 (dm_17 hi) rfl rfl dX6_hearPrepare_38 ?_
        refine x_iconst C (v := 2) dX6_hearPrepare_41 (by decide) ?_
        refine x_iload_n C dX6_hearPrepare_42 rfl (q := 1) rfl ?_
        refine x_aload_n C dX6_hearPrepare_43 rfl (q := 0) rfl ?_
        refine x_get C cl_X6 0 (by decide) fl_X6_68_X6 (dm_17 hi) rfl rfl dX6_hearPrepare_44 ?_
        refine x_iconst C (v := 0) dX6_hearPrepare_47 (by decide) ?_
        refine x_aload_n C dX6_hearPrepare_48 rfl (q := 0) rfl ?_
        refine x_get C cl_X6 0 (by decide) fl_X6_68_X6 (dm_17 hi) rfl rfl dX6_hearPrepare_49 ?_
        refine x_aload_n C dX6_hearPrepare_52 rfl (q := 0) rfl ?_
        refine x_get C cl_X6 7 (by decide) fl_X6_25_X6 (dm_17 hi) rfl rfl dX6_hearPrepare_53 ?_
        refine x_iload_n C dX6_hearPrepare_56 rfl (q := 1) rfl ?_
        refine x_iald C (dm_22 hi) (fun _ _ _ => rfl) dX6_hearPrepare_57 h (fun k18 hk18 h => ?_)
        refine x_letI h (fun v19 h => ?_)
        obtain ⟨s21, hq20, h⟩ := bnd1_some h
        refine x_callV_v C (m_X5_startDraftOfVote hq20) wv_X6_71 (x_recv C.2.2.2 cl_X5 (dm_11 z) rfl) rfl (Nat.le_of_ble_eq_true rfl) ⟨⟨rfl, rfl⟩, Nat.le_of_ble_eq_true rfl, Nat.le_of_ble_eq_true rfl⟩ dX6_hearPrepare_58 rfl ?_
        refine x_aload_n C dX6_hearPrepare_61 rfl (q := 0) rfl ?_
        refine x_get C cl_X6 2 (by decide) fl_X6_64_X6 (dm_17 hi) rfl rfl dX6_hearPrepare_62 ?_
        obtain ⟨s23, hq22, h⟩ := bnd1_some h
        refine x_callV_v C (m_X5_postDraftToAcceptors hq22) wv_X6_77 (x_recv C.2.2.2 cl_X5 (dm_11 z) rfl) rfl (Nat.le_of_ble_eq_true rfl) ⟨⟨rfl, rfl⟩, Nat.le_of_ble_eq_true rfl, Nat.le_of_ble_eq_true rfl⟩ dX6_hearPrepare_65 rfl ?_
        refine x_iconst C (v := 1) dX6_hearPrepare_68 (by decide) ?_
        cases h
        exact xr_z C (by decide) hr dX6_hearPrepare_69 (fun _ h => h)
      · refine x_iconst C (v := 0) dX6_hearPrepare_30 (by decide) ?_
        cases h
        exact xr_z C (by decide) hr dX6_hearPrepare_31 (fun _ h => h)
  · refine x_iconst C (v := 1) dX6_hearPrepare_9 (by decide) ?_
    cases h
    exact xr_z C (by decide) hr dX6_hearPrepare_10 (fun _ h => h)
def f_X1_install_L2 (z : Nat → Nat) (x1 : Int32) (x2 : Int32) : Nat → Int32 → Sg → Option Sg
  | 0, _, _ => none
  | n + 1, y1, s2 => if (nI (z 3)) ≤ y1 then (some (s2)) else (bnd1 (f_X7_shardOf z s2 y1) fun r8 => if r8 = x2 then (bnd1 (f_X1_seenBy z s2 x1 y1) fun r12 => gdx y1 (z 3) fun k13 => letv (upL s2 6 0 0 k13 r12) fun s14 => letv (y1 + 1) fun v15 => f_X1_install_L2 z x1 x2 n v15 s14) else (letv (y1 + 1) fun v10 => f_X1_install_L2 z x1 x2 n v10 s2))
def f_X1_install (z : Nat → Nat) (σ : Sg) (x1 : Int32) (x2 : Int32) : Option Sg :=
  bnd1 (f_X1_install_L2 z x1 x2 FU 0 σ) fun (s3 : Sg) => some (s3)
def rm_X1_install : Room := { frames := 1, cells := 0, slots := 0, locals := 22 }
set_option maxRecDepth 100000 in
set_option maxHeartbeats 4000000 in
theorem m_X1_install {l : Launch} {G : xG} {z : Nat → Nat} {σ : Sg} {τ : Tg} {x1 : Int32} {x2 : Int32} {sF : Sg} (h : f_X1_install z σ x1 x2 = some (sF)) : xMet l (xD G) (xcA G) (xbs G) yX1_install cX1_install 4 (Option.none : Option Jvm.ClassFile.FieldType) rm_X1_install [.ref (xad G 5 0 0), .int x1, .int x2] (xRep G z σ τ) (xRep G z sF τ) none 0 0 := by
  refine xMet.of RX1 rfl (by decide +kernel) (Nat.le_of_ble_eq_true rfl) ?_
  intro p e s m args below meth c C hr hnm
  unfold f_X1_install at h
  refine x_sub (L' := [(0, .ref (xad G 5 0 0)), (1, .int x1), (2, .int x2)]) [0, 1, 2] rfl ?_
  refine x_iconst C (v := 0) dX1_install_0 (by decide) ?_
  refine x_istore_n C (L' := [(3, .int 0), (0, .ref (xad G 5 0 0)), (1, .int x1), (2, .int x2)]) dX1_install_1 rfl (by decide) rfl ?_
  obtain ⟨s3, hv5, h⟩ := bnd1_some h
  refine x_join (Ω' := (xRep G z s3 τ)) (pc' := 41) (L' := []) (st' := []) ?_ (fun hj4 => ?_)
  · cases h
    exact xr_v C hr dX1_install_41 (fun _ h => h)
  · have hl16 : ∀ (n : Nat) (y1 : Int32) (s2 : Sg), f_X1_install_L2 z x1 x2 n y1 s2 = some (s3) → XW p l e rm_X1_install s m args below meth c 0 0 4 (xbs G) (xQ below args s (xbs G) none (xRep G z sF τ) 0 0) (xRep G z s2 τ) 2 [(0, .ref (xad G 5 0 0)), (1, .int x1), (2, .int x2), (3, .int y1)] [] := by
      intro n
      induction n with
      | zero =>
        intro y1 s2 h
        exact absurd h (by rw [f_X1_install_L2]; intro q; cases q)
      | succ n ih =>
        intro y1 s2 h
        rw [f_X1_install_L2] at h
        refine x_iload_n C dX1_install_2 rfl (q := 3) rfl ?_
        refine x_aload_n C dX1_install_3 rfl (q := 0) rfl ?_
        refine x_get C cl_X1 0 (by decide) fl_X1_21_X1 (dm_5 z) rfl rfl dX1_install_4 ?_
        refine x_alen C 1 rfl (dm_6 z) rfl dX1_install_7 ?_
        refine x_icmp_ge C (tgt := 41) dX1_install_8 (by decide) h (fun hc6 h => ?_) (fun hc6 h => ?_)
        · cases h
          exact x_sub [] rfl hj4
        · refine x_aload_n C dX1_install_11 rfl (q := 0) rfl ?_
          refine x_get C cl_X1 1 (by decide) fl_X1_9_X1 (dm_5 z) rfl rfl dX1_install_12 ?_
          refine x_iload_n C dX1_install_15 rfl (q := 3) rfl ?_
          obtain ⟨r8, hq7, h⟩ := bnd1_some h
          refine x_callV_i C (m_X7_shardOf hq7) wv_X1_44 (x_recv C.2.2.2 cl_X7 (dm_1 z) rfl) rfl (Nat.le_of_ble_eq_true rfl) ⟨⟨rfl, rfl⟩, Nat.le_of_ble_eq_true rfl, Nat.le_of_ble_eq_true rfl⟩ dX1_install_16 rfl ?_
          refine x_iload_n C dX1_install_19 rfl (q := 2) rfl ?_
          refine x_icmp_ne C (tgt := 35) dX1_install_20 (by decide) h (fun hc9 h => ?_) (fun hc9 h => ?_)
          · refine x_iincL C (w := 1) (L' := fun v10 => [(3, .int v10), (0, .ref (xad G 5 0 0)), (1, .int x1), (2, .int x2)]) dX1_install_35 (k := 3) rfl (by decide) (by decide) (fun _ => rfl) h (fun v10 h => ?_)
            refine x_goto C (tgt := 2) dX1_install_38 (by decide) ?_
            exact x_sub [1, 2, 3, 0] rfl (ih _ _ h)
          · refine x_aload_n C dX1_install_23 rfl (q := 0) rfl ?_
            refine x_get C cl_X1 0 (by decide) fl_X1_21_X1 (dm_5 z) rfl rfl dX1_install_24 ?_
            refine x_iload_n C dX1_install_27 rfl (q := 3) rfl ?_
            refine x_aload_n C dX1_install_28 rfl (q := 0) rfl ?_
            refine x_iload_n C dX1_install_29 rfl (q := 1) rfl ?_
            refine x_iload_n C dX1_install_30 rfl (q := 3) rfl ?_
            obtain ⟨r12, hq11, h⟩ := bnd1_some h
            refine x_callV_l C (m_X1_seenBy hq11) wv_X1_48 (x_recv C.2.2.2 cl_X1 (dm_5 z) rfl) rfl (Nat.le_of_ble_eq_true rfl) ⟨⟨rfl, rfl⟩, Nat.le_of_ble_eq_true rfl, Nat.le_of_ble_eq_true rfl⟩ dX1_install_31 rfl ?_
            refine x_last C (dm_6 z) (fun _ _ _ => rfl) dX1_install_34 h (fun k13 hk13 h => ?_)
            refine x_letS h (fun s14 h => ?_)
            refine x_iincL C (w := 1) (L' := fun v15 => [(3, .int v15), (0, .ref (xad G 5 0 0)), (1, .int x1), (2, .int x2)]) dX1_install_35 (k := 3) rfl (by decide) (by decide) (fun _ => rfl) h (fun v15 h => ?_)
            refine x_goto C (tgt := 2) dX1_install_38 (by decide) ?_
            exact x_sub [1, 2, 3, 0] rfl (ih _ _ h)
    exact x_sub [1, 2, 3, 0] rfl (hl16 FU _ _ hv5)
def f_X6_hearEnd (z : Nat → Nat) (σ : Sg) (i : Nat) (x1 : Int32) (x2 : Int32) : Option (Int32 × Sg) :=
  gdx x1 (z 2) fun k1 => letv (σ.1 23 i 0 k1) fun v2 => if v2 = 0 then (bnd1 (f_X2_isFull z σ i) fun r5 => if r5 = 0 then (gdx x1 (z 2) fun k7 => letv (upI σ 23 i 0 k7 x2) fun s8 => bnd1 (f_X2_put z s8 i 2 x1 x2 0) fun s10 => bnd1 (α := Sg) (if x2 = 3 then (gdx x1 (z 2) fun k15 => letv (s10.1 21 i 0 k15) fun v16 => if v16 = 0 then (some (s10)) else (bnd1 (f_X1_install z s10 x1 (nI i)) fun s19 => some (s19))) else (some (s10))) fun (s11 : Sg) => bnd1 (f_X6_endSession z s11 i x1) fun s21 => some (1, s21)) else (some (0, σ))) else (some (1, σ))
def rm_X6_hearEnd : Room := { frames := 3, cells := 0, slots := 0, locals := 65 }
set_option maxRecDepth 100000 in
set_option maxHeartbeats 4000000 in
theorem m_X6_hearEnd {l : Launch} {G : xG} {z : Nat → Nat} {σ : Sg} {τ : Tg} {i : Nat} {x1 : Int32} {x2 : Int32} {rF : Int32} {sF : Sg} (hi : i < z 0) (h : f_X6_hearEnd z σ i x1 x2 = some (rF, sF)) : xMet l (xD G) (xcA G) (xbs G) yX6_hearEnd cX6_hearEnd 3 (Option.some Jvm.ClassFile.FieldType.boolean) rm_X6_hearEnd [.ref (xad G 17 i 0), .int x1, .int x2] (xRep G z σ τ) (xRep G z sF τ) (some (.int rF)) 0 0 := by
  refine xMet.of RX6 rfl (by decide +kernel) (Nat.le_of_ble_eq_true rfl) ?_
  intro p e s m args below meth c C hr hnm
  unfold f_X6_hearEnd at h
  refine x_sub (L' := [(0, .ref (xad G 17 i 0)), (1, .int x1), (2, .int x2)]) [0, 1, 2] rfl ?_
  refine x_aload_n C dX6_hearEnd_0 rfl (q := 0) rfl ?_
  refine x_get C cl_X6 8 (by decide) fl_X6_29_X6 (dm_17 hi) rfl rfl dX6_hearEnd_1 ?_
  refine x_iload_n C dX6_hearEnd_4 rfl (q := 1) rfl ?_
  refine x_iald C (dm_23 hi) (fun _ _ _ => rfl) dX6_hearEnd_5 h (fun k1 hk1 h => ?_)
  refine x_letI h (fun v2 h => ?_)
  refine x_if_eq C (tgt := 11) dX6_hearEnd_6 (by decide) h (fun hc3 h => ?_) (fun hc3 h => ?_)
  · refine x_aload_n C dX6_hearEnd_11 rfl (q := 0) rfl ?_
    refine x_get C cl_X6 3 (by decide) fl_X6_51_X6 (dm_17 hi) rfl rfl dX6_hearEnd_12 ?_
    obtain ⟨r5, hq4, h⟩ := bnd1_some h
    refine x_callV_i C (m_X2_isFull (xb_s hi) hq4) wv_X6_55 (x_recv C.2.2.2 cl_X2 (dm_18 (xb_s hi)) rfl) rfl (Nat.le_of_ble_eq_true rfl) ⟨⟨rfl, rfl⟩, Nat.le_of_ble_eq_true rfl, Nat.le_of_ble_eq_true rfl⟩ dX6_hearEnd_15 rfl ?_
    refine x_if_eq C (tgt := 23) dX6_hearEnd_18 (by decide) h (fun hc6 h => ?_) (fun hc6 h => ?_)
    · refine x_aload_n C dX6_hearEnd_23 rfl (q := 0) rfl ?_
      refine x_get C cl_X6 8 (by decide) fl_X6_29_X6 (dm_17 hi) rfl rfl dX6_hearEnd_24 ?_
      refine x_iload_n C dX6_hearEnd_27 rfl (q := 1) rfl ?_
      refine x_iload_n C dX6_hearEnd_28 rfl (q := 2) rfl ?_
      refine x_iast C (dm_23 hi) (fun _ _ _ => rfl) dX6_hearEnd_29 h (fun k7 hk7 h => ?_)
      refine x_letS h (fun s8 h => ?_)
      refine x_aload_n C dX6_hearEnd_30 rfl (q := 0) rfl ?_
      refine x_get C cl_X6 3 (by decide) fl_X6_51_X6 (dm_17 hi) rfl rfl dX6_hearEnd_31 ?_
      refine x_iconst C (v := 2) dX6_hearEnd_34 (by decide) ?_
      refine x_iload_n C dX6_hearEnd_35 rfl (q := 1) rfl ?_
      refine x_iload_n C dX6_hearEnd_36 rfl (q := 2) rfl ?_
      refine x_iconst C (v := 0) dX6_hearEnd_37 (by decide) ?_
      obtain ⟨s10, hq9, h⟩ := bnd1_some h
      refine x_callV_v C (m_X2_put (xb_s hi) hq9) wv_X6_81 (x_recv C.2.2.2 cl_X2 (dm_18 (xb_s hi)) rfl) rfl (Nat.le_of_ble_eq_true rfl) ⟨⟨rfl, rfl⟩, Nat.le_of_ble_eq_true rfl, Nat.le_of_ble_eq_true rfl⟩ dX6_hearEnd_38 rfl ?_
      refine x_iload_n C dX6_hearEnd_41 rfl (q := 2) rfl ?_
      refine x_iconst C (v := 3) dX6_hearEnd_42 (by decide) ?_
      obtain ⟨s11, hv13, h⟩ := bnd1_some h
      refine x_join (Ω' := (xRep G z s11 τ)) (pc' := 67) (L' := [(0, .ref (xad G 17 i 0)), (1, .int x1)]) (st' := []) ?_ (fun hj12 => ?_)
      · refine x_aload_n C dX6_hearEnd_67 rfl (q := 0) rfl ?_
        refine x_iload_n C dX6_hearEnd_68 rfl (q := 1) rfl ?_
        obtain ⟨s21, hq20, h⟩ := bnd1_some h
        refine x_callV_v C (m_X6_endSession hi hq20) wv_X6_94 (x_recv C.2.2.2 cl_X6 (dm_17 hi) rfl) rfl (Nat.le_of_ble_eq_true rfl) ⟨⟨rfl, rfl⟩, Nat.le_of_ble_eq_true rfl, Nat.le_of_ble_eq_true rfl⟩ dX6_hearEnd_69 rfl ?_
        refine x_iconst C (v := 1) dX6_hearEnd_72 (by decide) ?_
        cases h
        exact xr_z C (by decide) hr dX6_hearEnd_73 (fun _ h => h)
      · replace h := hv13
        clear hv13
        refine x_icmp_ne C (tgt := 67) dX6_hearEnd_43 (by decide) h (fun hc14 h => ?_) (fun hc14 h => ?_)
        · cases h
          exact x_sub [0, 1] rfl hj12
        · refine x_aload_n C dX6_hearEnd_46 rfl (q := 0) rfl ?_
          refine x_get C cl_X6 5 (by decide) fl_X6_21_X6 (dm_17 hi) rfl rfl dX6_hearEnd_47 ?_
          refine x_iload_n C dX6_hearEnd_50 rfl (q := 1) rfl ?_
          refine x_bald C (dm_21 hi) (fun _ _ _ => rfl) dX6_hearEnd_51 h (fun k15 hk15 h => ?_)
          refine x_letI h (fun v16 h => ?_)
          refine x_if_eq C (tgt := 67) dX6_hearEnd_52 (by decide) h (fun hc17 h => ?_) (fun hc17 h => ?_)
          · cases h
            exact x_sub [0, 1] rfl hj12
          · refine x_aload_n C dX6_hearEnd_55 rfl (q := 0) rfl ?_
            refine x_get C cl_X6 6 (by decide) fl_X6_9_X6 (dm_17 hi) rfl rfl dX6_hearEnd_56 ?_
            refine x_iload_n C dX6_hearEnd_59 rfl (q := 1) rfl ?_
            refine x_aload_n C dX6_hearEnd_60 rfl (q := 0) rfl ?_
            refine x_get C cl_X6 0 (by decide) fl_X6_68_X6 (dm_17 hi) rfl rfl dX6_hearEnd_61 ?_
            obtain ⟨s19, hq18, h⟩ := bnd1_some h
            refine x_callV_v C (m_X1_install hq18) wv_X6_91 (x_recv C.2.2.2 cl_X1 (dm_5 z) rfl) rfl (Nat.le_of_ble_eq_true rfl) ⟨⟨rfl, rfl⟩, Nat.le_of_ble_eq_true rfl, Nat.le_of_ble_eq_true rfl⟩ dX6_hearEnd_64 rfl ?_
            cases h
            exact x_sub [0, 1] rfl hj12
    · refine x_iconst C (v := 0) dX6_hearEnd_21 (by decide) ?_
      cases h
      exact xr_z C (by decide) hr dX6_hearEnd_22 (fun _ h => h)
  · refine x_iconst C (v := 1) dX6_hearEnd_9 (by decide) ?_
    cases h
    exact xr_z C (by decide) hr dX6_hearEnd_10 (fun _ h => h)
def f_X6_hear (z : Nat → Nat) (σ : Sg) (i : Nat) (mi : Nat) : Option (Int32 × Sg) :=
  letv (σ.1 13 mi 0 0) fun v1 => if v1 = 1 then (letv (σ.1 13 mi 0 2) fun v3 => bnd2 (f_X6_hearPrepare z σ i v3) fun r5 s6 => gdb r5 <| some (r5, s6)) else (if v1 = 6 then (letv (σ.1 13 mi 0 2) fun v8 => letv (σ.1 13 mi 0 5) fun v9 => bnd2 (f_X6_hearEnd z σ i v8 v9) fun r11 s12 => gdb r11 <| some (r11, s12)) else (some (1, σ)))
def rm_X6_hear : Room := { frames := 4, cells := 0, slots := 0, locals := 87 }
set_option maxRecDepth 100000 in
set_option maxHeartbeats 4000000 in
theorem m_X6_hear {l : Launch} {G : xG} {z : Nat → Nat} {σ : Sg} {τ : Tg} {i : Nat} {mi : Nat} {rF : Int32} {sF : Sg} (hi : i < z 0) (hmi : mi < z 4 + 2) (h : f_X6_hear z σ i mi = some (rF, sF)) : xMet l (xD G) (xcA G) (xbs G) yX6_hear cX6_hear 2 (Option.some Jvm.ClassFile.FieldType.boolean) rm_X6_hear [.ref (xad G 17 i 0), .ref (xad G 13 mi 0)] (xRep G z σ τ) (xRep G z sF τ) (some (.int rF)) 0 0 := by
  refine xMet.of RX6 rfl (by decide +kernel) (Nat.le_of_ble_eq_true rfl) ?_
  intro p e s m args below meth c C hr hnm
  unfold f_X6_hear at h
  refine x_sub (L' := [(0, .ref (xad G 17 i 0)), (1, .ref (xad G 13 mi 0))]) [0, 1] rfl ?_
  refine x_aload_n C dX6_hear_0 rfl (q := 1) rfl ?_
  refine x_get C cl_X3 0 (by decide) fl_X6_32_X3 (dm_13 hmi) rfl rfl dX6_hear_1 ?_
  refine x_letI h (fun v1 h => ?_)
  refine x_ite h (fun hc2 h => ?_) (fun hc2 h => ?_)
  · refine x_lookup C (off := 28) (tgt := 32) dX6_hear_4 (by decide) (by rw [hc2]; decide) (by decide) ?_
    refine x_aload_n C dX6_hear_32 rfl (q := 0) rfl ?_
    refine x_aload_n C dX6_hear_33 rfl (q := 1) rfl ?_
    refine x_get C cl_X3 2 (by decide) fl_X6_37_X3 (dm_13 hmi) rfl rfl dX6_hear_34 ?_
    refine x_letI h (fun v3 h => ?_)
    obtain ⟨r5, s6, hq4, h⟩ := bnd2_some h
    refine x_callV_i C (m_X6_hearPrepare hi hq4) wv_X6_40 (x_recv C.2.2.2 cl_X6 (dm_17 hi) rfl) rfl (Nat.le_of_ble_eq_true rfl) ⟨⟨rfl, rfl⟩, Nat.le_of_ble_eq_true rfl, Nat.le_of_ble_eq_true rfl⟩ dX6_hear_37 rfl ?_
    obtain ⟨hb, h⟩ := gdb_some h
    cases h
    exact xr_z C hb hr dX6_hear_40 (fun _ h => h)
  · refine x_ite h (fun hc7 h => ?_) (fun hc7 h => ?_)
    · refine x_lookup C (off := 37) (tgt := 41) dX6_hear_4 (by decide) (by rw [hc7]; decide) (by decide) ?_
      refine x_aload_n C dX6_hear_41 rfl (q := 0) rfl ?_
      refine x_aload_n C dX6_hear_42 rfl (q := 1) rfl ?_
      refine x_get C cl_X3 2 (by decide) fl_X6_37_X3 (dm_13 hmi) rfl rfl dX6_hear_43 ?_
      refine x_letI h (fun v8 h => ?_)
      refine x_aload_n C dX6_hear_46 rfl (q := 1) rfl ?_
      refine x_get C cl_X3 5 (by decide) fl_X6_44_X3 (dm_13 hmi) rfl rfl dX6_hear_47 ?_
      refine x_letI h (fun v9 h => ?_)
      obtain ⟨r11, s12, hq10, h⟩ := bnd2_some h
      refine x_callV_i C (m_X6_hearEnd hi hq10) wv_X6_47 (x_recv C.2.2.2 cl_X6 (dm_17 hi) rfl) rfl (Nat.le_of_ble_eq_true rfl) ⟨⟨rfl, rfl⟩, Nat.le_of_ble_eq_true rfl, Nat.le_of_ble_eq_true rfl⟩ dX6_hear_50 rfl ?_
      obtain ⟨hb, h⟩ := gdb_some h
      cases h
      exact xr_z C hb hr dX6_hear_53 (fun _ h => h)
    · refine x_lookup C (off := 50) (tgt := 54) dX6_hear_4 (by decide) (by have a0 := xI_ne (k := 1) 1 (by decide) hc2; have a1 := xI_ne (k := 6) 6 (by decide) hc7; simp [Op.lookupswitch.offset, a0, Ne.symm a0, a1, Ne.symm a1]) (by decide) ?_
      refine x_iconst C (v := 1) dX6_hear_54 (by decide) ?_
      cases h
      exact xr_z C (by decide) hr dX6_hear_55 (fun _ h => h)
def f_X9_hasAccepted (z : Nat → Nat) (σ : Sg) (i : Nat) (j : Nat) (x1 : Int32) (x2 : Int32) (x3 : Int32) : Option Int32 :=
  gdx x2 (z 0) fun k1 => letv (σ.1 28 i j k1) fun v2 => if v2 = x1 then (gdx x2 (z 0) fun k4 => letv (σ.1 29 i j k4) fun v5 => if v5 = x3 then (some (1)) else (some (0))) else (some (0))
def rm_X9_hasAccepted : Room := { frames := 0, cells := 0, slots := 0, locals := 0 }
set_option maxRecDepth 100000 in
set_option maxHeartbeats 4000000 in
theorem m_X9_hasAccepted {l : Launch} {G : xG} {z : Nat → Nat} {σ : Sg} {τ : Tg} {i : Nat} {j : Nat} {x1 : Int32} {x2 : Int32} {x3 : Int32} {rF : Int32} (hi : i < z 1) (hj : j < z 2) (h : f_X9_hasAccepted z σ i j x1 x2 x3 = some (rF)) : xMet l (xD G) (xcA G) (xbs G) yX9_hasAccepted cX9_hasAccepted 4 (Option.some Jvm.ClassFile.FieldType.boolean) rm_X9_hasAccepted [.ref (xad G 27 i j), .int x1, .int x2, .int x3] (xRep G z σ τ) (xRep G z σ τ) (some (.int rF)) 0 0 := by
  refine xMet.of RX9 rfl (by decide +kernel) (Nat.le_of_ble_eq_true rfl) ?_
  intro p e s m args below meth c C hr hnm
  unfold f_X9_hasAccepted at h
  refine x_sub (L' := [(0, .ref (xad G 27 i j)), (1, .int x1), (2, .int x2), (3, .int x3)]) [0, 1, 2, 3] rfl ?_
  refine x_aload_n C dX9_hasAccepted_0 rfl (q := 0) rfl ?_
  refine x_get C cl_X9 5 (by decide) fl_X9_18_X9 (dm_27 hi hj) rfl rfl dX9_hasAccepted_1 ?_
  refine x_iload_n C dX9_hasAccepted_4 rfl (q := 2) rfl ?_
  refine x_iald C (dm_28 hi hj) (fun _ _ _ => rfl) dX9_hasAccepted_5 h (fun k1 hk1 h => ?_)
  refine x_letI h (fun v2 h => ?_)
  refine x_iload_n C dX9_hasAccepted_6 rfl (q := 1) rfl ?_
  refine x_icmp_ne C (tgt := 24) dX9_hasAccepted_7 (by decide) h (fun hc3 h => ?_) (fun hc3 h => ?_)
  · refine x_iconst C (v := 0) dX9_hasAccepted_24 (by decide) ?_
    cases h
    exact xr_z C (by decide) hr dX9_hasAccepted_25 (fun _ h => h)
  · refine x_aload_n C dX9_hasAccepted_10 rfl (q := 0) rfl ?_
    refine x_get C cl_X9 6 (by decide) fl_X9_22_X9 (dm_27 hi hj) rfl rfl dX9_hasAccepted_11 ?_
    refine x_iload_n C dX9_hasAccepted_14 rfl (q := 2) rfl ?_
    refine x_iald C (dm_29 hi hj) (fun _ _ _ => rfl) dX9_hasAccepted_15 h (fun k4 hk4 h => ?_)
    refine x_letI h (fun v5 h => ?_)
    refine x_iload_n C dX9_hasAccepted_16 rfl (q := 3) rfl ?_
    refine x_icmp_ne C (tgt := 24) dX9_hasAccepted_17 (by decide) h (fun hc6 h => ?_) (fun hc6 h => ?_)
    · refine x_iconst C (v := 0) dX9_hasAccepted_24 (by decide) ?_
      cases h
      exact xr_z C (by decide) hr dX9_hasAccepted_25 (fun _ h => h)
    · refine x_iconst C (v := 1) dX9_hasAccepted_20 (by decide) ?_
      refine x_goto C (tgt := 25) dX9_hasAccepted_21 (by decide) ?_
      cases h
      exact xr_z C (by decide) hr dX9_hasAccepted_25 (fun _ h => h)
def f_X9_take (z : Nat → Nat) (σ : Sg) (i : Nat) (j : Nat) (x1 : Int32) (x2 : Int32) (x3 : Int32) : Option Sg :=
  letv (upI σ 27 i j 1 x1) fun s1 => gdx x2 (z 0) fun k2 => letv (upI s1 28 i j k2 x1) fun s3 => gdx x2 (z 0) fun k4 => letv (upI s3 29 i j k4 x3) fun s5 => some (s5)
def rm_X9_take : Room := { frames := 0, cells := 0, slots := 0, locals := 0 }
set_option maxRecDepth 100000 in
set_option maxHeartbeats 4000000 in
theorem m_X9_take {l : Launch} {G : xG} {z : Nat → Nat} {σ : Sg} {τ : Tg} {i : Nat} {j : Nat} {x1 : Int32} {x2 : Int32} {x3 : Int32} {sF : Sg} (hi : i < z 1) (hj : j < z 2) (h : f_X9_take z σ i j x1 x2 x3 = some (sF)) : xMet l (xD G) (xcA G) (xbs G) yX9_take cX9_take 4 (Option.none : Option Jvm.ClassFile.FieldType) rm_X9_take [.ref (xad G 27 i j), .int x1, .int x2, .int x3] (xRep G z σ τ) (xRep G z sF τ) none 0 0 := by
  refine xMet.of RX9 rfl (by decide +kernel) (Nat.le_of_ble_eq_true rfl) ?_
  intro p e s m args below meth c C hr hnm
  unfold f_X9_take at h
  refine x_sub (L' := [(0, .ref (xad G 27 i j)), (1, .int x1), (2, .int x2), (3, .int x3)]) [0, 1, 2, 3] rfl ?_
  refine x_aload_n C dX9_take_0 rfl (q := 0) rfl ?_
  refine x_iload_n C dX9_take_1 rfl (q := 1) rfl ?_
  refine x_putI C cl_X9 1 (by decide) fl_X9_53_X9 rfl (dm_27 hi hj) (fun _ _ _ => rfl) (fun _ _ _ => rfl) (fun _ _ _ => Nat.le_of_ble_eq_true rfl) rfl rfl dX9_take_2 h (fun s1 h => ?_)
  refine x_aload_n C dX9_take_5 rfl (q := 0) rfl ?_
  refine x_get C cl_X9 5 (by decide) fl_X9_18_X9 (dm_27 hi hj) rfl rfl dX9_take_6 ?_
  refine x_iload_n C dX9_take_9 rfl (q := 2) rfl ?_
  refine x_iload_n C dX9_take_10 rfl (q := 1) rfl ?_
  refine x_iast C (dm_28 hi hj) (fun _ _ _ => rfl) dX9_take_11 h (fun k2 hk2 h => ?_)
  refine x_letS h (fun s3 h => ?_)
  refine x_aload_n C dX9_take_12 rfl (q := 0) rfl ?_
  refine x_get C cl_X9 6 (by decide) fl_X9_22_X9 (dm_27 hi hj) rfl rfl dX9_take_13 ?_
  refine x_iload_n C dX9_take_16 rfl (q := 2) rfl ?_
  refine x_iload_n C dX9_take_17 rfl (q := 3) rfl ?_
  refine x_iast C (dm_29 hi hj) (fun _ _ _ => rfl) dX9_take_18 h (fun k4 hk4 h => ?_)
  refine x_letS h (fun s5 h => ?_)
  cases h
  exact xr_v C hr dX9_take_19 (fun _ h => h)
def f_X9_listensFor (z : Nat → Nat) (σ : Sg) (i : Nat) (j : Nat) (x1 : Int32) : Option Int32 :=
  letv (σ.1 27 i j 2) fun v1 => if v1 = x1 then (letv (σ.1 27 i j 3) fun v3 => if v3 = 0 then (some (1)) else (some (0))) else (some (0))
def rm_X9_listensFor : Room := { frames := 0, cells := 0, slots := 0, locals := 0 }
set_option maxRecDepth 100000 in
set_option maxHeartbeats 4000000 in
theorem m_X9_listensFor {l : Launch} {G : xG} {z : Nat → Nat} {σ : Sg} {τ : Tg} {i : Nat} {j : Nat} {x1 : Int32} {rF : Int32} (hi : i < z 1) (hj : j < z 2) (h : f_X9_listensFor z σ i j x1 = some (rF)) : xMet l (xD G) (xcA G) (xbs G) yX9_listensFor cX9_listensFor 2 (Option.some Jvm.ClassFile.FieldType.boolean) rm_X9_listensFor [.ref (xad G 27 i j), .int x1] (xRep G z σ τ) (xRep G z σ τ) (some (.int rF)) 0 0 := by
  refine xMet.of RX9 rfl (by decide +kernel) (Nat.le_of_ble_eq_true rfl) ?_
  intro p e s m args below meth c C hr hnm
  unfold f_X9_listensFor at h
  refine x_sub (L' := [(0, .ref (xad G 27 i j)), (1, .int x1)]) [0, 1] rfl ?_
  refine x_aload_n C dX9_listensFor_0 rfl (q := 0) rfl ?_
  refine x_get C cl_X9 2 (by decide) fl_X9_15_X9 (dm_27 hi hj) rfl rfl dX9_listensFor_1 ?_
  refine x_letI h (fun v1 h => ?_)
  refine x_iload_n C dX9_listensFor_4 rfl (q := 1) rfl ?_
  refine x_icmp_ne C (tgt := 19) dX9_listensFor_5 (by decide) h (fun hc2 h => ?_) (fun hc2 h => ?_)
  · refine x_iconst C (v := 0) dX9_listensFor_19 (by decide) ?_
    cases h
    exact xr_z C (by decide) hr dX9_listensFor_20 (fun _ h => h)
  · refine x_aload_n C dX9_listensFor_8 rfl (q := 0) rfl ?_
    refine x_get C cl_X9 3 (by decide) fl_X9_46_X9 (dm_27 hi hj) rfl rfl dX9_listensFor_9 ?_
    refine x_letI h (fun v3 h => ?_)
    refine x_if_ne C (tgt := 19) dX9_listensFor_12 (by decide) h (fun hc4 h => ?_) (fun hc4 h => ?_)
    · refine x_iconst C (v := 0) dX9_listensFor_19 (by decide) ?_
      cases h
      exact xr_z C (by decide) hr dX9_listensFor_20 (fun _ h => h)
    · refine x_iconst C (v := 1) dX9_listensFor_15 (by decide) ?_
      refine x_goto C (tgt := 20) dX9_listensFor_16 (by decide) ?_
      cases h
      exact xr_z C (by decide) hr dX9_listensFor_20 (fun _ h => h)
def f_X9_countVoter (z : Nat → Nat) (σ : Sg) (i : Nat) (j : Nat) (x1 : Int32) (x2 : Int32) (x3 : Int32) : Option Sg :=
  gdx x1 (z 0) fun k1 => letv (σ.1 32 i j k1) fun v2 => gdx x1 (z 0) fun k3 => letv (σ.1 33 i j k3) fun v4 => if ((v2 ||| v4) &&& x3) = 0 then (if x2 = 1 then (gdx x1 (z 0) fun k11 => letv (σ.1 32 i j k11) fun v12 => gdx x1 (z 0) fun k13 => letv (upI σ 32 i j k13 (v12 ||| x3)) fun s14 => some (s14)) else (gdx x1 (z 0) fun k7 => letv (σ.1 33 i j k7) fun v8 => gdx x1 (z 0) fun k9 => letv (upI σ 33 i j k9 (v8 ||| x3)) fun s10 => some (s10))) else (some (σ))
def rm_X9_countVoter : Room := { frames := 0, cells := 0, slots := 0, locals := 0 }
set_option maxRecDepth 100000 in
set_option maxHeartbeats 4000000 in
theorem m_X9_countVoter {l : Launch} {G : xG} {z : Nat → Nat} {σ : Sg} {τ : Tg} {i : Nat} {j : Nat} {x1 : Int32} {x2 : Int32} {x3 : Int32} {sF : Sg} (hi : i < z 1) (hj : j < z 2) (h : f_X9_countVoter z σ i j x1 x2 x3 = some (sF)) : xMet l (xD G) (xcA G) (xbs G) yX9_countVoter cX9_countVoter 4 (Option.none : Option Jvm.ClassFile.FieldType) rm_X9_countVoter [.ref (xad G 27 i j), .int x1, .int x2, .int x3] (xRep G z σ τ) (xRep G z sF τ) none 0 0 := by
  refine xMet.of RX9 rfl (by decide +kernel) (Nat.le_of_ble_eq_true rfl) ?_
  intro p e s m args below meth c C hr hnm
  unfold f_X9_countVoter at h
  refine x_sub (L' := [(0, .ref (xad G 27 i j)), (1, .int x1), (2, .int x2), (3, .int x3)]) [0, 1, 2, 3] rfl ?_
  refine x_aload_n C dX9_countVoter_0 rfl (q := 0) rfl ?_
  refine x_get C cl_X9 9 (by decide) fl_X9_31_X9 (dm_27 hi hj) rfl rfl dX9_countVoter_1 ?_
  refine x_iload_n C dX9_countVoter_4 rfl (q := 1) rfl ?_
  refine x_iald C (dm_32 hi hj) (fun _ _ _ => rfl) dX9_countVoter_5 h (fun k1 hk1 h => ?_)
  refine x_letI h (fun v2 h => ?_)
  refine x_aload_n C dX9_countVoter_6 rfl (q := 0) rfl ?_
  refine x_get C cl_X9 10 (by decide) fl_X9_34_X9 (dm_27 hi hj) rfl rfl dX9_countVoter_7 ?_
  refine x_iload_n C dX9_countVoter_10 rfl (q := 1) rfl ?_
  refine x_iald C (dm_33 hi hj) (fun _ _ _ => rfl) dX9_countVoter_11 h (fun k3 hk3 h => ?_)
  refine x_letI h (fun v4 h => ?_)
  refine x_ior C dX9_countVoter_12 ?_
  refine x_iload_n C dX9_countVoter_13 rfl (q := 3) rfl ?_
  refine x_iand C dX9_countVoter_14 ?_
  refine x_if_eq C (tgt := 19) dX9_countVoter_15 (by decide) h (fun hc5 h => ?_) (fun hc5 h => ?_)
  · refine x_iload_n C dX9_countVoter_19 rfl (q := 2) rfl ?_
    refine x_iconst C (v := 1) dX9_countVoter_20 (by decide) ?_
    refine x_icmp_ne C (tgt := 37) dX9_countVoter_21 (by decide) h (fun hc6 h => ?_) (fun hc6 h => ?_)
    · refine x_aload_n C dX9_countVoter_37 rfl (q := 0) rfl ?_
      refine x_get C cl_X9 10 (by decide) fl_X9_34_X9 (dm_27 hi hj) rfl rfl dX9_countVoter_38 ?_
      refine x_iload_n C dX9_countVoter_41 rfl (q := 1) rfl ?_
      refine x_dup2 C dX9_countVoter_42 rfl rfl ?_
      refine x_iald C (dm_33 hi hj) (fun _ _ _ => rfl) dX9_countVoter_43 h (fun k7 hk7 h => ?_)
      refine x_letI h (fun v8 h => ?_)
      refine x_iload_n C dX9_countVoter_44 rfl (q := 3) rfl ?_
      refine x_ior C dX9_countVoter_45 ?_
      refine x_iast C (dm_33 hi hj) (fun _ _ _ => rfl) dX9_countVoter_46 h (fun k9 hk9 h => ?_)
      refine x_letS h (fun s10 h => ?_)
      cases h
      exact xr_v C hr dX9_countVoter_47 (fun _ h => h)
    · refine x_aload_n C dX9_countVoter_24 rfl (q := 0) rfl ?_
      refine x_get C cl_X9 9 (by decide) fl_X9_31_X9 (dm_27 hi hj) rfl rfl dX9_countVoter_25 ?_
      refine x_iload_n C dX9_countVoter_28 rfl (q := 1) rfl ?_
      refine x_dup2 C dX9_countVoter_29 rfl rfl ?_
      refine x_iald C (dm_32 hi hj) (fun _ _ _ => rfl) dX9_countVoter_30 h (fun k11 hk11 h => ?_)
      refine x_letI h (fun v12 h => ?_)
      refine x_iload_n C dX9_countVoter_31 rfl (q := 3) rfl ?_
      refine x_ior C dX9_countVoter_32 ?_
      refine x_iast C (dm_32 hi hj) (fun _ _ _ => rfl) dX9_countVoter_33 h (fun k13 hk13 h => ?_)
      refine x_letS h (fun s14 h => ?_)
      refine x_goto C (tgt := 47) dX9_countVoter_34 (by decide) ?_
      cases h
      exact xr_v C hr dX9_countVoter_47 (fun _ h => h)
  · cases h
    exact xr_v C hr dX9_countVoter_18 (fun _ h => h)
def f_X9_keepGreatest_L2 (z : Nat → Nat) (i : Nat) (j : Nat) (mi : Nat) : Nat → Int32 → Sg → Option Sg
  | 0, _, _ => none
  | n + 1, y1, s2 => if (nI (z 0)) ≤ y1 then (some (s2)) else (gdx y1 (z 0) fun k7 => letv (s2.1 14 mi 0 k7) fun v8 => gdx y1 (z 0) fun k9 => letv (s2.1 30 i j k9) fun v10 => if v8 ≤ v10 then (letv (y1 + 1) fun v12 => f_X9_keepGreatest_L2 z i j mi n v12 s2) else (gdx y1 (z 0) fun k13 => letv (s2.1 14 mi 0 k13) fun v14 => gdx y1 (z 0) fun k15 => letv (upI s2 30 i j k15 v14) fun s16 => gdx y1 (z 0) fun k17 => letv (s16.1 15 mi 0 k17) fun v18 => gdx y1 (z 0) fun k19 => letv (upI s16 31 i j k19 v18) fun s20 => letv (y1 + 1) fun v21 => f_X9_keepGreatest_L2 z i j mi n v21 s20))
def f_X9_keepGreatest (z : Nat → Nat) (σ : Sg) (i : Nat) (j : Nat) (mi : Nat) : Option Sg :=
  bnd1 (f_X9_keepGreatest_L2 z i j mi FU 0 σ) fun (s3 : Sg) => some (s3)
def rm_X9_keepGreatest : Room := { frames := 0, cells := 0, slots := 0, locals := 0 }
set_option maxRecDepth 100000 in
set_option maxHeartbeats 4000000 in
theorem m_X9_keepGreatest {l : Launch} {G : xG} {z : Nat → Nat} {σ : Sg} {τ : Tg} {i : Nat} {j : Nat} {mi : Nat} {sF : Sg} (hi : i < z 1) (hj : j < z 2) (hmi : mi < z 4 + 2) (h : f_X9_keepGreatest z σ i j mi = some (sF)) : xMet l (xD G) (xcA G) (xbs G) yX9_keepGreatest cX9_keepGreatest 4 (Option.none : Option Jvm.ClassFile.FieldType) rm_X9_keepGreatest [.ref (xad G 27 i j), .ref (xad G 14 mi 0), .ref (xad G 15 mi 0)] (xRep G z σ τ) (xRep G z sF τ) none 0 0 := by
  refine xMet.of RX9 rfl (by decide +kernel) (Nat.le_of_ble_eq_true rfl) ?_
  intro p e s m args below meth c C hr hnm
  unfold f_X9_keepGreatest at h
  refine x_sub (L' := [(0, .ref (xad G 27 i j)), (1, .ref (xad G 14 mi 0)), (2, .ref (xad G 15 mi 0))]) [0, 1, 2] rfl ?_
  refine x_iconst C (v := 0) dX9_keepGreatest_0 (by decide) ?_
  refine x_istore_n C (L' := [(3, .int 0), (0, .ref (xad G 27 i j)), (1, .ref (xad G 14 mi 0)), (2, .ref (xad G 15 mi 0))]) dX9_keepGreatest_1 rfl (by decide) rfl ?_
  obtain ⟨s3, hv5, h⟩ := bnd1_some h
  refine x_join (Ω' := (xRep G z s3 τ)) (pc' := 47) (L' := []) (st' := []) ?_ (fun hj4 => ?_)
  · cases h
    exact xr_v C hr dX9_keepGreatest_47 (fun _ h => h)
  · have hl22 : ∀ (n : Nat) (y1 : Int32) (s2 : Sg), f_X9_keepGreatest_L2 z i j mi n y1 s2 = some (s3) → XW p l e rm_X9_keepGreatest s m args below meth c 0 0 4 (xbs G) (xQ below args s (xbs G) none (xRep G z sF τ) 0 0) (xRep G z s2 τ) 2 [(0, .ref (xad G 27 i j)), (1, .ref (xad G 14 mi 0)), (2, .ref (xad G 15 mi 0)), (3, .int y1)] [] := by
      intro n
      induction n with
      | zero =>
        intro y1 s2 h
        exact absurd h (by rw [f_X9_keepGreatest_L2]; intro q; cases q)
      | succ n ih =>
        intro y1 s2 h
        rw [f_X9_keepGreatest_L2] at h
        refine x_iload_n C dX9_keepGreatest_2 rfl (q := 3) rfl ?_
        refine x_aload_n C dX9_keepGreatest_3 rfl (q := 0) rfl ?_
        refine x_get C cl_X9 7 (by decide) fl_X9_25_X9 (dm_27 hi hj) rfl rfl dX9_keepGreatest_4 ?_
        refine x_alen C 0 rfl (dm_30 hi hj) rfl dX9_keepGreatest_7 ?_
        refine x_icmp_ge C (tgt := 47) dX9_keepGreatest_8 (by decide) h (fun hc6 h => ?_) (fun hc6 h => ?_)
        · cases h
          exact x_sub [] rfl hj4
        · refine x_aload_n C dX9_keepGreatest_11 rfl (q := 1) rfl ?_
          refine x_iload_n C dX9_keepGreatest_12 rfl (q := 3) rfl ?_
          refine x_iald C (dm_14 hmi) (fun _ _ _ => rfl) dX9_keepGreatest_13 h (fun k7 hk7 h => ?_)
          refine x_letI h (fun v8 h => ?_)
          refine x_aload_n C dX9_keepGreatest_14 rfl (q := 0) rfl ?_
          refine x_get C cl_X9 7 (by decide) fl_X9_25_X9 (dm_27 hi hj) rfl rfl dX9_keepGreatest_15 ?_
          refine x_iload_n C dX9_keepGreatest_18 rfl (q := 3) rfl ?_
          refine x_iald C (dm_30 hi hj) (fun _ _ _ => rfl) dX9_keepGreatest_19 h (fun k9 hk9 h => ?_)
          refine x_letI h (fun v10 h => ?_)
          refine x_icmp_le C (tgt := 41) dX9_keepGreatest_20 (by decide) h (fun hc11 h => ?_) (fun hc11 h => ?_)
          · refine x_iincL C (w := 1) (L' := fun v12 => [(3, .int v12), (0, .ref (xad G 27 i j)), (1, .ref (xad G 14 mi 0)), (2, .ref (xad G 15 mi 0))]) dX9_keepGreatest_41 (k := 3) rfl (by decide) (by decide) (fun _ => rfl) h (fun v12 h => ?_)
            refine x_goto C (tgt := 2) dX9_keepGreatest_44 (by decide) ?_
            exact x_sub [1, 2, 3, 0] rfl (ih _ _ h)
          · refine x_aload_n C dX9_keepGreatest_23 rfl (q := 0) rfl ?_
            refine x_get C cl_X9 7 (by decide) fl_X9_25_X9 (dm_27 hi hj) rfl rfl dX9_keepGreatest_24 ?_
            refine x_iload_n C dX9_keepGreatest_27 rfl (q := 3) rfl ?_
            refine x_aload_n C dX9_keepGreatest_28 rfl (q := 1) rfl ?_
            refine x_iload_n C dX9_keepGreatest_29 rfl (q := 3) rfl ?_
            refine x_iald C (dm_14 hmi) (fun _ _ _ => rfl) dX9_keepGreatest_30 h (fun k13 hk13 h => ?_)
            refine x_letI h (fun v14 h => ?_)
            refine x_iast C (dm_30 hi hj) (fun _ _ _ => rfl) dX9_keepGreatest_31 h (fun k15 hk15 h => ?_)
            refine x_letS h (fun s16 h => ?_)
            refine x_aload_n C dX9_keepGreatest_32 rfl (q := 0) rfl ?_
            refine x_get C cl_X9 8 (by decide) fl_X9_28_X9 (dm_27 hi hj) rfl rfl dX9_keepGreatest_33 ?_
            refine x_iload_n C dX9_keepGreatest_36 rfl (q := 3) rfl ?_
            refine x_aload_n C dX9_keepGreatest_37 rfl (q := 2) rfl ?_
            refine x_iload_n C dX9_keepGreatest_38 rfl (q := 3) rfl ?_
            refine x_iald C (dm_15 hmi) (fun _ _ _ => rfl) dX9_keepGreatest_39 h (fun k17 hk17 h => ?_)
            refine x_letI h (fun v18 h => ?_)
            refine x_iast C (dm_31 hi hj) (fun _ _ _ => rfl) dX9_keepGreatest_40 h (fun k19 hk19 h => ?_)
            refine x_letS h (fun s20 h => ?_)
            refine x_iincL C (w := 1) (L' := fun v21 => [(3, .int v21), (0, .ref (xad G 27 i j)), (1, .ref (xad G 14 mi 0)), (2, .ref (xad G 15 mi 0))]) dX9_keepGreatest_41 (k := 3) rfl (by decide) (by decide) (fun _ => rfl) h (fun v21 h => ?_)
            refine x_goto C (tgt := 2) dX9_keepGreatest_44 (by decide) ?_
            exact x_sub [1, 2, 3, 0] rfl (ih _ _ h)
    exact x_sub [1, 2, 3, 0] rfl (hl22 FU _ _ hv5)
def f_X9_keptOrNo (z : Nat → Nat) (σ : Sg) (i : Nat) (j : Nat) (x1 : Int32) : Option Int32 :=
  gdx x1 (z 0) fun k1 => letv (σ.1 31 i j k1) fun v2 => if v2 = 0 then (some (2)) else (gdx x1 (z 0) fun k4 => letv (σ.1 31 i j k4) fun v5 => some (v5))
def rm_X9_keptOrNo : Room := { frames := 0, cells := 0, slots := 0, locals := 0 }
set_option maxRecDepth 100000 in
set_option maxHeartbeats 4000000 in
theorem m_X9_keptOrNo {l : Launch} {G : xG} {z : Nat → Nat} {σ : Sg} {τ : Tg} {i : Nat} {j : Nat} {x1 : Int32} {rF : Int32} (hi : i < z 1) (hj : j < z 2) (h : f_X9_keptOrNo z σ i j x1 = some (rF)) : xMet l (xD G) (xcA G) (xbs G) yX9_keptOrNo cX9_keptOrNo 2 (Option.some Jvm.ClassFile.FieldType.int) rm_X9_keptOrNo [.ref (xad G 27 i j), .int x1] (xRep G z σ τ) (xRep G z σ τ) (some (.int rF)) 0 0 := by
  refine xMet.of RX9 rfl (by decide +kernel) (Nat.le_of_ble_eq_true rfl) ?_
  intro p e s m args below meth c C hr hnm
  unfold f_X9_keptOrNo at h
  refine x_sub (L' := [(0, .ref (xad G 27 i j)), (1, .int x1)]) [0, 1] rfl ?_
  refine x_aload_n C dX9_keptOrNo_0 rfl (q := 0) rfl ?_
  refine x_get C cl_X9 8 (by decide) fl_X9_28_X9 (dm_27 hi hj) rfl rfl dX9_keptOrNo_1 ?_
  refine x_iload_n C dX9_keptOrNo_4 rfl (q := 1) rfl ?_
  refine x_iald C (dm_31 hi hj) (fun _ _ _ => rfl) dX9_keptOrNo_5 h (fun k1 hk1 h => ?_)
  refine x_letI h (fun v2 h => ?_)
  refine x_if_ne C (tgt := 13) dX9_keptOrNo_6 (by decide) h (fun hc3 h => ?_) (fun hc3 h => ?_)
  · refine x_aload_n C dX9_keptOrNo_13 rfl (q := 0) rfl ?_
    refine x_get C cl_X9 8 (by decide) fl_X9_28_X9 (dm_27 hi hj) rfl rfl dX9_keptOrNo_14 ?_
    refine x_iload_n C dX9_keptOrNo_17 rfl (q := 1) rfl ?_
    refine x_iald C (dm_31 hi hj) (fun _ _ _ => rfl) dX9_keptOrNo_18 h (fun k4 hk4 h => ?_)
    refine x_letI h (fun v5 h => ?_)
    cases h
    exact xr_i C hr dX9_keptOrNo_19 (fun _ h => h)
  · refine x_iconst C (v := 2) dX9_keptOrNo_9 (by decide) ?_
    refine x_goto C (tgt := 19) dX9_keptOrNo_10 (by decide) ?_
    cases h
    exact xr_i C hr dX9_keptOrNo_19 (fun _ h => h)
def f_X9_lead (z : Nat → Nat) (σ : Sg) (i : Nat) (j : Nat) (x1 : Int32) : Option Sg :=
  letv (upI σ 27 i j 2 x1) fun s1 => letv (upI s1 27 i j 4 0) fun s2 => gdd (z 0 < 2147483648) <| letv (fillI s2 30 i j (z 0) (-1)) fun s3 => gdd (z 0 < 2147483648) <| letv (fillI s3 31 i j (z 0) 0) fun s4 => gdd (z 0 < 2147483648) <| letv (fillI s4 32 i j (z 0) 0) fun s5 => gdd (z 0 < 2147483648) <| letv (fillI s5 33 i j (z 0) 0) fun s6 => some (s6)
def rm_X9_lead : Room := { frames := 1, cells := 0, slots := 0, locals := 23 }
set_option maxRecDepth 100000 in
set_option maxHeartbeats 4000000 in
theorem m_X9_lead {l : Launch} {G : xG} {z : Nat → Nat} {σ : Sg} {τ : Tg} {i : Nat} {j : Nat} {x1 : Int32} {sF : Sg} (hi : i < z 1) (hj : j < z 2) (h : f_X9_lead z σ i j x1 = some (sF)) : xMet l (xD G) (xcA G) (xbs G) yX9_lead cX9_lead 2 (Option.none : Option Jvm.ClassFile.FieldType) rm_X9_lead [.ref (xad G 27 i j), .int x1] (xRep G z σ τ) (xRep G z sF τ) none 0 0 := by
  refine xMet.of RX9 rfl (by decide +kernel) (Nat.le_of_ble_eq_true rfl) ?_
  intro p e s m args below meth c C hr hnm
  unfold f_X9_lead at h
  refine x_sub (L' := [(0, .ref (xad G 27 i j)), (1, .int x1)]) [0, 1] rfl ?_
  refine x_aload_n C dX9_lead_0 rfl (q := 0) rfl ?_
  refine x_iload_n C dX9_lead_1 rfl (q := 1) rfl ?_
  refine x_putI C cl_X9 2 (by decide) fl_X9_15_X9 rfl (dm_27 hi hj) (fun _ _ _ => rfl) (fun _ _ _ => rfl) (fun _ _ _ => Nat.le_of_ble_eq_true rfl) rfl rfl dX9_lead_2 h (fun s1 h => ?_)
  refine x_aload_n C dX9_lead_5 rfl (q := 0) rfl ?_
  refine x_iconst C (v := 0) dX9_lead_6 (by decide) ?_
  refine x_putI C cl_X9 4 (by decide) fl_X9_43_X9 rfl (dm_27 hi hj) (fun _ _ _ => rfl) (fun _ _ _ => rfl) (fun _ _ _ => Nat.le_of_ble_eq_true rfl) rfl rfl dX9_lead_7 h (fun s2 h => ?_)
  refine x_aload_n C dX9_lead_10 rfl (q := 0) rfl ?_
  refine x_get C cl_X9 7 (by decide) fl_X9_25_X9 (dm_27 hi hj) rfl rfl dX9_lead_11 ?_
  refine x_iconst C (v := (-1)) dX9_lead_14 (by decide) ?_
  obtain ⟨hz, h⟩ := gdd_some h
  refine x_callS_v C (m_fill hz (dm_30 hi hj) (fun _ _ _ => rfl)) ws_X9_37 rfl (Nat.le_of_ble_eq_true rfl) ⟨⟨rfl, rfl⟩, Nat.le_of_ble_eq_true rfl, Nat.le_of_ble_eq_true rfl⟩ dX9_lead_15 rfl ?_
  refine x_letS h (fun s3 h => ?_)
  refine x_aload_n C dX9_lead_18 rfl (q := 0) rfl ?_
  refine x_get C cl_X9 8 (by decide) fl_X9_28_X9 (dm_27 hi hj) rfl rfl dX9_lead_19 ?_
  refine x_iconst C (v := 0) dX9_lead_22 (by decide) ?_
  obtain ⟨hz, h⟩ := gdd_some h
  refine x_callS_v C (m_fill hz (dm_31 hi hj) (fun _ _ _ => rfl)) ws_X9_37 rfl (Nat.le_of_ble_eq_true rfl) ⟨⟨rfl, rfl⟩, Nat.le_of_ble_eq_true rfl, Nat.le_of_ble_eq_true rfl⟩ dX9_lead_23 rfl ?_
  refine x_letS h (fun s4 h => ?_)
  refine x_aload_n C dX9_lead_26 rfl (q := 0) rfl ?_
  refine x_get C cl_X9 9 (by decide) fl_X9_31_X9 (dm_27 hi hj) rfl rfl dX9_lead_27 ?_
  refine x_iconst C (v := 0) dX9_lead_30 (by decide) ?_
  obtain ⟨hz, h⟩ := gdd_some h
  refine x_callS_v C (m_fill hz (dm_32 hi hj) (fun _ _ _ => rfl)) ws_X9_37 rfl (Nat.le_of_ble_eq_true rfl) ⟨⟨rfl, rfl⟩, Nat.le_of_ble_eq_true rfl, Nat.le_of_ble_eq_true rfl⟩ dX9_lead_31 rfl ?_
  refine x_letS h (fun s5 h => ?_)
  refine x_aload_n C dX9_lead_34 rfl (q := 0) rfl ?_
  refine x_get C cl_X9 10 (by decide) fl_X9_34_X9 (dm_27 hi hj) rfl rfl dX9_lead_35 ?_
  refine x_iconst C (v := 0) dX9_lead_38 (by decide) ?_
  obtain ⟨hz, h⟩ := gdd_some h
  refine x_callS_v C (m_fill hz (dm_33 hi hj) (fun _ _ _ => rfl)) ws_X9_37 rfl (Nat.le_of_ble_eq_true rfl) ⟨⟨rfl, rfl⟩, Nat.le_of_ble_eq_true rfl, Nat.le_of_ble_eq_true rfl⟩ dX9_lead_39 rfl ?_
  refine x_letS h (fun s6 h => ?_)
  cases h
  exact xr_v C hr dX9_lead_42 (fun _ h => h)
def f_X6_forget_L2 (z : Nat → Nat) (i : Nat) : Nat → Int32 → Sg → Option Sg
  | 0, _, _ => none
  | n + 1, y1, s2 => if (nI (z 2)) ≤ y1 then (some (s2)) else (gdx y1 (z 2) fun k7 => letv (s2.1 22 i 0 k7) fun v8 => bnd1 (α := Int32) (if v8 = 1 then (gdx y1 (z 2) fun k13 => letv (s2.1 23 i 0 k13) fun v14 => if v14 = 0 then (some (1)) else (some (0))) else (some (0))) fun (v9 : Int32) => if v9 = 0 then (bnd1 (f_X6_endSession z s2 i y1) fun s19 => letv (y1 + 1) fun v20 => f_X6_forget_L2 z i n v20 s19) else (letv (y1 + 1) fun v17 => f_X6_forget_L2 z i n v17 s2))
def f_X6_forget (z : Nat → Nat) (σ : Sg) (i : Nat) : Option Sg :=
  bnd1 (f_X6_forget_L2 z i FU 0 σ) fun (s3 : Sg) => some (s3)
def rm_X6_forget : Room := { frames := 3, cells := 0, slots := 0, locals := 65 }
set_option maxRecDepth 100000 in
set_option maxHeartbeats 4000000 in
theorem m_X6_forget {l : Launch} {G : xG} {z : Nat → Nat} {σ : Sg} {τ : Tg} {i : Nat} {sF : Sg} (hi : i < z 0) (h : f_X6_forget z σ i = some (sF)) : xMet l (xD G) (xcA G) (xbs G) yX6_forget cX6_forget 3 (Option.none : Option Jvm.ClassFile.FieldType) rm_X6_forget [.ref (xad G 17 i 0)] (xRep G z σ τ) (xRep G z sF τ) none 0 0 := by
  refine xMet.of RX6 rfl (by decide +kernel) (Nat.le_of_ble_eq_true rfl) ?_
  intro p e s m args below meth c C hr hnm
  unfold f_X6_forget at h
  refine x_sub (L' := [(0, .ref (xad G 17 i 0))]) [0] rfl ?_
  refine x_iconst C (v := 0) dX6_forget_0 (by decide) ?_
  refine x_istore_n C (L' := [(1, .int 0), (0, .ref (xad G 17 i 0))]) dX6_forget_1 rfl (by decide) rfl ?_
  obtain ⟨s3, hv5, h⟩ := bnd1_some h
  refine x_join (Ω' := (xRep G z s3 τ)) (pc' := 51) (L' := []) (st' := []) ?_ (fun hj4 => ?_)
  · cases h
    exact xr_v C hr dX6_forget_51 (fun _ h => h)
  · have hl21 : ∀ (n : Nat) (y1 : Int32) (s2 : Sg), f_X6_forget_L2 z i n y1 s2 = some (s3) → XW p l e rm_X6_forget s m args below meth c 0 0 3 (xbs G) (xQ below args s (xbs G) none (xRep G z sF τ) 0 0) (xRep G z s2 τ) 2 [(0, .ref (xad G 17 i 0)), (1, .int y1)] [] := by
      intro n
      induction n with
      | zero =>
        intro y1 s2 h
        exact absurd h (by rw [f_X6_forget_L2]; intro q; cases q)
      | succ n ih =>
        intro y1 s2 h
        rw [f_X6_forget_L2] at h
        refine x_iload_n C dX6_forget_2 rfl (q := 1) rfl ?_
        refine x_aload_n C dX6_forget_3 rfl (q := 0) rfl ?_
        refine x_get C cl_X6 5 (by decide) fl_X6_21_X6 (dm_17 hi) rfl rfl dX6_forget_4 ?_
        refine x_alen C 2 rfl (dm_21 hi) rfl dX6_forget_7 ?_
        refine x_icmp_ge C (tgt := 51) dX6_forget_8 (by decide) h (fun hc6 h => ?_) (fun hc6 h => ?_)
        · cases h
          exact x_sub [] rfl hj4
        · refine x_aload_n C dX6_forget_11 rfl (q := 0) rfl ?_
          refine x_get C cl_X6 7 (by decide) fl_X6_25_X6 (dm_17 hi) rfl rfl dX6_forget_12 ?_
          refine x_iload_n C dX6_forget_15 rfl (q := 1) rfl ?_
          refine x_iald C (dm_22 hi) (fun _ _ _ => rfl) dX6_forget_16 h (fun k7 hk7 h => ?_)
          refine x_letI h (fun v8 h => ?_)
          refine x_iconst C (v := 1) dX6_forget_17 (by decide) ?_
          obtain ⟨v9, hv11, h⟩ := bnd1_some h
          refine x_join (Ω' := (xRep G z s2 τ)) (pc' := 35) (L' := [(0, .ref (xad G 17 i 0)), (1, .int y1)]) (st' := [.int v9]) ?_ (fun hj10 => ?_)
          · refine x_istore_n C (L' := [(2, .int v9), (0, .ref (xad G 17 i 0)), (1, .int y1)]) dX6_forget_35 rfl (by decide) rfl ?_
            refine x_iload_n C dX6_forget_36 rfl (q := 0) rfl ?_
            refine x_if_ne C (tgt := 45) dX6_forget_37 (by decide) h (fun hc16 h => ?_) (fun hc16 h => ?_)
            · refine x_iincL C (w := 1) (L' := fun v17 => [(1, .int v17), (2, .int v9), (0, .ref (xad G 17 i 0))]) dX6_forget_45 (k := 2) rfl (by decide) (by decide) (fun _ => rfl) h (fun v17 h => ?_)
              refine x_goto C (tgt := 2) dX6_forget_48 (by decide) ?_
              exact x_sub [2, 0] rfl (ih _ _ h)
            · refine x_aload_n C dX6_forget_40 rfl (q := 1) rfl ?_
              refine x_iload_n C dX6_forget_41 rfl (q := 2) rfl ?_
              obtain ⟨s19, hq18, h⟩ := bnd1_some h
              refine x_callV_v C (m_X6_endSession hi hq18) wv_X6_94 (x_recv C.2.2.2 cl_X6 (dm_17 hi) rfl) rfl (Nat.le_of_ble_eq_true rfl) ⟨⟨rfl, rfl⟩, Nat.le_of_ble_eq_true rfl, Nat.le_of_ble_eq_true rfl⟩ dX6_forget_42 rfl ?_
              refine x_iincL C (w := 1) (L' := fun v20 => [(1, .int v20), (2, .int v9), (0, .ref (xad G 17 i 0))]) dX6_forget_45 (k := 2) rfl (by decide) (by decide) (fun _ => rfl) h (fun v20 h => ?_)
              refine x_goto C (tgt := 2) dX6_forget_48 (by decide) ?_
              exact x_sub [2, 0] rfl (ih _ _ h)
          · replace h := hv11
            clear hv11
            refine x_icmp_ne C (tgt := 34) dX6_forget_18 (by decide) h (fun hc12 h => ?_) (fun hc12 h => ?_)
            · refine x_iconst C (v := 0) dX6_forget_34 (by decide) ?_
              cases h
              exact x_sub [0, 1] rfl hj10
            · refine x_aload_n C dX6_forget_21 rfl (q := 0) rfl ?_
              refine x_get C cl_X6 8 (by decide) fl_X6_29_X6 (dm_17 hi) rfl rfl dX6_forget_22 ?_
              refine x_iload_n C dX6_forget_25 rfl (q := 1) rfl ?_
              refine x_iald C (dm_23 hi) (fun _ _ _ => rfl) dX6_forget_26 h (fun k13 hk13 h => ?_)
              refine x_letI h (fun v14 h => ?_)
              refine x_if_ne C (tgt := 34) dX6_forget_27 (by decide) h (fun hc15 h => ?_) (fun hc15 h => ?_)
              · refine x_iconst C (v := 0) dX6_forget_34 (by decide) ?_
                cases h
                exact x_sub [0, 1] rfl hj10
              · refine x_iconst C (v := 1) dX6_forget_30 (by decide) ?_
                refine x_goto C (tgt := 35) dX6_forget_31 (by decide) ?_
                cases h
                exact x_sub [0, 1] rfl hj10
    exact x_sub [1, 0] rfl (hl21 FU _ _ hv5)
def f_X9_forget (z : Nat → Nat) (σ : Sg) (i : Nat) (j : Nat) : Option Sg :=
  letv (upI σ 27 i j 3 0) fun s1 => bnd1 (f_X9_lead z s1 i j (if i = 0 then 0 else -1)) fun s3 => some (s3)
def rm_X9_forget : Room := { frames := 2, cells := 0, slots := 0, locals := 44 }
set_option maxRecDepth 100000 in
set_option maxHeartbeats 4000000 in
theorem m_X9_forget {l : Launch} {G : xG} {z : Nat → Nat} {σ : Sg} {τ : Tg} {i : Nat} {j : Nat} {sF : Sg} (hi : i < z 1) (hj : j < z 2) (h : f_X9_forget z σ i j = some (sF)) : xMet l (xD G) (xcA G) (xbs G) yX9_forget cX9_forget 1 (Option.none : Option Jvm.ClassFile.FieldType) rm_X9_forget [.ref (xad G 27 i j)] (xRep G z σ τ) (xRep G z sF τ) none 0 0 := by
  refine xMet.of RX9 rfl (by decide +kernel) (Nat.le_of_ble_eq_true rfl) ?_
  intro p e s m args below meth c C hr hnm
  unfold f_X9_forget at h
  refine x_sub (L' := [(0, .ref (xad G 27 i j))]) [0] rfl ?_
  refine x_aload_n C dX9_forget_0 rfl (q := 0) rfl ?_
  refine x_iconst C (v := 0) dX9_forget_1 (by decide) ?_
  refine x_putI C cl_X9 3 (by decide) fl_X9_46_X9 rfl (dm_27 hi hj) (fun _ _ _ => rfl) (fun _ _ _ => rfl) (fun _ _ _ => Nat.le_of_ble_eq_true rfl) rfl rfl dX9_forget_2 h (fun s1 h => ?_)
  refine x_aload_n C dX9_forget_5 rfl (q := 0) rfl ?_
  refine x_aload_n C dX9_forget_6 rfl (q := 0) rfl ?_
  refine x_get C cl_X9 0 (by decide) fl_X9_9_X9 (dm_27 hi hj) rfl rfl dX9_forget_7 ?_
  obtain ⟨s3, hq2, h⟩ := bnd1_some h
  refine x_callV_v C (m_X9_lead hi hj hq2) wv_X9_49 (x_recv C.2.2.2 cl_X9 (dm_27 hi hj) rfl) rfl (Nat.le_of_ble_eq_true rfl) ⟨⟨rfl, rfl⟩, Nat.le_of_ble_eq_true rfl, Nat.le_of_ble_eq_true rfl⟩ dX9_forget_10 rfl ?_
  cases h
  exact xr_v C hr dX9_forget_13 (fun _ h => h)
def f_X1_holders_L4 (z : Nat → Nat) (σ : Sg) (x1 : Int32) : Nat → Int32 → Int32 → Option Int32
  | 0, _, _ => none
  | n + 1, y1, y2 => if (nI (z 2)) ≤ y2 then (some (y1)) else (gdx y2 (z 2) fun k7 => gdx x1 (z 3) fun k8 => letv (σ.1 8 k7 0 k8) fun v9 => if v9 = 0 then (letv (y2 + 1) fun v11 => f_X1_holders_L4 z σ x1 n y1 v11) else (letv (y1 + 1) fun v12 => letv (y2 + 1) fun v13 => f_X1_holders_L4 z σ x1 n v12 v13))
def f_X1_holders (z : Nat → Nat) (σ : Sg) (x1 : Int32) : Option Int32 :=
  bnd1 (f_X1_holders_L4 z σ x1 FU 0 0) fun (v3 : Int32) => some (v3)
def rm_X1_holders : Room := { frames := 0, cells := 0, slots := 0, locals := 0 }
set_option maxRecDepth 100000 in
set_option maxHeartbeats 4000000 in
theorem m_X1_holders {l : Launch} {G : xG} {z : Nat → Nat} {σ : Sg} {τ : Tg} {x1 : Int32} {rF : Int32} (h : f_X1_holders z σ x1 = some (rF)) : xMet l (xD G) (xcA G) (xbs G) yX1_holders cX1_holders 4 (Option.some Jvm.ClassFile.FieldType.int) rm_X1_holders [.ref (xad G 5 0 0), .int x1] (xRep G z σ τ) (xRep G z σ τ) (some (.int rF)) 0 0 := by
  refine xMet.of RX1 rfl (by decide +kernel) (Nat.le_of_ble_eq_true rfl) ?_
  intro p e s m args below meth c C hr hnm
  unfold f_X1_holders at h
  refine x_sub (L' := [(0, .ref (xad G 5 0 0)), (1, .int x1)]) [0, 1] rfl ?_
  refine x_iconst C (v := 0) dX1_holders_0 (by decide) ?_
  refine x_istore_n C (L' := [(2, .int 0), (0, .ref (xad G 5 0 0)), (1, .int x1)]) dX1_holders_1 rfl (by decide) rfl ?_
  refine x_iconst C (v := 0) dX1_holders_2 (by decide) ?_
  refine x_istore_n C (L' := [(3, .int 0), (2, .int 0), (0, .ref (xad G 5 0 0)), (1, .int x1)]) dX1_holders_3 rfl (by decide) rfl ?_
  obtain ⟨v3, hv5, h⟩ := bnd1_some h
  refine x_join (Ω' := (xRep G z σ τ)) (pc' := 33) (L' := [(2, .int v3)]) (st' := []) ?_ (fun hj4 => ?_)
  · refine x_iload_n C dX1_holders_33 rfl (q := 0) rfl ?_
    cases h
    exact xr_i C hr dX1_holders_34 (fun _ h => h)
  · have hl14 : ∀ (n : Nat) (y1 : Int32) (y2 : Int32), f_X1_holders_L4 z σ x1 n y1 y2 = some (v3) → XW p l e rm_X1_holders s m args below meth c 0 0 4 (xbs G) (xQ below args s (xbs G) (some (.int rF)) (xRep G z σ τ) 0 0) (xRep G z σ τ) 4 [(0, .ref (xad G 5 0 0)), (1, .int x1), (2, .int y1), (3, .int y2)] [] := by
      intro n
      induction n with
      | zero =>
        intro y1 y2 h
        exact absurd h (by rw [f_X1_holders_L4]; intro q; cases q)
      | succ n ih =>
        intro y1 y2 h
        rw [f_X1_holders_L4] at h
        refine x_iload_n C dX1_holders_4 rfl (q := 3) rfl ?_
        refine x_aload_n C dX1_holders_5 rfl (q := 0) rfl ?_
        refine x_get C cl_X1 2 (by decide) fl_X1_30_X1 (dm_5 z) rfl rfl dX1_holders_6 ?_
        refine x_alen C 3 rfl (dm_7 z) rfl dX1_holders_9 ?_
        refine x_icmp_ge C (tgt := 33) dX1_holders_10 (by decide) h (fun hc6 h => ?_) (fun hc6 h => ?_)
        · cases h
          exact x_sub [2] rfl hj4
        · refine x_aload_n C dX1_holders_13 rfl (q := 0) rfl ?_
          refine x_get C cl_X1 2 (by decide) fl_X1_30_X1 (dm_5 z) rfl rfl dX1_holders_14 ?_
          refine x_iload_n C dX1_holders_17 rfl (q := 3) rfl ?_
          refine x_aald C 3 rfl rfl (dm_7 z) rfl dX1_holders_18 h (fun k7 hk7 h => ?_)
          refine x_iload_n C dX1_holders_19 rfl (q := 1) rfl ?_
          refine x_iald C (dm_8 hk7) (fun _ _ _ => rfl) dX1_holders_20 h (fun k8 hk8 h => ?_)
          refine x_letI h (fun v9 h => ?_)
          refine x_if_eq C (tgt := 27) dX1_holders_21 (by decide) h (fun hc10 h => ?_) (fun hc10 h => ?_)
          · refine x_iincL C (w := 1) (L' := fun v11 => [(3, .int v11), (0, .ref (xad G 5 0 0)), (1, .int x1), (2, .int y1)]) dX1_holders_27 (k := 3) rfl (by decide) (by decide) (fun _ => rfl) h (fun v11 h => ?_)
            refine x_goto C (tgt := 4) dX1_holders_30 (by decide) ?_
            exact x_sub [1, 2, 3, 0] rfl (ih _ _ h)
          · refine x_iincL C (w := 1) (L' := fun v12 => [(2, .int v12), (0, .ref (xad G 5 0 0)), (1, .int x1), (3, .int y2)]) dX1_holders_24 (k := 2) rfl (by decide) (by decide) (fun _ => rfl) h (fun v12 h => ?_)
            refine x_iincL C (w := 1) (L' := fun v13 => [(3, .int v13), (2, .int v12), (0, .ref (xad G 5 0 0)), (1, .int x1)]) dX1_holders_27 (k := 3) rfl (by decide) (by decide) (fun _ => rfl) h (fun v13 h => ?_)
            refine x_goto C (tgt := 4) dX1_holders_30 (by decide) ?_
            exact x_sub [2, 3, 1, 0] rfl (ih _ _ h)
    exact x_sub [2, 3, 1, 0] rfl (hl14 FU _ _ hv5)
def f_X1_leastHolder_L2 (z : Nat → Nat) (σ : Sg) (x1 : Int32) : Nat → Int32 → Option Int32
  | 0, _ => none
  | n + 1, y1 => if (nI (z 2)) ≤ y1 then (some ((-1))) else (gdx y1 (z 2) fun k3 => gdx x1 (z 3) fun k4 => letv (σ.1 8 k3 0 k4) fun v5 => if v5 = 0 then (letv (y1 + 1) fun v7 => f_X1_leastHolder_L2 z σ x1 n v7) else (some (y1)))
def f_X1_leastHolder (z : Nat → Nat) (σ : Sg) (x1 : Int32) : Option Int32 :=
  f_X1_leastHolder_L2 z σ x1 FU 0
def rm_X1_leastHolder : Room := { frames := 0, cells := 0, slots := 0, locals := 0 }
set_option maxRecDepth 100000 in
set_option maxHeartbeats 4000000 in
theorem m_X1_leastHolder {l : Launch} {G : xG} {z : Nat → Nat} {σ : Sg} {τ : Tg} {x1 : Int32} {rF : Int32} (h : f_X1_leastHolder z σ x1 = some (rF)) : xMet l (xD G) (xcA G) (xbs G) yX1_leastHolder cX1_leastHolder 3 (Option.some Jvm.ClassFile.FieldType.int) rm_X1_leastHolder [.ref (xad G 5 0 0), .int x1] (xRep G z σ τ) (xRep G z σ τ) (some (.int rF)) 0 0 := by
  refine xMet.of RX1 rfl (by decide +kernel) (Nat.le_of_ble_eq_true rfl) ?_
  intro p e s m args below meth c C hr hnm
  unfold f_X1_leastHolder at h
  refine x_sub (L' := [(0, .ref (xad G 5 0 0)), (1, .int x1)]) [0, 1] rfl ?_
  refine x_iconst C (v := 0) dX1_leastHolder_0 (by decide) ?_
  refine x_istore_n C (L' := [(2, .int 0), (0, .ref (xad G 5 0 0)), (1, .int x1)]) dX1_leastHolder_1 rfl (by decide) rfl ?_
  have hl8 : ∀ (n : Nat) (y1 : Int32), f_X1_leastHolder_L2 z σ x1 n y1 = some (rF) → XW p l e rm_X1_leastHolder s m args below meth c 0 0 3 (xbs G) (xQ below args s (xbs G) (some (.int rF)) (xRep G z σ τ) 0 0) (xRep G z σ τ) 2 [(0, .ref (xad G 5 0 0)), (1, .int x1), (2, .int y1)] [] := by
    intro n
    induction n with
    | zero =>
      intro y1 h
      exact absurd h (by rw [f_X1_leastHolder_L2]; intro q; cases q)
    | succ n ih =>
      intro y1 h
      rw [f_X1_leastHolder_L2] at h
      refine x_iload_n C dX1_leastHolder_2 rfl (q := 2) rfl ?_
      refine x_aload_n C dX1_leastHolder_3 rfl (q := 0) rfl ?_
      refine x_get C cl_X1 2 (by decide) fl_X1_30_X1 (dm_5 z) rfl rfl dX1_leastHolder_4 ?_
      refine x_alen C 3 rfl (dm_7 z) rfl dX1_leastHolder_7 ?_
      refine x_icmp_ge C (tgt := 30) dX1_leastHolder_8 (by decide) h (fun hc2 h => ?_) (fun hc2 h => ?_)
      · refine x_iconst C (v := (-1)) dX1_leastHolder_30 (by decide) ?_
        cases h
        exact xr_i C hr dX1_leastHolder_31 (fun _ h => h)
      · refine x_aload_n C dX1_leastHolder_11 rfl (q := 0) rfl ?_
        refine x_get C cl_X1 2 (by decide) fl_X1_30_X1 (dm_5 z) rfl rfl dX1_leastHolder_12 ?_
        refine x_iload_n C dX1_leastHolder_15 rfl (q := 2) rfl ?_
        refine x_aald C 3 rfl rfl (dm_7 z) rfl dX1_leastHolder_16 h (fun k3 hk3 h => ?_)
        refine x_iload_n C dX1_leastHolder_17 rfl (q := 1) rfl ?_
        refine x_iald C (dm_8 hk3) (fun _ _ _ => rfl) dX1_leastHolder_18 h (fun k4 hk4 h => ?_)
        refine x_letI h (fun v5 h => ?_)
        refine x_if_eq C (tgt := 24) dX1_leastHolder_19 (by decide) h (fun hc6 h => ?_) (fun hc6 h => ?_)
        · refine x_iincL C (w := 1) (L' := fun v7 => [(2, .int v7), (0, .ref (xad G 5 0 0)), (1, .int x1)]) dX1_leastHolder_24 (k := 2) rfl (by decide) (by decide) (fun _ => rfl) h (fun v7 h => ?_)
          refine x_goto C (tgt := 2) dX1_leastHolder_27 (by decide) ?_
          exact x_sub [1, 2, 0] rfl (ih _ h)
        · refine x_iload_n C dX1_leastHolder_22 rfl (q := 2) rfl ?_
          cases h
          exact xr_i C hr dX1_leastHolder_23 (fun _ h => h)
  exact x_sub [1, 2, 0] rfl (hl8 FU _ h)
def f_X1_isExclusive_L2 (z : Nat → Nat) (σ : Sg) (x1 : Int32) : Nat → Int32 → Option Int32
  | 0, _ => none
  | n + 1, y1 => if (nI (z 2)) ≤ y1 then (some (0)) else (gdx y1 (z 2) fun k3 => gdx x1 (z 3) fun k4 => letv (σ.1 8 k3 0 k4) fun v5 => if v5 = 2 then (some (1)) else (letv (y1 + 1) fun v7 => f_X1_isExclusive_L2 z σ x1 n v7))
def f_X1_isExclusive (z : Nat → Nat) (σ : Sg) (x1 : Int32) : Option Int32 :=
  f_X1_isExclusive_L2 z σ x1 FU 0
def rm_X1_isExclusive : Room := { frames := 0, cells := 0, slots := 0, locals := 0 }
set_option maxRecDepth 100000 in
set_option maxHeartbeats 4000000 in
theorem m_X1_isExclusive {l : Launch} {G : xG} {z : Nat → Nat} {σ : Sg} {τ : Tg} {x1 : Int32} {rF : Int32} (h : f_X1_isExclusive z σ x1 = some (rF)) : xMet l (xD G) (xcA G) (xbs G) yX1_isExclusive cX1_isExclusive 3 (Option.some Jvm.ClassFile.FieldType.boolean) rm_X1_isExclusive [.ref (xad G 5 0 0), .int x1] (xRep G z σ τ) (xRep G z σ τ) (some (.int rF)) 0 0 := by
  refine xMet.of RX1 rfl (by decide +kernel) (Nat.le_of_ble_eq_true rfl) ?_
  intro p e s m args below meth c C hr hnm
  unfold f_X1_isExclusive at h
  refine x_sub (L' := [(0, .ref (xad G 5 0 0)), (1, .int x1)]) [0, 1] rfl ?_
  refine x_iconst C (v := 0) dX1_isExclusive_0 (by decide) ?_
  refine x_istore_n C (L' := [(2, .int 0), (0, .ref (xad G 5 0 0)), (1, .int x1)]) dX1_isExclusive_1 rfl (by decide) rfl ?_
  have hl8 : ∀ (n : Nat) (y1 : Int32), f_X1_isExclusive_L2 z σ x1 n y1 = some (rF) → XW p l e rm_X1_isExclusive s m args below meth c 0 0 3 (xbs G) (xQ below args s (xbs G) (some (.int rF)) (xRep G z σ τ) 0 0) (xRep G z σ τ) 2 [(0, .ref (xad G 5 0 0)), (1, .int x1), (2, .int y1)] [] := by
    intro n
    induction n with
    | zero =>
      intro y1 h
      exact absurd h (by rw [f_X1_isExclusive_L2]; intro q; cases q)
    | succ n ih =>
      intro y1 h
      rw [f_X1_isExclusive_L2] at h
      refine x_iload_n C dX1_isExclusive_2 rfl (q := 2) rfl ?_
      refine x_aload_n C dX1_isExclusive_3 rfl (q := 0) rfl ?_
      refine x_get C cl_X1 2 (by decide) fl_X1_30_X1 (dm_5 z) rfl rfl dX1_isExclusive_4 ?_
      refine x_alen C 3 rfl (dm_7 z) rfl dX1_isExclusive_7 ?_
      refine x_icmp_ge C (tgt := 31) dX1_isExclusive_8 (by decide) h (fun hc2 h => ?_) (fun hc2 h => ?_)
      · refine x_iconst C (v := 0) dX1_isExclusive_31 (by decide) ?_
        cases h
        exact xr_z C (by decide) hr dX1_isExclusive_32 (fun _ h => h)
      · refine x_aload_n C dX1_isExclusive_11 rfl (q := 0) rfl ?_
        refine x_get C cl_X1 2 (by decide) fl_X1_30_X1 (dm_5 z) rfl rfl dX1_isExclusive_12 ?_
        refine x_iload_n C dX1_isExclusive_15 rfl (q := 2) rfl ?_
        refine x_aald C 3 rfl rfl (dm_7 z) rfl dX1_isExclusive_16 h (fun k3 hk3 h => ?_)
        refine x_iload_n C dX1_isExclusive_17 rfl (q := 1) rfl ?_
        refine x_iald C (dm_8 hk3) (fun _ _ _ => rfl) dX1_isExclusive_18 h (fun k4 hk4 h => ?_)
        refine x_letI h (fun v5 h => ?_)
        refine x_iconst C (v := 2) dX1_isExclusive_19 (by decide) ?_
        refine x_icmp_ne C (tgt := 25) dX1_isExclusive_20 (by decide) h (fun hc6 h => ?_) (fun hc6 h => ?_)
        · refine x_iincL C (w := 1) (L' := fun v7 => [(2, .int v7), (0, .ref (xad G 5 0 0)), (1, .int x1)]) dX1_isExclusive_25 (k := 2) rfl (by decide) (by decide) (fun _ => rfl) h (fun v7 h => ?_)
          refine x_goto C (tgt := 2) dX1_isExclusive_28 (by decide) ?_
          exact x_sub [1, 2, 0] rfl (ih _ h)
        · refine x_iconst C (v := 1) dX1_isExclusive_23 (by decide) ?_
          cases h
          exact xr_z C (by decide) hr dX1_isExclusive_24 (fun _ h => h)
  exact x_sub [1, 2, 0] rfl (hl8 FU _ h)
def f_X6_openSessions_L13 (z : Nat → Nat) (σ : Sg) (i : Nat) (v1 : Int32) : Nat → Int32 → Int32 → Option Int32
  | 0, _, _ => none
  | n + 1, y2, y3 => if v1 ≤ y3 then (some (y2)) else (gdx y3 (z 2) fun k8 => letv (σ.1 21 i 0 k8) fun v9 => if v9 = 0 then (letv (y3 + 1) fun v11 => f_X6_openSessions_L13 z σ i v1 n y2 v11) else (letv (y2 + 1) fun v12 => letv (y3 + 1) fun v13 => f_X6_openSessions_L13 z σ i v1 n v12 v13))
def f_X6_openSessions (z : Nat → Nat) (σ : Sg) (i : Nat) : Option Int32 :=
  letv (nI (z 2)) fun v1 => bnd1 (f_X6_openSessions_L13 z σ i v1 FU 0 0) fun (v4 : Int32) => some (v4)
def rm_X6_openSessions : Room := { frames := 0, cells := 0, slots := 0, locals := 0 }
set_option maxRecDepth 100000 in
set_option maxHeartbeats 4000000 in
theorem m_X6_openSessions {l : Launch} {G : xG} {z : Nat → Nat} {σ : Sg} {τ : Tg} {i : Nat} {rF : Int32} (hi : i < z 0) (h : f_X6_openSessions z σ i = some (rF)) : xMet l (xD G) (xcA G) (xbs G) yX6_openSessions cX6_openSessions 6 (Option.some Jvm.ClassFile.FieldType.int) rm_X6_openSessions [.ref (xad G 17 i 0)] (xRep G z σ τ) (xRep G z σ τ) (some (.int rF)) 0 0 := by
  refine xMet.of RX6 rfl (by decide +kernel) (Nat.le_of_ble_eq_true rfl) ?_
  intro p e s m args below meth c C hr hnm
  unfold f_X6_openSessions at h
  refine x_sub (L' := [(0, .ref (xad G 17 i 0))]) [0] rfl ?_
  refine x_iconst C (v := 0) dX6_openSessions_0 (by decide) ?_
  refine x_istore_n C (L' := [(1, .int 0), (0, .ref (xad G 17 i 0))]) dX6_openSessions_1 rfl (by decide) rfl ?_
  refine x_aload_n C dX6_openSessions_2 rfl (q := 1) rfl ?_
  refine x_get C cl_X6 5 (by decide) fl_X6_21_X6 (dm_17 hi) rfl rfl dX6_openSessions_3 ?_
  refine x_astore_n C (L' := [(2, .ref (xad G 21 i 0)), (1, .int 0), (0, .ref (xad G 17 i 0))]) dX6_openSessions_6 rfl (by decide) rfl ?_
  refine x_aload_n C dX6_openSessions_7 rfl (q := 0) rfl ?_
  refine x_alen C 2 rfl (dm_21 hi) rfl dX6_openSessions_8 ?_
  refine x_letI h (fun v1 h => ?_)
  refine x_istore_n C (L' := [(3, .int v1), (2, .ref (xad G 21 i 0)), (1, .int 0), (0, .ref (xad G 17 i 0))]) dX6_openSessions_9 rfl (by decide) rfl ?_
  refine x_iconst C (v := 0) dX6_openSessions_10 (by decide) ?_
  refine x_istore C (L' := [(4, .int 0), (3, .int v1), (2, .ref (xad G 21 i 0)), (1, .int 0), (0, .ref (xad G 17 i 0))]) dX6_openSessions_11 (by decide) rfl ?_
  obtain ⟨v4, hv6, h⟩ := bnd1_some h
  refine x_join (Ω' := (xRep G z σ τ)) (pc' := 39) (L' := [(1, .int v4)]) (st' := []) ?_ (fun hj5 => ?_)
  · refine x_iload_n C dX6_openSessions_39 rfl (q := 0) rfl ?_
    cases h
    exact xr_i C hr dX6_openSessions_40 (fun _ h => h)
  · have hl14 : ∀ (n : Nat) (y2 : Int32) (y3 : Int32), f_X6_openSessions_L13 z σ i v1 n y2 y3 = some (v4) → XW p l e rm_X6_openSessions s m args below meth c 0 0 6 (xbs G) (xQ below args s (xbs G) (some (.int rF)) (xRep G z σ τ) 0 0) (xRep G z σ τ) 13 [(1, .int y2), (2, .ref (xad G 21 i 0)), (3, .int v1), (4, .int y3)] [] := by
      intro n
      induction n with
      | zero =>
        intro y2 y3 h
        exact absurd h (by rw [f_X6_openSessions_L13]; intro q; cases q)
      | succ n ih =>
        intro y2 y3 h
        rw [f_X6_openSessions_L13] at h
        refine x_iload C dX6_openSessions_13 (q := 3) rfl ?_
        refine x_iload_n C dX6_openSessions_15 rfl (q := 2) rfl ?_
        refine x_icmp_ge C (tgt := 39) dX6_openSessions_16 (by decide) h (fun hc7 h => ?_) (fun hc7 h => ?_)
        · cases h
          exact x_sub [0] rfl hj5
        · refine x_aload_n C dX6_openSessions_19 rfl (q := 1) rfl ?_
          refine x_iload C dX6_openSessions_20 (q := 3) rfl ?_
          refine x_bald C (dm_21 hi) (fun _ _ _ => rfl) dX6_openSessions_22 h (fun k8 hk8 h => ?_)
          refine x_letI h (fun v9 h => ?_)
          refine x_istore C (L' := [(5, .int v9), (1, .int y2), (2, .ref (xad G 21 i 0)), (3, .int v1), (4, .int y3)]) dX6_openSessions_23 (by decide) rfl ?_
          refine x_iload C dX6_openSessions_25 (q := 0) rfl ?_
          refine x_if_eq C (tgt := 33) dX6_openSessions_27 (by decide) h (fun hc10 h => ?_) (fun hc10 h => ?_)
          · refine x_iincL C (w := 1) (L' := fun v11 => [(4, .int v11), (5, .int v9), (1, .int y2), (2, .ref (xad G 21 i 0)), (3, .int v1)]) dX6_openSessions_33 (k := 4) rfl (by decide) (by decide) (fun _ => rfl) h (fun v11 h => ?_)
            refine x_goto C (tgt := 13) dX6_openSessions_36 (by decide) ?_
            exact x_sub [2, 3, 4, 0] rfl (ih _ _ h)
          · refine x_iincL C (w := 1) (L' := fun v12 => [(1, .int v12), (5, .int v9), (2, .ref (xad G 21 i 0)), (3, .int v1), (4, .int y3)]) dX6_openSessions_30 (k := 1) rfl (by decide) (by decide) (fun _ => rfl) h (fun v12 h => ?_)
            refine x_iincL C (w := 1) (L' := fun v13 => [(4, .int v13), (1, .int v12), (5, .int v9), (2, .ref (xad G 21 i 0)), (3, .int v1)]) dX6_openSessions_33 (k := 4) rfl (by decide) (by decide) (fun _ => rfl) h (fun v13 h => ?_)
            refine x_goto C (tgt := 13) dX6_openSessions_36 (by decide) ?_
            exact x_sub [1, 3, 4, 0] rfl (ih _ _ h)
    exact x_sub [3, 2, 1, 0] rfl (hl14 FU _ _ hv6)
def f_X6_told (z : Nat → Nat) (σ : Sg) (i : Nat) (x1 : Int32) : Option Int32 :=
  if x1 = 2 then (bnd1 (f_X6_openSessions z σ i) fun r3 => some (r3)) else (some ((-1)))
def rm_X6_told : Room := { frames := 1, cells := 0, slots := 0, locals := 25 }
set_option maxRecDepth 100000 in
set_option maxHeartbeats 4000000 in
theorem m_X6_told {l : Launch} {G : xG} {z : Nat → Nat} {σ : Sg} {τ : Tg} {i : Nat} {x1 : Int32} {rF : Int32} (hi : i < z 0) (h : f_X6_told z σ i x1 = some (rF)) : xMet l (xD G) (xcA G) (xbs G) yX6_told cX6_told 2 (Option.some Jvm.ClassFile.FieldType.int) rm_X6_told [.ref (xad G 17 i 0), .int x1] (xRep G z σ τ) (xRep G z σ τ) (some (.int rF)) 0 0 := by
  refine xMet.of RX6 rfl (by decide +kernel) (Nat.le_of_ble_eq_true rfl) ?_
  intro p e s m args below meth c C hr hnm
  unfold f_X6_told at h
  refine x_sub (L' := [(0, .ref (xad G 17 i 0)), (1, .int x1)]) [0, 1] rfl ?_
  refine x_iload_n C dX6_told_0 rfl (q := 1) rfl ?_
  refine x_iconst C (v := 2) dX6_told_1 (by decide) ?_
  refine x_icmp_ne C (tgt := 12) dX6_told_2 (by decide) h (fun hc1 h => ?_) (fun hc1 h => ?_)
  · refine x_iconst C (v := (-1)) dX6_told_12 (by decide) ?_
    cases h
    exact xr_i C hr dX6_told_13 (fun _ h => h)
  · refine x_aload_n C dX6_told_5 rfl (q := 0) rfl ?_
    obtain ⟨r3, hq2, h⟩ := bnd1_some h
    refine x_callV_i C (m_X6_openSessions hi hq2) wv_X6_100 (x_recv C.2.2.2 cl_X6 (dm_17 hi) rfl) rfl (Nat.le_of_ble_eq_true rfl) ⟨⟨rfl, rfl⟩, Nat.le_of_ble_eq_true rfl, Nat.le_of_ble_eq_true rfl⟩ dX6_told_6 rfl ?_
    refine x_goto C (tgt := 13) dX6_told_9 (by decide) ?_
    cases h
    exact xr_i C hr dX6_told_13 (fun _ h => h)
def f_X9_toldOfBallot (z : Nat → Nat) (σ : Sg) (i : Nat) (j : Nat) (x1 : Int32) : Option Int32 :=
  if x1 = 0 then (letv (σ.1 27 i j 1) fun v2 => some (v2)) else (if x1 = 1 then (letv (σ.1 27 i j 2) fun v4 => some (v4)) else (if x1 = 2 then (letv (σ.1 27 i j 3) fun v6 => some (v6)) else (if x1 = 3 then (letv (σ.1 27 i j 4) fun v8 => bnd1 (f_J6_bitCount_0f7a4 v8) fun r10 => some (r10)) else (some ((-1))))))
def rm_X9_toldOfBallot : Room := { frames := 1, cells := 0, slots := 0, locals := 20 }
set_option maxRecDepth 100000 in
set_option maxHeartbeats 4000000 in
theorem m_X9_toldOfBallot {l : Launch} {G : xG} {z : Nat → Nat} {σ : Sg} {τ : Tg} {i : Nat} {j : Nat} {x1 : Int32} {rF : Int32} (hi : i < z 1) (hj : j < z 2) (h : f_X9_toldOfBallot z σ i j x1 = some (rF)) : xMet l (xD G) (xcA G) (xbs G) yX9_toldOfBallot cX9_toldOfBallot 2 (Option.some Jvm.ClassFile.FieldType.int) rm_X9_toldOfBallot [.ref (xad G 27 i j), .int x1] (xRep G z σ τ) (xRep G z σ τ) (some (.int rF)) 0 0 := by
  refine xMet.of RX9 rfl (by decide +kernel) (Nat.le_of_ble_eq_true rfl) ?_
  intro p e s m args below meth c C hr hnm
  unfold f_X9_toldOfBallot at h
  refine x_sub (L' := [(0, .ref (xad G 27 i j)), (1, .int x1)]) [0, 1] rfl ?_
  refine x_iload_n C dX9_toldOfBallot_0 rfl (q := 1) rfl ?_
  refine x_ite h (fun hc1 h => ?_) (fun hc1 h => ?_)
  · refine x_tableIn C (off := 31) (tgt := 32) dX9_toldOfBallot_1 0 hc1 (by decide) (by decide) rfl (by decide) ?_
    refine x_aload_n C dX9_toldOfBallot_32 rfl (q := 0) rfl ?_
    refine x_get C cl_X9 1 (by decide) fl_X9_53_X9 (dm_27 hi hj) rfl rfl dX9_toldOfBallot_33 ?_
    refine x_letI h (fun v2 h => ?_)
    cases h
    exact xr_i C hr dX9_toldOfBallot_36 (fun _ h => h)
  · refine x_ite h (fun hc3 h => ?_) (fun hc3 h => ?_)
    · refine x_tableIn C (off := 36) (tgt := 37) dX9_toldOfBallot_1 1 hc3 (by decide) (by decide) rfl (by decide) ?_
      refine x_aload_n C dX9_toldOfBallot_37 rfl (q := 0) rfl ?_
      refine x_get C cl_X9 2 (by decide) fl_X9_15_X9 (dm_27 hi hj) rfl rfl dX9_toldOfBallot_38 ?_
      refine x_letI h (fun v4 h => ?_)
      cases h
      exact xr_i C hr dX9_toldOfBallot_41 (fun _ h => h)
    · refine x_ite h (fun hc5 h => ?_) (fun hc5 h => ?_)
      · refine x_tableIn C (off := 41) (tgt := 42) dX9_toldOfBallot_1 2 hc5 (by decide) (by decide) rfl (by decide) ?_
        refine x_aload_n C dX9_toldOfBallot_42 rfl (q := 0) rfl ?_
        refine x_get C cl_X9 3 (by decide) fl_X9_46_X9 (dm_27 hi hj) rfl rfl dX9_toldOfBallot_43 ?_
        refine x_letI h (fun v6 h => ?_)
        cases h
        exact xr_i C hr dX9_toldOfBallot_46 (fun _ h => h)
      · refine x_ite h (fun hc7 h => ?_) (fun hc7 h => ?_)
        · refine x_tableIn C (off := 46) (tgt := 47) dX9_toldOfBallot_1 3 hc7 (by decide) (by decide) rfl (by decide) ?_
          refine x_aload_n C dX9_toldOfBallot_47 rfl (q := 0) rfl ?_
          refine x_get C cl_X9 4 (by decide) fl_X9_43_X9 (dm_27 hi hj) rfl rfl dX9_toldOfBallot_48 ?_
          refine x_letI h (fun v8 h => ?_)
          obtain ⟨r10, hq9, h⟩ := bnd1_some h
          refine x_callS_i C (m_J6_bitCount_0f7a4 hq9) ws_X9_56 rfl (Nat.le_of_ble_eq_true rfl) ⟨⟨rfl, rfl⟩, Nat.le_of_ble_eq_true rfl, Nat.le_of_ble_eq_true rfl⟩ dX9_toldOfBallot_51 rfl ?_
          cases h
          exact xr_i C hr dX9_toldOfBallot_54 (fun _ h => h)
        · refine x_tableOut C (tgt := 55) dX9_toldOfBallot_1 (by have a0 := xI_ne (k := 0) 0 (by decide) hc1; have a1 := xI_ne (k := 1) 1 (by decide) hc3; have a2 := xI_ne (k := 2) 2 (by decide) hc5; have a3 := xI_ne (k := 3) 3 (by decide) hc7; omega) (by decide) ?_
          refine x_iconst C (v := (-1)) dX9_toldOfBallot_55 (by decide) ?_
          cases h
          exact xr_i C hr dX9_toldOfBallot_56 (fun _ h => h)
def f_X9_toldOfShard (z : Nat → Nat) (σ : Sg) (i : Nat) (j : Nat) (x1 : Int32) (x2 : Int32) : Option Int32 :=
  if x2 = 0 then (gdx x1 (z 0) fun k2 => letv (σ.1 28 i j k2) fun v3 => some (v3)) else (if x2 = 1 then (gdx x1 (z 0) fun k5 => letv (σ.1 29 i j k5) fun v6 => some (v6)) else (if x2 = 2 then (gdx x1 (z 0) fun k8 => letv (σ.1 32 i j k8) fun v9 => gdx x1 (z 0) fun k10 => letv (σ.1 33 i j k10) fun v11 => bnd1 (f_J6_bitCount_0f7a4 (v9 ||| v11)) fun r13 => some (r13)) else (some ((-1)))))
def rm_X9_toldOfShard : Room := { frames := 1, cells := 0, slots := 0, locals := 20 }
set_option maxRecDepth 100000 in
set_option maxHeartbeats 4000000 in
theorem m_X9_toldOfShard {l : Launch} {G : xG} {z : Nat → Nat} {σ : Sg} {τ : Tg} {i : Nat} {j : Nat} {x1 : Int32} {x2 : Int32} {rF : Int32} (hi : i < z 1) (hj : j < z 2) (h : f_X9_toldOfShard z σ i j x1 x2 = some (rF)) : xMet l (xD G) (xcA G) (xbs G) yX9_toldOfShard cX9_toldOfShard 3 (Option.some Jvm.ClassFile.FieldType.int) rm_X9_toldOfShard [.ref (xad G 27 i j), .int x1, .int x2] (xRep G z σ τ) (xRep G z σ τ) (some (.int rF)) 0 0 := by
  refine xMet.of RX9 rfl (by decide +kernel) (Nat.le_of_ble_eq_true rfl) ?_
  intro p e s m args below meth c C hr hnm
  unfold f_X9_toldOfShard at h
  refine x_sub (L' := [(0, .ref (xad G 27 i j)), (1, .int x1), (2, .int x2)]) [0, 1, 2] rfl ?_
  refine x_iload_n C dX9_toldOfShard_0 rfl (q := 2) rfl ?_
  refine x_ite h (fun hc1 h => ?_) (fun hc1 h => ?_)
  · refine x_tableIn C (off := 27) (tgt := 28) dX9_toldOfShard_1 0 hc1 (by decide) (by decide) rfl (by decide) ?_
    refine x_aload_n C dX9_toldOfShard_28 rfl (q := 0) rfl ?_
    refine x_get C cl_X9 5 (by decide) fl_X9_18_X9 (dm_27 hi hj) rfl rfl dX9_toldOfShard_29 ?_
    refine x_iload_n C dX9_toldOfShard_32 rfl (q := 1) rfl ?_
    refine x_iald C (dm_28 hi hj) (fun _ _ _ => rfl) dX9_toldOfShard_33 h (fun k2 hk2 h => ?_)
    refine x_letI h (fun v3 h => ?_)
    cases h
    exact xr_i C hr dX9_toldOfShard_34 (fun _ h => h)
  · refine x_ite h (fun hc4 h => ?_) (fun hc4 h => ?_)
    · refine x_tableIn C (off := 34) (tgt := 35) dX9_toldOfShard_1 1 hc4 (by decide) (by decide) rfl (by decide) ?_
      refine x_aload_n C dX9_toldOfShard_35 rfl (q := 0) rfl ?_
      refine x_get C cl_X9 6 (by decide) fl_X9_22_X9 (dm_27 hi hj) rfl rfl dX9_toldOfShard_36 ?_
      refine x_iload_n C dX9_toldOfShard_39 rfl (q := 1) rfl ?_
      refine x_iald C (dm_29 hi hj) (fun _ _ _ => rfl) dX9_toldOfShard_40 h (fun k5 hk5 h => ?_)
      refine x_letI h (fun v6 h => ?_)
      cases h
      exact xr_i C hr dX9_toldOfShard_41 (fun _ h => h)
    · refine x_ite h (fun hc7 h => ?_) (fun hc7 h => ?_)
      · refine x_tableIn C (off := 41) (tgt := 42) dX9_toldOfShard_1 2 hc7 (by decide) (by decide) rfl (by decide) ?_
        refine x_aload_n C dX9_toldOfShard_42 rfl (q := 0) rfl ?_
        refine x_get C cl_X9 9 (by decide) fl_X9_31_X9 (dm_27 hi hj) rfl rfl dX9_toldOfShard_43 ?_
        refine x_iload_n C dX9_toldOfShard_46 rfl (q := 1) rfl ?_
        refine x_iald C (dm_32 hi hj) (fun _ _ _ => rfl) dX9_toldOfShard_47 h (fun k8 hk8 h => ?_)
        refine x_letI h (fun v9 h => ?_)
        refine x_aload_n C dX9_toldOfShard_48 rfl (q := 0) rfl ?_
        refine x_get C cl_X9 10 (by decide) fl_X9_34_X9 (dm_27 hi hj) rfl rfl dX9_toldOfShard_49 ?_
        refine x_iload_n C dX9_toldOfShard_52 rfl (q := 1) rfl ?_
        refine x_iald C (dm_33 hi hj) (fun _ _ _ => rfl) dX9_toldOfShard_53 h (fun k10 hk10 h => ?_)
        refine x_letI h (fun v11 h => ?_)
        refine x_ior C dX9_toldOfShard_54 ?_
        obtain ⟨r13, hq12, h⟩ := bnd1_some h
        refine x_callS_i C (m_J6_bitCount_0f7a4 hq12) ws_X9_56 rfl (Nat.le_of_ble_eq_true rfl) ⟨⟨rfl, rfl⟩, Nat.le_of_ble_eq_true rfl, Nat.le_of_ble_eq_true rfl⟩ dX9_toldOfShard_55 rfl ?_
        cases h
        exact xr_i C hr dX9_toldOfShard_58 (fun _ h => h)
      · refine x_tableOut C (tgt := 59) dX9_toldOfShard_1 (by have a0 := xI_ne (k := 0) 0 (by decide) hc1; have a1 := xI_ne (k := 1) 1 (by decide) hc4; have a2 := xI_ne (k := 2) 2 (by decide) hc7; omega) (by decide) ?_
        refine x_iconst C (v := (-1)) dX9_toldOfShard_59 (by decide) ?_
        cases h
        exact xr_i C hr dX9_toldOfShard_60 (fun _ h => h)
