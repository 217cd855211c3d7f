def f_X10_isTxn (z : Nat → Nat) (σ : Sg) (x1 : Int32) : Option Int32 :=
  if x1 < 0 then (some (0)) else (if (nI (z 2)) ≤ x1 then (some (0)) else (some (1)))
def rm_X10_isTxn : Room := { frames := 0, cells := 0, slots := 0, locals := 0 }
set_option maxRecDepth 100000 in
set_option maxHeartbeats 4000000 in
theorem m_X10_isTxn {l : Launch} {G : xG} {z : Nat → Nat} {σ : Sg} {τ : Tg} {x1 : Int32} {rF : Int32} (h : f_X10_isTxn z σ x1 = some (rF)) : xMet l (xD G) (xcA G) (xbs G) yX10_isTxn cX10_isTxn 2 (Option.some Jvm.ClassFile.FieldType.boolean) rm_X10_isTxn [.ref (xad G 0 0 0), .int x1] (xRep G z σ τ) (xRep G z σ τ) (some (.int rF)) 0 0 := by
  refine xMet.of RX10 rfl (by decide +kernel) (Nat.le_of_ble_eq_true rfl) ?_
  intro p e s m args below meth c C hr hnm
  unfold f_X10_isTxn at h
  refine x_sub (L' := [(0, .ref (xad G 0 0 0)), (1, .int x1)]) [0, 1] rfl ?_
  refine x_iload_n C dX10_isTxn_0 rfl (q := 1) rfl ?_
  refine x_if_lt C (tgt := 19) dX10_isTxn_1 (by decide) h (fun hc1 h => ?_) (fun hc1 h => ?_)
  · refine x_iconst C (v := 0) dX10_isTxn_19 (by decide) ?_
    cases h
    exact xr_z C (by decide) hr dX10_isTxn_20 (fun _ h => h)
  · refine x_iload_n C dX10_isTxn_4 rfl (q := 1) rfl ?_
    refine x_aload_n C dX10_isTxn_5 rfl (q := 0) rfl ?_
    refine x_get C cl_X10 0 (by decide) fl_X10_12_X10 (dm_0 z) rfl rfl dX10_isTxn_6 ?_
    refine x_get C cl_X7 2 (by decide) fl_X10_224_X7 (dm_1 z) rfl rfl dX10_isTxn_9 ?_
    refine x_icmp_ge C (tgt := 19) dX10_isTxn_12 (by decide) h (fun hc2 h => ?_) (fun hc2 h => ?_)
    · refine x_iconst C (v := 0) dX10_isTxn_19 (by decide) ?_
      cases h
      exact xr_z C (by decide) hr dX10_isTxn_20 (fun _ h => h)
    · refine x_iconst C (v := 1) dX10_isTxn_15 (by decide) ?_
      refine x_goto C (tgt := 20) dX10_isTxn_16 (by decide) ?_
      cases h
      exact xr_z C (by decide) hr dX10_isTxn_20 (fun _ h => h)
def f_X10_begin (z : Nat → Nat) (σ : Sg) (x1 : Int32) : Option (Int32 × Sg) :=
  bnd1 (f_X10_isTxn z σ x1) fun r2 => if r2 = 0 then (some ((-1), σ)) else (gdx x1 (z 2) fun k4 => letv (σ.1 3 0 0 k4) fun v5 => if v5 = 0 then (gdx x1 (z 2) fun k7 => letv (upI σ 3 0 0 k7 1) fun s8 => some (1, s8)) else (some (0, σ)))
def rm_X10_begin : Room := { frames := 1, cells := 0, slots := 0, locals := 21 }
set_option maxRecDepth 100000 in
set_option maxHeartbeats 4000000 in
theorem m_X10_begin {l : Launch} {G : xG} {z : Nat → Nat} {σ : Sg} {τ : Tg} {x1 : Int32} {rF : Int32} {sF : Sg} (h : f_X10_begin z σ x1 = some (rF, sF)) : xMet l (xD G) (xcA G) (xbs G) yX10_begin cX10_begin 2 (Option.some Jvm.ClassFile.FieldType.int) rm_X10_begin [.ref (xad G 0 0 0), .int x1] (xRep G z σ τ) (xRep G z sF τ) (some (.int rF)) 0 0 := by
  refine xMet.of RX10 rfl (by decide +kernel) (Nat.le_of_ble_eq_true rfl) ?_
  intro p e s m args below meth c C hr hnm
  unfold f_X10_begin at h
  refine x_sub (L' := [(0, .ref (xad G 0 0 0)), (1, .int x1)]) [0, 1] rfl ?_
  refine x_aload_n C dX10_begin_0 rfl (q := 0) rfl ?_
  refine x_iload_n C dX10_begin_1 rfl (q := 1) rfl ?_
  obtain ⟨r2, hq1, h⟩ := bnd1_some h
  refine x_callV_i C (m_X10_isTxn hq1) wv_X10_66 (x_recv C.2.2.2 cl_X10 (dm_0 z) rfl) rfl (Nat.le_of_ble_eq_true rfl) ⟨⟨rfl, rfl⟩, Nat.le_of_ble_eq_true rfl, Nat.le_of_ble_eq_true rfl⟩ dX10_begin_2 rfl ?_
  refine x_if_ne C (tgt := 10) dX10_begin_5 (by decide) h (fun hc3 h => ?_) (fun hc3 h => ?_)
  · refine x_aload_n C dX10_begin_10 rfl (q := 0) rfl ?_
    refine x_get C cl_X10 1 (by decide) fl_X10_23_X10 (dm_0 z) rfl rfl dX10_begin_11 ?_
    refine x_get C cl_X8 0 (by decide) fl_X10_70_X8 (dm_2 z) rfl rfl dX10_begin_14 ?_
    refine x_iload_n C dX10_begin_17 rfl (q := 1) rfl ?_
    refine x_iald C (dm_3 z) (fun _ _ _ => rfl) dX10_begin_18 h (fun k4 hk4 h => ?_)
    refine x_letI h (fun v5 h => ?_)
    refine x_if_eq C (tgt := 24) dX10_begin_19 (by decide) h (fun hc6 h => ?_) (fun hc6 h => ?_)
    · refine x_aload_n C dX10_begin_24 rfl (q := 0) rfl ?_
      refine x_get C cl_X10 1 (by decide) fl_X10_23_X10 (dm_0 z) rfl rfl dX10_begin_25 ?_
      refine x_get C cl_X8 0 (by decide) fl_X10_70_X8 (dm_2 z) rfl rfl dX10_begin_28 ?_
      refine x_iload_n C dX10_begin_31 rfl (q := 1) rfl ?_
      refine x_iconst C (v := 1) dX10_begin_32 (by decide) ?_
      refine x_iast C (dm_3 z) (fun _ _ _ => rfl) dX10_begin_33 h (fun k7 hk7 h => ?_)
      refine x_letS h (fun s8 h => ?_)
      refine x_iconst C (v := 1) dX10_begin_34 (by decide) ?_
      cases h
      exact xr_i C hr dX10_begin_35 (fun _ h => h)
    · refine x_iconst C (v := 0) dX10_begin_22 (by decide) ?_
      cases h
      exact xr_i C hr dX10_begin_23 (fun _ h => h)
  · refine x_iconst C (v := (-1)) dX10_begin_8 (by decide) ?_
    cases h
    exact xr_i C hr dX10_begin_9 (fun _ h => h)
def f_X10_isKey (z : Nat → Nat) (σ : Sg) (x1 : Int32) : Option Int32 :=
  if x1 < 0 then (some (0)) else (if (nI (z 3)) ≤ x1 then (some (0)) else (some (1)))
def rm_X10_isKey : Room := { frames := 0, cells := 0, slots := 0, locals := 0 }
set_option maxRecDepth 100000 in
set_option maxHeartbeats 4000000 in
theorem m_X10_isKey {l : Launch} {G : xG} {z : Nat → Nat} {σ : Sg} {τ : Tg} {x1 : Int32} {rF : Int32} (h : f_X10_isKey z σ x1 = some (rF)) : xMet l (xD G) (xcA G) (xbs G) yX10_isKey cX10_isKey 2 (Option.some Jvm.ClassFile.FieldType.boolean) rm_X10_isKey [.ref (xad G 0 0 0), .int x1] (xRep G z σ τ) (xRep G z σ τ) (some (.int rF)) 0 0 := by
  refine xMet.of RX10 rfl (by decide +kernel) (Nat.le_of_ble_eq_true rfl) ?_
  intro p e s m args below meth c C hr hnm
  unfold f_X10_isKey at h
  refine x_sub (L' := [(0, .ref (xad G 0 0 0)), (1, .int x1)]) [0, 1] rfl ?_
  refine x_iload_n C dX10_isKey_0 rfl (q := 1) rfl ?_
  refine x_if_lt C (tgt := 19) dX10_isKey_1 (by decide) h (fun hc1 h => ?_) (fun hc1 h => ?_)
  · refine x_iconst C (v := 0) dX10_isKey_19 (by decide) ?_
    cases h
    exact xr_z C (by decide) hr dX10_isKey_20 (fun _ h => h)
  · refine x_iload_n C dX10_isKey_4 rfl (q := 1) rfl ?_
    refine x_aload_n C dX10_isKey_5 rfl (q := 0) rfl ?_
    refine x_get C cl_X10 0 (by decide) fl_X10_12_X10 (dm_0 z) rfl rfl dX10_isKey_6 ?_
    refine x_get C cl_X7 3 (by decide) fl_X10_226_X7 (dm_1 z) rfl rfl dX10_isKey_9 ?_
    refine x_icmp_ge C (tgt := 19) dX10_isKey_12 (by decide) h (fun hc2 h => ?_) (fun hc2 h => ?_)
    · refine x_iconst C (v := 0) dX10_isKey_19 (by decide) ?_
      cases h
      exact xr_z C (by decide) hr dX10_isKey_20 (fun _ h => h)
    · refine x_iconst C (v := 1) dX10_isKey_15 (by decide) ?_
      refine x_goto C (tgt := 20) dX10_isKey_16 (by decide) ?_
      cases h
      exact xr_z C (by decide) hr dX10_isKey_20 (fun _ h => h)
def f_X10_access (z : Nat → Nat) (σ : Sg) (x1 : Int32) (x2 : Int32) (x3 : Int32) : Option (Int32 × Sg) :=
  bnd1 (f_X10_isTxn z σ x1) fun r2 => if r2 = 0 then (some ((-1), σ)) else (bnd1 (f_X10_isKey z σ x2) fun r5 => if r5 = 0 then (some ((-1), σ)) else (gdx x1 (z 2) fun k7 => letv (σ.1 3 0 0 k7) fun v8 => if v8 = 1 then (bnd1 (f_X7_shardOf z σ x2) fun r11 => gdx r11 (z 0) fun k12 => letv (σ.1 17 k12 0 4) fun v13 => if v13 = 0 then (some (3, σ)) else (bnd1 (f_X8_touches z σ x1 (nI k12)) fun r16 => if r16 = 0 then (bnd1 (f_X1_canGrant z σ x1 x2 x3) fun r19 => if r19 = 0 then (some (2, σ)) else (bnd1 (f_X1_grant z σ x1 x2 x3) fun s22 => gdx x1 (z 2) fun k23 => letv (upI s22 21 k12 0 k23 1) fun s24 => bnd1 (f_X8_touch z s24 x1 (nI k12)) fun s26 => some (1, s26))) else (gdx x1 (z 2) fun k27 => letv (σ.1 21 k12 0 k27) fun v28 => if v28 = 0 then (some (4, σ)) else (bnd1 (f_X1_canGrant z σ x1 x2 x3) fun r31 => if r31 = 0 then (some (2, σ)) else (bnd1 (f_X1_grant z σ x1 x2 x3) fun s34 => gdx x1 (z 2) fun k35 => letv (upI s34 21 k12 0 k35 1) fun s36 => bnd1 (f_X8_touch z s36 x1 (nI k12)) fun s38 => some (1, s38)))))) else (some (0, σ))))
def rm_X10_access : Room := { frames := 2, cells := 0, slots := 0, locals := 44 }
set_option maxRecDepth 100000 in
set_option maxHeartbeats 4000000 in
theorem m_X10_access {l : Launch} {G : xG} {z : Nat → Nat} {σ : Sg} {τ : Tg} {x1 : Int32} {x2 : Int32} {x3 : Int32} {rF : Int32} {sF : Sg} (h : f_X10_access z σ x1 x2 x3 = some (rF, sF)) : xMet l (xD G) (xcA G) (xbs G) yX10_access cX10_access 5 (Option.some Jvm.ClassFile.FieldType.int) rm_X10_access [.ref (xad G 0 0 0), .int x1, .int x2, .int x3] (xRep G z σ τ) (xRep G z sF τ) (some (.int rF)) 0 0 := by
  refine xMet.of RX10 rfl (by decide +kernel) (Nat.le_of_ble_eq_true rfl) ?_
  intro p e s m args below meth c C hr hnm
  unfold f_X10_access at h
  refine x_sub (L' := [(0, .ref (xad G 0 0 0)), (1, .int x1), (2, .int x2), (3, .int x3)]) [0, 1, 2, 3] rfl ?_
  refine x_aload_n C dX10_access_0 rfl (q := 0) rfl ?_
  refine x_iload_n C dX10_access_1 rfl (q := 1) rfl ?_
  obtain ⟨r2, hq1, h⟩ := bnd1_some h
  refine x_callV_i C (m_X10_isTxn hq1) wv_X10_66 (x_recv C.2.2.2 cl_X10 (dm_0 z) rfl) rfl (Nat.le_of_ble_eq_true rfl) ⟨⟨rfl, rfl⟩, Nat.le_of_ble_eq_true rfl, Nat.le_of_ble_eq_true rfl⟩ dX10_access_2 rfl ?_
  refine x_if_eq C (tgt := 16) dX10_access_5 (by decide) h (fun hc3 h => ?_) (fun hc3 h => ?_)
  · refine x_iconst C (v := (-1)) dX10_access_16 (by decide) ?_
    cases h
    exact xr_i C hr dX10_access_17 (fun _ h => h)
  · refine x_aload_n C dX10_access_8 rfl (q := 0) rfl ?_
    refine x_iload_n C dX10_access_9 rfl (q := 2) rfl ?_
    obtain ⟨r5, hq4, h⟩ := bnd1_some h
    refine x_callV_i C (m_X10_isKey hq4) wv_X10_120 (x_recv C.2.2.2 cl_X10 (dm_0 z) rfl) rfl (Nat.le_of_ble_eq_true rfl) ⟨⟨rfl, rfl⟩, Nat.le_of_ble_eq_true rfl, Nat.le_of_ble_eq_true rfl⟩ dX10_access_10 rfl ?_
    refine x_if_ne C (tgt := 18) dX10_access_13 (by decide) h (fun hc6 h => ?_) (fun hc6 h => ?_)
    · refine x_aload_n C dX10_access_18 rfl (q := 0) rfl ?_
      refine x_get C cl_X10 1 (by decide) fl_X10_23_X10 (dm_0 z) rfl rfl dX10_access_19 ?_
      refine x_get C cl_X8 0 (by decide) fl_X10_70_X8 (dm_2 z) rfl rfl dX10_access_22 ?_
      refine x_iload_n C dX10_access_25 rfl (q := 1) rfl ?_
      refine x_iald C (dm_3 z) (fun _ _ _ => rfl) dX10_access_26 h (fun k7 hk7 h => ?_)
      refine x_letI h (fun v8 h => ?_)
      refine x_iconst C (v := 1) dX10_access_27 (by decide) ?_
      refine x_icmp_eq C (tgt := 33) dX10_access_28 (by decide) h (fun hc9 h => ?_) (fun hc9 h => ?_)
      · refine x_aload_n C dX10_access_33 rfl (q := 0) rfl ?_
        refine x_get C cl_X10 4 (by decide) fl_X10_47_X10 (dm_0 z) rfl rfl dX10_access_34 ?_
        refine x_aload_n C dX10_access_37 rfl (q := 0) rfl ?_
        refine x_get C cl_X10 0 (by decide) fl_X10_12_X10 (dm_0 z) rfl rfl dX10_access_38 ?_
        refine x_iload_n C dX10_access_41 rfl (q := 2) rfl ?_
        obtain ⟨r11, hq10, h⟩ := bnd1_some h
        refine x_callV_i C (m_X7_shardOf hq10) wv_X10_228 (x_recv C.2.2.2 cl_X7 (dm_1 z) rfl) rfl (Nat.le_of_ble_eq_true rfl) ⟨⟨rfl, rfl⟩, Nat.le_of_ble_eq_true rfl, Nat.le_of_ble_eq_true rfl⟩ dX10_access_42 rfl ?_
        refine x_aald C 6 rfl rfl (dm_16 z) rfl dX10_access_45 h (fun k12 hk12 h => ?_)
        refine x_astore C (L' := [(4, .ref (xad G 17 k12 0)), (0, .ref (xad G 0 0 0)), (1, .int x1), (2, .int x2), (3, .int x3)]) dX10_access_46 (by decide) rfl ?_
        refine x_aload C dX10_access_48 (q := 0) rfl ?_
        refine x_get C cl_X6 4 (by decide) fl_X10_112_X6 (dm_17 hk12) rfl rfl dX10_access_50 ?_
        refine x_letI h (fun v13 h => ?_)
        refine x_if_ne C (tgt := 58) dX10_access_53 (by decide) h (fun hc14 h => ?_) (fun hc14 h => ?_)
        · refine x_aload_n C dX10_access_58 rfl (q := 1) rfl ?_
          refine x_get C cl_X10 1 (by decide) fl_X10_23_X10 (dm_0 z) rfl rfl dX10_access_59 ?_
          refine x_iload_n C dX10_access_62 rfl (q := 2) rfl ?_
          refine x_aload C dX10_access_63 (q := 0) rfl ?_
          refine x_get C cl_X6 0 (by decide) fl_X10_231_X6 (dm_17 hk12) rfl rfl dX10_access_65 ?_
          obtain ⟨r16, hq15, h⟩ := bnd1_some h
          refine x_callV_i C (m_X8_touches hq15) wv_X10_100 (x_recv C.2.2.2 cl_X8 (dm_2 z) rfl) rfl (Nat.le_of_ble_eq_true rfl) ⟨⟨rfl, rfl⟩, Nat.le_of_ble_eq_true rfl, Nat.le_of_ble_eq_true rfl⟩ dX10_access_68 rfl ?_
          refine x_if_eq C (tgt := 86) dX10_access_71 (by decide) h (fun hc17 h => ?_) (fun hc17 h => ?_)
          · refine x_aload_n C dX10_access_86 rfl (q := 1) rfl ?_
            refine x_get C cl_X10 2 (by decide) fl_X10_30_X10 (dm_0 z) rfl rfl dX10_access_87 ?_
            refine x_iload_n C dX10_access_90 rfl (q := 2) rfl ?_
            refine x_iload_n C dX10_access_91 rfl (q := 3) rfl ?_
            refine x_iload_n C dX10_access_92 rfl (q := 4) rfl ?_
            obtain ⟨r19, hq18, h⟩ := bnd1_some h
            refine x_callV_i C (m_X1_canGrant hq18) wv_X10_238 (x_recv C.2.2.2 cl_X1 (dm_5 z) rfl) rfl (Nat.le_of_ble_eq_true rfl) ⟨⟨rfl, rfl⟩, Nat.le_of_ble_eq_true rfl, Nat.le_of_ble_eq_true rfl⟩ dX10_access_93 rfl ?_
            refine x_if_ne C (tgt := 101) dX10_access_96 (by decide) h (fun hc20 h => ?_) (fun hc20 h => ?_)
            · refine x_aload_n C dX10_access_101 rfl (q := 1) rfl ?_
              refine x_get C cl_X10 2 (by decide) fl_X10_30_X10 (dm_0 z) rfl rfl dX10_access_102 ?_
              refine x_iload_n C dX10_access_105 rfl (q := 2) rfl ?_
              refine x_iload_n C dX10_access_106 rfl (q := 3) rfl ?_
              refine x_iload_n C dX10_access_107 rfl (q := 4) rfl ?_
              obtain ⟨s22, hq21, h⟩ := bnd1_some h
              refine x_callV_v C (m_X1_grant hq21) wv_X10_242 (x_recv C.2.2.2 cl_X1 (dm_5 z) rfl) rfl (Nat.le_of_ble_eq_true rfl) ⟨⟨rfl, rfl⟩, Nat.le_of_ble_eq_true rfl, Nat.le_of_ble_eq_true rfl⟩ dX10_access_108 rfl ?_
              refine x_aload C dX10_access_111 (q := 0) rfl ?_
              refine x_get C cl_X6 5 (by decide) fl_X10_234_X6 (dm_17 hk12) rfl rfl dX10_access_113 ?_
              refine x_iload_n C dX10_access_116 rfl (q := 2) rfl ?_
              refine x_iconst C (v := 1) dX10_access_117 (by decide) ?_
              refine x_bast C (by decide) (dm_21 hk12) (fun _ _ _ => rfl) dX10_access_118 h (fun k23 hk23 h => ?_)
              refine x_letS h (fun s24 h => ?_)
              refine x_aload_n C dX10_access_119 rfl (q := 1) rfl ?_
              refine x_get C cl_X10 1 (by decide) fl_X10_23_X10 (dm_0 z) rfl rfl dX10_access_120 ?_
              refine x_iload_n C dX10_access_123 rfl (q := 2) rfl ?_
              refine x_aload C dX10_access_124 (q := 0) rfl ?_
              refine x_get C cl_X6 0 (by decide) fl_X10_231_X6 (dm_17 hk12) rfl rfl dX10_access_126 ?_
              obtain ⟨s26, hq25, h⟩ := bnd1_some h
              refine x_callV_v C (m_X8_touch hq25) wv_X10_245 (x_recv C.2.2.2 cl_X8 (dm_2 z) rfl) rfl (Nat.le_of_ble_eq_true rfl) ⟨⟨rfl, rfl⟩, Nat.le_of_ble_eq_true rfl, Nat.le_of_ble_eq_true rfl⟩ dX10_access_129 rfl ?_
              refine x_iconst C (v := 1) dX10_access_132 (by decide) ?_
              cases h
              exact xr_i C hr dX10_access_133 (fun _ h => h)
            · refine x_iconst C (v := 2) dX10_access_99 (by decide) ?_
              cases h
              exact xr_i C hr dX10_access_100 (fun _ h => h)
          · refine x_aload C dX10_access_74 (q := 0) rfl ?_
            refine x_get C cl_X6 5 (by decide) fl_X10_234_X6 (dm_17 hk12) rfl rfl dX10_access_76 ?_
            refine x_iload_n C dX10_access_79 rfl (q := 2) rfl ?_
            refine x_bald C (dm_21 hk12) (fun _ _ _ => rfl) dX10_access_80 h (fun k27 hk27 h => ?_)
            refine x_letI h (fun v28 h => ?_)
            refine x_if_ne C (tgt := 86) dX10_access_81 (by decide) h (fun hc29 h => ?_) (fun hc29 h => ?_)
            · refine x_aload_n C dX10_access_86 rfl (q := 1) rfl ?_
              refine x_get C cl_X10 2 (by decide) fl_X10_30_X10 (dm_0 z) rfl rfl dX10_access_87 ?_
              refine x_iload_n C dX10_access_90 rfl (q := 2) rfl ?_
              refine x_iload_n C dX10_access_91 rfl (q := 3) rfl ?_
              refine x_iload_n C dX10_access_92 rfl (q := 4) rfl ?_
              obtain ⟨r31, hq30, h⟩ := bnd1_some h
              refine x_callV_i C (m_X1_canGrant hq30) wv_X10_238 (x_recv C.2.2.2 cl_X1 (dm_5 z) rfl) rfl (Nat.le_of_ble_eq_true rfl) ⟨⟨rfl, rfl⟩, Nat.le_of_ble_eq_true rfl, Nat.le_of_ble_eq_true rfl⟩ dX10_access_93 rfl ?_
              refine x_if_ne C (tgt := 101) dX10_access_96 (by decide) h (fun hc32 h => ?_) (fun hc32 h => ?_)
              · refine x_aload_n C dX10_access_101 rfl (q := 1) rfl ?_
                refine x_get C cl_X10 2 (by decide) fl_X10_30_X10 (dm_0 z) rfl rfl dX10_access_102 ?_
                refine x_iload_n C dX10_access_105 rfl (q := 2) rfl ?_
                refine x_iload_n C dX10_access_106 rfl (q := 3) rfl ?_
                refine x_iload_n C dX10_access_107 rfl (q := 4) rfl ?_
                obtain ⟨s34, hq33, h⟩ := bnd1_some h
                refine x_callV_v C (m_X1_grant hq33) wv_X10_242 (x_recv C.2.2.2 cl_X1 (dm_5 z) rfl) rfl (Nat.le_of_ble_eq_true rfl) ⟨⟨rfl, rfl⟩, Nat.le_of_ble_eq_true rfl, Nat.le_of_ble_eq_true rfl⟩ dX10_access_108 rfl ?_
                refine x_aload C dX10_access_111 (q := 0) rfl ?_
                refine x_get C cl_X6 5 (by decide) fl_X10_234_X6 (dm_17 hk12) rfl rfl dX10_access_113 ?_
                refine x_iload_n C dX10_access_116 rfl (q := 2) rfl ?_
                refine x_iconst C (v := 1) dX10_access_117 (by decide) ?_
                refine x_bast C (by decide) (dm_21 hk12) (fun _ _ _ => rfl) dX10_access_118 h (fun k35 hk35 h => ?_)
                refine x_letS h (fun s36 h => ?_)
                refine x_aload_n C dX10_access_119 rfl (q := 1) rfl ?_
                refine x_get C cl_X10 1 (by decide) fl_X10_23_X10 (dm_0 z) rfl rfl dX10_access_120 ?_
                refine x_iload_n C dX10_access_123 rfl (q := 2) rfl ?_
                refine x_aload C dX10_access_124 (q := 0) rfl ?_
                refine x_get C cl_X6 0 (by decide) fl_X10_231_X6 (dm_17 hk12) rfl rfl dX10_access_126 ?_
                obtain ⟨s38, hq37, h⟩ := bnd1_some h
                refine x_callV_v C (m_X8_touch hq37) wv_X10_245 (x_recv C.2.2.2 cl_X8 (dm_2 z) rfl) rfl (Nat.le_of_ble_eq_true rfl) ⟨⟨rfl, rfl⟩, Nat.le_of_ble_eq_true rfl, Nat.le_of_ble_eq_true rfl⟩ dX10_access_129 rfl ?_
                refine x_iconst C (v := 1) dX10_access_132 (by decide) ?_
                cases h
                exact xr_i C hr dX10_access_133 (fun _ h => h)
              · refine x_iconst C (v := 2) dX10_access_99 (by decide) ?_
                cases h
                exact xr_i C hr dX10_access_100 (fun _ h => h)
            · refine x_iconst C (v := 4) dX10_access_84 (by decide) ?_
              cases h
              exact xr_i C hr dX10_access_85 (fun _ h => h)
        · refine x_iconst C (v := 3) dX10_access_56 (by decide) ?_
          cases h
          exact xr_i C hr dX10_access_57 (fun _ h => h)
      · refine x_iconst C (v := 0) dX10_access_31 (by decide) ?_
        cases h
        exact xr_i C hr dX10_access_32 (fun _ h => h)
    · refine x_iconst C (v := (-1)) dX10_access_16 (by decide) ?_
      cases h
      exact xr_i C hr dX10_access_17 (fun _ h => h)
def f_X10_read (z : Nat → Nat) (σ : Sg) (x1 : Int32) (x2 : Int32) : Option (Int64 × Sg) :=
  bnd2 (f_X10_access z σ x1 x2 1) fun r2 s3 => letv (upI s3 0 0 0 6 r2) fun s4 => letv (s4.1 0 0 0 6) fun v5 => if v5 = 1 then (bnd1 (f_X1_seenBy z s4 x1 x2) fun r8 => some (r8, s4)) else (some (0, s4))
def rm_X10_read : Room := { frames := 3, cells := 0, slots := 0, locals := 68 }
set_option maxRecDepth 100000 in
set_option maxHeartbeats 4000000 in
theorem m_X10_read {l : Launch} {G : xG} {z : Nat → Nat} {σ : Sg} {τ : Tg} {x1 : Int32} {x2 : Int32} {rF : Int64} {sF : Sg} (h : f_X10_read z σ x1 x2 = some (rF, sF)) : xMet l (xD G) (xcA G) (xbs G) yX10_read cX10_read 3 (Option.some Jvm.ClassFile.FieldType.long) rm_X10_read [.ref (xad G 0 0 0), .int x1, .int x2] (xRep G z σ τ) (xRep G z sF τ) (some (.long rF)) 0 0 := by
  refine xMet.of RX10 rfl (by decide +kernel) (Nat.le_of_ble_eq_true rfl) ?_
  intro p e s m args below meth c C hr hnm
  unfold f_X10_read at h
  refine x_sub (L' := [(0, .ref (xad G 0 0 0)), (1, .int x1), (2, .int x2)]) [0, 1, 2] rfl ?_
  refine x_aload_n C dX10_read_0 rfl (q := 0) rfl ?_
  refine x_aload_n C dX10_read_1 rfl (q := 0) rfl ?_
  refine x_iload_n C dX10_read_2 rfl (q := 1) rfl ?_
  refine x_iload_n C dX10_read_3 rfl (q := 2) rfl ?_
  refine x_iconst C (v := 1) dX10_read_4 (by decide) ?_
  obtain ⟨r2, s3, hq1, h⟩ := bnd2_some h
  refine x_callV_i C (m_X10_access hq1) wv_X10_74 (x_recv C.2.2.2 cl_X10 (dm_0 z) rfl) rfl (Nat.le_of_ble_eq_true rfl) ⟨⟨rfl, rfl⟩, Nat.le_of_ble_eq_true rfl, Nat.le_of_ble_eq_true rfl⟩ dX10_read_5 rfl ?_
  refine x_putI C cl_X10 6 (by decide) fl_X10_78_X10 rfl (dm_0 z) (fun _ _ _ => rfl) (fun _ _ _ => rfl) (fun _ _ _ => Nat.le_of_ble_eq_true rfl) rfl rfl dX10_read_8 h (fun s4 h => ?_)
  refine x_aload_n C dX10_read_11 rfl (q := 0) rfl ?_
  refine x_get C cl_X10 6 (by decide) fl_X10_78_X10 (dm_0 z) rfl rfl dX10_read_12 ?_
  refine x_letI h (fun v5 h => ?_)
  refine x_iconst C (v := 1) dX10_read_15 (by decide) ?_
  refine x_icmp_ne C (tgt := 31) dX10_read_16 (by decide) h (fun hc6 h => ?_) (fun hc6 h => ?_)
  · refine x_lconst C (v := 0) dX10_read_31 (by decide) ?_
    cases h
    exact xr_l C hr dX10_read_32 (fun _ h => h)
  · refine x_aload_n C dX10_read_19 rfl (q := 0) rfl ?_
    refine x_get C cl_X10 2 (by decide) fl_X10_30_X10 (dm_0 z) rfl rfl dX10_read_20 ?_
    refine x_iload_n C dX10_read_23 rfl (q := 1) rfl ?_
    refine x_iload_n C dX10_read_24 rfl (q := 2) rfl ?_
    obtain ⟨r8, hq7, h⟩ := bnd1_some h
    refine x_callV_l C (m_X1_seenBy hq7) wv_X10_81 (x_recv C.2.2.2 cl_X1 (dm_5 z) rfl) rfl (Nat.le_of_ble_eq_true rfl) ⟨⟨rfl, rfl⟩, Nat.le_of_ble_eq_true rfl, Nat.le_of_ble_eq_true rfl⟩ dX10_read_25 rfl ?_
    refine x_goto C (tgt := 32) dX10_read_28 (by decide) ?_
    cases h
    exact xr_l C hr dX10_read_32 (fun _ h => h)
def f_X10_readStatus (z : Nat → Nat) (σ : Sg) : Option Int32 :=
  letv (σ.1 0 0 0 6) fun v1 => some (v1)
def rm_X10_readStatus : Room := { frames := 0, cells := 0, slots := 0, locals := 0 }
set_option maxRecDepth 100000 in
set_option maxHeartbeats 4000000 in
theorem m_X10_readStatus {l : Launch} {G : xG} {z : Nat → Nat} {σ : Sg} {τ : Tg} {rF : Int32} (h : f_X10_readStatus z σ = some (rF)) : xMet l (xD G) (xcA G) (xbs G) yX10_readStatus cX10_readStatus 1 (Option.some Jvm.ClassFile.FieldType.int) rm_X10_readStatus [.ref (xad G 0 0 0)] (xRep G z σ τ) (xRep G z σ τ) (some (.int rF)) 0 0 := by
  refine xMet.of RX10 rfl (by decide +kernel) (Nat.le_of_ble_eq_true rfl) ?_
  intro p e s m args below meth c C hr hnm
  unfold f_X10_readStatus at h
  refine x_sub (L' := [(0, .ref (xad G 0 0 0))]) [0] rfl ?_
  refine x_aload_n C dX10_readStatus_0 rfl (q := 0) rfl ?_
  refine x_get C cl_X10 6 (by decide) fl_X10_78_X10 (dm_0 z) rfl rfl dX10_readStatus_1 ?_
  refine x_letI h (fun v1 h => ?_)
  cases h
  exact xr_i C hr dX10_readStatus_4 (fun _ h => h)
def f_X10_write (z : Nat → Nat) (σ : Sg) (x1 : Int32) (x2 : Int32) (x3 : Int64) : Option (Int32 × Sg) :=
  bnd2 (f_X10_access z σ x1 x2 2) fun r2 s3 => if r2 = 1 then (bnd1 (f_X1_renew z s3 x1 x2 x3) fun s6 => some (r2, s6)) else (some (r2, s3))
def rm_X10_write : Room := { frames := 3, cells := 0, slots := 0, locals := 68 }
set_option maxRecDepth 100000 in
set_option maxHeartbeats 4000000 in
theorem m_X10_write {l : Launch} {G : xG} {z : Nat → Nat} {σ : Sg} {τ : Tg} {x1 : Int32} {x2 : Int32} {x3 : Int64} {rF : Int32} {sF : Sg} (h : f_X10_write z σ x1 x2 x3 = some (rF, sF)) : xMet l (xD G) (xcA G) (xbs G) yX10_write cX10_write 6 (Option.some Jvm.ClassFile.FieldType.int) rm_X10_write [.ref (xad G 0 0 0), .int x1, .int x2, .long x3] (xRep G z σ τ) (xRep G z sF τ) (some (.int rF)) 0 0 := by
  refine xMet.of RX10 rfl (by decide +kernel) (Nat.le_of_ble_eq_true rfl) ?_
  intro p e s m args below meth c C hr hnm
  unfold f_X10_write at h
  refine x_sub (L' := [(0, .ref (xad G 0 0 0)), (1, .int x1), (2, .int x2), (3, .long x3)]) [0, 1, 2, 3] rfl ?_
  refine x_aload_n C dX10_write_0 rfl (q := 0) rfl ?_
  refine x_iload_n C dX10_write_1 rfl (q := 1) rfl ?_
  refine x_iload_n C dX10_write_2 rfl (q := 2) rfl ?_
  refine x_iconst C (v := 2) dX10_write_3 (by decide) ?_
  obtain ⟨r2, s3, hq1, h⟩ := bnd2_some h
  refine x_callV_i C (m_X10_access hq1) wv_X10_74 (x_recv C.2.2.2 cl_X10 (dm_0 z) rfl) rfl (Nat.le_of_ble_eq_true rfl) ⟨⟨rfl, rfl⟩, Nat.le_of_ble_eq_true rfl, Nat.le_of_ble_eq_true rfl⟩ dX10_write_4 rfl ?_
  refine x_istore C (L' := [(5, .int r2), (0, .ref (xad G 0 0 0)), (1, .int x1), (2, .int x2), (3, .long x3)]) dX10_write_7 (by decide) rfl ?_
  refine x_iload C dX10_write_9 (q := 0) rfl ?_
  refine x_iconst C (v := 1) dX10_write_11 (by decide) ?_
  refine x_icmp_ne C (tgt := 25) dX10_write_12 (by decide) h (fun hc4 h => ?_) (fun hc4 h => ?_)
  · refine x_iload C dX10_write_25 (q := 0) rfl ?_
    cases h
    exact xr_i C hr dX10_write_27 (fun _ h => h)
  · refine x_aload_n C dX10_write_15 rfl (q := 1) rfl ?_
    refine x_get C cl_X10 2 (by decide) fl_X10_30_X10 (dm_0 z) rfl rfl dX10_write_16 ?_
    refine x_iload_n C dX10_write_19 rfl (q := 2) rfl ?_
    refine x_iload_n C dX10_write_20 rfl (q := 3) rfl ?_
    refine x_lload_n C dX10_write_21 rfl (q := 4) rfl ?_
    obtain ⟨s6, hq5, h⟩ := bnd1_some h
    refine x_callV_v C (m_X1_renew hq5) wv_X10_85 (x_recv C.2.2.2 cl_X1 (dm_5 z) rfl) rfl (Nat.le_of_ble_eq_true rfl) ⟨⟨rfl, rfl⟩, Nat.le_of_ble_eq_true rfl, Nat.le_of_ble_eq_true rfl⟩ dX10_write_22 rfl ?_
    refine x_iload C dX10_write_25 (q := 0) rfl ?_
    cases h
    exact xr_i C hr dX10_write_27 (fun _ h => h)
def f_X10_requestCommit_L70 (z : Nat → Nat) (x1 : Int32) : Nat → Int32 → Int32 → Sg → Option (Int32 × Sg)
  | 0, _, _, _ => none
  | n + 1, y19, y20, s21 => if (nI (z 0)) ≤ y20 then (some (y19, s21)) else (bnd1 (f_X8_touches z s21 x1 y20) fun r28 => if r28 = 0 then (letv (y20 + 1) fun v30 => f_X10_requestCommit_L70 z x1 n y19 v30 s21) else (bnd2 (f_X5_post z s21 (z 4) y20) fun r32 s33 => letv (y19 + 1) fun v34 => letv (y20 + 1) fun v35 => f_X10_requestCommit_L70 z x1 n v34 v35 s33))
def f_X10_requestCommit (z : Nat → Nat) (σ : Sg) (x1 : Int32) : Option (Int32 × Sg) :=
  bnd1 (f_X10_isTxn z σ x1) fun r2 => if r2 = 0 then (some ((-1), σ)) else (gdx x1 (z 2) fun k4 => letv (σ.1 3 0 0 k4) fun v5 => if v5 = 1 then (bnd1 (f_X8_touchesNone z σ x1) fun r8 => bnd1 (α := Int32) (if r8 = 0 then (some (2)) else (some (3))) fun (v9 : Int32) => gdx x1 (z 2) fun k13 => letv (upI σ 3 0 0 k13 v9) fun s14 => bnd1 (f_X7_client z s14) fun r16 => bnd1 (f_X5_startDraft z s14 1 x1 r16) fun s18 => bnd2 (f_X10_requestCommit_L70 z x1 FU 0 0 s18) fun (v22 : Int32) (s23 : Sg) => some (v22, s23)) else (some (0, σ)))
def rm_X10_requestCommit : Room := { frames := 2, cells := 0, slots := 0, locals := 45 }
set_option maxRecDepth 100000 in
set_option maxHeartbeats 4000000 in
theorem m_X10_requestCommit {l : Launch} {G : xG} {z : Nat → Nat} {σ : Sg} {τ : Tg} {x1 : Int32} {rF : Int32} {sF : Sg} (h : f_X10_requestCommit z σ x1 = some (rF, sF)) : xMet l (xD G) (xcA G) (xbs G) yX10_requestCommit cX10_requestCommit 4 (Option.some Jvm.ClassFile.FieldType.int) rm_X10_requestCommit [.ref (xad G 0 0 0), .int x1] (xRep G z σ τ) (xRep G z sF τ) (some (.int rF)) 0 0 := by
  refine xMet.of RX10 rfl (by decide +kernel) (Nat.le_of_ble_eq_true rfl) ?_
  intro p e s m args below meth c C hr hnm
  unfold f_X10_requestCommit at h
  refine x_sub (L' := [(0, .ref (xad G 0 0 0)), (1, .int x1)]) [0, 1] rfl ?_
  refine x_aload_n C dX10_requestCommit_0 rfl (q := 0) rfl ?_
  refine x_iload_n C dX10_requestCommit_1 rfl (q := 1) rfl ?_
  obtain ⟨r2, hq1, h⟩ := bnd1_some h
  refine x_callV_i C (m_X10_isTxn hq1) wv_X10_66 (x_recv C.2.2.2 cl_X10 (dm_0 z) rfl) rfl (Nat.le_of_ble_eq_true rfl) ⟨⟨rfl, rfl⟩, Nat.le_of_ble_eq_true rfl, Nat.le_of_ble_eq_true rfl⟩ dX10_requestCommit_2 rfl ?_
  refine x_if_ne C (tgt := 10) dX10_requestCommit_5 (by decide) h (fun hc3 h => ?_) (fun hc3 h => ?_)
  · refine x_aload_n C dX10_requestCommit_10 rfl (q := 0) rfl ?_
    refine x_get C cl_X10 1 (by decide) fl_X10_23_X10 (dm_0 z) rfl rfl dX10_requestCommit_11 ?_
    refine x_get C cl_X8 0 (by decide) fl_X10_70_X8 (dm_2 z) rfl rfl dX10_requestCommit_14 ?_
    refine x_iload_n C dX10_requestCommit_17 rfl (q := 1) rfl ?_
    refine x_iald C (dm_3 z) (fun _ _ _ => rfl) dX10_requestCommit_18 h (fun k4 hk4 h => ?_)
    refine x_letI h (fun v5 h => ?_)
    refine x_iconst C (v := 1) dX10_requestCommit_19 (by decide) ?_
    refine x_icmp_eq C (tgt := 25) dX10_requestCommit_20 (by decide) h (fun hc6 h => ?_) (fun hc6 h => ?_)
    · refine x_aload_n C dX10_requestCommit_25 rfl (q := 0) rfl ?_
      refine x_get C cl_X10 1 (by decide) fl_X10_23_X10 (dm_0 z) rfl rfl dX10_requestCommit_26 ?_
      refine x_get C cl_X8 0 (by decide) fl_X10_70_X8 (dm_2 z) rfl rfl dX10_requestCommit_29 ?_
      refine x_iload_n C dX10_requestCommit_32 rfl (q := 1) rfl ?_
      refine x_aload_n C dX10_requestCommit_33 rfl (q := 0) rfl ?_
      refine x_get C cl_X10 1 (by decide) fl_X10_23_X10 (dm_0 z) rfl rfl dX10_requestCommit_34 ?_
      refine x_iload_n C dX10_requestCommit_37 rfl (q := 1) rfl ?_
      obtain ⟨r8, hq7, h⟩ := bnd1_some h
      refine x_callV_i C (m_X8_touchesNone hq7) wv_X10_89 (x_recv C.2.2.2 cl_X8 (dm_2 z) rfl) rfl (Nat.le_of_ble_eq_true rfl) ⟨⟨rfl, rfl⟩, Nat.le_of_ble_eq_true rfl, Nat.le_of_ble_eq_true rfl⟩ dX10_requestCommit_38 rfl ?_
      obtain ⟨v9, hv11, h⟩ := bnd1_some h
      refine x_join (Ω' := (xRep G z σ τ)) (pc' := 49) (L' := [(0, .ref (xad G 0 0 0)), (1, .int x1)]) (st' := [.int v9, .int x1, .ref (xad G 3 0 0)]) ?_ (fun hj10 => ?_)
      · refine x_iast C (dm_3 z) (fun _ _ _ => rfl) dX10_requestCommit_49 h (fun k13 hk13 h => ?_)
        refine x_letS h (fun s14 h => ?_)
        refine x_aload_n C dX10_requestCommit_50 rfl (q := 0) rfl ?_
        refine x_get C cl_X10 3 (by decide) fl_X10_37_X10 (dm_0 z) rfl rfl dX10_requestCommit_51 ?_
        refine x_iconst C (v := 1) dX10_requestCommit_54 (by decide) ?_
        refine x_iload_n C dX10_requestCommit_55 rfl (q := 1) rfl ?_
        refine x_aload_n C dX10_requestCommit_56 rfl (q := 0) rfl ?_
        refine x_get C cl_X10 0 (by decide) fl_X10_12_X10 (dm_0 z) rfl rfl dX10_requestCommit_57 ?_
        obtain ⟨r16, hq15, h⟩ := bnd1_some h
        refine x_callV_i C (m_X7_client hq15) wv_X10_92 (x_recv C.2.2.2 cl_X7 (dm_1 z) rfl) rfl (Nat.le_of_ble_eq_true rfl) ⟨⟨rfl, rfl⟩, Nat.le_of_ble_eq_true rfl, Nat.le_of_ble_eq_true rfl⟩ dX10_requestCommit_60 rfl ?_
        obtain ⟨s18, hq17, h⟩ := bnd1_some h
        refine x_callV_v C (m_X5_startDraft hq17) wv_X10_96 (x_recv C.2.2.2 cl_X5 (dm_11 z) rfl) rfl (Nat.le_of_ble_eq_true rfl) ⟨⟨rfl, rfl⟩, Nat.le_of_ble_eq_true rfl, Nat.le_of_ble_eq_true rfl⟩ dX10_requestCommit_63 rfl ?_
        refine x_iconst C (v := 0) dX10_requestCommit_66 (by decide) ?_
        refine x_istore_n C (L' := [(2, .int 0), (0, .ref (xad G 0 0 0)), (1, .int x1)]) dX10_requestCommit_67 rfl (by decide) rfl ?_
        refine x_iconst C (v := 0) dX10_requestCommit_68 (by decide) ?_
        refine x_istore_n C (L' := [(3, .int 0), (2, .int 0), (0, .ref (xad G 0 0 0)), (1, .int x1)]) dX10_requestCommit_69 rfl (by decide) rfl ?_
        obtain ⟨v22, s23, hv25, h⟩ := bnd2_some h
        refine x_join (Ω' := (xRep G z s23 τ)) (pc' := 118) (L' := [(2, .int v22)]) (st' := []) ?_ (fun hj24 => ?_)
        · refine x_iload_n C dX10_requestCommit_118 rfl (q := 0) rfl ?_
          cases h
          exact xr_i C hr dX10_requestCommit_119 (fun _ h => h)
        · have hl36 : ∀ (n : Nat) (y19 : Int32) (y20 : Int32) (s21 : Sg), f_X10_requestCommit_L70 z x1 n y19 y20 s21 = some (v22, s23) → XW p l e rm_X10_requestCommit s m args below meth c 0 0 4 (xbs G) (xQ below args s (xbs G) (some (.int rF)) (xRep G z sF τ) 0 0) (xRep G z s21 τ) 70 [(0, .ref (xad G 0 0 0)), (1, .int x1), (2, .int y19), (3, .int y20)] [] := by
            intro n
            induction n with
            | zero =>
              intro y19 y20 s21 h
              exact absurd h (by rw [f_X10_requestCommit_L70]; intro q; cases q)
            | succ n ih =>
              intro y19 y20 s21 h
              rw [f_X10_requestCommit_L70] at h
              refine x_iload_n C dX10_requestCommit_70 rfl (q := 3) rfl ?_
              refine x_aload_n C dX10_requestCommit_71 rfl (q := 0) rfl ?_
              refine x_get C cl_X10 0 (by decide) fl_X10_12_X10 (dm_0 z) rfl rfl dX10_requestCommit_72 ?_
              refine x_get C cl_X7 0 (by decide) fl_X10_41_X7 (dm_1 z) rfl rfl dX10_requestCommit_75 ?_
              refine x_icmp_ge C (tgt := 118) dX10_requestCommit_78 (by decide) h (fun hc26 h => ?_) (fun hc26 h => ?_)
              · cases h
                exact x_sub [2] rfl hj24
              · refine x_aload_n C dX10_requestCommit_81 rfl (q := 0) rfl ?_
                refine x_get C cl_X10 1 (by decide) fl_X10_23_X10 (dm_0 z) rfl rfl dX10_requestCommit_82 ?_
                refine x_iload_n C dX10_requestCommit_85 rfl (q := 1) rfl ?_
                refine x_iload_n C dX10_requestCommit_86 rfl (q := 3) rfl ?_
                obtain ⟨r28, hq27, h⟩ := bnd1_some h
                refine x_callV_i C (m_X8_touches hq27) wv_X10_100 (x_recv C.2.2.2 cl_X8 (dm_2 z) rfl) rfl (Nat.le_of_ble_eq_true rfl) ⟨⟨rfl, rfl⟩, Nat.le_of_ble_eq_true rfl, Nat.le_of_ble_eq_true rfl⟩ dX10_requestCommit_87 rfl ?_
                refine x_if_eq C (tgt := 112) dX10_requestCommit_90 (by decide) h (fun hc29 h => ?_) (fun hc29 h => ?_)
                · refine x_iincL C (w := 1) (L' := fun v30 => [(3, .int v30), (0, .ref (xad G 0 0 0)), (1, .int x1), (2, .int y19)]) dX10_requestCommit_112 (k := 3) rfl (by decide) (by decide) (fun _ => rfl) h (fun v30 h => ?_)
                  refine x_goto C (tgt := 70) dX10_requestCommit_115 (by decide) ?_
                  exact x_sub [1, 2, 3, 0] rfl (ih _ _ _ h)
                · refine x_aload_n C dX10_requestCommit_93 rfl (q := 0) rfl ?_
                  refine x_get C cl_X10 3 (by decide) fl_X10_37_X10 (dm_0 z) rfl rfl dX10_requestCommit_94 ?_
                  refine x_aload_n C dX10_requestCommit_97 rfl (q := 0) rfl ?_
                  refine x_get C cl_X10 3 (by decide) fl_X10_37_X10 (dm_0 z) rfl rfl dX10_requestCommit_98 ?_
                  refine x_get C cl_X5 2 (by decide) fl_X10_104_X5 (dm_11 z) rfl rfl dX10_requestCommit_101 ?_
                  refine x_iload_n C dX10_requestCommit_104 rfl (q := 3) rfl ?_
                  obtain ⟨r32, s33, hq31, h⟩ := bnd2_some h
                  refine x_callV_i C (m_X5_post xb_d hq31) wv_X10_108 (x_recv C.2.2.2 cl_X5 (dm_11 z) rfl) rfl (Nat.le_of_ble_eq_true rfl) ⟨⟨rfl, rfl⟩, Nat.le_of_ble_eq_true rfl, Nat.le_of_ble_eq_true rfl⟩ dX10_requestCommit_105 rfl ?_
                  refine x_pop C dX10_requestCommit_108 rfl ?_
                  refine x_iincL C (w := 1) (L' := fun v34 => [(2, .int v34), (0, .ref (xad G 0 0 0)), (1, .int x1), (3, .int y20)]) dX10_requestCommit_109 (k := 2) rfl (by decide) (by decide) (fun _ => rfl) h (fun v34 h => ?_)
                  refine x_iincL C (w := 1) (L' := fun v35 => [(3, .int v35), (2, .int v34), (0, .ref (xad G 0 0 0)), (1, .int x1)]) dX10_requestCommit_112 (k := 3) rfl (by decide) (by decide) (fun _ => rfl) h (fun v35 h => ?_)
                  refine x_goto C (tgt := 70) dX10_requestCommit_115 (by decide) ?_
                  exact x_sub [2, 3, 1, 0] rfl (ih _ _ _ h)
          exact x_sub [2, 3, 1, 0] rfl (hl36 FU _ _ _ hv25)
      · replace h := hv11
        clear hv11
        refine x_if_eq C (tgt := 48) dX10_requestCommit_41 (by decide) h (fun hc12 h => ?_) (fun hc12 h => ?_)
        · refine x_iconst C (v := 2) dX10_requestCommit_48 (by decide) ?_
          cases h
          exact x_sub [0, 1] rfl hj10
        · refine x_iconst C (v := 3) dX10_requestCommit_44 (by decide) ?_
          refine x_goto C (tgt := 49) dX10_requestCommit_45 (by decide) ?_
          cases h
          exact x_sub [0, 1] rfl hj10
    · refine x_iconst C (v := 0) dX10_requestCommit_23 (by decide) ?_
      cases h
      exact xr_i C hr dX10_requestCommit_24 (fun _ h => h)
  · refine x_iconst C (v := (-1)) dX10_requestCommit_8 (by decide) ?_
    cases h
    exact xr_i C hr dX10_requestCommit_9 (fun _ h => h)
def f_X10_abort_L46 (z : Nat → Nat) (x1 : Int32) (v9 : Int32) : Nat → Int32 → Sg → Option Sg
  | 0, _, _ => none
  | n + 1, y10, s11 => if v9 ≤ y10 then (some (s11)) else (gdx y10 (z 0) fun k16 => letv (s11.1 17 k16 0 4) fun v17 => if v17 = 0 then (letv (y10 + 1) fun v19 => f_X10_abort_L46 z x1 v9 n v19 s11) else (bnd1 (f_X6_endSession z s11 k16 x1) fun s21 => letv (y10 + 1) fun v22 => f_X10_abort_L46 z x1 v9 n v22 s21))
def f_X10_abort (z : Nat → Nat) (σ : Sg) (x1 : Int32) : Option (Int32 × Sg) :=
  bnd1 (f_X10_isTxn z σ x1) fun r2 => if r2 = 0 then (some ((-1), σ)) else (gdx x1 (z 2) fun k4 => letv (σ.1 3 0 0 k4) fun v5 => if v5 = 1 then (gdx x1 (z 2) fun k7 => letv (upI σ 3 0 0 k7 4) fun s8 => letv (nI (z 0)) fun v9 => bnd1 (f_X10_abort_L46 z x1 v9 FU 0 s8) fun (s12 : Sg) => some (1, s12)) else (some (0, σ)))
def rm_X10_abort : Room := { frames := 3, cells := 0, slots := 0, locals := 65 }
set_option maxRecDepth 100000 in
set_option maxHeartbeats 4000000 in
theorem m_X10_abort {l : Launch} {G : xG} {z : Nat → Nat} {σ : Sg} {τ : Tg} {x1 : Int32} {rF : Int32} {sF : Sg} (h : f_X10_abort z σ x1 = some (rF, sF)) : xMet l (xD G) (xcA G) (xbs G) yX10_abort cX10_abort 6 (Option.some Jvm.ClassFile.FieldType.int) rm_X10_abort [.ref (xad G 0 0 0), .int x1] (xRep G z σ τ) (xRep G z sF τ) (some (.int rF)) 0 0 := by
  refine xMet.of RX10 rfl (by decide +kernel) (Nat.le_of_ble_eq_true rfl) ?_
  intro p e s m args below meth c C hr hnm
  unfold f_X10_abort at h
  refine x_sub (L' := [(0, .ref (xad G 0 0 0)), (1, .int x1)]) [0, 1] rfl ?_
  refine x_aload_n C dX10_abort_0 rfl (q := 0) rfl ?_
  refine x_iload_n C dX10_abort_1 rfl (q := 1) rfl ?_
  obtain ⟨r2, hq1, h⟩ := bnd1_some h
  refine x_callV_i C (m_X10_isTxn hq1) wv_X10_66 (x_recv C.2.2.2 cl_X10 (dm_0 z) rfl) rfl (Nat.le_of_ble_eq_true rfl) ⟨⟨rfl, rfl⟩, Nat.le_of_ble_eq_true rfl, Nat.le_of_ble_eq_true rfl⟩ dX10_abort_2 rfl ?_
  refine x_if_ne C (tgt := 10) dX10_abort_5 (by decide) h (fun hc3 h => ?_) (fun hc3 h => ?_)
  · refine x_aload_n C dX10_abort_10 rfl (q := 0) rfl ?_
    refine x_get C cl_X10 1 (by decide) fl_X10_23_X10 (dm_0 z) rfl rfl dX10_abort_11 ?_
    refine x_get C cl_X8 0 (by decide) fl_X10_70_X8 (dm_2 z) rfl rfl dX10_abort_14 ?_
    refine x_iload_n C dX10_abort_17 rfl (q := 1) rfl ?_
    refine x_iald C (dm_3 z) (fun _ _ _ => rfl) dX10_abort_18 h (fun k4 hk4 h => ?_)
    refine x_letI h (fun v5 h => ?_)
    refine x_iconst C (v := 1) dX10_abort_19 (by decide) ?_
    refine x_icmp_eq C (tgt := 25) dX10_abort_20 (by decide) h (fun hc6 h => ?_) (fun hc6 h => ?_)
    · refine x_aload_n C dX10_abort_25 rfl (q := 0) rfl ?_
      refine x_get C cl_X10 1 (by decide) fl_X10_23_X10 (dm_0 z) rfl rfl dX10_abort_26 ?_
      refine x_get C cl_X8 0 (by decide) fl_X10_70_X8 (dm_2 z) rfl rfl dX10_abort_29 ?_
      refine x_iload_n C dX10_abort_32 rfl (q := 1) rfl ?_
      refine x_iconst C (v := 4) dX10_abort_33 (by decide) ?_
      refine x_iast C (dm_3 z) (fun _ _ _ => rfl) dX10_abort_34 h (fun k7 hk7 h => ?_)
      refine x_letS h (fun s8 h => ?_)
      refine x_aload_n C dX10_abort_35 rfl (q := 0) rfl ?_
      refine x_get C cl_X10 4 (by decide) fl_X10_47_X10 (dm_0 z) rfl rfl dX10_abort_36 ?_
      refine x_astore_n C (L' := [(2, .ref (xad G 16 0 0)), (0, .ref (xad G 0 0 0)), (1, .int x1)]) dX10_abort_39 rfl (by decide) rfl ?_
      refine x_aload_n C dX10_abort_40 rfl (q := 0) rfl ?_
      refine x_alen C 6 rfl (dm_16 z) rfl dX10_abort_41 ?_
      refine x_letI h (fun v9 h => ?_)
      refine x_istore_n C (L' := [(3, .int v9), (2, .ref (xad G 16 0 0)), (0, .ref (xad G 0 0 0)), (1, .int x1)]) dX10_abort_42 rfl (by decide) rfl ?_
      refine x_iconst C (v := 0) dX10_abort_43 (by decide) ?_
      refine x_istore C (L' := [(4, .int 0), (3, .int v9), (2, .ref (xad G 16 0 0)), (0, .ref (xad G 0 0 0)), (1, .int x1)]) dX10_abort_44 (by decide) rfl ?_
      obtain ⟨s12, hv14, h⟩ := bnd1_some h
      refine x_join (Ω' := (xRep G z s12 τ)) (pc' := 78) (L' := []) (st' := []) ?_ (fun hj13 => ?_)
      · refine x_iconst C (v := 1) dX10_abort_78 (by decide) ?_
        cases h
        exact xr_i C hr dX10_abort_79 (fun _ h => h)
      · have hl23 : ∀ (n : Nat) (y10 : Int32) (s11 : Sg), f_X10_abort_L46 z x1 v9 n y10 s11 = some (s12) → XW p l e rm_X10_abort s m args below meth c 0 0 6 (xbs G) (xQ below args s (xbs G) (some (.int rF)) (xRep G z sF τ) 0 0) (xRep G z s11 τ) 46 [(1, .int x1), (2, .ref (xad G 16 0 0)), (3, .int v9), (4, .int y10)] [] := by
          intro n
          induction n with
          | zero =>
            intro y10 s11 h
            exact absurd h (by rw [f_X10_abort_L46]; intro q; cases q)
          | succ n ih =>
            intro y10 s11 h
            rw [f_X10_abort_L46] at h
            refine x_iload C dX10_abort_46 (q := 3) rfl ?_
            refine x_iload_n C dX10_abort_48 rfl (q := 2) rfl ?_
            refine x_icmp_ge C (tgt := 78) dX10_abort_49 (by decide) h (fun hc15 h => ?_) (fun hc15 h => ?_)
            · cases h
              exact x_sub [] rfl hj13
            · refine x_aload_n C dX10_abort_52 rfl (q := 1) rfl ?_
              refine x_iload C dX10_abort_53 (q := 3) rfl ?_
              refine x_aald C 6 rfl rfl (dm_16 z) rfl dX10_abort_55 h (fun k16 hk16 h => ?_)
              refine x_astore C (L' := [(5, .ref (xad G 17 k16 0)), (1, .int x1), (2, .ref (xad G 16 0 0)), (3, .int v9), (4, .int y10)]) dX10_abort_56 (by decide) rfl ?_
              refine x_aload C dX10_abort_58 (q := 0) rfl ?_
              refine x_get C cl_X6 4 (by decide) fl_X10_112_X6 (dm_17 hk16) rfl rfl dX10_abort_60 ?_
              refine x_letI h (fun v17 h => ?_)
              refine x_if_eq C (tgt := 72) dX10_abort_63 (by decide) h (fun hc18 h => ?_) (fun hc18 h => ?_)
              · refine x_iincL C (w := 1) (L' := fun v19 => [(4, .int v19), (5, .ref (xad G 17 k16 0)), (1, .int x1), (2, .ref (xad G 16 0 0)), (3, .int v9)]) dX10_abort_72 (k := 4) rfl (by decide) (by decide) (fun _ => rfl) h (fun v19 h => ?_)
                refine x_goto C (tgt := 46) dX10_abort_75 (by decide) ?_
                exact x_sub [2, 3, 4, 0] rfl (ih _ _ h)
              · refine x_aload C dX10_abort_66 (q := 0) rfl ?_
                refine x_iload_n C dX10_abort_68 rfl (q := 1) rfl ?_
                obtain ⟨s21, hq20, h⟩ := bnd1_some h
                refine x_callV_v C (m_X6_endSession hk16 hq20) wv_X10_116 (x_recv C.2.2.2 cl_X6 (dm_17 hk16) rfl) rfl (Nat.le_of_ble_eq_true rfl) ⟨⟨rfl, rfl⟩, Nat.le_of_ble_eq_true rfl, Nat.le_of_ble_eq_true rfl⟩ dX10_abort_69 rfl ?_
                refine x_iincL C (w := 1) (L' := fun v22 => [(4, .int v22), (5, .ref (xad G 17 k16 0)), (1, .int x1), (2, .ref (xad G 16 0 0)), (3, .int v9)]) dX10_abort_72 (k := 4) rfl (by decide) (by decide) (fun _ => rfl) h (fun v22 h => ?_)
                refine x_goto C (tgt := 46) dX10_abort_75 (by decide) ?_
                exact x_sub [2, 3, 4, 0] rfl (ih _ _ h)
        exact x_sub [4, 2, 1, 0] rfl (hl23 FU _ _ hv14)
    · refine x_iconst C (v := 0) dX10_abort_23 (by decide) ?_
      cases h
      exact xr_i C hr dX10_abort_24 (fun _ h => h)
  · refine x_iconst C (v := (-1)) dX10_abort_8 (by decide) ?_
    cases h
    exact xr_i C hr dX10_abort_9 (fun _ h => h)
def f_X10_outcome (z : Nat → Nat) (σ : Sg) (x1 : Int32) : Option Int32 :=
  bnd1 (f_X10_isTxn z σ x1) fun r2 => if r2 = 0 then (some ((-1))) else (gdx x1 (z 2) fun k4 => letv (σ.1 3 0 0 k4) fun v5 => some (v5))
def rm_X10_outcome : Room := { frames := 1, cells := 0, slots := 0, locals := 21 }
set_option maxRecDepth 100000 in
set_option maxHeartbeats 4000000 in
theorem m_X10_outcome {l : Launch} {G : xG} {z : Nat → Nat} {σ : Sg} {τ : Tg} {x1 : Int32} {rF : Int32} (h : f_X10_outcome z σ x1 = some (rF)) : xMet l (xD G) (xcA G) (xbs G) yX10_outcome cX10_outcome 2 (Option.some Jvm.ClassFile.FieldType.int) rm_X10_outcome [.ref (xad G 0 0 0), .int x1] (xRep G z σ τ) (xRep G z σ τ) (some (.int rF)) 0 0 := by
  refine xMet.of RX10 rfl (by decide +kernel) (Nat.le_of_ble_eq_true rfl) ?_
  intro p e s m args below meth c C hr hnm
  unfold f_X10_outcome at h
  refine x_sub (L' := [(0, .ref (xad G 0 0 0)), (1, .int x1)]) [0, 1] rfl ?_
  refine x_aload_n C dX10_outcome_0 rfl (q := 0) rfl ?_
  refine x_iload_n C dX10_outcome_1 rfl (q := 1) rfl ?_
  obtain ⟨r2, hq1, h⟩ := bnd1_some h
  refine x_callV_i C (m_X10_isTxn hq1) wv_X10_66 (x_recv C.2.2.2 cl_X10 (dm_0 z) rfl) rfl (Nat.le_of_ble_eq_true rfl) ⟨⟨rfl, rfl⟩, Nat.le_of_ble_eq_true rfl, Nat.le_of_ble_eq_true rfl⟩ dX10_outcome_2 rfl ?_
  refine x_if_eq C (tgt := 20) dX10_outcome_5 (by decide) h (fun hc3 h => ?_) (fun hc3 h => ?_)
  · refine x_iconst C (v := (-1)) dX10_outcome_20 (by decide) ?_
    cases h
    exact xr_i C hr dX10_outcome_21 (fun _ h => h)
  · refine x_aload_n C dX10_outcome_8 rfl (q := 0) rfl ?_
    refine x_get C cl_X10 1 (by decide) fl_X10_23_X10 (dm_0 z) rfl rfl dX10_outcome_9 ?_
    refine x_get C cl_X8 0 (by decide) fl_X10_70_X8 (dm_2 z) rfl rfl dX10_outcome_12 ?_
    refine x_iload_n C dX10_outcome_15 rfl (q := 1) rfl ?_
    refine x_iald C (dm_3 z) (fun _ _ _ => rfl) dX10_outcome_16 h (fun k4 hk4 h => ?_)
    refine x_letI h (fun v5 h => ?_)
    refine x_goto C (tgt := 21) dX10_outcome_17 (by decide) ?_
    cases h
    exact xr_i C hr dX10_outcome_21 (fun _ h => h)
def f_X10_committedValue (z : Nat → Nat) (σ : Sg) (x1 : Int32) : Option Int64 :=
  bnd1 (f_X10_isKey z σ x1) fun r2 => if r2 = 0 then (some (0)) else (gdx x1 (z 3) fun k4 => letv (σ.2.1 6 0 0 k4) fun v5 => some (v5))
def rm_X10_committedValue : Room := { frames := 1, cells := 0, slots := 0, locals := 21 }
set_option maxRecDepth 100000 in
set_option maxHeartbeats 4000000 in
theorem m_X10_committedValue {l : Launch} {G : xG} {z : Nat → Nat} {σ : Sg} {τ : Tg} {x1 : Int32} {rF : Int64} (h : f_X10_committedValue z σ x1 = some (rF)) : xMet l (xD G) (xcA G) (xbs G) yX10_committedValue cX10_committedValue 2 (Option.some Jvm.ClassFile.FieldType.long) rm_X10_committedValue [.ref (xad G 0 0 0), .int x1] (xRep G z σ τ) (xRep G z σ τ) (some (.long rF)) 0 0 := by
  refine xMet.of RX10 rfl (by decide +kernel) (Nat.le_of_ble_eq_true rfl) ?_
  intro p e s m args below meth c C hr hnm
  unfold f_X10_committedValue at h
  refine x_sub (L' := [(0, .ref (xad G 0 0 0)), (1, .int x1)]) [0, 1] rfl ?_
  refine x_aload_n C dX10_committedValue_0 rfl (q := 0) rfl ?_
  refine x_iload_n C dX10_committedValue_1 rfl (q := 1) rfl ?_
  obtain ⟨r2, hq1, h⟩ := bnd1_some h
  refine x_callV_i C (m_X10_isKey hq1) wv_X10_120 (x_recv C.2.2.2 cl_X10 (dm_0 z) rfl) rfl (Nat.le_of_ble_eq_true rfl) ⟨⟨rfl, rfl⟩, Nat.le_of_ble_eq_true rfl, Nat.le_of_ble_eq_true rfl⟩ dX10_committedValue_2 rfl ?_
  refine x_if_eq C (tgt := 20) dX10_committedValue_5 (by decide) h (fun hc3 h => ?_) (fun hc3 h => ?_)
  · refine x_lconst C (v := 0) dX10_committedValue_20 (by decide) ?_
    cases h
    exact xr_l C hr dX10_committedValue_21 (fun _ h => h)
  · refine x_aload_n C dX10_committedValue_8 rfl (q := 0) rfl ?_
    refine x_get C cl_X10 2 (by decide) fl_X10_30_X10 (dm_0 z) rfl rfl dX10_committedValue_9 ?_
    refine x_get C cl_X1 0 (by decide) fl_X10_123_X1 (dm_5 z) rfl rfl dX10_committedValue_12 ?_
    refine x_iload_n C dX10_committedValue_15 rfl (q := 1) rfl ?_
    refine x_lald C (dm_6 z) (fun _ _ _ => rfl) dX10_committedValue_16 h (fun k4 hk4 h => ?_)
    refine x_letL h (fun v5 h => ?_)
    refine x_goto C (tgt := 21) dX10_committedValue_17 (by decide) ?_
    cases h
    exact xr_l C hr dX10_committedValue_21 (fun _ h => h)
def f_X10_acceptorAt (z : Nat → Nat) (σ : Sg) (x1 : Int32) : Option (Option Nat) :=
  if x1 < (nI (z 0)) then (some (none)) else (bnd1 (f_X7_client z σ) fun r3 => if r3 ≤ x1 then (some (none)) else (gdx (x1 - (nI (z 0))) (z 1) fun k5 => some (some k5)))
def rm_X10_acceptorAt : Room := { frames := 1, cells := 0, slots := 0, locals := 20 }
set_option maxRecDepth 100000 in
set_option maxHeartbeats 4000000 in
theorem m_X10_acceptorAt {l : Launch} {G : xG} {z : Nat → Nat} {σ : Sg} {τ : Tg} {x1 : Int32} {rF : (Option Nat)} (h : f_X10_acceptorAt z σ x1 = some (rF)) : xMet l (xD G) (xcA G) (xbs G) yX10_acceptorAt cX10_acceptorAt 2 (Option.some (Jvm.ClassFile.FieldType.object "CommitShards$Acceptor")) rm_X10_acceptorAt [.ref (xad G 0 0 0), .int x1] (xRep G z σ τ) (xRep G z σ τ) (some (xrA G rF)) 0 0 := by
  refine xMet.of RX10 rfl (by decide +kernel) (Nat.le_of_ble_eq_true rfl) ?_
  intro p e s m args below meth c C hr hnm
  unfold f_X10_acceptorAt at h
  refine x_sub (L' := [(0, .ref (xad G 0 0 0)), (1, .int x1)]) [0, 1] rfl ?_
  refine x_iload_n C dX10_acceptorAt_0 rfl (q := 1) rfl ?_
  refine x_aload_n C dX10_acceptorAt_1 rfl (q := 0) rfl ?_
  refine x_get C cl_X10 0 (by decide) fl_X10_12_X10 (dm_0 z) rfl rfl dX10_acceptorAt_2 ?_
  refine x_get C cl_X7 0 (by decide) fl_X10_41_X7 (dm_1 z) rfl rfl dX10_acceptorAt_5 ?_
  refine x_icmp_lt C (tgt := 39) dX10_acceptorAt_8 (by decide) h (fun hc1 h => ?_) (fun hc1 h => ?_)
  · refine x_aconst_null C dX10_acceptorAt_39 ?_
    cases h
    exact xr_n C hr dX10_acceptorAt_40 (fun _ h => h)
  · refine x_iload_n C dX10_acceptorAt_11 rfl (q := 1) rfl ?_
    refine x_aload_n C dX10_acceptorAt_12 rfl (q := 0) rfl ?_
    refine x_get C cl_X10 0 (by decide) fl_X10_12_X10 (dm_0 z) rfl rfl dX10_acceptorAt_13 ?_
    obtain ⟨r3, hq2, h⟩ := bnd1_some h
    refine x_callV_i C (m_X7_client hq2) wv_X10_92 (x_recv C.2.2.2 cl_X7 (dm_1 z) rfl) rfl (Nat.le_of_ble_eq_true rfl) ⟨⟨rfl, rfl⟩, Nat.le_of_ble_eq_true rfl, Nat.le_of_ble_eq_true rfl⟩ dX10_acceptorAt_16 rfl ?_
    refine x_icmp_ge C (tgt := 39) dX10_acceptorAt_19 (by decide) h (fun hc4 h => ?_) (fun hc4 h => ?_)
    · refine x_aconst_null C dX10_acceptorAt_39 ?_
      cases h
      exact xr_n C hr dX10_acceptorAt_40 (fun _ h => h)
    · refine x_aload_n C dX10_acceptorAt_22 rfl (q := 0) rfl ?_
      refine x_get C cl_X10 5 (by decide) fl_X10_59_X10 (dm_0 z) rfl rfl dX10_acceptorAt_23 ?_
      refine x_iload_n C dX10_acceptorAt_26 rfl (q := 1) rfl ?_
      refine x_aload_n C dX10_acceptorAt_27 rfl (q := 0) rfl ?_
      refine x_get C cl_X10 0 (by decide) fl_X10_12_X10 (dm_0 z) rfl rfl dX10_acceptorAt_28 ?_
      refine x_get C cl_X7 0 (by decide) fl_X10_41_X7 (dm_1 z) rfl rfl dX10_acceptorAt_31 ?_
      refine x_isub C dX10_acceptorAt_34 ?_
      refine x_aald C 7 rfl rfl (dm_24 z) rfl dX10_acceptorAt_35 h (fun k5 hk5 h => ?_)
      refine x_goto C (tgt := 40) dX10_acceptorAt_36 (by decide) ?_
      cases h
      exact xr_a C hr dX10_acceptorAt_40 (fun _ h => h)
def f_X10_nodeAt (z : Nat → Nat) (σ : Sg) (x1 : Int32) : Option (Option (Nat ⊕ Nat)) :=
  if x1 < 0 then (bnd1 (f_X10_acceptorAt z σ x1) fun r3 => oN r3 (some (none)) fun k4 => gdr k4 (z 1) fun k4 => some (some (Sum.inr k4))) else (if (nI (z 0)) ≤ x1 then (bnd1 (f_X10_acceptorAt z σ x1) fun r7 => oN r7 (some (none)) fun k8 => gdr k8 (z 1) fun k8 => some (some (Sum.inr k8))) else (gdx x1 (z 0) fun k9 => some (some (Sum.inl k9))))
def rm_X10_nodeAt : Room := { frames := 2, cells := 0, slots := 0, locals := 41 }
set_option maxRecDepth 100000 in
set_option maxHeartbeats 4000000 in
theorem m_X10_nodeAt {l : Launch} {G : xG} {z : Nat → Nat} {σ : Sg} {τ : Tg} {x1 : Int32} {rF : (Option (Nat ⊕ Nat))} (h : f_X10_nodeAt z σ x1 = some (rF)) : xMet l (xD G) (xcA G) (xbs G) yX10_nodeAt cX10_nodeAt 2 (Option.some (Jvm.ClassFile.FieldType.object "CommitShards$Node")) rm_X10_nodeAt [.ref (xad G 0 0 0), .int x1] (xRep G z σ τ) (xRep G z σ τ) (some (xrN G rF)) 0 0 := by
  refine xMet.of RX10 rfl (by decide +kernel) (Nat.le_of_ble_eq_true rfl) ?_
  intro p e s m args below meth c C hr hnm
  unfold f_X10_nodeAt at h
  refine x_sub (L' := [(0, .ref (xad G 0 0 0)), (1, .int x1)]) [0, 1] rfl ?_
  refine x_iload_n C dX10_nodeAt_0 rfl (q := 1) rfl ?_
  refine x_if_lt C (tgt := 22) dX10_nodeAt_1 (by decide) h (fun hc1 h => ?_) (fun hc1 h => ?_)
  · refine x_aload_n C dX10_nodeAt_22 rfl (q := 0) rfl ?_
    refine x_iload_n C dX10_nodeAt_23 rfl (q := 1) rfl ?_
    obtain ⟨r3, hq2, h⟩ := bnd1_some h
    cases r3 with
    | none =>
      replace h := oN_n h
      refine x_callV_n C (m_X10_acceptorAt hq2) wv_X10_153 (x_recv C.2.2.2 cl_X10 (dm_0 z) rfl) rfl (Nat.le_of_ble_eq_true rfl) ⟨⟨rfl, rfl⟩, Nat.le_of_ble_eq_true rfl, Nat.le_of_ble_eq_true rfl⟩ dX10_nodeAt_24 rfl ?_
      cases h
      exact xr_n C hr dX10_nodeAt_27 (fun _ h => h)
    | some k4 =>
      replace h := oN_s h
      obtain ⟨hk4, h⟩ := gdr_some h
      refine x_callV_a C (m_X10_acceptorAt hq2) wv_X10_153 (x_recv C.2.2.2 cl_X10 (dm_0 z) rfl) rfl (Nat.le_of_ble_eq_true rfl) ⟨⟨rfl, rfl⟩, Nat.le_of_ble_eq_true rfl, Nat.le_of_ble_eq_true rfl⟩ dX10_nodeAt_24 rfl ?_
      cases h
      exact xr_a C hr dX10_nodeAt_27 (fun _ h => h)
  · refine x_iload_n C dX10_nodeAt_4 rfl (q := 1) rfl ?_
    refine x_aload_n C dX10_nodeAt_5 rfl (q := 0) rfl ?_
    refine x_get C cl_X10 0 (by decide) fl_X10_12_X10 (dm_0 z) rfl rfl dX10_nodeAt_6 ?_
    refine x_get C cl_X7 0 (by decide) fl_X10_41_X7 (dm_1 z) rfl rfl dX10_nodeAt_9 ?_
    refine x_icmp_ge C (tgt := 22) dX10_nodeAt_12 (by decide) h (fun hc5 h => ?_) (fun hc5 h => ?_)
    · refine x_aload_n C dX10_nodeAt_22 rfl (q := 0) rfl ?_
      refine x_iload_n C dX10_nodeAt_23 rfl (q := 1) rfl ?_
      obtain ⟨r7, hq6, h⟩ := bnd1_some h
      cases r7 with
      | none =>
        replace h := oN_n h
        refine x_callV_n C (m_X10_acceptorAt hq6) wv_X10_153 (x_recv C.2.2.2 cl_X10 (dm_0 z) rfl) rfl (Nat.le_of_ble_eq_true rfl) ⟨⟨rfl, rfl⟩, Nat.le_of_ble_eq_true rfl, Nat.le_of_ble_eq_true rfl⟩ dX10_nodeAt_24 rfl ?_
        cases h
        exact xr_n C hr dX10_nodeAt_27 (fun _ h => h)
      | some k8 =>
        replace h := oN_s h
        obtain ⟨hk8, h⟩ := gdr_some h
        refine x_callV_a C (m_X10_acceptorAt hq6) wv_X10_153 (x_recv C.2.2.2 cl_X10 (dm_0 z) rfl) rfl (Nat.le_of_ble_eq_true rfl) ⟨⟨rfl, rfl⟩, Nat.le_of_ble_eq_true rfl, Nat.le_of_ble_eq_true rfl⟩ dX10_nodeAt_24 rfl ?_
        cases h
        exact xr_a C hr dX10_nodeAt_27 (fun _ h => h)
    · refine x_aload_n C dX10_nodeAt_15 rfl (q := 0) rfl ?_
      refine x_get C cl_X10 4 (by decide) fl_X10_47_X10 (dm_0 z) rfl rfl dX10_nodeAt_16 ?_
      refine x_iload_n C dX10_nodeAt_19 rfl (q := 1) rfl ?_
      refine x_aald C 6 rfl rfl (dm_16 z) rfl dX10_nodeAt_20 h (fun k9 hk9 h => ?_)
      cases h
      exact xr_a C hr dX10_nodeAt_21 (fun _ h => h)
def f_X10_handOver (z : Nat → Nat) (σ : Sg) (x1 : Int32) : Option (Int32 × Sg) :=
  bnd2 (f_X5_take z σ x1) fun r2 s3 => gdr r2 (z 4 + 2) fun m4 => letv (s3.1 0 0 0 7) fun v5 => letv (upI s3 0 0 0 7 (v5 + 1)) fun s6 => letv (s6.1 13 m4 0 1) fun v7 => bnd1 (f_X7_client z s6) fun r9 => if v7 = r9 then (letv (s6.1 13 m4 0 2) fun v30 => letv (s6.1 13 m4 0 5) fun v31 => bnd1 (f_X8_hearEnd z s6 v30 v31) fun s33 => letv (s33.1 13 m4 0 0) fun v34 => some (v34, s33)) else (letv (s6.1 13 m4 0 1) fun v11 => bnd1 (f_X10_nodeAt z s6 v11) fun r13 => oS r13 (some (9, s6)) (fun k14 => gdr k14 (z 0) fun k14 => letv (s6.1 17 k14 0 4) fun v16 => if v16 = 0 then (some (9, s6)) else (bnd2 (f_X6_hear z s6 k14 m4) fun r19 s20 => if r19 = 0 then (some (10, s20)) else (letv (s20.1 13 m4 0 0) fun v22 => some (v22, s20)))) fun k15 => gdr k15 (z 1) fun k15 => letv (s6.1 25 k15 0 4) fun v23 => if v23 = 0 then (some (9, s6)) else (bnd2 (f_X0_hear z s6 k15 m4) fun r26 s27 => if r26 = 0 then (some (10, s27)) else (letv (s27.1 13 m4 0 0) fun v29 => some (v29, s27))))
def rm_X10_handOver : Room := { frames := 5, cells := 0, slots := 0, locals := 113 }
set_option maxRecDepth 100000 in
set_option maxHeartbeats 4000000 in
theorem m_X10_handOver {l : Launch} {G : xG} {z : Nat → Nat} {σ : Sg} {τ : Tg} {x1 : Int32} {rF : Int32} {sF : Sg} (h : f_X10_handOver z σ x1 = some (rF, sF)) : xMet l (xD G) (xcA G) (xbs G) yX10_handOver cX10_handOver 4 (Option.some Jvm.ClassFile.FieldType.int) rm_X10_handOver [.ref (xad G 0 0 0), .int x1] (xRep G z σ τ) (xRep G z sF τ) (some (.int rF)) 0 0 := by
  refine xMet.of RX10 rfl (by decide +kernel) (Nat.le_of_ble_eq_true rfl) ?_
  intro p e s m args below meth c C hr hnm
  unfold f_X10_handOver at h
  refine x_sub (L' := [(0, .ref (xad G 0 0 0)), (1, .int x1)]) [0, 1] rfl ?_
  refine x_aload_n C dX10_handOver_0 rfl (q := 0) rfl ?_
  refine x_get C cl_X10 3 (by decide) fl_X10_37_X10 (dm_0 z) rfl rfl dX10_handOver_1 ?_
  refine x_iload_n C dX10_handOver_4 rfl (q := 1) rfl ?_
  obtain ⟨r2, s3, hq1, h⟩ := bnd2_some h
  refine x_callV_a C (m_X5_take hq1) wv_X10_134 (x_recv C.2.2.2 cl_X5 (dm_11 z) rfl) rfl (Nat.le_of_ble_eq_true rfl) ⟨⟨rfl, rfl⟩, Nat.le_of_ble_eq_true rfl, Nat.le_of_ble_eq_true rfl⟩ dX10_handOver_5 rfl ?_
  refine x_gdr h (fun m4 hm4 h => ?_)
  refine x_astore_n C (L' := [(2, .ref (xad G 13 m4 0)), (0, .ref (xad G 0 0 0)), (1, .int x1)]) dX10_handOver_8 rfl (by decide) rfl ?_
  refine x_aload_n C dX10_handOver_9 rfl (q := 1) rfl ?_
  refine x_dup C dX10_handOver_10 rfl ?_
  refine x_get C cl_X10 7 (by decide) fl_X10_218_X10 (dm_0 z) rfl rfl dX10_handOver_11 ?_
  refine x_letI h (fun v5 h => ?_)
  refine x_iconst C (v := 1) dX10_handOver_14 (by decide) ?_
  refine x_iadd C dX10_handOver_15 ?_
  refine x_putI C cl_X10 7 (by decide) fl_X10_218_X10 rfl (dm_0 z) (fun _ _ _ => rfl) (fun _ _ _ => rfl) (fun _ _ _ => Nat.le_of_ble_eq_true rfl) rfl rfl dX10_handOver_16 h (fun s6 h => ?_)
  refine x_aload_n C dX10_handOver_19 rfl (q := 0) rfl ?_
  refine x_get C cl_X3 1 (by decide) fl_X10_147_X3 (dm_13 hm4) rfl rfl dX10_handOver_20 ?_
  refine x_letI h (fun v7 h => ?_)
  refine x_aload_n C dX10_handOver_23 rfl (q := 1) rfl ?_
  refine x_get C cl_X10 0 (by decide) fl_X10_12_X10 (dm_0 z) rfl rfl dX10_handOver_24 ?_
  obtain ⟨r9, hq8, h⟩ := bnd1_some h
  refine x_callV_i C (m_X7_client hq8) wv_X10_92 (x_recv C.2.2.2 cl_X7 (dm_1 z) rfl) rfl (Nat.le_of_ble_eq_true rfl) ⟨⟨rfl, rfl⟩, Nat.le_of_ble_eq_true rfl, Nat.le_of_ble_eq_true rfl⟩ dX10_handOver_27 rfl ?_
  refine x_icmp_ne C (tgt := 53) dX10_handOver_30 (by decide) h (fun hc10 h => ?_) (fun hc10 h => ?_)
  · refine x_aload_n C dX10_handOver_53 rfl (q := 1) rfl ?_
    refine x_aload_n C dX10_handOver_54 rfl (q := 0) rfl ?_
    refine x_get C cl_X3 1 (by decide) fl_X10_147_X3 (dm_13 hm4) rfl rfl dX10_handOver_55 ?_
    refine x_letI h (fun v11 h => ?_)
    obtain ⟨r13, hq12, h⟩ := bnd1_some h
    rcases r13 with _ | k14 | k15
    · replace h := oS_n h
      refine x_callV_n C (m_X10_nodeAt hq12) wv_X10_160 (x_recv C.2.2.2 cl_X10 (dm_0 z) rfl) rfl (Nat.le_of_ble_eq_true rfl) ⟨⟨rfl, rfl⟩, Nat.le_of_ble_eq_true rfl, Nat.le_of_ble_eq_true rfl⟩ dX10_handOver_58 rfl ?_
      refine x_astore_nN C (L' := [(3, .null), (2, .ref (xad G 13 m4 0)), (0, .ref (xad G 0 0 0)), (1, .int x1)]) dX10_handOver_61 rfl (by decide) rfl ?_
      refine x_aload_nN C dX10_handOver_62 rfl (q := 0) rfl ?_
      refine x_ifnullN C (tgt := 73) dX10_handOver_63 (by decide) ?_
      refine x_bipush C (v := 9) dX10_handOver_73 (by decide) ?_
      cases h
      exact xr_i C hr dX10_handOver_75 (fun _ h => h)
    · replace h := oS_l h
      obtain ⟨hk14, h⟩ := gdr_some h
      refine x_callV_a C (m_X10_nodeAt hq12) wv_X10_160 (x_recv C.2.2.2 cl_X10 (dm_0 z) rfl) rfl (Nat.le_of_ble_eq_true rfl) ⟨⟨rfl, rfl⟩, Nat.le_of_ble_eq_true rfl, Nat.le_of_ble_eq_true rfl⟩ dX10_handOver_58 rfl ?_
      refine x_astore_n C (L' := [(3, .ref (xad G 17 k14 0)), (2, .ref (xad G 13 m4 0)), (0, .ref (xad G 0 0 0)), (1, .int x1)]) dX10_handOver_61 rfl (by decide) rfl ?_
      refine x_aload_n C dX10_handOver_62 rfl (q := 0) rfl ?_
      refine x_ifnull C dX10_handOver_63 ?_
      refine x_aload_n C dX10_handOver_66 rfl (q := 0) rfl ?_
      refine x_get C cl_X6 4 (by decide) fl_X10_164_X6 (dm_17 hk14) rfl rfl dX10_handOver_67 ?_
      refine x_letI h (fun v16 h => ?_)
      refine x_if_ne C (tgt := 76) dX10_handOver_70 (by decide) h (fun hc17 h => ?_) (fun hc17 h => ?_)
      · refine x_aload_n C dX10_handOver_76 rfl (q := 0) rfl ?_
        refine x_aload_n C dX10_handOver_77 rfl (q := 1) rfl ?_
        obtain ⟨r19, s20, hq18, h⟩ := bnd2_some h
        refine x_callU_i C (m_X6_hear hk14 hm4 hq18) wu_X10_258_X6 (x_recv C.2.2.2 cl_X6 (dm_17 hk14) rfl) rfl (Nat.le_of_ble_eq_true rfl) ⟨⟨rfl, rfl⟩, Nat.le_of_ble_eq_true rfl, Nat.le_of_ble_eq_true rfl⟩ dX10_handOver_78 rfl ?_
        refine x_if_eq C (tgt := 91) dX10_handOver_81 (by decide) h (fun hc21 h => ?_) (fun hc21 h => ?_)
        · refine x_bipush C (v := 10) dX10_handOver_91 (by decide) ?_
          cases h
          exact xr_i C hr dX10_handOver_93 (fun _ h => h)
        · refine x_aload_n C dX10_handOver_84 rfl (q := 1) rfl ?_
          refine x_get C cl_X3 0 (by decide) fl_X10_138_X3 (dm_13 hm4) rfl rfl dX10_handOver_85 ?_
          refine x_letI h (fun v22 h => ?_)
          refine x_goto C (tgt := 93) dX10_handOver_88 (by decide) ?_
          cases h
          exact xr_i C hr dX10_handOver_93 (fun _ h => h)
      · refine x_bipush C (v := 9) dX10_handOver_73 (by decide) ?_
        cases h
        exact xr_i C hr dX10_handOver_75 (fun _ h => h)
    · replace h := oS_r h
      obtain ⟨hk15, h⟩ := gdr_some h
      refine x_callV_a C (m_X10_nodeAt hq12) wv_X10_160 (x_recv C.2.2.2 cl_X10 (dm_0 z) rfl) rfl (Nat.le_of_ble_eq_true rfl) ⟨⟨rfl, rfl⟩, Nat.le_of_ble_eq_true rfl, Nat.le_of_ble_eq_true rfl⟩ dX10_handOver_58 rfl ?_
      refine x_astore_n C (L' := [(3, .ref (xad G 25 k15 0)), (2, .ref (xad G 13 m4 0)), (0, .ref (xad G 0 0 0)), (1, .int x1)]) dX10_handOver_61 rfl (by decide) rfl ?_
      refine x_aload_n C dX10_handOver_62 rfl (q := 0) rfl ?_
      refine x_ifnull C dX10_handOver_63 ?_
      refine x_aload_n C dX10_handOver_66 rfl (q := 0) rfl ?_
      refine x_get C cl_X0 4 (by decide) fl_X10_164_X0 (dm_25 hk15) rfl rfl dX10_handOver_67 ?_
      refine x_letI h (fun v23 h => ?_)
      refine x_if_ne C (tgt := 76) dX10_handOver_70 (by decide) h (fun hc24 h => ?_) (fun hc24 h => ?_)
      · refine x_aload_n C dX10_handOver_76 rfl (q := 0) rfl ?_
        refine x_aload_n C dX10_handOver_77 rfl (q := 1) rfl ?_
        obtain ⟨r26, s27, hq25, h⟩ := bnd2_some h
        refine x_callU_i C (m_X0_hear hk15 hm4 hq25) wu_X10_258_X0 (x_recv C.2.2.2 cl_X0 (dm_25 hk15) rfl) rfl (Nat.le_of_ble_eq_true rfl) ⟨⟨rfl, rfl⟩, Nat.le_of_ble_eq_true rfl, Nat.le_of_ble_eq_true rfl⟩ dX10_handOver_78 rfl ?_
        refine x_if_eq C (tgt := 91) dX10_handOver_81 (by decide) h (fun hc28 h => ?_) (fun hc28 h => ?_)
        · refine x_bipush C (v := 10) dX10_handOver_91 (by decide) ?_
          cases h
          exact xr_i C hr dX10_handOver_93 (fun _ h => h)
        · refine x_aload_n C dX10_handOver_84 rfl (q := 1) rfl ?_
          refine x_get C cl_X3 0 (by decide) fl_X10_138_X3 (dm_13 hm4) rfl rfl dX10_handOver_85 ?_
          refine x_letI h (fun v29 h => ?_)
          refine x_goto C (tgt := 93) dX10_handOver_88 (by decide) ?_
          cases h
          exact xr_i C hr dX10_handOver_93 (fun _ h => h)
      · refine x_bipush C (v := 9) dX10_handOver_73 (by decide) ?_
        cases h
        exact xr_i C hr dX10_handOver_75 (fun _ h => h)
  · refine x_aload_n C dX10_handOver_33 rfl (q := 1) rfl ?_
    refine x_get C cl_X10 1 (by decide) fl_X10_23_X10 (dm_0 z) rfl rfl dX10_handOver_34 ?_
    refine x_aload_n C dX10_handOver_37 rfl (q := 0) rfl ?_
    refine x_get C cl_X3 2 (by decide) fl_X10_249_X3 (dm_13 hm4) rfl rfl dX10_handOver_38 ?_
    refine x_letI h (fun v30 h => ?_)
    refine x_aload_n C dX10_handOver_41 rfl (q := 0) rfl ?_
    refine x_get C cl_X3 5 (by decide) fl_X10_252_X3 (dm_13 hm4) rfl rfl dX10_handOver_42 ?_
    refine x_letI h (fun v31 h => ?_)
    obtain ⟨s33, hq32, h⟩ := bnd1_some h
    refine x_callV_v C (m_X8_hearEnd hq32) wv_X10_255 (x_recv C.2.2.2 cl_X8 (dm_2 z) rfl) rfl (Nat.le_of_ble_eq_true rfl) ⟨⟨rfl, rfl⟩, Nat.le_of_ble_eq_true rfl, Nat.le_of_ble_eq_true rfl⟩ dX10_handOver_45 rfl ?_
    refine x_aload_n C dX10_handOver_48 rfl (q := 0) rfl ?_
    refine x_get C cl_X3 0 (by decide) fl_X10_138_X3 (dm_13 hm4) rfl rfl dX10_handOver_49 ?_
    refine x_letI h (fun v34 h => ?_)
    cases h
    exact xr_i C hr dX10_handOver_52 (fun _ h => h)
def f_X10_deliver (z : Nat → Nat) (σ : Sg) (x1 : Int32) : Option (Int32 × Sg) :=
  bnd1 (f_X5_has z σ x1) fun r2 => if r2 = 0 then (some ((-1), σ)) else (bnd2 (f_X10_handOver z σ x1) fun r5 s6 => some (r5, s6))
def rm_X10_deliver : Room := { frames := 6, cells := 0, slots := 0, locals := 136 }
set_option maxRecDepth 100000 in
set_option maxHeartbeats 4000000 in
theorem m_X10_deliver {l : Launch} {G : xG} {z : Nat → Nat} {σ : Sg} {τ : Tg} {x1 : Int32} {rF : Int32} {sF : Sg} (h : f_X10_deliver z σ x1 = some (rF, sF)) : xMet l (xD G) (xcA G) (xbs G) yX10_deliver cX10_deliver 2 (Option.some Jvm.ClassFile.FieldType.int) rm_X10_deliver [.ref (xad G 0 0 0), .int x1] (xRep G z σ τ) (xRep G z sF τ) (some (.int rF)) 0 0 := by
  refine xMet.of RX10 rfl (by decide +kernel) (Nat.le_of_ble_eq_true rfl) ?_
  intro p e s m args below meth c C hr hnm
  unfold f_X10_deliver at h
  refine x_sub (L' := [(0, .ref (xad G 0 0 0)), (1, .int x1)]) [0, 1] rfl ?_
  refine x_aload_n C dX10_deliver_0 rfl (q := 0) rfl ?_
  refine x_get C cl_X10 3 (by decide) fl_X10_37_X10 (dm_0 z) rfl rfl dX10_deliver_1 ?_
  refine x_iload_n C dX10_deliver_4 rfl (q := 1) rfl ?_
  obtain ⟨r2, hq1, h⟩ := bnd1_some h
  refine x_callV_i C (m_X5_has hq1) wv_X10_127 (x_recv C.2.2.2 cl_X5 (dm_11 z) rfl) rfl (Nat.le_of_ble_eq_true rfl) ⟨⟨rfl, rfl⟩, Nat.le_of_ble_eq_true rfl, Nat.le_of_ble_eq_true rfl⟩ dX10_deliver_5 rfl ?_
  refine x_if_eq C (tgt := 19) dX10_deliver_8 (by decide) h (fun hc3 h => ?_) (fun hc3 h => ?_)
  · refine x_iconst C (v := (-1)) dX10_deliver_19 (by decide) ?_
    cases h
    exact xr_i C hr dX10_deliver_20 (fun _ h => h)
  · refine x_aload_n C dX10_deliver_11 rfl (q := 0) rfl ?_
    refine x_iload_n C dX10_deliver_12 rfl (q := 1) rfl ?_
    obtain ⟨r5, s6, hq4, h⟩ := bnd2_some h
    refine x_callV_i C (m_X10_handOver hq4) wv_X10_130 (x_recv C.2.2.2 cl_X10 (dm_0 z) rfl) rfl (Nat.le_of_ble_eq_true rfl) ⟨⟨rfl, rfl⟩, Nat.le_of_ble_eq_true rfl, Nat.le_of_ble_eq_true rfl⟩ dX10_deliver_13 rfl ?_
    refine x_goto C (tgt := 20) dX10_deliver_16 (by decide) ?_
    cases h
    exact xr_i C hr dX10_deliver_20 (fun _ h => h)
def f_X10_drop (z : Nat → Nat) (σ : Sg) (x1 : Int32) : Option (Int32 × Sg) :=
  bnd1 (f_X5_has z σ x1) fun r2 => if r2 = 0 then (some ((-1), σ)) else (bnd2 (f_X5_take z σ x1) fun r5 s6 => gdr r5 (z 4 + 2) fun m7 => letv (s6.1 13 m7 0 0) fun v8 => some (v8, s6))
def rm_X10_drop : Room := { frames := 1, cells := 0, slots := 0, locals := 23 }
set_option maxRecDepth 100000 in
set_option maxHeartbeats 4000000 in
theorem m_X10_drop {l : Launch} {G : xG} {z : Nat → Nat} {σ : Sg} {τ : Tg} {x1 : Int32} {rF : Int32} {sF : Sg} (h : f_X10_drop z σ x1 = some (rF, sF)) : xMet l (xD G) (xcA G) (xbs G) yX10_drop cX10_drop 2 (Option.some Jvm.ClassFile.FieldType.int) rm_X10_drop [.ref (xad G 0 0 0), .int x1] (xRep G z σ τ) (xRep G z sF τ) (some (.int rF)) 0 0 := by
  refine xMet.of RX10 rfl (by decide +kernel) (Nat.le_of_ble_eq_true rfl) ?_
  intro p e s m args below meth c C hr hnm
  unfold f_X10_drop at h
  refine x_sub (L' := [(0, .ref (xad G 0 0 0)), (1, .int x1)]) [0, 1] rfl ?_
  refine x_aload_n C dX10_drop_0 rfl (q := 0) rfl ?_
  refine x_get C cl_X10 3 (by decide) fl_X10_37_X10 (dm_0 z) rfl rfl dX10_drop_1 ?_
  refine x_iload_n C dX10_drop_4 rfl (q := 1) rfl ?_
  obtain ⟨r2, hq1, h⟩ := bnd1_some h
  refine x_callV_i C (m_X5_has hq1) wv_X10_127 (x_recv C.2.2.2 cl_X5 (dm_11 z) rfl) rfl (Nat.le_of_ble_eq_true rfl) ⟨⟨rfl, rfl⟩, Nat.le_of_ble_eq_true rfl, Nat.le_of_ble_eq_true rfl⟩ dX10_drop_5 rfl ?_
  refine x_if_eq C (tgt := 25) dX10_drop_8 (by decide) h (fun hc3 h => ?_) (fun hc3 h => ?_)
  · refine x_iconst C (v := (-1)) dX10_drop_25 (by decide) ?_
    cases h
    exact xr_i C hr dX10_drop_26 (fun _ h => h)
  · refine x_aload_n C dX10_drop_11 rfl (q := 0) rfl ?_
    refine x_get C cl_X10 3 (by decide) fl_X10_37_X10 (dm_0 z) rfl rfl dX10_drop_12 ?_
    refine x_iload_n C dX10_drop_15 rfl (q := 1) rfl ?_
    obtain ⟨r5, s6, hq4, h⟩ := bnd2_some h
    refine x_callV_a C (m_X5_take hq4) wv_X10_134 (x_recv C.2.2.2 cl_X5 (dm_11 z) rfl) rfl (Nat.le_of_ble_eq_true rfl) ⟨⟨rfl, rfl⟩, Nat.le_of_ble_eq_true rfl, Nat.le_of_ble_eq_true rfl⟩ dX10_drop_16 rfl ?_
    refine x_gdr h (fun m7 hm7 h => ?_)
    refine x_get C cl_X3 0 (by decide) fl_X10_138_X3 (dm_13 hm7) rfl rfl dX10_drop_19 ?_
    refine x_letI h (fun v8 h => ?_)
    refine x_goto C (tgt := 26) dX10_drop_22 (by decide) ?_
    cases h
    exact xr_i C hr dX10_drop_26 (fun _ h => h)
def f_X10_twice (z : Nat → Nat) (σ : Sg) (x1 : Int32) : Option (Int32 × Sg) :=
  bnd1 (f_X5_has z σ x1) fun r2 => if r2 = 0 then (some ((-1), σ)) else (gdx x1 (z 4) fun k4 => gdr (σ.2.2 12 k4) (z 4 + 2) fun m5 => letv (σ.1 13 m5 0 1) fun v6 => bnd2 (f_X5_post z σ m5 v6) fun r8 s9 => if r8 = 0 then (some (0, s9)) else (letv (s9.1 11 0 0 4) fun v11 => some (v11, s9)))
def rm_X10_twice : Room := { frames := 2, cells := 0, slots := 0, locals := 45 }
set_option maxRecDepth 100000 in
set_option maxHeartbeats 4000000 in
theorem m_X10_twice {l : Launch} {G : xG} {z : Nat → Nat} {σ : Sg} {τ : Tg} {x1 : Int32} {rF : Int32} {sF : Sg} (h : f_X10_twice z σ x1 = some (rF, sF)) : xMet l (xD G) (xcA G) (xbs G) yX10_twice cX10_twice 3 (Option.some Jvm.ClassFile.FieldType.int) rm_X10_twice [.ref (xad G 0 0 0), .int x1] (xRep G z σ τ) (xRep G z sF τ) (some (.int rF)) 0 0 := by
  refine xMet.of RX10 rfl (by decide +kernel) (Nat.le_of_ble_eq_true rfl) ?_
  intro p e s m args below meth c C hr hnm
  unfold f_X10_twice at h
  refine x_sub (L' := [(0, .ref (xad G 0 0 0)), (1, .int x1)]) [0, 1] rfl ?_
  refine x_aload_n C dX10_twice_0 rfl (q := 0) rfl ?_
  refine x_get C cl_X10 3 (by decide) fl_X10_37_X10 (dm_0 z) rfl rfl dX10_twice_1 ?_
  refine x_iload_n C dX10_twice_4 rfl (q := 1) rfl ?_
  obtain ⟨r2, hq1, h⟩ := bnd1_some h
  refine x_callV_i C (m_X5_has hq1) wv_X10_127 (x_recv C.2.2.2 cl_X5 (dm_11 z) rfl) rfl (Nat.le_of_ble_eq_true rfl) ⟨⟨rfl, rfl⟩, Nat.le_of_ble_eq_true rfl, Nat.le_of_ble_eq_true rfl⟩ dX10_twice_5 rfl ?_
  refine x_if_ne C (tgt := 13) dX10_twice_8 (by decide) h (fun hc3 h => ?_) (fun hc3 h => ?_)
  · refine x_aload_n C dX10_twice_13 rfl (q := 0) rfl ?_
    refine x_get C cl_X10 3 (by decide) fl_X10_37_X10 (dm_0 z) rfl rfl dX10_twice_14 ?_
    refine x_get C cl_X5 1 (by decide) fl_X10_143_X5 (dm_11 z) rfl rfl dX10_twice_17 ?_
    refine x_iload_n C dX10_twice_20 rfl (q := 1) rfl ?_
    refine x_aald C 5 rfl rfl (dm_12 z) rfl dX10_twice_21 h (fun k4 hk4 h => ?_)
    refine x_gdr h (fun m5 hm5 h => ?_)
    refine x_astore_n C (L' := [(2, .ref (xad G 13 m5 0)), (0, .ref (xad G 0 0 0)), (1, .int x1)]) dX10_twice_22 rfl (by decide) rfl ?_
    refine x_aload_n C dX10_twice_23 rfl (q := 1) rfl ?_
    refine x_get C cl_X10 3 (by decide) fl_X10_37_X10 (dm_0 z) rfl rfl dX10_twice_24 ?_
    refine x_aload_n C dX10_twice_27 rfl (q := 0) rfl ?_
    refine x_aload_n C dX10_twice_28 rfl (q := 0) rfl ?_
    refine x_get C cl_X3 1 (by decide) fl_X10_147_X3 (dm_13 hm5) rfl rfl dX10_twice_29 ?_
    refine x_letI h (fun v6 h => ?_)
    obtain ⟨r8, s9, hq7, h⟩ := bnd2_some h
    refine x_callV_i C (m_X5_post hm5 hq7) wv_X10_108 (x_recv C.2.2.2 cl_X5 (dm_11 z) rfl) rfl (Nat.le_of_ble_eq_true rfl) ⟨⟨rfl, rfl⟩, Nat.le_of_ble_eq_true rfl, Nat.le_of_ble_eq_true rfl⟩ dX10_twice_32 rfl ?_
    refine x_if_eq C (tgt := 48) dX10_twice_35 (by decide) h (fun hc10 h => ?_) (fun hc10 h => ?_)
    · refine x_iconst C (v := 0) dX10_twice_48 (by decide) ?_
      cases h
      exact xr_i C hr dX10_twice_49 (fun _ h => h)
    · refine x_aload_n C dX10_twice_38 rfl (q := 1) rfl ?_
      refine x_get C cl_X10 3 (by decide) fl_X10_37_X10 (dm_0 z) rfl rfl dX10_twice_39 ?_
      refine x_get C cl_X5 4 (by decide) fl_X10_150_X5 (dm_11 z) rfl rfl dX10_twice_42 ?_
      refine x_letI h (fun v11 h => ?_)
      refine x_goto C (tgt := 49) dX10_twice_45 (by decide) ?_
      cases h
      exact xr_i C hr dX10_twice_49 (fun _ h => h)
  · refine x_iconst C (v := (-1)) dX10_twice_11 (by decide) ?_
    cases h
    exact xr_i C hr dX10_twice_12 (fun _ h => h)
def f_X10_timeout (z : Nat → Nat) (σ : Sg) (x1 : Int32) (x2 : Int32) : Option (Int32 × Sg) :=
  bnd1 (f_X10_acceptorAt z σ x1) fun r2 => oN r2 (some ((-1), σ)) fun k3 => gdr k3 (z 1) fun k3 => bnd1 (f_X10_isTxn z σ x2) fun r5 => if r5 = 0 then (some ((-1), σ)) else (gdx x2 (z 2) fun k7 => letv (σ.1 3 0 0 k7) fun v8 => if v8 = 0 then (some (0, σ)) else (if v8 = 1 then (some (0, σ)) else (bnd1 (f_X8_touchesNone z σ x2) fun r12 => if r12 = 0 then (bnd2 (f_X0_takeOver z σ k3 x2) fun r15 s16 => some (r15, s16)) else (some (0, σ)))))
def rm_X10_timeout : Room := { frames := 4, cells := 0, slots := 0, locals := 89 }
set_option maxRecDepth 100000 in
set_option maxHeartbeats 4000000 in
theorem m_X10_timeout {l : Launch} {G : xG} {z : Nat → Nat} {σ : Sg} {τ : Tg} {x1 : Int32} {x2 : Int32} {rF : Int32} {sF : Sg} (h : f_X10_timeout z σ x1 x2 = some (rF, sF)) : xMet l (xD G) (xcA G) (xbs G) yX10_timeout cX10_timeout 5 (Option.some Jvm.ClassFile.FieldType.int) rm_X10_timeout [.ref (xad G 0 0 0), .int x1, .int x2] (xRep G z σ τ) (xRep G z sF τ) (some (.int rF)) 0 0 := by
  refine xMet.of RX10 rfl (by decide +kernel) (Nat.le_of_ble_eq_true rfl) ?_
  intro p e s m args below meth c C hr hnm
  unfold f_X10_timeout at h
  refine x_sub (L' := [(0, .ref (xad G 0 0 0)), (1, .int x1), (2, .int x2)]) [0, 1, 2] rfl ?_
  refine x_aload_n C dX10_timeout_0 rfl (q := 0) rfl ?_
  refine x_iload_n C dX10_timeout_1 rfl (q := 1) rfl ?_
  obtain ⟨r2, hq1, h⟩ := bnd1_some h
  cases r2 with
  | none =>
    replace h := oN_n h
    refine x_callV_n C (m_X10_acceptorAt hq1) wv_X10_153 (x_recv C.2.2.2 cl_X10 (dm_0 z) rfl) rfl (Nat.le_of_ble_eq_true rfl) ⟨⟨rfl, rfl⟩, Nat.le_of_ble_eq_true rfl, Nat.le_of_ble_eq_true rfl⟩ dX10_timeout_2 rfl ?_
    refine x_astore_nN C (L' := [(3, .null), (0, .ref (xad G 0 0 0)), (1, .int x1), (2, .int x2)]) dX10_timeout_5 rfl (by decide) rfl ?_
    refine x_aload_nN C dX10_timeout_6 rfl (q := 0) rfl ?_
    refine x_ifnullN C (tgt := 18) dX10_timeout_7 (by decide) ?_
    refine x_iconst C (v := (-1)) dX10_timeout_18 (by decide) ?_
    cases h
    exact xr_i C hr dX10_timeout_19 (fun _ h => h)
  | some k3 =>
    replace h := oN_s h
    obtain ⟨hk3, h⟩ := gdr_some h
    refine x_callV_a C (m_X10_acceptorAt hq1) wv_X10_153 (x_recv C.2.2.2 cl_X10 (dm_0 z) rfl) rfl (Nat.le_of_ble_eq_true rfl) ⟨⟨rfl, rfl⟩, Nat.le_of_ble_eq_true rfl, Nat.le_of_ble_eq_true rfl⟩ dX10_timeout_2 rfl ?_
    refine x_astore_n C (L' := [(3, .ref (xad G 25 k3 0)), (0, .ref (xad G 0 0 0)), (1, .int x1), (2, .int x2)]) dX10_timeout_5 rfl (by decide) rfl ?_
    refine x_aload_n C dX10_timeout_6 rfl (q := 0) rfl ?_
    refine x_ifnull C dX10_timeout_7 ?_
    refine x_aload_n C dX10_timeout_10 rfl (q := 1) rfl ?_
    refine x_iload_n C dX10_timeout_11 rfl (q := 3) rfl ?_
    obtain ⟨r5, hq4, h⟩ := bnd1_some h
    refine x_callV_i C (m_X10_isTxn hq4) wv_X10_66 (x_recv C.2.2.2 cl_X10 (dm_0 z) rfl) rfl (Nat.le_of_ble_eq_true rfl) ⟨⟨rfl, rfl⟩, Nat.le_of_ble_eq_true rfl, Nat.le_of_ble_eq_true rfl⟩ dX10_timeout_12 rfl ?_
    refine x_if_ne C (tgt := 20) dX10_timeout_15 (by decide) h (fun hc6 h => ?_) (fun hc6 h => ?_)
    · refine x_aload_n C dX10_timeout_20 rfl (q := 1) rfl ?_
      refine x_get C cl_X10 1 (by decide) fl_X10_23_X10 (dm_0 z) rfl rfl dX10_timeout_21 ?_
      refine x_get C cl_X8 0 (by decide) fl_X10_70_X8 (dm_2 z) rfl rfl dX10_timeout_24 ?_
      refine x_iload_n C dX10_timeout_27 rfl (q := 3) rfl ?_
      refine x_iald C (dm_3 z) (fun _ _ _ => rfl) dX10_timeout_28 h (fun k7 hk7 h => ?_)
      refine x_letI h (fun v8 h => ?_)
      refine x_istore C (L' := [(4, .int v8), (3, .ref (xad G 25 k3 0)), (0, .ref (xad G 0 0 0)), (1, .int x1), (2, .int x2)]) dX10_timeout_29 (by decide) rfl ?_
      refine x_iload C dX10_timeout_31 (q := 0) rfl ?_
      refine x_if_eq C (tgt := 53) dX10_timeout_33 (by decide) h (fun hc9 h => ?_) (fun hc9 h => ?_)
      · refine x_iconst C (v := 0) dX10_timeout_53 (by decide) ?_
        cases h
        exact xr_i C hr dX10_timeout_54 (fun _ h => h)
      · refine x_iload C dX10_timeout_36 (q := 0) rfl ?_
        refine x_iconst C (v := 1) dX10_timeout_38 (by decide) ?_
        refine x_icmp_eq C (tgt := 53) dX10_timeout_39 (by decide) h (fun hc10 h => ?_) (fun hc10 h => ?_)
        · refine x_iconst C (v := 0) dX10_timeout_53 (by decide) ?_
          cases h
          exact xr_i C hr dX10_timeout_54 (fun _ h => h)
        · refine x_aload_n C dX10_timeout_42 rfl (q := 2) rfl ?_
          refine x_get C cl_X10 1 (by decide) fl_X10_23_X10 (dm_0 z) rfl rfl dX10_timeout_43 ?_
          refine x_iload_n C dX10_timeout_46 rfl (q := 4) rfl ?_
          obtain ⟨r12, hq11, h⟩ := bnd1_some h
          refine x_callV_i C (m_X8_touchesNone hq11) wv_X10_89 (x_recv C.2.2.2 cl_X8 (dm_2 z) rfl) rfl (Nat.le_of_ble_eq_true rfl) ⟨⟨rfl, rfl⟩, Nat.le_of_ble_eq_true rfl, Nat.le_of_ble_eq_true rfl⟩ dX10_timeout_47 rfl ?_
          refine x_if_eq C (tgt := 55) dX10_timeout_50 (by decide) h (fun hc13 h => ?_) (fun hc13 h => ?_)
          · refine x_aload_n C dX10_timeout_55 rfl (q := 1) rfl ?_
            refine x_iload_n C dX10_timeout_56 rfl (q := 4) rfl ?_
            obtain ⟨r15, s16, hq14, h⟩ := bnd2_some h
            refine x_callV_i C (m_X0_takeOver hk3 hq14) wv_X10_157 (x_recv C.2.2.2 cl_X0 (dm_25 hk3) rfl) rfl (Nat.le_of_ble_eq_true rfl) ⟨⟨rfl, rfl⟩, Nat.le_of_ble_eq_true rfl, Nat.le_of_ble_eq_true rfl⟩ dX10_timeout_57 rfl ?_
            cases h
            exact xr_i C hr dX10_timeout_60 (fun _ h => h)
          · refine x_iconst C (v := 0) dX10_timeout_53 (by decide) ?_
            cases h
            exact xr_i C hr dX10_timeout_54 (fun _ h => h)
    · refine x_iconst C (v := (-1)) dX10_timeout_18 (by decide) ?_
      cases h
      exact xr_i C hr dX10_timeout_19 (fun _ h => h)
def f_X10_crash (z : Nat → Nat) (σ : Sg) (x1 : Int32) : Option (Int32 × Sg) :=
  bnd1 (f_X10_nodeAt z σ x1) fun r2 => oS r2 (some ((-1), σ)) (fun k3 => gdr k3 (z 0) fun k3 => letv (σ.1 17 k3 0 4) fun v5 => if v5 = 0 then (some (0, σ)) else (letv (upI σ 17 k3 0 4 0) fun s7 => bnd1 (f_X6_forget z s7 k3) fun s9 => some (1, s9))) fun k4 => gdr k4 (z 1) fun k4 => letv (σ.1 25 k4 0 4) fun v10 => if v10 = 0 then (some (0, σ)) else (letv (upI σ 25 k4 0 4 0) fun s12 => bnd1 (f_X0_forget z s12 k4) fun s14 => some (1, s14))
def rm_X10_crash : Room := { frames := 4, cells := 0, slots := 0, locals := 88 }
set_option maxRecDepth 100000 in
set_option maxHeartbeats 4000000 in
theorem m_X10_crash {l : Launch} {G : xG} {z : Nat → Nat} {σ : Sg} {τ : Tg} {x1 : Int32} {rF : Int32} {sF : Sg} (h : f_X10_crash z σ x1 = some (rF, sF)) : xMet l (xD G) (xcA G) (xbs G) yX10_crash cX10_crash 3 (Option.some Jvm.ClassFile.FieldType.int) rm_X10_crash [.ref (xad G 0 0 0), .int x1] (xRep G z σ τ) (xRep G z sF τ) (some (.int rF)) 0 0 := by
  refine xMet.of RX10 rfl (by decide +kernel) (Nat.le_of_ble_eq_true rfl) ?_
  intro p e s m args below meth c C hr hnm
  unfold f_X10_crash at h
  refine x_sub (L' := [(0, .ref (xad G 0 0 0)), (1, .int x1)]) [0, 1] rfl ?_
  refine x_aload_n C dX10_crash_0 rfl (q := 0) rfl ?_
  refine x_iload_n C dX10_crash_1 rfl (q := 1) rfl ?_
  obtain ⟨r2, hq1, h⟩ := bnd1_some h
  rcases r2 with _ | k3 | k4
  · replace h := oS_n h
    refine x_callV_n C (m_X10_nodeAt hq1) wv_X10_160 (x_recv C.2.2.2 cl_X10 (dm_0 z) rfl) rfl (Nat.le_of_ble_eq_true rfl) ⟨⟨rfl, rfl⟩, Nat.le_of_ble_eq_true rfl, Nat.le_of_ble_eq_true rfl⟩ dX10_crash_2 rfl ?_
    refine x_astore_nN C (L' := [(2, .null), (0, .ref (xad G 0 0 0)), (1, .int x1)]) dX10_crash_5 rfl (by decide) rfl ?_
    refine x_aload_nN C dX10_crash_6 rfl (q := 0) rfl ?_
    refine x_ifnonnullN C dX10_crash_7 ?_
    refine x_iconst C (v := (-1)) dX10_crash_10 (by decide) ?_
    cases h
    exact xr_i C hr dX10_crash_11 (fun _ h => h)
  · replace h := oS_l h
    obtain ⟨hk3, h⟩ := gdr_some h
    refine x_callV_a C (m_X10_nodeAt hq1) wv_X10_160 (x_recv C.2.2.2 cl_X10 (dm_0 z) rfl) rfl (Nat.le_of_ble_eq_true rfl) ⟨⟨rfl, rfl⟩, Nat.le_of_ble_eq_true rfl, Nat.le_of_ble_eq_true rfl⟩ dX10_crash_2 rfl ?_
    refine x_astore_n C (L' := [(2, .ref (xad G 17 k3 0)), (0, .ref (xad G 0 0 0)), (1, .int x1)]) dX10_crash_5 rfl (by decide) rfl ?_
    refine x_aload_n C dX10_crash_6 rfl (q := 0) rfl ?_
    refine x_ifnonnull C (tgt := 12) dX10_crash_7 (by decide) ?_
    refine x_aload_n C dX10_crash_12 rfl (q := 0) rfl ?_
    refine x_get C cl_X6 4 (by decide) fl_X10_164_X6 (dm_17 hk3) rfl rfl dX10_crash_13 ?_
    refine x_letI h (fun v5 h => ?_)
    refine x_if_ne C (tgt := 21) dX10_crash_16 (by decide) h (fun hc6 h => ?_) (fun hc6 h => ?_)
    · refine x_aload_n C dX10_crash_21 rfl (q := 0) rfl ?_
      refine x_iconst C (v := 0) dX10_crash_22 (by decide) ?_
      refine x_putI C cl_X6 4 (by decide) fl_X10_164_X6 rfl (dm_17 hk3) (fun _ _ _ => rfl) (fun _ _ _ => rfl) (fun _ _ _ => Nat.le_of_ble_eq_true rfl) rfl rfl dX10_crash_23 h (fun s7 h => ?_)
      refine x_aload_n C dX10_crash_26 rfl (q := 0) rfl ?_
      obtain ⟨s9, hq8, h⟩ := bnd1_some h
      refine x_callU_v C (m_X6_forget hk3 hq8) wu_X10_167_X6 (x_recv C.2.2.2 cl_X6 (dm_17 hk3) rfl) rfl (Nat.le_of_ble_eq_true rfl) ⟨⟨rfl, rfl⟩, Nat.le_of_ble_eq_true rfl, Nat.le_of_ble_eq_true rfl⟩ dX10_crash_27 rfl ?_
      refine x_iconst C (v := 1) dX10_crash_30 (by decide) ?_
      cases h
      exact xr_i C hr dX10_crash_31 (fun _ h => h)
    · refine x_iconst C (v := 0) dX10_crash_19 (by decide) ?_
      cases h
      exact xr_i C hr dX10_crash_20 (fun _ h => h)
  · replace h := oS_r h
    obtain ⟨hk4, h⟩ := gdr_some h
    refine x_callV_a C (m_X10_nodeAt hq1) wv_X10_160 (x_recv C.2.2.2 cl_X10 (dm_0 z) rfl) rfl (Nat.le_of_ble_eq_true rfl) ⟨⟨rfl, rfl⟩, Nat.le_of_ble_eq_true rfl, Nat.le_of_ble_eq_true rfl⟩ dX10_crash_2 rfl ?_
    refine x_astore_n C (L' := [(2, .ref (xad G 25 k4 0)), (0, .ref (xad G 0 0 0)), (1, .int x1)]) dX10_crash_5 rfl (by decide) rfl ?_
    refine x_aload_n C dX10_crash_6 rfl (q := 0) rfl ?_
    refine x_ifnonnull C (tgt := 12) dX10_crash_7 (by decide) ?_
    refine x_aload_n C dX10_crash_12 rfl (q := 0) rfl ?_
    refine x_get C cl_X0 4 (by decide) fl_X10_164_X0 (dm_25 hk4) rfl rfl dX10_crash_13 ?_
    refine x_letI h (fun v10 h => ?_)
    refine x_if_ne C (tgt := 21) dX10_crash_16 (by decide) h (fun hc11 h => ?_) (fun hc11 h => ?_)
    · refine x_aload_n C dX10_crash_21 rfl (q := 0) rfl ?_
      refine x_iconst C (v := 0) dX10_crash_22 (by decide) ?_
      refine x_putI C cl_X0 4 (by decide) fl_X10_164_X0 rfl (dm_25 hk4) (fun _ _ _ => rfl) (fun _ _ _ => rfl) (fun _ _ _ => Nat.le_of_ble_eq_true rfl) rfl rfl dX10_crash_23 h (fun s12 h => ?_)
      refine x_aload_n C dX10_crash_26 rfl (q := 0) rfl ?_
      obtain ⟨s14, hq13, h⟩ := bnd1_some h
      refine x_callU_v C (m_X0_forget hk4 hq13) wu_X10_167_X0 (x_recv C.2.2.2 cl_X0 (dm_25 hk4) rfl) rfl (Nat.le_of_ble_eq_true rfl) ⟨⟨rfl, rfl⟩, Nat.le_of_ble_eq_true rfl, Nat.le_of_ble_eq_true rfl⟩ dX10_crash_27 rfl ?_
      refine x_iconst C (v := 1) dX10_crash_30 (by decide) ?_
      cases h
      exact xr_i C hr dX10_crash_31 (fun _ h => h)
    · refine x_iconst C (v := 0) dX10_crash_19 (by decide) ?_
      cases h
      exact xr_i C hr dX10_crash_20 (fun _ h => h)
def f_X10_restart (z : Nat → Nat) (σ : Sg) (x1 : Int32) : Option (Int32 × Sg) :=
  bnd1 (f_X10_nodeAt z σ x1) fun r2 => oS r2 (some ((-1), σ)) (fun k3 => gdr k3 (z 0) fun k3 => letv (σ.1 17 k3 0 4) fun v5 => if v5 = 0 then (letv (upI σ 17 k3 0 4 1) fun s7 => some (1, s7)) else (some (0, σ))) fun k4 => gdr k4 (z 1) fun k4 => letv (σ.1 25 k4 0 4) fun v8 => if v8 = 0 then (letv (upI σ 25 k4 0 4 1) fun s10 => some (1, s10)) else (some (0, σ))
def rm_X10_restart : Room := { frames := 3, cells := 0, slots := 0, locals := 62 }
set_option maxRecDepth 100000 in
set_option maxHeartbeats 4000000 in
theorem m_X10_restart {l : Launch} {G : xG} {z : Nat → Nat} {σ : Sg} {τ : Tg} {x1 : Int32} {rF : Int32} {sF : Sg} (h : f_X10_restart z σ x1 = some (rF, sF)) : xMet l (xD G) (xcA G) (xbs G) yX10_restart cX10_restart 3 (Option.some Jvm.ClassFile.FieldType.int) rm_X10_restart [.ref (xad G 0 0 0), .int x1] (xRep G z σ τ) (xRep G z sF τ) (some (.int rF)) 0 0 := by
  refine xMet.of RX10 rfl (by decide +kernel) (Nat.le_of_ble_eq_true rfl) ?_
  intro p e s m args below meth c C hr hnm
  unfold f_X10_restart at h
  refine x_sub (L' := [(0, .ref (xad G 0 0 0)), (1, .int x1)]) [0, 1] rfl ?_
  refine x_aload_n C dX10_restart_0 rfl (q := 0) rfl ?_
  refine x_iload_n C dX10_restart_1 rfl (q := 1) rfl ?_
  obtain ⟨r2, hq1, h⟩ := bnd1_some h
  rcases r2 with _ | k3 | k4
  · replace h := oS_n h
    refine x_callV_n C (m_X10_nodeAt hq1) wv_X10_160 (x_recv C.2.2.2 cl_X10 (dm_0 z) rfl) rfl (Nat.le_of_ble_eq_true rfl) ⟨⟨rfl, rfl⟩, Nat.le_of_ble_eq_true rfl, Nat.le_of_ble_eq_true rfl⟩ dX10_restart_2 rfl ?_
    refine x_astore_nN C (L' := [(2, .null), (0, .ref (xad G 0 0 0)), (1, .int x1)]) dX10_restart_5 rfl (by decide) rfl ?_
    refine x_aload_nN C dX10_restart_6 rfl (q := 0) rfl ?_
    refine x_ifnonnullN C dX10_restart_7 ?_
    refine x_iconst C (v := (-1)) dX10_restart_10 (by decide) ?_
    cases h
    exact xr_i C hr dX10_restart_11 (fun _ h => h)
  · replace h := oS_l h
    obtain ⟨hk3, h⟩ := gdr_some h
    refine x_callV_a C (m_X10_nodeAt hq1) wv_X10_160 (x_recv C.2.2.2 cl_X10 (dm_0 z) rfl) rfl (Nat.le_of_ble_eq_true rfl) ⟨⟨rfl, rfl⟩, Nat.le_of_ble_eq_true rfl, Nat.le_of_ble_eq_true rfl⟩ dX10_restart_2 rfl ?_
    refine x_astore_n C (L' := [(2, .ref (xad G 17 k3 0)), (0, .ref (xad G 0 0 0)), (1, .int x1)]) dX10_restart_5 rfl (by decide) rfl ?_
    refine x_aload_n C dX10_restart_6 rfl (q := 0) rfl ?_
    refine x_ifnonnull C (tgt := 12) dX10_restart_7 (by decide) ?_
    refine x_aload_n C dX10_restart_12 rfl (q := 0) rfl ?_
    refine x_get C cl_X6 4 (by decide) fl_X10_164_X6 (dm_17 hk3) rfl rfl dX10_restart_13 ?_
    refine x_letI h (fun v5 h => ?_)
    refine x_if_eq C (tgt := 21) dX10_restart_16 (by decide) h (fun hc6 h => ?_) (fun hc6 h => ?_)
    · refine x_aload_n C dX10_restart_21 rfl (q := 0) rfl ?_
      refine x_iconst C (v := 1) dX10_restart_22 (by decide) ?_
      refine x_putI C cl_X6 4 (by decide) fl_X10_164_X6 rfl (dm_17 hk3) (fun _ _ _ => rfl) (fun _ _ _ => rfl) (fun _ _ _ => Nat.le_of_ble_eq_true rfl) rfl rfl dX10_restart_23 h (fun s7 h => ?_)
      refine x_iconst C (v := 1) dX10_restart_26 (by decide) ?_
      cases h
      exact xr_i C hr dX10_restart_27 (fun _ h => h)
    · refine x_iconst C (v := 0) dX10_restart_19 (by decide) ?_
      cases h
      exact xr_i C hr dX10_restart_20 (fun _ h => h)
  · replace h := oS_r h
    obtain ⟨hk4, h⟩ := gdr_some h
    refine x_callV_a C (m_X10_nodeAt hq1) wv_X10_160 (x_recv C.2.2.2 cl_X10 (dm_0 z) rfl) rfl (Nat.le_of_ble_eq_true rfl) ⟨⟨rfl, rfl⟩, Nat.le_of_ble_eq_true rfl, Nat.le_of_ble_eq_true rfl⟩ dX10_restart_2 rfl ?_
    refine x_astore_n C (L' := [(2, .ref (xad G 25 k4 0)), (0, .ref (xad G 0 0 0)), (1, .int x1)]) dX10_restart_5 rfl (by decide) rfl ?_
    refine x_aload_n C dX10_restart_6 rfl (q := 0) rfl ?_
    refine x_ifnonnull C (tgt := 12) dX10_restart_7 (by decide) ?_
    refine x_aload_n C dX10_restart_12 rfl (q := 0) rfl ?_
    refine x_get C cl_X0 4 (by decide) fl_X10_164_X0 (dm_25 hk4) rfl rfl dX10_restart_13 ?_
    refine x_letI h (fun v8 h => ?_)
    refine x_if_eq C (tgt := 21) dX10_restart_16 (by decide) h (fun hc9 h => ?_) (fun hc9 h => ?_)
    · refine x_aload_n C dX10_restart_21 rfl (q := 0) rfl ?_
      refine x_iconst C (v := 1) dX10_restart_22 (by decide) ?_
      refine x_putI C cl_X0 4 (by decide) fl_X10_164_X0 rfl (dm_25 hk4) (fun _ _ _ => rfl) (fun _ _ _ => rfl) (fun _ _ _ => Nat.le_of_ble_eq_true rfl) rfl rfl dX10_restart_23 h (fun s10 h => ?_)
      refine x_iconst C (v := 1) dX10_restart_26 (by decide) ?_
      cases h
      exact xr_i C hr dX10_restart_27 (fun _ h => h)
    · refine x_iconst C (v := 0) dX10_restart_19 (by decide) ?_
      cases h
      exact xr_i C hr dX10_restart_20 (fun _ h => h)
def f_X10_pending (z : Nat → Nat) (σ : Sg) : Option Int32 :=
  letv (σ.1 11 0 0 4) fun v1 => some (v1)
def rm_X10_pending : Room := { frames := 0, cells := 0, slots := 0, locals := 0 }
set_option maxRecDepth 100000 in
set_option maxHeartbeats 4000000 in
theorem m_X10_pending {l : Launch} {G : xG} {z : Nat → Nat} {σ : Sg} {τ : Tg} {rF : Int32} (h : f_X10_pending z σ = some (rF)) : xMet l (xD G) (xcA G) (xbs G) yX10_pending cX10_pending 1 (Option.some Jvm.ClassFile.FieldType.int) rm_X10_pending [.ref (xad G 0 0 0)] (xRep G z σ τ) (xRep G z σ τ) (some (.int rF)) 0 0 := by
  refine xMet.of RX10 rfl (by decide +kernel) (Nat.le_of_ble_eq_true rfl) ?_
  intro p e s m args below meth c C hr hnm
  unfold f_X10_pending at h
  refine x_sub (L' := [(0, .ref (xad G 0 0 0))]) [0] rfl ?_
  refine x_aload_n C dX10_pending_0 rfl (q := 0) rfl ?_
  refine x_get C cl_X10 3 (by decide) fl_X10_37_X10 (dm_0 z) rfl rfl dX10_pending_1 ?_
  refine x_get C cl_X5 4 (by decide) fl_X10_150_X5 (dm_11 z) rfl rfl dX10_pending_4 ?_
  refine x_letI h (fun v1 h => ?_)
  cases h
  exact xr_i C hr dX10_pending_7 (fun _ h => h)
def f_X10_play_L19 (z : Nat → Nat) (x2 : Int32) : Nat → Int64 → Int32 → Sg → Option (Int32 × Sg)
  | 0, _, _, _ => none
  | n + 1, y3, y4, s5 => if x2 ≤ y4 then (some (y4, s5)) else (letv (s5.1 11 0 0 4) fun v11 => if v11 ≤ 0 then (some (y4, s5)) else (letv ((y3 * 6364136223846793005) + 1442695040888963407) fun v13 => letv (((lushr v13 32).toInt32) &&& 2147483647) fun v14 => letv (s5.1 11 0 0 4) fun v15 => gnz v15 <| bnd2 (f_X10_handOver z s5 (v14 - v14 / v15 * v15)) fun r17 s18 => letv (y4 + 1) fun v19 => f_X10_play_L19 z x2 n v13 v19 s18))
def f_X10_play (z : Nat → Nat) (σ : Sg) (x1 : Int64) (x2 : Int32) : Option (Int32 × Sg) :=
  if x2 < 0 then (some ((-1), σ)) else (if x2 ≤ 400 then (bnd2 (f_X10_play_L19 z x2 FU x1 0 σ) fun (v6 : Int32) (s7 : Sg) => some (v6, s7)) else (some ((-1), σ)))
def rm_X10_play : Room := { frames := 6, cells := 0, slots := 0, locals := 136 }
set_option maxRecDepth 100000 in
set_option maxHeartbeats 4000000 in
theorem m_X10_play {l : Launch} {G : xG} {z : Nat → Nat} {σ : Sg} {τ : Tg} {x1 : Int64} {x2 : Int32} {rF : Int32} {sF : Sg} (h : f_X10_play z σ x1 x2 = some (rF, sF)) : xMet l (xD G) (xcA G) (xbs G) yX10_play cX10_play 8 (Option.some Jvm.ClassFile.FieldType.int) rm_X10_play [.ref (xad G 0 0 0), .long x1, .int x2] (xRep G z σ τ) (xRep G z sF τ) (some (.int rF)) 0 0 := by
  refine xMet.of RX10 rfl (by decide +kernel) (Nat.le_of_ble_eq_true rfl) ?_
  intro p e s m args below meth c C hr hnm
  unfold f_X10_play at h
  refine x_sub (L' := [(0, .ref (xad G 0 0 0)), (1, .long x1), (3, .int x2)]) [0, 1, 2] rfl ?_
  refine x_iload_n C dX10_play_0 rfl (q := 2) rfl ?_
  refine x_if_lt C (tgt := 11) dX10_play_1 (by decide) h (fun hc1 h => ?_) (fun hc1 h => ?_)
  · refine x_iconst C (v := (-1)) dX10_play_11 (by decide) ?_
    cases h
    exact xr_i C hr dX10_play_12 (fun _ h => h)
  · refine x_iload_n C dX10_play_4 rfl (q := 2) rfl ?_
    refine x_sipush C (v := 400) dX10_play_5 (by decide) ?_
    refine x_icmp_le C (tgt := 13) dX10_play_8 (by decide) h (fun hc2 h => ?_) (fun hc2 h => ?_)
    · refine x_lload_n C dX10_play_13 rfl (q := 1) rfl ?_
      refine x_lstore C (L' := [(4, .long x1), (0, .ref (xad G 0 0 0)), (1, .long x1), (3, .int x2)]) dX10_play_14 (by decide) rfl ?_
      refine x_iconst C (v := 0) dX10_play_16 (by decide) ?_
      refine x_istore C (L' := [(6, .int 0), (4, .long x1), (0, .ref (xad G 0 0 0)), (1, .long x1), (3, .int x2)]) dX10_play_17 (by decide) rfl ?_
      obtain ⟨v6, s7, hv9, h⟩ := bnd2_some h
      refine x_join (Ω' := (xRep G z s7 τ)) (pc' := 79) (L' := [(6, .int v6)]) (st' := []) ?_ (fun hj8 => ?_)
      · refine x_iload C dX10_play_79 (q := 0) rfl ?_
        cases h
        exact xr_i C hr dX10_play_81 (fun _ h => h)
      · have hl20 : ∀ (n : Nat) (y3 : Int64) (y4 : Int32) (s5 : Sg), f_X10_play_L19 z x2 n y3 y4 s5 = some (v6, s7) → XW p l e rm_X10_play s m args below meth c 0 0 8 (xbs G) (xQ below args s (xbs G) (some (.int rF)) (xRep G z sF τ) 0 0) (xRep G z s5 τ) 19 [(0, .ref (xad G 0 0 0)), (3, .int x2), (4, .long y3), (6, .int y4)] [] := by
          intro n
          induction n with
          | zero =>
            intro y3 y4 s5 h
            exact absurd h (by rw [f_X10_play_L19]; intro q; cases q)
          | succ n ih =>
            intro y3 y4 s5 h
            rw [f_X10_play_L19] at h
            refine x_iload C dX10_play_19 (q := 3) rfl ?_
            refine x_iload_n C dX10_play_21 rfl (q := 1) rfl ?_
            refine x_icmp_ge C (tgt := 79) dX10_play_22 (by decide) h (fun hc10 h => ?_) (fun hc10 h => ?_)
            · cases h
              exact x_sub [3] rfl hj8
            · refine x_aload_n C dX10_play_25 rfl (q := 0) rfl ?_
              refine x_get C cl_X10 3 (by decide) fl_X10_37_X10 (dm_0 z) rfl rfl dX10_play_26 ?_
              refine x_get C cl_X5 4 (by decide) fl_X10_150_X5 (dm_11 z) rfl rfl dX10_play_29 ?_
              refine x_letI h (fun v11 h => ?_)
              refine x_if_le C (tgt := 79) dX10_play_32 (by decide) h (fun hc12 h => ?_) (fun hc12 h => ?_)
              · cases h
                exact x_sub [3] rfl hj8
              · refine x_lload C dX10_play_35 (q := 2) rfl ?_
                refine x_ldc2_w C wc_X10_170 dX10_play_37 ?_
                refine x_lmul C dX10_play_40 ?_
                refine x_ldc2_w C wc_X10_172 dX10_play_41 ?_
                refine x_ladd C dX10_play_44 ?_
                refine x_letL h (fun v13 h => ?_)
                refine x_lstore C (L' := [(4, .long v13), (0, .ref (xad G 0 0 0)), (3, .int x2), (6, .int y4)]) dX10_play_45 (by decide) rfl ?_
                refine x_lload C dX10_play_47 (q := 0) rfl ?_
                refine x_bipush C (v := 32) dX10_play_49 (by decide) ?_
                refine x_lushr C (v := lushr _ _) dX10_play_51 rfl ?_
                refine x_l2i C dX10_play_52 ?_
                refine x_ldc C wc_X10_174 dX10_play_53 ?_
                refine x_iand C dX10_play_55 ?_
                refine x_letI h (fun v14 h => ?_)
                refine x_istore C (L' := [(7, .int v14), (4, .long v13), (0, .ref (xad G 0 0 0)), (3, .int x2), (6, .int y4)]) dX10_play_56 (by decide) rfl ?_
                refine x_aload_n C dX10_play_58 rfl (q := 2) rfl ?_
                refine x_iload C dX10_play_59 (q := 0) rfl ?_
                refine x_aload_n C dX10_play_61 rfl (q := 2) rfl ?_
                refine x_get C cl_X10 3 (by decide) fl_X10_37_X10 (dm_0 z) rfl rfl dX10_play_62 ?_
                refine x_get C cl_X5 4 (by decide) fl_X10_150_X5 (dm_11 z) rfl rfl dX10_play_65 ?_
                refine x_letI h (fun v15 h => ?_)
                refine x_irem C dX10_play_68 h (fun h => ?_)
                obtain ⟨r17, s18, hq16, h⟩ := bnd2_some h
                refine x_callV_i C (m_X10_handOver hq16) wv_X10_130 (x_recv C.2.2.2 cl_X10 (dm_0 z) rfl) rfl (Nat.le_of_ble_eq_true rfl) ⟨⟨rfl, rfl⟩, Nat.le_of_ble_eq_true rfl, Nat.le_of_ble_eq_true rfl⟩ dX10_play_69 rfl ?_
                refine x_pop C dX10_play_72 rfl ?_
                refine x_iincL C (w := 1) (L' := fun v19 => [(6, .int v19), (7, .int v14), (4, .long v13), (0, .ref (xad G 0 0 0)), (3, .int x2)]) dX10_play_73 (k := 4) rfl (by decide) (by decide) (fun _ => rfl) h (fun v19 h => ?_)
                refine x_goto C (tgt := 19) dX10_play_76 (by decide) ?_
                exact x_sub [3, 4, 2, 0] rfl (ih _ _ _ h)
        exact x_sub [2, 4, 1, 0] rfl (hl20 FU _ _ _ hv9)
    · refine x_iconst C (v := (-1)) dX10_play_11 (by decide) ?_
      cases h
      exact xr_i C hr dX10_play_12 (fun _ h => h)
def f_X10_message (z : Nat → Nat) (σ : Sg) (x1 : Int32) (x2 : Int32) : Option Int32 :=
  bnd1 (f_X5_has z σ x1) fun r2 => if r2 = 0 then (some ((-1))) else (gdx x1 (z 4) fun k4 => gdr (σ.2.2 12 k4) (z 4 + 2) fun m5 => bnd1 (f_X3_told z σ m5 x2) fun r7 => some (r7))
def rm_X10_message : Room := { frames := 1, cells := 0, slots := 0, locals := 21 }
set_option maxRecDepth 100000 in
set_option maxHeartbeats 4000000 in
theorem m_X10_message {l : Launch} {G : xG} {z : Nat → Nat} {σ : Sg} {τ : Tg} {x1 : Int32} {x2 : Int32} {rF : Int32} (h : f_X10_message z σ x1 x2 = some (rF)) : xMet l (xD G) (xcA G) (xbs G) yX10_message cX10_message 3 (Option.some Jvm.ClassFile.FieldType.int) rm_X10_message [.ref (xad G 0 0 0), .int x1, .int x2] (xRep G z σ τ) (xRep G z σ τ) (some (.int rF)) 0 0 := by
  refine xMet.of RX10 rfl (by decide +kernel) (Nat.le_of_ble_eq_true rfl) ?_
  intro p e s m args below meth c C hr hnm
  unfold f_X10_message at h
  refine x_sub (L' := [(0, .ref (xad G 0 0 0)), (1, .int x1), (2, .int x2)]) [0, 1, 2] rfl ?_
  refine x_aload_n C dX10_message_0 rfl (q := 0) rfl ?_
  refine x_get C cl_X10 3 (by decide) fl_X10_37_X10 (dm_0 z) rfl rfl dX10_message_1 ?_
  refine x_iload_n C dX10_message_4 rfl (q := 1) rfl ?_
  obtain ⟨r2, hq1, h⟩ := bnd1_some h
  refine x_callV_i C (m_X5_has hq1) wv_X10_127 (x_recv C.2.2.2 cl_X5 (dm_11 z) rfl) rfl (Nat.le_of_ble_eq_true rfl) ⟨⟨rfl, rfl⟩, Nat.le_of_ble_eq_true rfl, Nat.le_of_ble_eq_true rfl⟩ dX10_message_5 rfl ?_
  refine x_if_eq C (tgt := 27) dX10_message_8 (by decide) h (fun hc3 h => ?_) (fun hc3 h => ?_)
  · refine x_iconst C (v := (-1)) dX10_message_27 (by decide) ?_
    cases h
    exact xr_i C hr dX10_message_28 (fun _ h => h)
  · refine x_aload_n C dX10_message_11 rfl (q := 0) rfl ?_
    refine x_get C cl_X10 3 (by decide) fl_X10_37_X10 (dm_0 z) rfl rfl dX10_message_12 ?_
    refine x_get C cl_X5 1 (by decide) fl_X10_143_X5 (dm_11 z) rfl rfl dX10_message_15 ?_
    refine x_iload_n C dX10_message_18 rfl (q := 1) rfl ?_
    refine x_aald C 5 rfl rfl (dm_12 z) rfl dX10_message_19 h (fun k4 hk4 h => ?_)
    refine x_gdr h (fun m5 hm5 h => ?_)
    refine x_iload_n C dX10_message_20 rfl (q := 2) rfl ?_
    obtain ⟨r7, hq6, h⟩ := bnd1_some h
    refine x_callV_i C (m_X3_told hm5 hq6) wv_X10_175 (x_recv C.2.2.2 cl_X3 (dm_13 hm5) rfl) rfl (Nat.le_of_ble_eq_true rfl) ⟨⟨rfl, rfl⟩, Nat.le_of_ble_eq_true rfl, Nat.le_of_ble_eq_true rfl⟩ dX10_message_21 rfl ?_
    refine x_goto C (tgt := 28) dX10_message_24 (by decide) ?_
    cases h
    exact xr_i C hr dX10_message_28 (fun _ h => h)
def f_X10_lock (z : Nat → Nat) (σ : Sg) (x1 : Int32) (x2 : Int32) : Option Int32 :=
  bnd1 (f_X10_isKey z σ x1) fun r2 => if r2 = 0 then (some ((-1))) else (if x2 = 0 then (bnd1 (f_X1_holders z σ x1) fun r6 => some (r6)) else (if x2 = 1 then (bnd1 (f_X1_leastHolder z σ x1) fun r9 => some (r9)) else (if x2 = 2 then (bnd1 (f_X1_isExclusive z σ x1) fun r12 => if r12 = 0 then (some (0)) else (some (1))) else (some ((-1))))))
def rm_X10_lock : Room := { frames := 1, cells := 0, slots := 0, locals := 23 }
set_option maxRecDepth 100000 in
set_option maxHeartbeats 4000000 in
theorem m_X10_lock {l : Launch} {G : xG} {z : Nat → Nat} {σ : Sg} {τ : Tg} {x1 : Int32} {x2 : Int32} {rF : Int32} (h : f_X10_lock z σ x1 x2 = some (rF)) : xMet l (xD G) (xcA G) (xbs G) yX10_lock cX10_lock 3 (Option.some Jvm.ClassFile.FieldType.int) rm_X10_lock [.ref (xad G 0 0 0), .int x1, .int x2] (xRep G z σ τ) (xRep G z σ τ) (some (.int rF)) 0 0 := by
  refine xMet.of RX10 rfl (by decide +kernel) (Nat.le_of_ble_eq_true rfl) ?_
  intro p e s m args below meth c C hr hnm
  unfold f_X10_lock at h
  refine x_sub (L' := [(0, .ref (xad G 0 0 0)), (1, .int x1), (2, .int x2)]) [0, 1, 2] rfl ?_
  refine x_aload_n C dX10_lock_0 rfl (q := 0) rfl ?_
  refine x_iload_n C dX10_lock_1 rfl (q := 1) rfl ?_
  obtain ⟨r2, hq1, h⟩ := bnd1_some h
  refine x_callV_i C (m_X10_isKey hq1) wv_X10_120 (x_recv C.2.2.2 cl_X10 (dm_0 z) rfl) rfl (Nat.le_of_ble_eq_true rfl) ⟨⟨rfl, rfl⟩, Nat.le_of_ble_eq_true rfl, Nat.le_of_ble_eq_true rfl⟩ dX10_lock_2 rfl ?_
  refine x_if_ne C (tgt := 10) dX10_lock_5 (by decide) h (fun hc3 h => ?_) (fun hc3 h => ?_)
  · refine x_iload_n C dX10_lock_10 rfl (q := 2) rfl ?_
    refine x_ite h (fun hc4 h => ?_) (fun hc4 h => ?_)
    · refine x_tableIn C (off := 25) (tgt := 36) dX10_lock_11 0 hc4 (by decide) (by decide) rfl (by decide) ?_
      refine x_aload_n C dX10_lock_36 rfl (q := 0) rfl ?_
      refine x_get C cl_X10 2 (by decide) fl_X10_30_X10 (dm_0 z) rfl rfl dX10_lock_37 ?_
      refine x_iload_n C dX10_lock_40 rfl (q := 1) rfl ?_
      obtain ⟨r6, hq5, h⟩ := bnd1_some h
      refine x_callV_i C (m_X1_holders hq5) wv_X10_178 (x_recv C.2.2.2 cl_X1 (dm_5 z) rfl) rfl (Nat.le_of_ble_eq_true rfl) ⟨⟨rfl, rfl⟩, Nat.le_of_ble_eq_true rfl, Nat.le_of_ble_eq_true rfl⟩ dX10_lock_41 rfl ?_
      cases h
      exact xr_i C hr dX10_lock_44 (fun _ h => h)
    · refine x_ite h (fun hc7 h => ?_) (fun hc7 h => ?_)
      · refine x_tableIn C (off := 34) (tgt := 45) dX10_lock_11 1 hc7 (by decide) (by decide) rfl (by decide) ?_
        refine x_aload_n C dX10_lock_45 rfl (q := 0) rfl ?_
        refine x_get C cl_X10 2 (by decide) fl_X10_30_X10 (dm_0 z) rfl rfl dX10_lock_46 ?_
        refine x_iload_n C dX10_lock_49 rfl (q := 1) rfl ?_
        obtain ⟨r9, hq8, h⟩ := bnd1_some h
        refine x_callV_i C (m_X1_leastHolder hq8) wv_X10_181 (x_recv C.2.2.2 cl_X1 (dm_5 z) rfl) rfl (Nat.le_of_ble_eq_true rfl) ⟨⟨rfl, rfl⟩, Nat.le_of_ble_eq_true rfl, Nat.le_of_ble_eq_true rfl⟩ dX10_lock_50 rfl ?_
        cases h
        exact xr_i C hr dX10_lock_53 (fun _ h => h)
      · refine x_ite h (fun hc10 h => ?_) (fun hc10 h => ?_)
        · refine x_tableIn C (off := 43) (tgt := 54) dX10_lock_11 2 hc10 (by decide) (by decide) rfl (by decide) ?_
          refine x_aload_n C dX10_lock_54 rfl (q := 0) rfl ?_
          refine x_get C cl_X10 2 (by decide) fl_X10_30_X10 (dm_0 z) rfl rfl dX10_lock_55 ?_
          refine x_iload_n C dX10_lock_58 rfl (q := 1) rfl ?_
          obtain ⟨r12, hq11, h⟩ := bnd1_some h
          refine x_callV_i C (m_X1_isExclusive hq11) wv_X10_184 (x_recv C.2.2.2 cl_X1 (dm_5 z) rfl) rfl (Nat.le_of_ble_eq_true rfl) ⟨⟨rfl, rfl⟩, Nat.le_of_ble_eq_true rfl, Nat.le_of_ble_eq_true rfl⟩ dX10_lock_59 rfl ?_
          refine x_if_eq C (tgt := 69) dX10_lock_62 (by decide) h (fun hc13 h => ?_) (fun hc13 h => ?_)
          · refine x_iconst C (v := 0) dX10_lock_69 (by decide) ?_
            cases h
            exact xr_i C hr dX10_lock_70 (fun _ h => h)
          · refine x_iconst C (v := 1) dX10_lock_65 (by decide) ?_
            refine x_goto C (tgt := 70) dX10_lock_66 (by decide) ?_
            cases h
            exact xr_i C hr dX10_lock_70 (fun _ h => h)
        · refine x_tableOut C (tgt := 71) dX10_lock_11 (by have a0 := xI_ne (k := 0) 0 (by decide) hc4; have a1 := xI_ne (k := 1) 1 (by decide) hc7; have a2 := xI_ne (k := 2) 2 (by decide) hc10; omega) (by decide) ?_
          refine x_iconst C (v := (-1)) dX10_lock_71 (by decide) ?_
          cases h
          exact xr_i C hr dX10_lock_72 (fun _ h => h)
  · refine x_iconst C (v := (-1)) dX10_lock_8 (by decide) ?_
    cases h
    exact xr_i C hr dX10_lock_9 (fun _ h => h)
def f_X10_node (z : Nat → Nat) (σ : Sg) (x1 : Int32) (x2 : Int32) : Option Int32 :=
  bnd1 (f_X10_nodeAt z σ x1) fun r2 => oS r2 (some ((-1))) (fun k3 => gdr k3 (z 0) fun k3 => if x2 = 0 then (letv (σ.1 17 k3 0 4) fun v6 => if v6 = 0 then (some (0)) else (some (1))) else (if x2 = 1 then (letv (σ.1 18 k3 0 1) fun v9 => some (v9)) else (bnd1 (f_X6_told z σ k3 x2) fun r11 => some (r11)))) fun k4 => gdr k4 (z 1) fun k4 => if x2 = 0 then (letv (σ.1 25 k4 0 4) fun v13 => if v13 = 0 then (some (0)) else (some (1))) else (if x2 = 1 then (letv (σ.1 18 (z 0 + k4) 0 1) fun v16 => some (v16)) else (bnd1 (f_X0_told z σ k4 x2) fun r18 => some (r18)))
def rm_X10_node : Room := { frames := 3, cells := 0, slots := 0, locals := 62 }
set_option maxRecDepth 100000 in
set_option maxHeartbeats 4000000 in
theorem m_X10_node {l : Launch} {G : xG} {z : Nat → Nat} {σ : Sg} {τ : Tg} {x1 : Int32} {x2 : Int32} {rF : Int32} (h : f_X10_node z σ x1 x2 = some (rF)) : xMet l (xD G) (xcA G) (xbs G) yX10_node cX10_node 4 (Option.some Jvm.ClassFile.FieldType.int) rm_X10_node [.ref (xad G 0 0 0), .int x1, .int x2] (xRep G z σ τ) (xRep G z σ τ) (some (.int rF)) 0 0 := by
  refine xMet.of RX10 rfl (by decide +kernel) (Nat.le_of_ble_eq_true rfl) ?_
  intro p e s m args below meth c C hr hnm
  unfold f_X10_node at h
  refine x_sub (L' := [(0, .ref (xad G 0 0 0)), (1, .int x1), (2, .int x2)]) [0, 1, 2] rfl ?_
  refine x_aload_n C dX10_node_0 rfl (q := 0) rfl ?_
  refine x_iload_n C dX10_node_1 rfl (q := 1) rfl ?_
  obtain ⟨r2, hq1, h⟩ := bnd1_some h
  rcases r2 with _ | k3 | k4
  · replace h := oS_n h
    refine x_callV_n C (m_X10_nodeAt hq1) wv_X10_160 (x_recv C.2.2.2 cl_X10 (dm_0 z) rfl) rfl (Nat.le_of_ble_eq_true rfl) ⟨⟨rfl, rfl⟩, Nat.le_of_ble_eq_true rfl, Nat.le_of_ble_eq_true rfl⟩ dX10_node_2 rfl ?_
    refine x_astore_nN C (L' := [(3, .null), (0, .ref (xad G 0 0 0)), (1, .int x1), (2, .int x2)]) dX10_node_5 rfl (by decide) rfl ?_
    refine x_aload_nN C dX10_node_6 rfl (q := 0) rfl ?_
    refine x_ifnonnullN C dX10_node_7 ?_
    refine x_iconst C (v := (-1)) dX10_node_10 (by decide) ?_
    cases h
    exact xr_i C hr dX10_node_11 (fun _ h => h)
  · replace h := oS_l h
    obtain ⟨hk3, h⟩ := gdr_some h
    refine x_callV_a C (m_X10_nodeAt hq1) wv_X10_160 (x_recv C.2.2.2 cl_X10 (dm_0 z) rfl) rfl (Nat.le_of_ble_eq_true rfl) ⟨⟨rfl, rfl⟩, Nat.le_of_ble_eq_true rfl, Nat.le_of_ble_eq_true rfl⟩ dX10_node_2 rfl ?_
    refine x_astore_n C (L' := [(3, .ref (xad G 17 k3 0)), (0, .ref (xad G 0 0 0)), (1, .int x1), (2, .int x2)]) dX10_node_5 rfl (by decide) rfl ?_
    refine x_aload_n C dX10_node_6 rfl (q := 0) rfl ?_
    refine x_ifnonnull C (tgt := 12) dX10_node_7 (by decide) ?_
    refine x_iload_n C dX10_node_12 rfl (q := 3) rfl ?_
    refine x_ite h (fun hc5 h => ?_) (fun hc5 h => ?_)
    · refine x_lookup C (off := 27) (tgt := 40) dX10_node_13 (by decide) (by rw [hc5]; decide) (by decide) ?_
      refine x_aload_n C dX10_node_40 rfl (q := 0) rfl ?_
      refine x_get C cl_X6 4 (by decide) fl_X10_164_X6 (dm_17 hk3) rfl rfl dX10_node_41 ?_
      refine x_letI h (fun v6 h => ?_)
      refine x_if_eq C (tgt := 51) dX10_node_44 (by decide) h (fun hc7 h => ?_) (fun hc7 h => ?_)
      · refine x_iconst C (v := 0) dX10_node_51 (by decide) ?_
        cases h
        exact xr_i C hr dX10_node_52 (fun _ h => h)
      · refine x_iconst C (v := 1) dX10_node_47 (by decide) ?_
        refine x_goto C (tgt := 52) dX10_node_48 (by decide) ?_
        cases h
        exact xr_i C hr dX10_node_52 (fun _ h => h)
    · refine x_ite h (fun hc8 h => ?_) (fun hc8 h => ?_)
      · refine x_lookup C (off := 40) (tgt := 53) dX10_node_13 (by decide) (by rw [hc8]; decide) (by decide) ?_
        refine x_aload_n C dX10_node_53 rfl (q := 0) rfl ?_
        refine x_get C cl_X6 3 (by decide) fl_X10_187_X6 (dm_17 hk3) rfl rfl dX10_node_54 ?_
        refine x_get C cl_X2 1 (by decide) fl_X10_191_X2 (dm_18 (xb_s hk3)) rfl rfl dX10_node_57 ?_
        refine x_letI h (fun v9 h => ?_)
        cases h
        exact xr_i C hr dX10_node_60 (fun _ h => h)
      · refine x_lookup C (off := 48) (tgt := 61) dX10_node_13 (by decide) (by have a0 := xI_ne (k := 0) 0 (by decide) hc5; have a1 := xI_ne (k := 1) 1 (by decide) hc8; simp [Op.lookupswitch.offset, a0, Ne.symm a0, a1, Ne.symm a1]) (by decide) ?_
        refine x_aload_n C dX10_node_61 rfl (q := 0) rfl ?_
        refine x_iload_n C dX10_node_62 rfl (q := 3) rfl ?_
        obtain ⟨r11, hq10, h⟩ := bnd1_some h
        refine x_callU_i C (m_X6_told hk3 hq10) wu_X10_196_X6 (x_recv C.2.2.2 cl_X6 (dm_17 hk3) rfl) rfl (Nat.le_of_ble_eq_true rfl) ⟨⟨rfl, rfl⟩, Nat.le_of_ble_eq_true rfl, Nat.le_of_ble_eq_true rfl⟩ dX10_node_63 rfl ?_
        cases h
        exact xr_i C hr dX10_node_66 (fun _ h => h)
  · replace h := oS_r h
    obtain ⟨hk4, h⟩ := gdr_some h
    refine x_callV_a C (m_X10_nodeAt hq1) wv_X10_160 (x_recv C.2.2.2 cl_X10 (dm_0 z) rfl) rfl (Nat.le_of_ble_eq_true rfl) ⟨⟨rfl, rfl⟩, Nat.le_of_ble_eq_true rfl, Nat.le_of_ble_eq_true rfl⟩ dX10_node_2 rfl ?_
    refine x_astore_n C (L' := [(3, .ref (xad G 25 k4 0)), (0, .ref (xad G 0 0 0)), (1, .int x1), (2, .int x2)]) dX10_node_5 rfl (by decide) rfl ?_
    refine x_aload_n C dX10_node_6 rfl (q := 0) rfl ?_
    refine x_ifnonnull C (tgt := 12) dX10_node_7 (by decide) ?_
    refine x_iload_n C dX10_node_12 rfl (q := 3) rfl ?_
    refine x_ite h (fun hc12 h => ?_) (fun hc12 h => ?_)
    · refine x_lookup C (off := 27) (tgt := 40) dX10_node_13 (by decide) (by rw [hc12]; decide) (by decide) ?_
      refine x_aload_n C dX10_node_40 rfl (q := 0) rfl ?_
      refine x_get C cl_X0 4 (by decide) fl_X10_164_X0 (dm_25 hk4) rfl rfl dX10_node_41 ?_
      refine x_letI h (fun v13 h => ?_)
      refine x_if_eq C (tgt := 51) dX10_node_44 (by decide) h (fun hc14 h => ?_) (fun hc14 h => ?_)
      · refine x_iconst C (v := 0) dX10_node_51 (by decide) ?_
        cases h
        exact xr_i C hr dX10_node_52 (fun _ h => h)
      · refine x_iconst C (v := 1) dX10_node_47 (by decide) ?_
        refine x_goto C (tgt := 52) dX10_node_48 (by decide) ?_
        cases h
        exact xr_i C hr dX10_node_52 (fun _ h => h)
    · refine x_ite h (fun hc15 h => ?_) (fun hc15 h => ?_)
      · refine x_lookup C (off := 40) (tgt := 53) dX10_node_13 (by decide) (by rw [hc15]; decide) (by decide) ?_
        refine x_aload_n C dX10_node_53 rfl (q := 0) rfl ?_
        refine x_get C cl_X0 3 (by decide) fl_X10_187_X0 (dm_25 hk4) rfl rfl dX10_node_54 ?_
        refine x_get C cl_X2 1 (by decide) fl_X10_191_X2 (dm_18 (xb_a hk4)) rfl rfl dX10_node_57 ?_
        refine x_letI h (fun v16 h => ?_)
        cases h
        exact xr_i C hr dX10_node_60 (fun _ h => h)
      · refine x_lookup C (off := 48) (tgt := 61) dX10_node_13 (by decide) (by have a0 := xI_ne (k := 0) 0 (by decide) hc12; have a1 := xI_ne (k := 1) 1 (by decide) hc15; simp [Op.lookupswitch.offset, a0, Ne.symm a0, a1, Ne.symm a1]) (by decide) ?_
        refine x_aload_n C dX10_node_61 rfl (q := 0) rfl ?_
        refine x_iload_n C dX10_node_62 rfl (q := 3) rfl ?_
        obtain ⟨r18, hq17, h⟩ := bnd1_some h
        refine x_callU_i C (m_X0_told hk4 hq17) wu_X10_196_X0 (x_recv C.2.2.2 cl_X0 (dm_25 hk4) rfl) rfl (Nat.le_of_ble_eq_true rfl) ⟨⟨rfl, rfl⟩, Nat.le_of_ble_eq_true rfl, Nat.le_of_ble_eq_true rfl⟩ dX10_node_63 rfl ?_
        cases h
        exact xr_i C hr dX10_node_66 (fun _ h => h)
def f_X10_entry (z : Nat → Nat) (σ : Sg) (x1 : Int32) (x2 : Int32) (x3 : Int32) : Option Int32 :=
  bnd1 (f_X10_nodeAt z σ x1) fun r2 => oS r2 (some ((-1))) (fun k3 => gdr k3 (z 0) fun k3 => bnd1 (f_X2_told z σ k3 x2 x3) fun r6 => some (r6)) fun k4 => gdr k4 (z 1) fun k4 => bnd1 (f_X2_told z σ (z 0 + k4) x2 x3) fun r8 => some (r8)
def rm_X10_entry : Room := { frames := 3, cells := 0, slots := 0, locals := 62 }
set_option maxRecDepth 100000 in
set_option maxHeartbeats 4000000 in
theorem m_X10_entry {l : Launch} {G : xG} {z : Nat → Nat} {σ : Sg} {τ : Tg} {x1 : Int32} {x2 : Int32} {x3 : Int32} {rF : Int32} (h : f_X10_entry z σ x1 x2 x3 = some (rF)) : xMet l (xD G) (xcA G) (xbs G) yX10_entry cX10_entry 5 (Option.some Jvm.ClassFile.FieldType.int) rm_X10_entry [.ref (xad G 0 0 0), .int x1, .int x2, .int x3] (xRep G z σ τ) (xRep G z σ τ) (some (.int rF)) 0 0 := by
  refine xMet.of RX10 rfl (by decide +kernel) (Nat.le_of_ble_eq_true rfl) ?_
  intro p e s m args below meth c C hr hnm
  unfold f_X10_entry at h
  refine x_sub (L' := [(0, .ref (xad G 0 0 0)), (1, .int x1), (2, .int x2), (3, .int x3)]) [0, 1, 2, 3] rfl ?_
  refine x_aload_n C dX10_entry_0 rfl (q := 0) rfl ?_
  refine x_iload_n C dX10_entry_1 rfl (q := 1) rfl ?_
  obtain ⟨r2, hq1, h⟩ := bnd1_some h
  rcases r2 with _ | k3 | k4
  · replace h := oS_n h
    refine x_callV_n C (m_X10_nodeAt hq1) wv_X10_160 (x_recv C.2.2.2 cl_X10 (dm_0 z) rfl) rfl (Nat.le_of_ble_eq_true rfl) ⟨⟨rfl, rfl⟩, Nat.le_of_ble_eq_true rfl, Nat.le_of_ble_eq_true rfl⟩ dX10_entry_2 rfl ?_
    refine x_astoreN C (L' := [(4, .null), (0, .ref (xad G 0 0 0)), (1, .int x1), (2, .int x2), (3, .int x3)]) dX10_entry_5 (by decide) rfl ?_
    refine x_aloadN C dX10_entry_7 (q := 0) rfl ?_
    refine x_ifnonnullN C dX10_entry_9 ?_
    refine x_iconst C (v := (-1)) dX10_entry_12 (by decide) ?_
    refine x_goto C (tgt := 26) dX10_entry_13 (by decide) ?_
    cases h
    exact xr_i C hr dX10_entry_26 (fun _ h => h)
  · replace h := oS_l h
    obtain ⟨hk3, h⟩ := gdr_some h
    refine x_callV_a C (m_X10_nodeAt hq1) wv_X10_160 (x_recv C.2.2.2 cl_X10 (dm_0 z) rfl) rfl (Nat.le_of_ble_eq_true rfl) ⟨⟨rfl, rfl⟩, Nat.le_of_ble_eq_true rfl, Nat.le_of_ble_eq_true rfl⟩ dX10_entry_2 rfl ?_
    refine x_astore C (L' := [(4, .ref (xad G 17 k3 0)), (0, .ref (xad G 0 0 0)), (1, .int x1), (2, .int x2), (3, .int x3)]) dX10_entry_5 (by decide) rfl ?_
    refine x_aload C dX10_entry_7 (q := 0) rfl ?_
    refine x_ifnonnull C (tgt := 16) dX10_entry_9 (by decide) ?_
    refine x_aload C dX10_entry_16 (q := 0) rfl ?_
    refine x_get C cl_X6 3 (by decide) fl_X10_187_X6 (dm_17 hk3) rfl rfl dX10_entry_18 ?_
    refine x_iload_n C dX10_entry_21 rfl (q := 3) rfl ?_
    refine x_iload_n C dX10_entry_22 rfl (q := 4) rfl ?_
    obtain ⟨r6, hq5, h⟩ := bnd1_some h
    refine x_callV_i C (m_X2_told (xb_s hk3) hq5) wv_X10_197 (x_recv C.2.2.2 cl_X2 (dm_18 (xb_s hk3)) rfl) rfl (Nat.le_of_ble_eq_true rfl) ⟨⟨rfl, rfl⟩, Nat.le_of_ble_eq_true rfl, Nat.le_of_ble_eq_true rfl⟩ dX10_entry_23 rfl ?_
    cases h
    exact xr_i C hr dX10_entry_26 (fun _ h => h)
  · replace h := oS_r h
    obtain ⟨hk4, h⟩ := gdr_some h
    refine x_callV_a C (m_X10_nodeAt hq1) wv_X10_160 (x_recv C.2.2.2 cl_X10 (dm_0 z) rfl) rfl (Nat.le_of_ble_eq_true rfl) ⟨⟨rfl, rfl⟩, Nat.le_of_ble_eq_true rfl, Nat.le_of_ble_eq_true rfl⟩ dX10_entry_2 rfl ?_
    refine x_astore C (L' := [(4, .ref (xad G 25 k4 0)), (0, .ref (xad G 0 0 0)), (1, .int x1), (2, .int x2), (3, .int x3)]) dX10_entry_5 (by decide) rfl ?_
    refine x_aload C dX10_entry_7 (q := 0) rfl ?_
    refine x_ifnonnull C (tgt := 16) dX10_entry_9 (by decide) ?_
    refine x_aload C dX10_entry_16 (q := 0) rfl ?_
    refine x_get C cl_X0 3 (by decide) fl_X10_187_X0 (dm_25 hk4) rfl rfl dX10_entry_18 ?_
    refine x_iload_n C dX10_entry_21 rfl (q := 3) rfl ?_
    refine x_iload_n C dX10_entry_22 rfl (q := 4) rfl ?_
    obtain ⟨r8, hq7, h⟩ := bnd1_some h
    refine x_callV_i C (m_X2_told (xb_a hk4) hq7) wv_X10_197 (x_recv C.2.2.2 cl_X2 (dm_18 (xb_a hk4)) rfl) rfl (Nat.le_of_ble_eq_true rfl) ⟨⟨rfl, rfl⟩, Nat.le_of_ble_eq_true rfl, Nat.le_of_ble_eq_true rfl⟩ dX10_entry_23 rfl ?_
    cases h
    exact xr_i C hr dX10_entry_26 (fun _ h => h)
def f_X10_ballot (z : Nat → Nat) (σ : Sg) (x1 : Int32) (x2 : Int32) (x3 : Int32) : Option Int32 :=
  bnd1 (f_X10_acceptorAt z σ x1) fun r2 => oN r2 (some ((-1))) fun k3 => gdr k3 (z 1) fun k3 => bnd1 (f_X10_isTxn z σ x2) fun r5 => if r5 = 0 then (some ((-1))) else (gdx x2 (z 2) fun k7 => bnd1 (f_X9_toldOfBallot z σ k3 k7 x3) fun r9 => some (r9))
def rm_X10_ballot : Room := { frames := 2, cells := 0, slots := 0, locals := 41 }
set_option maxRecDepth 100000 in
set_option maxHeartbeats 4000000 in
theorem m_X10_ballot {l : Launch} {G : xG} {z : Nat → Nat} {σ : Sg} {τ : Tg} {x1 : Int32} {x2 : Int32} {x3 : Int32} {rF : Int32} (h : f_X10_ballot z σ x1 x2 x3 = some (rF)) : xMet l (xD G) (xcA G) (xbs G) yX10_ballot cX10_ballot 5 (Option.some Jvm.ClassFile.FieldType.int) rm_X10_ballot [.ref (xad G 0 0 0), .int x1, .int x2, .int x3] (xRep G z σ τ) (xRep G z σ τ) (some (.int rF)) 0 0 := by
  refine xMet.of RX10 rfl (by decide +kernel) (Nat.le_of_ble_eq_true rfl) ?_
  intro p e s m args below meth c C hr hnm
  unfold f_X10_ballot at h
  refine x_sub (L' := [(0, .ref (xad G 0 0 0)), (1, .int x1), (2, .int x2), (3, .int x3)]) [0, 1, 2, 3] rfl ?_
  refine x_aload_n C dX10_ballot_0 rfl (q := 0) rfl ?_
  refine x_iload_n C dX10_ballot_1 rfl (q := 1) rfl ?_
  obtain ⟨r2, hq1, h⟩ := bnd1_some h
  cases r2 with
  | none =>
    replace h := oN_n h
    refine x_callV_n C (m_X10_acceptorAt hq1) wv_X10_153 (x_recv C.2.2.2 cl_X10 (dm_0 z) rfl) rfl (Nat.le_of_ble_eq_true rfl) ⟨⟨rfl, rfl⟩, Nat.le_of_ble_eq_true rfl, Nat.le_of_ble_eq_true rfl⟩ dX10_ballot_2 rfl ?_
    refine x_astoreN C (L' := [(4, .null), (0, .ref (xad G 0 0 0)), (1, .int x1), (2, .int x2), (3, .int x3)]) dX10_ballot_5 (by decide) rfl ?_
    refine x_aloadN C dX10_ballot_7 (q := 0) rfl ?_
    refine x_ifnullN C (tgt := 20) dX10_ballot_9 (by decide) ?_
    refine x_iconst C (v := (-1)) dX10_ballot_20 (by decide) ?_
    cases h
    exact xr_i C hr dX10_ballot_21 (fun _ h => h)
  | some k3 =>
    replace h := oN_s h
    obtain ⟨hk3, h⟩ := gdr_some h
    refine x_callV_a C (m_X10_acceptorAt hq1) wv_X10_153 (x_recv C.2.2.2 cl_X10 (dm_0 z) rfl) rfl (Nat.le_of_ble_eq_true rfl) ⟨⟨rfl, rfl⟩, Nat.le_of_ble_eq_true rfl, Nat.le_of_ble_eq_true rfl⟩ dX10_ballot_2 rfl ?_
    refine x_astore C (L' := [(4, .ref (xad G 25 k3 0)), (0, .ref (xad G 0 0 0)), (1, .int x1), (2, .int x2), (3, .int x3)]) dX10_ballot_5 (by decide) rfl ?_
    refine x_aload C dX10_ballot_7 (q := 0) rfl ?_
    refine x_ifnull C dX10_ballot_9 ?_
    refine x_aload_n C dX10_ballot_12 rfl (q := 1) rfl ?_
    refine x_iload_n C dX10_ballot_13 rfl (q := 3) rfl ?_
    obtain ⟨r5, hq4, h⟩ := bnd1_some h
    refine x_callV_i C (m_X10_isTxn hq4) wv_X10_66 (x_recv C.2.2.2 cl_X10 (dm_0 z) rfl) rfl (Nat.le_of_ble_eq_true rfl) ⟨⟨rfl, rfl⟩, Nat.le_of_ble_eq_true rfl, Nat.le_of_ble_eq_true rfl⟩ dX10_ballot_14 rfl ?_
    refine x_if_ne C (tgt := 22) dX10_ballot_17 (by decide) h (fun hc6 h => ?_) (fun hc6 h => ?_)
    · refine x_aload C dX10_ballot_22 (q := 0) rfl ?_
      refine x_get C cl_X0 5 (by decide) fl_X10_200_X0 (dm_25 hk3) rfl rfl dX10_ballot_24 ?_
      refine x_iload_n C dX10_ballot_27 rfl (q := 3) rfl ?_
      refine x_aald C 8 rfl rfl (dm_26 hk3) rfl dX10_ballot_28 h (fun k7 hk7 h => ?_)
      refine x_iload_n C dX10_ballot_29 rfl (q := 4) rfl ?_
      obtain ⟨r9, hq8, h⟩ := bnd1_some h
      refine x_callV_i C (m_X9_toldOfBallot hk3 hk7 hq8) wv_X10_204 (x_recv C.2.2.2 cl_X9 (dm_27 hk3 hk7) rfl) rfl (Nat.le_of_ble_eq_true rfl) ⟨⟨rfl, rfl⟩, Nat.le_of_ble_eq_true rfl, Nat.le_of_ble_eq_true rfl⟩ dX10_ballot_30 rfl ?_
      cases h
      exact xr_i C hr dX10_ballot_33 (fun _ h => h)
    · refine x_iconst C (v := (-1)) dX10_ballot_20 (by decide) ?_
      cases h
      exact xr_i C hr dX10_ballot_21 (fun _ h => h)
def f_X10_accepted (z : Nat → Nat) (σ : Sg) (x1 : Int32) (x2 : Int32) (x3 : Int32) (x4 : Int32) : Option Int32 :=
  bnd1 (f_X10_acceptorAt z σ x1) fun r2 => oN r2 (some ((-1))) fun k3 => gdr k3 (z 1) fun k3 => bnd1 (f_X10_isTxn z σ x2) fun r5 => if r5 = 0 then (some ((-1))) else (if x3 < 0 then (some ((-1))) else (if x3 < (nI (z 0)) then (gdx x2 (z 2) fun k9 => bnd1 (f_X9_toldOfShard z σ k3 k9 x3 x4) fun r11 => some (r11)) else (some ((-1)))))
def rm_X10_accepted : Room := { frames := 2, cells := 0, slots := 0, locals := 42 }
set_option maxRecDepth 100000 in
set_option maxHeartbeats 4000000 in
theorem m_X10_accepted {l : Launch} {G : xG} {z : Nat → Nat} {σ : Sg} {τ : Tg} {x1 : Int32} {x2 : Int32} {x3 : Int32} {x4 : Int32} {rF : Int32} (h : f_X10_accepted z σ x1 x2 x3 x4 = some (rF)) : xMet l (xD G) (xcA G) (xbs G) yX10_accepted cX10_accepted 6 (Option.some Jvm.ClassFile.FieldType.int) rm_X10_accepted [.ref (xad G 0 0 0), .int x1, .int x2, .int x3, .int x4] (xRep G z σ τ) (xRep G z σ τ) (some (.int rF)) 0 0 := by
  refine xMet.of RX10 rfl (by decide +kernel) (Nat.le_of_ble_eq_true rfl) ?_
  intro p e s m args below meth c C hr hnm
  unfold f_X10_accepted at h
  refine x_sub (L' := [(0, .ref (xad G 0 0 0)), (1, .int x1), (2, .int x2), (3, .int x3), (4, .int x4)]) [0, 1, 2, 3, 4] rfl ?_
  refine x_aload_n C dX10_accepted_0 rfl (q := 0) rfl ?_
  refine x_iload_n C dX10_accepted_1 rfl (q := 1) rfl ?_
  obtain ⟨r2, hq1, h⟩ := bnd1_some h
  cases r2 with
  | none =>
    replace h := oN_n h
    refine x_callV_n C (m_X10_acceptorAt hq1) wv_X10_153 (x_recv C.2.2.2 cl_X10 (dm_0 z) rfl) rfl (Nat.le_of_ble_eq_true rfl) ⟨⟨rfl, rfl⟩, Nat.le_of_ble_eq_true rfl, Nat.le_of_ble_eq_true rfl⟩ dX10_accepted_2 rfl ?_
    refine x_astoreN C (L' := [(5, .null), (0, .ref (xad G 0 0 0)), (1, .int x1), (2, .int x2), (3, .int x3), (4, .int x4)]) dX10_accepted_5 (by decide) rfl ?_
    refine x_aloadN C dX10_accepted_7 (q := 0) rfl ?_
    refine x_ifnullN C (tgt := 35) dX10_accepted_9 (by decide) ?_
    refine x_iconst C (v := (-1)) dX10_accepted_35 (by decide) ?_
    cases h
    exact xr_i C hr dX10_accepted_36 (fun _ h => h)
  | some k3 =>
    replace h := oN_s h
    obtain ⟨hk3, h⟩ := gdr_some h
    refine x_callV_a C (m_X10_acceptorAt hq1) wv_X10_153 (x_recv C.2.2.2 cl_X10 (dm_0 z) rfl) rfl (Nat.le_of_ble_eq_true rfl) ⟨⟨rfl, rfl⟩, Nat.le_of_ble_eq_true rfl, Nat.le_of_ble_eq_true rfl⟩ dX10_accepted_2 rfl ?_
    refine x_astore C (L' := [(5, .ref (xad G 25 k3 0)), (0, .ref (xad G 0 0 0)), (1, .int x1), (2, .int x2), (3, .int x3), (4, .int x4)]) dX10_accepted_5 (by decide) rfl ?_
    refine x_aload C dX10_accepted_7 (q := 0) rfl ?_
    refine x_ifnull C dX10_accepted_9 ?_
    refine x_aload_n C dX10_accepted_12 rfl (q := 1) rfl ?_
    refine x_iload_n C dX10_accepted_13 rfl (q := 3) rfl ?_
    obtain ⟨r5, hq4, h⟩ := bnd1_some h
    refine x_callV_i C (m_X10_isTxn hq4) wv_X10_66 (x_recv C.2.2.2 cl_X10 (dm_0 z) rfl) rfl (Nat.le_of_ble_eq_true rfl) ⟨⟨rfl, rfl⟩, Nat.le_of_ble_eq_true rfl, Nat.le_of_ble_eq_true rfl⟩ dX10_accepted_14 rfl ?_
    refine x_if_eq C (tgt := 35) dX10_accepted_17 (by decide) h (fun hc6 h => ?_) (fun hc6 h => ?_)
    · refine x_iconst C (v := (-1)) dX10_accepted_35 (by decide) ?_
      cases h
      exact xr_i C hr dX10_accepted_36 (fun _ h => h)
    · refine x_iload_n C dX10_accepted_20 rfl (q := 4) rfl ?_
      refine x_if_lt C (tgt := 35) dX10_accepted_21 (by decide) h (fun hc7 h => ?_) (fun hc7 h => ?_)
      · refine x_iconst C (v := (-1)) dX10_accepted_35 (by decide) ?_
        cases h
        exact xr_i C hr dX10_accepted_36 (fun _ h => h)
      · refine x_iload_n C dX10_accepted_24 rfl (q := 4) rfl ?_
        refine x_aload_n C dX10_accepted_25 rfl (q := 1) rfl ?_
        refine x_get C cl_X10 0 (by decide) fl_X10_12_X10 (dm_0 z) rfl rfl dX10_accepted_26 ?_
        refine x_get C cl_X7 0 (by decide) fl_X10_41_X7 (dm_1 z) rfl rfl dX10_accepted_29 ?_
        refine x_icmp_lt C (tgt := 37) dX10_accepted_32 (by decide) h (fun hc8 h => ?_) (fun hc8 h => ?_)
        · refine x_aload C dX10_accepted_37 (q := 0) rfl ?_
          refine x_get C cl_X0 5 (by decide) fl_X10_200_X0 (dm_25 hk3) rfl rfl dX10_accepted_39 ?_
          refine x_iload_n C dX10_accepted_42 rfl (q := 3) rfl ?_
          refine x_aald C 8 rfl rfl (dm_26 hk3) rfl dX10_accepted_43 h (fun k9 hk9 h => ?_)
          refine x_iload_n C dX10_accepted_44 rfl (q := 4) rfl ?_
          refine x_iload C dX10_accepted_45 (q := 5) rfl ?_
          obtain ⟨r11, hq10, h⟩ := bnd1_some h
          refine x_callV_i C (m_X9_toldOfShard hk3 hk9 hq10) wv_X10_209 (x_recv C.2.2.2 cl_X9 (dm_27 hk3 hk9) rfl) rfl (Nat.le_of_ble_eq_true rfl) ⟨⟨rfl, rfl⟩, Nat.le_of_ble_eq_true rfl, Nat.le_of_ble_eq_true rfl⟩ dX10_accepted_47 rfl ?_
          cases h
          exact xr_i C hr dX10_accepted_50 (fun _ h => h)
        · refine x_iconst C (v := (-1)) dX10_accepted_35 (by decide) ?_
          cases h
          exact xr_i C hr dX10_accepted_36 (fun _ h => h)
def f_X10_count (z : Nat → Nat) (σ : Sg) (x1 : Int32) : Option Int32 :=
  if x1 = 0 then (letv (σ.1 11 0 0 5) fun v2 => some (v2)) else (if x1 = 1 then (letv (σ.1 11 0 0 6) fun v4 => some (v4)) else (if x1 = 2 then (letv (σ.1 0 0 0 7) fun v6 => some (v6)) else (if x1 = 3 then (bnd1 (f_X8_in z σ 3) fun r9 => some (r9)) else (if x1 = 4 then (bnd1 (f_X8_in z σ 4) fun r12 => some (r12)) else (if x1 = 5 then (some (nI (z 0))) else (if x1 = 6 then (some (nI (z 1))) else (if x1 = 7 then (some (nI (z 2))) else (if x1 = 8 then (some (nI (z 3))) else (some ((-1)))))))))))
def rm_X10_count : Room := { frames := 1, cells := 0, slots := 0, locals := 26 }
set_option maxRecDepth 100000 in
set_option maxHeartbeats 4000000 in
theorem m_X10_count {l : Launch} {G : xG} {z : Nat → Nat} {σ : Sg} {τ : Tg} {x1 : Int32} {rF : Int32} (h : f_X10_count z σ x1 = some (rF)) : xMet l (xD G) (xcA G) (xbs G) yX10_count cX10_count 2 (Option.some Jvm.ClassFile.FieldType.int) rm_X10_count [.ref (xad G 0 0 0), .int x1] (xRep G z σ τ) (xRep G z σ τ) (some (.int rF)) 0 0 := by
  refine xMet.of RX10 rfl (by decide +kernel) (Nat.le_of_ble_eq_true rfl) ?_
  intro p e s m args below meth c C hr hnm
  unfold f_X10_count at h
  refine x_sub (L' := [(0, .ref (xad G 0 0 0)), (1, .int x1)]) [0, 1] rfl ?_
  refine x_iload_n C dX10_count_0 rfl (q := 1) rfl ?_
  refine x_ite h (fun hc1 h => ?_) (fun hc1 h => ?_)
  · refine x_tableIn C (off := 51) (tgt := 52) dX10_count_1 0 hc1 (by decide) (by decide) rfl (by decide) ?_
    refine x_aload_n C dX10_count_52 rfl (q := 0) rfl ?_
    refine x_get C cl_X10 3 (by decide) fl_X10_37_X10 (dm_0 z) rfl rfl dX10_count_53 ?_
    refine x_get C cl_X5 5 (by decide) fl_X10_212_X5 (dm_11 z) rfl rfl dX10_count_56 ?_
    refine x_letI h (fun v2 h => ?_)
    cases h
    exact xr_i C hr dX10_count_59 (fun _ h => h)
  · refine x_ite h (fun hc3 h => ?_) (fun hc3 h => ?_)
    · refine x_tableIn C (off := 59) (tgt := 60) dX10_count_1 1 hc3 (by decide) (by decide) rfl (by decide) ?_
      refine x_aload_n C dX10_count_60 rfl (q := 0) rfl ?_
      refine x_get C cl_X10 3 (by decide) fl_X10_37_X10 (dm_0 z) rfl rfl dX10_count_61 ?_
      refine x_get C cl_X5 6 (by decide) fl_X10_215_X5 (dm_11 z) rfl rfl dX10_count_64 ?_
      refine x_letI h (fun v4 h => ?_)
      cases h
      exact xr_i C hr dX10_count_67 (fun _ h => h)
    · refine x_ite h (fun hc5 h => ?_) (fun hc5 h => ?_)
      · refine x_tableIn C (off := 67) (tgt := 68) dX10_count_1 2 hc5 (by decide) (by decide) rfl (by decide) ?_
        refine x_aload_n C dX10_count_68 rfl (q := 0) rfl ?_
        refine x_get C cl_X10 7 (by decide) fl_X10_218_X10 (dm_0 z) rfl rfl dX10_count_69 ?_
        refine x_letI h (fun v6 h => ?_)
        cases h
        exact xr_i C hr dX10_count_72 (fun _ h => h)
      · refine x_ite h (fun hc7 h => ?_) (fun hc7 h => ?_)
        · refine x_tableIn C (off := 72) (tgt := 73) dX10_count_1 3 hc7 (by decide) (by decide) rfl (by decide) ?_
          refine x_aload_n C dX10_count_73 rfl (q := 0) rfl ?_
          refine x_get C cl_X10 1 (by decide) fl_X10_23_X10 (dm_0 z) rfl rfl dX10_count_74 ?_
          refine x_iconst C (v := 3) dX10_count_77 (by decide) ?_
          obtain ⟨r9, hq8, h⟩ := bnd1_some h
          refine x_callV_i C (m_X8_in hq8) wv_X10_221 (x_recv C.2.2.2 cl_X8 (dm_2 z) rfl) rfl (Nat.le_of_ble_eq_true rfl) ⟨⟨rfl, rfl⟩, Nat.le_of_ble_eq_true rfl, Nat.le_of_ble_eq_true rfl⟩ dX10_count_78 rfl ?_
          cases h
          exact xr_i C hr dX10_count_81 (fun _ h => h)
        · refine x_ite h (fun hc10 h => ?_) (fun hc10 h => ?_)
          · refine x_tableIn C (off := 81) (tgt := 82) dX10_count_1 4 hc10 (by decide) (by decide) rfl (by decide) ?_
            refine x_aload_n C dX10_count_82 rfl (q := 0) rfl ?_
            refine x_get C cl_X10 1 (by decide) fl_X10_23_X10 (dm_0 z) rfl rfl dX10_count_83 ?_
            refine x_iconst C (v := 4) dX10_count_86 (by decide) ?_
            obtain ⟨r12, hq11, h⟩ := bnd1_some h
            refine x_callV_i C (m_X8_in hq11) wv_X10_221 (x_recv C.2.2.2 cl_X8 (dm_2 z) rfl) rfl (Nat.le_of_ble_eq_true rfl) ⟨⟨rfl, rfl⟩, Nat.le_of_ble_eq_true rfl, Nat.le_of_ble_eq_true rfl⟩ dX10_count_87 rfl ?_
            cases h
            exact xr_i C hr dX10_count_90 (fun _ h => h)
          · refine x_ite h (fun hc13 h => ?_) (fun hc13 h => ?_)
            · refine x_tableIn C (off := 90) (tgt := 91) dX10_count_1 5 hc13 (by decide) (by decide) rfl (by decide) ?_
              refine x_aload_n C dX10_count_91 rfl (q := 0) rfl ?_
              refine x_get C cl_X10 0 (by decide) fl_X10_12_X10 (dm_0 z) rfl rfl dX10_count_92 ?_
              refine x_get C cl_X7 0 (by decide) fl_X10_41_X7 (dm_1 z) rfl rfl dX10_count_95 ?_
              cases h
              exact xr_i C hr dX10_count_98 (fun _ h => h)
            · refine x_ite h (fun hc14 h => ?_) (fun hc14 h => ?_)
              · refine x_tableIn C (off := 98) (tgt := 99) dX10_count_1 6 hc14 (by decide) (by decide) rfl (by decide) ?_
                refine x_aload_n C dX10_count_99 rfl (q := 0) rfl ?_
                refine x_get C cl_X10 0 (by decide) fl_X10_12_X10 (dm_0 z) rfl rfl dX10_count_100 ?_
                refine x_get C cl_X7 1 (by decide) fl_X10_54_X7 (dm_1 z) rfl rfl dX10_count_103 ?_
                cases h
                exact xr_i C hr dX10_count_106 (fun _ h => h)
              · refine x_ite h (fun hc15 h => ?_) (fun hc15 h => ?_)
                · refine x_tableIn C (off := 106) (tgt := 107) dX10_count_1 7 hc15 (by decide) (by decide) rfl (by decide) ?_
                  refine x_aload_n C dX10_count_107 rfl (q := 0) rfl ?_
                  refine x_get C cl_X10 0 (by decide) fl_X10_12_X10 (dm_0 z) rfl rfl dX10_count_108 ?_
                  refine x_get C cl_X7 2 (by decide) fl_X10_224_X7 (dm_1 z) rfl rfl dX10_count_111 ?_
                  cases h
                  exact xr_i C hr dX10_count_114 (fun _ h => h)
                · refine x_ite h (fun hc16 h => ?_) (fun hc16 h => ?_)
                  · refine x_tableIn C (off := 114) (tgt := 115) dX10_count_1 8 hc16 (by decide) (by decide) rfl (by decide) ?_
                    refine x_aload_n C dX10_count_115 rfl (q := 0) rfl ?_
                    refine x_get C cl_X10 0 (by decide) fl_X10_12_X10 (dm_0 z) rfl rfl dX10_count_116 ?_
                    refine x_get C cl_X7 3 (by decide) fl_X10_226_X7 (dm_1 z) rfl rfl dX10_count_119 ?_
                    cases h
                    exact xr_i C hr dX10_count_122 (fun _ h => h)
                  · refine x_tableOut C (tgt := 123) dX10_count_1 (by have a0 := xI_ne (k := 0) 0 (by decide) hc1; have a1 := xI_ne (k := 1) 1 (by decide) hc3; have a2 := xI_ne (k := 2) 2 (by decide) hc5; have a3 := xI_ne (k := 3) 3 (by decide) hc7; have a4 := xI_ne (k := 4) 4 (by decide) hc10; have a5 := xI_ne (k := 5) 5 (by decide) hc13; have a6 := xI_ne (k := 6) 6 (by decide) hc14; have a7 := xI_ne (k := 7) 7 (by decide) hc15; have a8 := xI_ne (k := 8) 8 (by decide) hc16; omega) (by decide) ?_
                    refine x_iconst C (v := (-1)) dX10_count_123 (by decide) ?_
                    cases h
                    exact xr_i C hr dX10_count_124 (fun _ h => h)
