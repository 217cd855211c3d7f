def f_X0_hearVote (z : Nat → Nat) (σ : Sg) (i : Nat) (mi : Nat) (ti : Nat) : Option (Int32 × Sg) :=
  letv (σ.1 13 mi 0 3) fun v1 => letv (σ.1 27 i ti 1) fun v2 => if v2 ≤ v1 then (letv (σ.1 13 mi 0 3) fun v4 => letv (σ.1 13 mi 0 4) fun v5 => letv (σ.1 13 mi 0 5) fun v6 => bnd1 (f_X9_hasAccepted z σ i ti v4 v5 v6) fun r8 => if r8 = 0 then (bnd1 (f_X2_isFull z σ (z 0 + i)) fun r23 => if r23 = 0 then (letv (σ.1 13 mi 0 2) fun v25 => letv (σ.1 13 mi 0 3) fun v26 => letv (σ.1 13 mi 0 4) fun v27 => letv (σ.1 13 mi 0 5) fun v28 => bnd1 (f_X2_put z σ (z 0 + i) 4 v25 v26 ((10 * v27) + v28)) fun s30 => letv (s30.1 13 mi 0 3) fun v31 => letv (s30.1 13 mi 0 4) fun v32 => letv (s30.1 13 mi 0 5) fun v33 => bnd1 (f_X9_take z s30 i ti v31 v32 v33) fun s35 => letv (s35.1 13 mi 0 2) fun v36 => letv (s35.1 13 mi 0 3) fun v37 => letv (s35.1 13 mi 0 4) fun v38 => letv (s35.1 13 mi 0 5) fun v39 => bnd1 (f_X5_startDraftOfVote z s35 3 v36 (nI (z 0 + i)) v37 v38 v39) fun s41 => letv (s41.1 13 mi 0 3) fun v42 => bnd1 (f_X7_acceptorOf z s41 v42) fun r44 => bnd2 (f_X5_post z s41 (z 4) r44) fun r46 s47 => some (1, s47)) else (some (0, σ))) else (letv (σ.1 13 mi 0 2) fun v10 => letv (σ.1 13 mi 0 3) fun v11 => letv (σ.1 13 mi 0 4) fun v12 => letv (σ.1 13 mi 0 5) fun v13 => bnd1 (f_X5_startDraftOfVote z σ 3 v10 (nI (z 0 + i)) v11 v12 v13) fun s15 => letv (s15.1 13 mi 0 3) fun v16 => bnd1 (f_X7_acceptorOf z s15 v16) fun r18 => bnd2 (f_X5_post z s15 (z 4) r18) fun r20 s21 => some (1, s21))) else (some (1, σ))
def rm_X0_hearVote : Room := { frames := 2, cells := 0, slots := 0, locals := 49 }
set_option maxRecDepth 100000 in
set_option maxHeartbeats 4000000 in
theorem m_X0_hearVote {l : Launch} {G : xG} {z : Nat → Nat} {σ : Sg} {τ : Tg} {i : Nat} {mi : Nat} {ti : Nat} {rF : Int32} {sF : Sg} (hi : i < z 1) (hmi : mi < z 4 + 2) (hti : ti < z 2) (h : f_X0_hearVote z σ i mi ti = some (rF, sF)) : xMet l (xD G) (xcA G) (xbs G) yX0_hearVote cX0_hearVote 3 (Option.some Jvm.ClassFile.FieldType.boolean) rm_X0_hearVote [.ref (xad G 25 i 0), .ref (xad G 13 mi 0), .ref (xad G 27 i ti)] (xRep G z σ τ) (xRep G z sF τ) (some (.int rF)) 0 0 := by
  refine xMet.of RX0 rfl (by decide +kernel) (Nat.le_of_ble_eq_true rfl) ?_
  intro p e s m args below meth c C hr hnm
  unfold f_X0_hearVote at h
  refine x_sub (L' := [(0, .ref (xad G 25 i 0)), (1, .ref (xad G 13 mi 0)), (2, .ref (xad G 27 i ti))]) [0, 1, 2] rfl ?_
  refine x_aload_n C dX0_hearVote_0 rfl (q := 1) rfl ?_
  refine x_get C cl_X3 3 (by decide) fl_X0_57_X3 (dm_13 hmi) rfl rfl dX0_hearVote_1 ?_
  refine x_letI h (fun v1 h => ?_)
  refine x_aload_n C dX0_hearVote_4 rfl (q := 2) rfl ?_
  refine x_get C cl_X9 1 (by decide) fl_X0_60_X9 (dm_27 hi hti) rfl rfl dX0_hearVote_5 ?_
  refine x_letI h (fun v2 h => ?_)
  refine x_icmp_ge C (tgt := 13) dX0_hearVote_8 (by decide) h (fun hc3 h => ?_) (fun hc3 h => ?_)
  · refine x_aload_n C dX0_hearVote_13 rfl (q := 2) rfl ?_
    refine x_aload_n C dX0_hearVote_14 rfl (q := 1) rfl ?_
    refine x_get C cl_X3 3 (by decide) fl_X0_57_X3 (dm_13 hmi) rfl rfl dX0_hearVote_15 ?_
    refine x_letI h (fun v4 h => ?_)
    refine x_aload_n C dX0_hearVote_18 rfl (q := 1) rfl ?_
    refine x_get C cl_X3 4 (by decide) fl_X0_63_X3 (dm_13 hmi) rfl rfl dX0_hearVote_19 ?_
    refine x_letI h (fun v5 h => ?_)
    refine x_aload_n C dX0_hearVote_22 rfl (q := 1) rfl ?_
    refine x_get C cl_X3 5 (by decide) fl_X0_66_X3 (dm_13 hmi) rfl rfl dX0_hearVote_23 ?_
    refine x_letI h (fun v6 h => ?_)
    obtain ⟨r8, hq7, h⟩ := bnd1_some h
    refine x_callV_i C (m_X9_hasAccepted hi hti hq7) wv_X0_69 (x_recv C.2.2.2 cl_X9 (dm_27 hi hti) rfl) rfl (Nat.le_of_ble_eq_true rfl) ⟨⟨rfl, rfl⟩, Nat.le_of_ble_eq_true rfl, Nat.le_of_ble_eq_true rfl⟩ dX0_hearVote_26 rfl ?_
    refine x_if_ne C (tgt := 88) dX0_hearVote_29 (by decide) h (fun hc9 h => ?_) (fun hc9 h => ?_)
    · refine x_aload_n C dX0_hearVote_88 rfl (q := 0) rfl ?_
      refine x_get C cl_X0 2 (by decide) fl_X0_91_X0 (dm_25 hi) rfl rfl dX0_hearVote_89 ?_
      refine x_iconst C (v := 3) dX0_hearVote_92 (by decide) ?_
      refine x_aload_n C dX0_hearVote_93 rfl (q := 1) rfl ?_
      refine x_get C cl_X3 2 (by decide) fl_X0_35_X3 (dm_13 hmi) rfl rfl dX0_hearVote_94 ?_
      refine x_letI h (fun v10 h => ?_)
      refine x_aload_n C dX0_hearVote_97 rfl (q := 0) rfl ?_
      refine x_get C cl_X0 0 (by decide) fl_X0_95_X0 (dm_25 hi) rfl rfl dX0_hearVote_98 ?_
      refine x_aload_n C dX0_hearVote_101 rfl (q := 1) rfl ?_
      refine x_get C cl_X3 3 (by decide) fl_X0_57_X3 (dm_13 hmi) rfl rfl dX0_hearVote_102 ?_
      refine x_letI h (fun v11 h => ?_)
      refine x_aload_n C dX0_hearVote_105 rfl (q := 1) rfl ?_
      refine x_get C cl_X3 4 (by decide) fl_X0_63_X3 (dm_13 hmi) rfl rfl dX0_hearVote_106 ?_
      refine x_letI h (fun v12 h => ?_)
      refine x_aload_n C dX0_hearVote_109 rfl (q := 1) rfl ?_
      refine x_get C cl_X3 5 (by decide) fl_X0_66_X3 (dm_13 hmi) rfl rfl dX0_hearVote_110 ?_
      refine x_letI h (fun v13 h => ?_)
      obtain ⟨s15, hq14, h⟩ := bnd1_some h
      refine x_callV_v C (m_X5_startDraftOfVote hq14) wv_X0_98 (x_recv C.2.2.2 cl_X5 (dm_11 z) rfl) rfl (Nat.le_of_ble_eq_true rfl) ⟨⟨rfl, rfl⟩, Nat.le_of_ble_eq_true rfl, Nat.le_of_ble_eq_true rfl⟩ dX0_hearVote_113 rfl ?_
      refine x_aload_n C dX0_hearVote_116 rfl (q := 0) rfl ?_
      refine x_get C cl_X0 2 (by decide) fl_X0_91_X0 (dm_25 hi) rfl rfl dX0_hearVote_117 ?_
      refine x_aload_n C dX0_hearVote_120 rfl (q := 0) rfl ?_
      refine x_get C cl_X0 2 (by decide) fl_X0_91_X0 (dm_25 hi) rfl rfl dX0_hearVote_121 ?_
      refine x_get C cl_X5 2 (by decide) fl_X0_104_X5 (dm_11 z) rfl rfl dX0_hearVote_124 ?_
      refine x_aload_n C dX0_hearVote_127 rfl (q := 0) rfl ?_
      refine x_get C cl_X0 1 (by decide) fl_X0_108_X0 (dm_25 hi) rfl rfl dX0_hearVote_128 ?_
      refine x_aload_n C dX0_hearVote_131 rfl (q := 1) rfl ?_
      refine x_get C cl_X3 3 (by decide) fl_X0_57_X3 (dm_13 hmi) rfl rfl dX0_hearVote_132 ?_
      refine x_letI h (fun v16 h => ?_)
      obtain ⟨r18, hq17, h⟩ := bnd1_some h
      refine x_callV_i C (m_X7_acceptorOf hq17) wv_X0_112 (x_recv C.2.2.2 cl_X7 (dm_1 z) rfl) rfl (Nat.le_of_ble_eq_true rfl) ⟨⟨rfl, rfl⟩, Nat.le_of_ble_eq_true rfl, Nat.le_of_ble_eq_true rfl⟩ dX0_hearVote_135 rfl ?_
      obtain ⟨r20, s21, hq19, h⟩ := bnd2_some h
      refine x_callV_i C (m_X5_post xb_d hq19) wv_X0_116 (x_recv C.2.2.2 cl_X5 (dm_11 z) rfl) rfl (Nat.le_of_ble_eq_true rfl) ⟨⟨rfl, rfl⟩, Nat.le_of_ble_eq_true rfl, Nat.le_of_ble_eq_true rfl⟩ dX0_hearVote_138 rfl ?_
      refine x_pop C dX0_hearVote_141 rfl ?_
      refine x_iconst C (v := 1) dX0_hearVote_142 (by decide) ?_
      cases h
      exact xr_z C (by decide) hr dX0_hearVote_143 (fun _ h => h)
    · refine x_aload_n C dX0_hearVote_32 rfl (q := 0) rfl ?_
      refine x_get C cl_X0 3 (by decide) fl_X0_73_X0 (dm_25 hi) rfl rfl dX0_hearVote_33 ?_
      obtain ⟨r23, hq22, h⟩ := bnd1_some h
      refine x_callV_i C (m_X2_isFull (xb_a hi) hq22) wv_X0_77 (x_recv C.2.2.2 cl_X2 (dm_18 (xb_a hi)) rfl) rfl (Nat.le_of_ble_eq_true rfl) ⟨⟨rfl, rfl⟩, Nat.le_of_ble_eq_true rfl, Nat.le_of_ble_eq_true rfl⟩ dX0_hearVote_36 rfl ?_
      refine x_if_eq C (tgt := 44) dX0_hearVote_39 (by decide) h (fun hc24 h => ?_) (fun hc24 h => ?_)
      · refine x_aload_n C dX0_hearVote_44 rfl (q := 0) rfl ?_
        refine x_get C cl_X0 3 (by decide) fl_X0_73_X0 (dm_25 hi) rfl rfl dX0_hearVote_45 ?_
        refine x_iconst C (v := 4) dX0_hearVote_48 (by decide) ?_
        refine x_aload_n C dX0_hearVote_49 rfl (q := 1) rfl ?_
        refine x_get C cl_X3 2 (by decide) fl_X0_35_X3 (dm_13 hmi) rfl rfl dX0_hearVote_50 ?_
        refine x_letI h (fun v25 h => ?_)
        refine x_aload_n C dX0_hearVote_53 rfl (q := 1) rfl ?_
        refine x_get C cl_X3 3 (by decide) fl_X0_57_X3 (dm_13 hmi) rfl rfl dX0_hearVote_54 ?_
        refine x_letI h (fun v26 h => ?_)
        refine x_bipush C (v := 10) dX0_hearVote_57 (by decide) ?_
        refine x_aload_n C dX0_hearVote_59 rfl (q := 1) rfl ?_
        refine x_get C cl_X3 4 (by decide) fl_X0_63_X3 (dm_13 hmi) rfl rfl dX0_hearVote_60 ?_
        refine x_letI h (fun v27 h => ?_)
        refine x_imul C dX0_hearVote_63 ?_
        refine x_aload_n C dX0_hearVote_64 rfl (q := 1) rfl ?_
        refine x_get C cl_X3 5 (by decide) fl_X0_66_X3 (dm_13 hmi) rfl rfl dX0_hearVote_65 ?_
        refine x_letI h (fun v28 h => ?_)
        refine x_iadd C dX0_hearVote_68 ?_
        obtain ⟨s30, hq29, h⟩ := bnd1_some h
        refine x_callV_v C (m_X2_put (xb_a hi) hq29) wv_X0_83 (x_recv C.2.2.2 cl_X2 (dm_18 (xb_a hi)) rfl) rfl (Nat.le_of_ble_eq_true rfl) ⟨⟨rfl, rfl⟩, Nat.le_of_ble_eq_true rfl, Nat.le_of_ble_eq_true rfl⟩ dX0_hearVote_69 rfl ?_
        refine x_aload_n C dX0_hearVote_72 rfl (q := 2) rfl ?_
        refine x_aload_n C dX0_hearVote_73 rfl (q := 1) rfl ?_
        refine x_get C cl_X3 3 (by decide) fl_X0_57_X3 (dm_13 hmi) rfl rfl dX0_hearVote_74 ?_
        refine x_letI h (fun v31 h => ?_)
        refine x_aload_n C dX0_hearVote_77 rfl (q := 1) rfl ?_
        refine x_get C cl_X3 4 (by decide) fl_X0_63_X3 (dm_13 hmi) rfl rfl dX0_hearVote_78 ?_
        refine x_letI h (fun v32 h => ?_)
        refine x_aload_n C dX0_hearVote_81 rfl (q := 1) rfl ?_
        refine x_get C cl_X3 5 (by decide) fl_X0_66_X3 (dm_13 hmi) rfl rfl dX0_hearVote_82 ?_
        refine x_letI h (fun v33 h => ?_)
        obtain ⟨s35, hq34, h⟩ := bnd1_some h
        refine x_callV_v C (m_X9_take hi hti hq34) wv_X0_87 (x_recv C.2.2.2 cl_X9 (dm_27 hi hti) rfl) rfl (Nat.le_of_ble_eq_true rfl) ⟨⟨rfl, rfl⟩, Nat.le_of_ble_eq_true rfl, Nat.le_of_ble_eq_true rfl⟩ dX0_hearVote_85 rfl ?_
        refine x_aload_n C dX0_hearVote_88 rfl (q := 0) rfl ?_
        refine x_get C cl_X0 2 (by decide) fl_X0_91_X0 (dm_25 hi) rfl rfl dX0_hearVote_89 ?_
        refine x_iconst C (v := 3) dX0_hearVote_92 (by decide) ?_
        refine x_aload_n C dX0_hearVote_93 rfl (q := 1) rfl ?_
        refine x_get C cl_X3 2 (by decide) fl_X0_35_X3 (dm_13 hmi) rfl rfl dX0_hearVote_94 ?_
        refine x_letI h (fun v36 h => ?_)
        refine x_aload_n C dX0_hearVote_97 rfl (q := 0) rfl ?_
        refine x_get C cl_X0 0 (by decide) fl_X0_95_X0 (dm_25 hi) rfl rfl dX0_hearVote_98 ?_
        refine x_aload_n C dX0_hearVote_101 rfl (q := 1) rfl ?_
        refine x_get C cl_X3 3 (by decide) fl_X0_57_X3 (dm_13 hmi) rfl rfl dX0_hearVote_102 ?_
        refine x_letI h (fun v37 h => ?_)
        refine x_aload_n C dX0_hearVote_105 rfl (q := 1) rfl ?_
        refine x_get C cl_X3 4 (by decide) fl_X0_63_X3 (dm_13 hmi) rfl rfl dX0_hearVote_106 ?_
        refine x_letI h (fun v38 h => ?_)
        refine x_aload_n C dX0_hearVote_109 rfl (q := 1) rfl ?_
        refine x_get C cl_X3 5 (by decide) fl_X0_66_X3 (dm_13 hmi) rfl rfl dX0_hearVote_110 ?_
        refine x_letI h (fun v39 h => ?_)
        obtain ⟨s41, hq40, h⟩ := bnd1_some h
        refine x_callV_v C (m_X5_startDraftOfVote hq40) wv_X0_98 (x_recv C.2.2.2 cl_X5 (dm_11 z) rfl) rfl (Nat.le_of_ble_eq_true rfl) ⟨⟨rfl, rfl⟩, Nat.le_of_ble_eq_true rfl, Nat.le_of_ble_eq_true rfl⟩ dX0_hearVote_113 rfl ?_
        refine x_aload_n C dX0_hearVote_116 rfl (q := 0) rfl ?_
        refine x_get C cl_X0 2 (by decide) fl_X0_91_X0 (dm_25 hi) rfl rfl dX0_hearVote_117 ?_
        refine x_aload_n C dX0_hearVote_120 rfl (q := 0) rfl ?_
        refine x_get C cl_X0 2 (by decide) fl_X0_91_X0 (dm_25 hi) rfl rfl dX0_hearVote_121 ?_
        refine x_get C cl_X5 2 (by decide) fl_X0_104_X5 (dm_11 z) rfl rfl dX0_hearVote_124 ?_
        refine x_aload_n C dX0_hearVote_127 rfl (q := 0) rfl ?_
        refine x_get C cl_X0 1 (by decide) fl_X0_108_X0 (dm_25 hi) rfl rfl dX0_hearVote_128 ?_
        refine x_aload_n C dX0_hearVote_131 rfl (q := 1) rfl ?_
        refine x_get C cl_X3 3 (by decide) fl_X0_57_X3 (dm_13 hmi) rfl rfl dX0_hearVote_132 ?_
        refine x_letI h (fun v42 h => ?_)
        obtain ⟨r44, hq43, h⟩ := bnd1_some h
        refine x_callV_i C (m_X7_acceptorOf hq43) wv_X0_112 (x_recv C.2.2.2 cl_X7 (dm_1 z) rfl) rfl (Nat.le_of_ble_eq_true rfl) ⟨⟨rfl, rfl⟩, Nat.le_of_ble_eq_true rfl, Nat.le_of_ble_eq_true rfl⟩ dX0_hearVote_135 rfl ?_
        obtain ⟨r46, s47, hq45, h⟩ := bnd2_some h
        refine x_callV_i C (m_X5_post xb_d hq45) wv_X0_116 (x_recv C.2.2.2 cl_X5 (dm_11 z) rfl) rfl (Nat.le_of_ble_eq_true rfl) ⟨⟨rfl, rfl⟩, Nat.le_of_ble_eq_true rfl, Nat.le_of_ble_eq_true rfl⟩ dX0_hearVote_138 rfl ?_
        refine x_pop C dX0_hearVote_141 rfl ?_
        refine x_iconst C (v := 1) dX0_hearVote_142 (by decide) ?_
        cases h
        exact xr_z C (by decide) hr dX0_hearVote_143 (fun _ h => h)
      · refine x_iconst C (v := 0) dX0_hearVote_42 (by decide) ?_
        cases h
        exact xr_z C (by decide) hr dX0_hearVote_43 (fun _ h => h)
  · refine x_iconst C (v := 1) dX0_hearVote_11 (by decide) ?_
    cases h
    exact xr_z C (by decide) hr dX0_hearVote_12 (fun _ h => h)
def f_X0_bitOf (z : Nat → Nat) (σ : Sg) (i : Nat) (x1 : Int32) : Option Int32 :=
  some (1 <<< ((x1 - (nI (z 0))) &&& 31))
def rm_X0_bitOf : Room := { frames := 0, cells := 0, slots := 0, locals := 0 }
set_option maxRecDepth 100000 in
set_option maxHeartbeats 4000000 in
theorem m_X0_bitOf {l : Launch} {G : xG} {z : Nat → Nat} {σ : Sg} {τ : Tg} {i : Nat} {x1 : Int32} {rF : Int32} (hi : i < z 1) (h : f_X0_bitOf z σ i x1 = some (rF)) : xMet l (xD G) (xcA G) (xbs G) yX0_bitOf cX0_bitOf 2 (Option.some Jvm.ClassFile.FieldType.int) rm_X0_bitOf [.ref (xad G 25 i 0), .int x1] (xRep G z σ τ) (xRep G z σ τ) (some (.int rF)) 0 0 := by
  refine xMet.of RX0 rfl (by decide +kernel) (Nat.le_of_ble_eq_true rfl) ?_
  intro p e s m args below meth c C hr hnm
  unfold f_X0_bitOf at h
  refine x_sub (L' := [(0, .ref (xad G 25 i 0)), (1, .int x1)]) [0, 1] rfl ?_
  refine x_iconst C (v := 1) dX0_bitOf_0 (by decide) ?_
  refine x_iload_n C dX0_bitOf_1 rfl (q := 1) rfl ?_
  refine x_aload_n C dX0_bitOf_2 rfl (q := 0) rfl ?_
  refine x_get C cl_X0 1 (by decide) fl_X0_108_X0 (dm_25 hi) rfl rfl dX0_bitOf_3 ?_
  refine x_get C cl_X7 0 (by decide) fl_X0_3_X7 (dm_1 z) rfl rfl dX0_bitOf_6 ?_
  refine x_isub C dX0_bitOf_9 ?_
  refine x_ishl C dX0_bitOf_10 ?_
  cases h
  exact xr_i C hr dX0_bitOf_11 (fun _ h => h)
def f_X0_endOf_L5 (z : Nat → Nat) (σ : Sg) (i : Nat) (x1 : Int32) (ti : Nat) : Nat → Int32 → Int32 → Option Int32
  | 0, _, _ => none
  | n + 1, y1, y2 => if (nI (z 0)) ≤ y2 then (if y1 = 0 then (some (0)) else (some (3))) else (bnd1 (f_X8_touches z σ x1 y2) fun r6 => if r6 = 0 then (letv (y2 + 1) fun v8 => f_X0_endOf_L5 z σ i x1 ti n y1 v8) else (gdx y2 (z 0) fun k9 => letv (σ.1 33 i ti k9) fun v10 => bnd1 (f_X7_isMajority z σ v10) fun r12 => if r12 = 0 then (if y1 = 0 then (letv (y2 + 1) fun v15 => f_X0_endOf_L5 z σ i x1 ti n 0 v15) else (gdx y2 (z 0) fun k16 => letv (σ.1 32 i ti k16) fun v17 => bnd1 (f_X7_isMajority z σ v17) fun r19 => if r19 = 0 then (letv (y2 + 1) fun v21 => f_X0_endOf_L5 z σ i x1 ti n 0 v21) else (letv (y2 + 1) fun v22 => f_X0_endOf_L5 z σ i x1 ti n 1 v22))) else (some (4))))
def f_X0_endOf (z : Nat → Nat) (σ : Sg) (i : Nat) (ti : Nat) (x1 : Int32) : Option Int32 :=
  f_X0_endOf_L5 z σ i x1 ti FU 1 0
def rm_X0_endOf : Room := { frames := 2, cells := 0, slots := 0, locals := 41 }
set_option maxRecDepth 100000 in
set_option maxHeartbeats 4000000 in
theorem m_X0_endOf {l : Launch} {G : xG} {z : Nat → Nat} {σ : Sg} {τ : Tg} {i : Nat} {ti : Nat} {x1 : Int32} {rF : Int32} (hi : i < z 1) (hti : ti < z 2) (h : f_X0_endOf z σ i ti x1 = some (rF)) : xMet l (xD G) (xcA G) (xbs G) yX0_endOf cX0_endOf 5 (Option.some Jvm.ClassFile.FieldType.int) rm_X0_endOf [.ref (xad G 25 i 0), .int x1, .ref (xad G 27 i ti)] (xRep G z σ τ) (xRep G z σ τ) (some (.int rF)) 0 0 := by
  refine xMet.of RX0 rfl (by decide +kernel) (Nat.le_of_ble_eq_true rfl) ?_
  intro p e s m args below meth c C hr hnm
  unfold f_X0_endOf at h
  refine x_sub (L' := [(0, .ref (xad G 25 i 0)), (1, .int x1), (2, .ref (xad G 27 i ti))]) [0, 1, 2] rfl ?_
  refine x_iconst C (v := 1) dX0_endOf_0 (by decide) ?_
  refine x_istore_n C (L' := [(3, .int 1), (0, .ref (xad G 25 i 0)), (1, .int x1), (2, .ref (xad G 27 i ti))]) dX0_endOf_1 rfl (by decide) rfl ?_
  refine x_iconst C (v := 0) dX0_endOf_2 (by decide) ?_
  refine x_istore C (L' := [(4, .int 0), (3, .int 1), (0, .ref (xad G 25 i 0)), (1, .int x1), (2, .ref (xad G 27 i ti))]) dX0_endOf_3 (by decide) rfl ?_
  have hl23 : ∀ (n : Nat) (y1 : Int32) (y2 : Int32), f_X0_endOf_L5 z σ i x1 ti n y1 y2 = some (rF) → XW p l e rm_X0_endOf s m args below meth c 0 0 5 (xbs G) (xQ below args s (xbs G) (some (.int rF)) (xRep G z σ τ) 0 0) (xRep G z σ τ) 5 [(0, .ref (xad G 25 i 0)), (1, .int x1), (2, .ref (xad G 27 i ti)), (3, .int y1), (4, .int y2)] [] := by
    intro n
    induction n with
    | zero =>
      intro y1 y2 h
      exact absurd h (by rw [f_X0_endOf_L5]; intro q; cases q)
    | succ n ih =>
      intro y1 y2 h
      rw [f_X0_endOf_L5] at h
      refine x_iload C dX0_endOf_5 (q := 4) rfl ?_
      refine x_aload_n C dX0_endOf_7 rfl (q := 0) rfl ?_
      refine x_get C cl_X0 1 (by decide) fl_X0_108_X0 (dm_25 hi) rfl rfl dX0_endOf_8 ?_
      refine x_get C cl_X7 0 (by decide) fl_X0_3_X7 (dm_1 z) rfl rfl dX0_endOf_11 ?_
      refine x_icmp_ge C (tgt := 82) dX0_endOf_14 (by decide) h (fun hc3 h => ?_) (fun hc3 h => ?_)
      · refine x_iload_n C dX0_endOf_82 rfl (q := 3) rfl ?_
        refine x_if_eq C (tgt := 90) dX0_endOf_83 (by decide) h (fun hc4 h => ?_) (fun hc4 h => ?_)
        · refine x_iconst C (v := 0) dX0_endOf_90 (by decide) ?_
          cases h
          exact xr_i C hr dX0_endOf_91 (fun _ h => h)
        · refine x_iconst C (v := 3) dX0_endOf_86 (by decide) ?_
          refine x_goto C (tgt := 91) dX0_endOf_87 (by decide) ?_
          cases h
          exact xr_i C hr dX0_endOf_91 (fun _ h => h)
      · refine x_aload_n C dX0_endOf_17 rfl (q := 0) rfl ?_
        refine x_get C cl_X0 7 (by decide) fl_X0_20_X0 (dm_25 hi) rfl rfl dX0_endOf_18 ?_
        refine x_iload_n C dX0_endOf_21 rfl (q := 1) rfl ?_
        refine x_iload C dX0_endOf_22 (q := 4) rfl ?_
        obtain ⟨r6, hq5, h⟩ := bnd1_some h
        refine x_callV_i C (m_X8_touches hq5) wv_X0_143 (x_recv C.2.2.2 cl_X8 (dm_2 z) rfl) rfl (Nat.le_of_ble_eq_true rfl) ⟨⟨rfl, rfl⟩, Nat.le_of_ble_eq_true rfl, Nat.le_of_ble_eq_true rfl⟩ dX0_endOf_24 rfl ?_
        refine x_if_eq C (tgt := 76) dX0_endOf_27 (by decide) h (fun hc7 h => ?_) (fun hc7 h => ?_)
        · refine x_iincL C (w := 1) (L' := fun v8 => [(4, .int v8), (0, .ref (xad G 25 i 0)), (1, .int x1), (2, .ref (xad G 27 i ti)), (3, .int y1)]) dX0_endOf_76 (k := 4) rfl (by decide) (by decide) (fun _ => rfl) h (fun v8 h => ?_)
          refine x_goto C (tgt := 5) dX0_endOf_79 (by decide) ?_
          exact x_sub [1, 2, 3, 4, 0] rfl (ih _ _ h)
        · refine x_aload_n C dX0_endOf_30 rfl (q := 0) rfl ?_
          refine x_get C cl_X0 1 (by decide) fl_X0_108_X0 (dm_25 hi) rfl rfl dX0_endOf_31 ?_
          refine x_aload_n C dX0_endOf_34 rfl (q := 2) rfl ?_
          refine x_get C cl_X9 10 (by decide) fl_X0_149_X9 (dm_27 hi hti) rfl rfl dX0_endOf_35 ?_
          refine x_iload C dX0_endOf_38 (q := 4) rfl ?_
          refine x_iald C (dm_33 hi hti) (fun _ _ _ => rfl) dX0_endOf_40 h (fun k9 hk9 h => ?_)
          refine x_letI h (fun v10 h => ?_)
          obtain ⟨r12, hq11, h⟩ := bnd1_some h
          refine x_callV_i C (m_X7_isMajority hq11) wv_X0_153 (x_recv C.2.2.2 cl_X7 (dm_1 z) rfl) rfl (Nat.le_of_ble_eq_true rfl) ⟨⟨rfl, rfl⟩, Nat.le_of_ble_eq_true rfl, Nat.le_of_ble_eq_true rfl⟩ dX0_endOf_41 rfl ?_
          refine x_if_eq C (tgt := 49) dX0_endOf_44 (by decide) h (fun hc13 h => ?_) (fun hc13 h => ?_)
          · refine x_iload_n C dX0_endOf_49 rfl (q := 3) rfl ?_
            refine x_if_eq C (tgt := 74) dX0_endOf_50 (by decide) h (fun hc14 h => ?_) (fun hc14 h => ?_)
            · refine x_iconst C (v := 0) dX0_endOf_74 (by decide) ?_
              refine x_istore_n C (L' := [(3, .int 0), (0, .ref (xad G 25 i 0)), (1, .int x1), (2, .ref (xad G 27 i ti)), (4, .int y2)]) dX0_endOf_75 rfl (by decide) rfl ?_
              refine x_iincL C (w := 1) (L' := fun v15 => [(4, .int v15), (3, .int 0), (0, .ref (xad G 25 i 0)), (1, .int x1), (2, .ref (xad G 27 i ti))]) dX0_endOf_76 (k := 4) rfl (by decide) (by decide) (fun _ => rfl) h (fun v15 h => ?_)
              refine x_goto C (tgt := 5) dX0_endOf_79 (by decide) ?_
              exact x_sub [2, 3, 4, 1, 0] rfl (ih _ _ h)
            · refine x_aload_n C dX0_endOf_53 rfl (q := 0) rfl ?_
              refine x_get C cl_X0 1 (by decide) fl_X0_108_X0 (dm_25 hi) rfl rfl dX0_endOf_54 ?_
              refine x_aload_n C dX0_endOf_57 rfl (q := 2) rfl ?_
              refine x_get C cl_X9 9 (by decide) fl_X0_156_X9 (dm_27 hi hti) rfl rfl dX0_endOf_58 ?_
              refine x_iload C dX0_endOf_61 (q := 4) rfl ?_
              refine x_iald C (dm_32 hi hti) (fun _ _ _ => rfl) dX0_endOf_63 h (fun k16 hk16 h => ?_)
              refine x_letI h (fun v17 h => ?_)
              obtain ⟨r19, hq18, h⟩ := bnd1_some h
              refine x_callV_i C (m_X7_isMajority hq18) wv_X0_153 (x_recv C.2.2.2 cl_X7 (dm_1 z) rfl) rfl (Nat.le_of_ble_eq_true rfl) ⟨⟨rfl, rfl⟩, Nat.le_of_ble_eq_true rfl, Nat.le_of_ble_eq_true rfl⟩ dX0_endOf_64 rfl ?_
              refine x_if_eq C (tgt := 74) dX0_endOf_67 (by decide) h (fun hc20 h => ?_) (fun hc20 h => ?_)
              · refine x_iconst C (v := 0) dX0_endOf_74 (by decide) ?_
                refine x_istore_n C (L' := [(3, .int 0), (0, .ref (xad G 25 i 0)), (1, .int x1), (2, .ref (xad G 27 i ti)), (4, .int y2)]) dX0_endOf_75 rfl (by decide) rfl ?_
                refine x_iincL C (w := 1) (L' := fun v21 => [(4, .int v21), (3, .int 0), (0, .ref (xad G 25 i 0)), (1, .int x1), (2, .ref (xad G 27 i ti))]) dX0_endOf_76 (k := 4) rfl (by decide) (by decide) (fun _ => rfl) h (fun v21 h => ?_)
                refine x_goto C (tgt := 5) dX0_endOf_79 (by decide) ?_
                exact x_sub [2, 3, 4, 1, 0] rfl (ih _ _ h)
              · refine x_iconst C (v := 1) dX0_endOf_70 (by decide) ?_
                refine x_goto C (tgt := 75) dX0_endOf_71 (by decide) ?_
                refine x_istore_n C (L' := [(3, .int 1), (0, .ref (xad G 25 i 0)), (1, .int x1), (2, .ref (xad G 27 i ti)), (4, .int y2)]) dX0_endOf_75 rfl (by decide) rfl ?_
                refine x_iincL C (w := 1) (L' := fun v22 => [(4, .int v22), (3, .int 1), (0, .ref (xad G 25 i 0)), (1, .int x1), (2, .ref (xad G 27 i ti))]) dX0_endOf_76 (k := 4) rfl (by decide) (by decide) (fun _ => rfl) h (fun v22 h => ?_)
                refine x_goto C (tgt := 5) dX0_endOf_79 (by decide) ?_
                exact x_sub [2, 3, 4, 1, 0] rfl (ih _ _ h)
          · refine x_iconst C (v := 4) dX0_endOf_47 (by decide) ?_
            cases h
            exact xr_i C hr dX0_endOf_48 (fun _ h => h)
  exact x_sub [2, 3, 4, 1, 0] rfl (hl23 FU _ _ h)
def f_X0_postEnd_L27 (z : Nat → Nat) (i : Nat) (x1 : Int32) : Nat → Int32 → Sg → Option Sg
  | 0, _, _ => none
  | n + 1, y4, s5 => if (nI (z 0)) ≤ y4 then (some (s5)) else (bnd1 (f_X8_touches z s5 x1 y4) fun r11 => if r11 = 0 then (letv (y4 + 1) fun v13 => f_X0_postEnd_L27 z i x1 n v13 s5) else (bnd2 (f_X5_post z s5 (z 4) y4) fun r15 s16 => letv (y4 + 1) fun v17 => f_X0_postEnd_L27 z i x1 n v17 s16))
def f_X0_postEnd (z : Nat → Nat) (σ : Sg) (i : Nat) (x1 : Int32) (x2 : Int32) : Option Sg :=
  bnd1 (f_X5_startDraft z σ 6 x1 (nI (z 0 + i))) fun s2 => letv (upI s2 13 (z 4) 0 5 x2) fun s3 => bnd1 (f_X0_postEnd_L27 z i x1 FU 0 s3) fun (s6 : Sg) => bnd1 (f_X7_client z s6) fun r19 => bnd2 (f_X5_post z s6 (z 4) r19) fun r21 s22 => some (s22)
def rm_X0_postEnd : Room := { frames := 2, cells := 0, slots := 0, locals := 45 }
set_option maxRecDepth 100000 in
set_option maxHeartbeats 4000000 in
theorem m_X0_postEnd {l : Launch} {G : xG} {z : Nat → Nat} {σ : Sg} {τ : Tg} {i : Nat} {x1 : Int32} {x2 : Int32} {sF : Sg} (hi : i < z 1) (h : f_X0_postEnd z σ i x1 x2 = some (sF)) : xMet l (xD G) (xcA G) (xbs G) yX0_postEnd cX0_postEnd 4 (Option.none : Option Jvm.ClassFile.FieldType) rm_X0_postEnd [.ref (xad G 25 i 0), .int x1, .int x2] (xRep G z σ τ) (xRep G z sF τ) none 0 0 := by
  refine xMet.of RX0 rfl (by decide +kernel) (Nat.le_of_ble_eq_true rfl) ?_
  intro p e s m args below meth c C hr hnm
  unfold f_X0_postEnd at h
  refine x_sub (L' := [(0, .ref (xad G 25 i 0)), (1, .int x1), (2, .int x2)]) [0, 1, 2] rfl ?_
  refine x_aload_n C dX0_postEnd_0 rfl (q := 0) rfl ?_
  refine x_get C cl_X0 2 (by decide) fl_X0_91_X0 (dm_25 hi) rfl rfl dX0_postEnd_1 ?_
  refine x_bipush C (v := 6) dX0_postEnd_4 (by decide) ?_
  refine x_iload_n C dX0_postEnd_6 rfl (q := 1) rfl ?_
  refine x_aload_n C dX0_postEnd_7 rfl (q := 0) rfl ?_
  refine x_get C cl_X0 0 (by decide) fl_X0_95_X0 (dm_25 hi) rfl rfl dX0_postEnd_8 ?_
  obtain ⟨s2, hq1, h⟩ := bnd1_some h
  refine x_callV_v C (m_X5_startDraft hq1) wv_X0_159 (x_recv C.2.2.2 cl_X5 (dm_11 z) rfl) rfl (Nat.le_of_ble_eq_true rfl) ⟨⟨rfl, rfl⟩, Nat.le_of_ble_eq_true rfl, Nat.le_of_ble_eq_true rfl⟩ dX0_postEnd_11 rfl ?_
  refine x_aload_n C dX0_postEnd_14 rfl (q := 0) rfl ?_
  refine x_get C cl_X0 2 (by decide) fl_X0_91_X0 (dm_25 hi) rfl rfl dX0_postEnd_15 ?_
  refine x_get C cl_X5 2 (by decide) fl_X0_104_X5 (dm_11 z) rfl rfl dX0_postEnd_18 ?_
  refine x_iload_n C dX0_postEnd_21 rfl (q := 2) rfl ?_
  refine x_putI C cl_X3 5 (by decide) fl_X0_66_X3 rfl (dm_13 xb_d) (fun _ _ _ => rfl) (fun _ _ _ => rfl) (fun _ _ _ => Nat.le_of_ble_eq_true rfl) rfl rfl dX0_postEnd_22 h (fun s3 h => ?_)
  refine x_iconst C (v := 0) dX0_postEnd_25 (by decide) ?_
  refine x_istore_n C (L' := [(3, .int 0), (0, .ref (xad G 25 i 0)), (1, .int x1), (2, .int x2)]) dX0_postEnd_26 rfl (by decide) rfl ?_
  obtain ⟨s6, hv8, h⟩ := bnd1_some h
  refine x_join (Ω' := (xRep G z s6 τ)) (pc' := 72) (L' := [(0, .ref (xad G 25 i 0))]) (st' := []) ?_ (fun hj7 => ?_)
  · refine x_aload_n C dX0_postEnd_72 rfl (q := 0) rfl ?_
    refine x_get C cl_X0 2 (by decide) fl_X0_91_X0 (dm_25 hi) rfl rfl dX0_postEnd_73 ?_
    refine x_aload_n C dX0_postEnd_76 rfl (q := 0) rfl ?_
    refine x_get C cl_X0 2 (by decide) fl_X0_91_X0 (dm_25 hi) rfl rfl dX0_postEnd_77 ?_
    refine x_get C cl_X5 2 (by decide) fl_X0_104_X5 (dm_11 z) rfl rfl dX0_postEnd_80 ?_
    refine x_aload_n C dX0_postEnd_83 rfl (q := 0) rfl ?_
    refine x_get C cl_X0 1 (by decide) fl_X0_108_X0 (dm_25 hi) rfl rfl dX0_postEnd_84 ?_
    obtain ⟨r19, hq18, h⟩ := bnd1_some h
    refine x_callV_i C (m_X7_client hq18) wv_X0_162 (x_recv C.2.2.2 cl_X7 (dm_1 z) rfl) rfl (Nat.le_of_ble_eq_true rfl) ⟨⟨rfl, rfl⟩, Nat.le_of_ble_eq_true rfl, Nat.le_of_ble_eq_true rfl⟩ dX0_postEnd_87 rfl ?_
    obtain ⟨r21, s22, hq20, h⟩ := bnd2_some h
    refine x_callV_i C (m_X5_post xb_d hq20) wv_X0_116 (x_recv C.2.2.2 cl_X5 (dm_11 z) rfl) rfl (Nat.le_of_ble_eq_true rfl) ⟨⟨rfl, rfl⟩, Nat.le_of_ble_eq_true rfl, Nat.le_of_ble_eq_true rfl⟩ dX0_postEnd_90 rfl ?_
    refine x_pop C dX0_postEnd_93 rfl ?_
    cases h
    exact xr_v C hr dX0_postEnd_94 (fun _ h => h)
  · have hl23 : ∀ (n : Nat) (y4 : Int32) (s5 : Sg), f_X0_postEnd_L27 z i x1 n y4 s5 = some (s6) → XW p l e rm_X0_postEnd s m args below meth c 0 0 4 (xbs G) (xQ below args s (xbs G) none (xRep G z sF τ) 0 0) (xRep G z s5 τ) 27 [(0, .ref (xad G 25 i 0)), (1, .int x1), (3, .int y4)] [] := by
      intro n
      induction n with
      | zero =>
        intro y4 s5 h
        exact absurd h (by rw [f_X0_postEnd_L27]; intro q; cases q)
      | succ n ih =>
        intro y4 s5 h
        rw [f_X0_postEnd_L27] at h
        refine x_iload_n C dX0_postEnd_27 rfl (q := 2) rfl ?_
        refine x_aload_n C dX0_postEnd_28 rfl (q := 0) rfl ?_
        refine x_get C cl_X0 1 (by decide) fl_X0_108_X0 (dm_25 hi) rfl rfl dX0_postEnd_29 ?_
        refine x_get C cl_X7 0 (by decide) fl_X0_3_X7 (dm_1 z) rfl rfl dX0_postEnd_32 ?_
        refine x_icmp_ge C (tgt := 72) dX0_postEnd_35 (by decide) h (fun hc9 h => ?_) (fun hc9 h => ?_)
        · cases h
          exact x_sub [0] rfl hj7
        · refine x_aload_n C dX0_postEnd_38 rfl (q := 0) rfl ?_
          refine x_get C cl_X0 7 (by decide) fl_X0_20_X0 (dm_25 hi) rfl rfl dX0_postEnd_39 ?_
          refine x_iload_n C dX0_postEnd_42 rfl (q := 1) rfl ?_
          refine x_iload_n C dX0_postEnd_43 rfl (q := 2) rfl ?_
          obtain ⟨r11, hq10, h⟩ := bnd1_some h
          refine x_callV_i C (m_X8_touches hq10) wv_X0_143 (x_recv C.2.2.2 cl_X8 (dm_2 z) rfl) rfl (Nat.le_of_ble_eq_true rfl) ⟨⟨rfl, rfl⟩, Nat.le_of_ble_eq_true rfl, Nat.le_of_ble_eq_true rfl⟩ dX0_postEnd_44 rfl ?_
          refine x_if_eq C (tgt := 66) dX0_postEnd_47 (by decide) h (fun hc12 h => ?_) (fun hc12 h => ?_)
          · refine x_iincL C (w := 1) (L' := fun v13 => [(3, .int v13), (0, .ref (xad G 25 i 0)), (1, .int x1)]) dX0_postEnd_66 (k := 2) rfl (by decide) (by decide) (fun _ => rfl) h (fun v13 h => ?_)
            refine x_goto C (tgt := 27) dX0_postEnd_69 (by decide) ?_
            exact x_sub [1, 2, 0] rfl (ih _ _ h)
          · refine x_aload_n C dX0_postEnd_50 rfl (q := 0) rfl ?_
            refine x_get C cl_X0 2 (by decide) fl_X0_91_X0 (dm_25 hi) rfl rfl dX0_postEnd_51 ?_
            refine x_aload_n C dX0_postEnd_54 rfl (q := 0) rfl ?_
            refine x_get C cl_X0 2 (by decide) fl_X0_91_X0 (dm_25 hi) rfl rfl dX0_postEnd_55 ?_
            refine x_get C cl_X5 2 (by decide) fl_X0_104_X5 (dm_11 z) rfl rfl dX0_postEnd_58 ?_
            refine x_iload_n C dX0_postEnd_61 rfl (q := 2) rfl ?_
            obtain ⟨r15, s16, hq14, h⟩ := bnd2_some h
            refine x_callV_i C (m_X5_post xb_d hq14) wv_X0_116 (x_recv C.2.2.2 cl_X5 (dm_11 z) rfl) rfl (Nat.le_of_ble_eq_true rfl) ⟨⟨rfl, rfl⟩, Nat.le_of_ble_eq_true rfl, Nat.le_of_ble_eq_true rfl⟩ dX0_postEnd_62 rfl ?_
            refine x_pop C dX0_postEnd_65 rfl ?_
            refine x_iincL C (w := 1) (L' := fun v17 => [(3, .int v17), (0, .ref (xad G 25 i 0)), (1, .int x1)]) dX0_postEnd_66 (k := 2) rfl (by decide) (by decide) (fun _ => rfl) h (fun v17 h => ?_)
            refine x_goto C (tgt := 27) dX0_postEnd_69 (by decide) ?_
            exact x_sub [1, 2, 0] rfl (ih _ _ h)
    exact x_sub [1, 2, 0] rfl (hl23 FU _ _ hv8)
def f_X0_hearAccepted (z : Nat → Nat) (σ : Sg) (i : Nat) (mi : Nat) (ti : Nat) : Option Sg :=
  letv (σ.1 13 mi 0 3) fun v1 => bnd1 (f_X9_listensFor z σ i ti v1) fun r3 => if r3 = 0 then (some (σ)) else (letv (σ.1 13 mi 0 4) fun v5 => letv (σ.1 13 mi 0 5) fun v6 => letv (σ.1 13 mi 0 6) fun v7 => bnd1 (f_X0_bitOf z σ i v7) fun r9 => bnd1 (f_X9_countVoter z σ i ti v5 v6 r9) fun s11 => letv (s11.1 13 mi 0 2) fun v12 => bnd1 (f_X0_endOf z s11 i ti v12) fun r14 => if r14 = 0 then (some (s11)) else (letv (upI s11 27 i ti 3 r14) fun s16 => letv (s16.1 13 mi 0 2) fun v17 => bnd1 (f_X0_postEnd z s16 i v17 r14) fun s19 => some (s19)))
def rm_X0_hearAccepted : Room := { frames := 3, cells := 0, slots := 0, locals := 68 }
set_option maxRecDepth 100000 in
set_option maxHeartbeats 4000000 in
theorem m_X0_hearAccepted {l : Launch} {G : xG} {z : Nat → Nat} {σ : Sg} {τ : Tg} {i : Nat} {mi : Nat} {ti : Nat} {sF : Sg} (hi : i < z 1) (hmi : mi < z 4 + 2) (hti : ti < z 2) (h : f_X0_hearAccepted z σ i mi ti = some (sF)) : xMet l (xD G) (xcA G) (xbs G) yX0_hearAccepted cX0_hearAccepted 4 (Option.none : Option Jvm.ClassFile.FieldType) rm_X0_hearAccepted [.ref (xad G 25 i 0), .ref (xad G 13 mi 0), .ref (xad G 27 i ti)] (xRep G z σ τ) (xRep G z sF τ) none 0 0 := by
  refine xMet.of RX0 rfl (by decide +kernel) (Nat.le_of_ble_eq_true rfl) ?_
  intro p e s m args below meth c C hr hnm
  unfold f_X0_hearAccepted at h
  refine x_sub (L' := [(0, .ref (xad G 25 i 0)), (1, .ref (xad G 13 mi 0)), (2, .ref (xad G 27 i ti))]) [0, 1, 2] rfl ?_
  refine x_aload_n C dX0_hearAccepted_0 rfl (q := 2) rfl ?_
  refine x_aload_n C dX0_hearAccepted_1 rfl (q := 1) rfl ?_
  refine x_get C cl_X3 3 (by decide) fl_X0_57_X3 (dm_13 hmi) rfl rfl dX0_hearAccepted_2 ?_
  refine x_letI h (fun v1 h => ?_)
  obtain ⟨r3, hq2, h⟩ := bnd1_some h
  refine x_callV_i C (m_X9_listensFor hi hti hq2) wv_X0_120 (x_recv C.2.2.2 cl_X9 (dm_27 hi hti) rfl) rfl (Nat.le_of_ble_eq_true rfl) ⟨⟨rfl, rfl⟩, Nat.le_of_ble_eq_true rfl, Nat.le_of_ble_eq_true rfl⟩ dX0_hearAccepted_5 rfl ?_
  refine x_if_ne C (tgt := 12) dX0_hearAccepted_8 (by decide) h (fun hc4 h => ?_) (fun hc4 h => ?_)
  · refine x_aload_n C dX0_hearAccepted_12 rfl (q := 2) rfl ?_
    refine x_aload_n C dX0_hearAccepted_13 rfl (q := 1) rfl ?_
    refine x_get C cl_X3 4 (by decide) fl_X0_63_X3 (dm_13 hmi) rfl rfl dX0_hearAccepted_14 ?_
    refine x_letI h (fun v5 h => ?_)
    refine x_aload_n C dX0_hearAccepted_17 rfl (q := 1) rfl ?_
    refine x_get C cl_X3 5 (by decide) fl_X0_66_X3 (dm_13 hmi) rfl rfl dX0_hearAccepted_18 ?_
    refine x_letI h (fun v6 h => ?_)
    refine x_aload_n C dX0_hearAccepted_21 rfl (q := 0) rfl ?_
    refine x_aload_n C dX0_hearAccepted_22 rfl (q := 1) rfl ?_
    refine x_get C cl_X3 6 (by decide) fl_X0_124_X3 (dm_13 hmi) rfl rfl dX0_hearAccepted_23 ?_
    refine x_letI h (fun v7 h => ?_)
    obtain ⟨r9, hq8, h⟩ := bnd1_some h
    refine x_callV_i C (m_X0_bitOf hi hq8) wv_X0_127 (x_recv C.2.2.2 cl_X0 (dm_25 hi) rfl) rfl (Nat.le_of_ble_eq_true rfl) ⟨⟨rfl, rfl⟩, Nat.le_of_ble_eq_true rfl, Nat.le_of_ble_eq_true rfl⟩ dX0_hearAccepted_26 rfl ?_
    obtain ⟨s11, hq10, h⟩ := bnd1_some h
    refine x_callV_v C (m_X9_countVoter hi hti hq10) wv_X0_130 (x_recv C.2.2.2 cl_X9 (dm_27 hi hti) rfl) rfl (Nat.le_of_ble_eq_true rfl) ⟨⟨rfl, rfl⟩, Nat.le_of_ble_eq_true rfl, Nat.le_of_ble_eq_true rfl⟩ dX0_hearAccepted_29 rfl ?_
    refine x_aload_n C dX0_hearAccepted_32 rfl (q := 0) rfl ?_
    refine x_aload_n C dX0_hearAccepted_33 rfl (q := 1) rfl ?_
    refine x_get C cl_X3 2 (by decide) fl_X0_35_X3 (dm_13 hmi) rfl rfl dX0_hearAccepted_34 ?_
    refine x_letI h (fun v12 h => ?_)
    refine x_aload_n C dX0_hearAccepted_37 rfl (q := 2) rfl ?_
    obtain ⟨r14, hq13, h⟩ := bnd1_some h
    refine x_callV_i C (m_X0_endOf hi hti hq13) wv_X0_133 (x_recv C.2.2.2 cl_X0 (dm_25 hi) rfl) rfl (Nat.le_of_ble_eq_true rfl) ⟨⟨rfl, rfl⟩, Nat.le_of_ble_eq_true rfl, Nat.le_of_ble_eq_true rfl⟩ dX0_hearAccepted_38 rfl ?_
    refine x_istore_n C (L' := [(3, .int r14), (0, .ref (xad G 25 i 0)), (1, .ref (xad G 13 mi 0)), (2, .ref (xad G 27 i ti))]) dX0_hearAccepted_41 rfl (by decide) rfl ?_
    refine x_iload_n C dX0_hearAccepted_42 rfl (q := 0) rfl ?_
    refine x_if_eq C (tgt := 60) dX0_hearAccepted_43 (by decide) h (fun hc15 h => ?_) (fun hc15 h => ?_)
    · cases h
      exact xr_v C hr dX0_hearAccepted_60 (fun _ h => h)
    · refine x_aload_n C dX0_hearAccepted_46 rfl (q := 3) rfl ?_
      refine x_iload_n C dX0_hearAccepted_47 rfl (q := 0) rfl ?_
      refine x_putI C cl_X9 3 (by decide) fl_X0_137_X9 rfl (dm_27 hi hti) (fun _ _ _ => rfl) (fun _ _ _ => rfl) (fun _ _ _ => Nat.le_of_ble_eq_true rfl) rfl rfl dX0_hearAccepted_48 h (fun s16 h => ?_)
      refine x_aload_n C dX0_hearAccepted_51 rfl (q := 1) rfl ?_
      refine x_aload_n C dX0_hearAccepted_52 rfl (q := 2) rfl ?_
      refine x_get C cl_X3 2 (by decide) fl_X0_35_X3 (dm_13 hmi) rfl rfl dX0_hearAccepted_53 ?_
      refine x_letI h (fun v17 h => ?_)
      refine x_iload_n C dX0_hearAccepted_56 rfl (q := 0) rfl ?_
      obtain ⟨s19, hq18, h⟩ := bnd1_some h
      refine x_callV_v C (m_X0_postEnd hi hq18) wv_X0_140 (x_recv C.2.2.2 cl_X0 (dm_25 hi) rfl) rfl (Nat.le_of_ble_eq_true rfl) ⟨⟨rfl, rfl⟩, Nat.le_of_ble_eq_true rfl, Nat.le_of_ble_eq_true rfl⟩ dX0_hearAccepted_57 rfl ?_
      cases h
      exact xr_v C hr dX0_hearAccepted_60 (fun _ h => h)
  · cases h
    exact xr_v C hr dX0_hearAccepted_11 (fun _ h => h)
def f_X0_promise (z : Nat → Nat) (σ : Sg) (i : Nat) (x1 : Int32) (x2 : Int32) : Option Sg :=
  bnd1 (f_X2_put z σ (z 0 + i) 3 x1 x2 0) fun s2 => gdx x1 (z 2) fun k3 => letv (upI s2 27 i k3 1 x2) fun s4 => some (s4)
def rm_X0_promise : Room := { frames := 2, cells := 0, slots := 0, locals := 44 }
set_option maxRecDepth 100000 in
set_option maxHeartbeats 4000000 in
theorem m_X0_promise {l : Launch} {G : xG} {z : Nat → Nat} {σ : Sg} {τ : Tg} {i : Nat} {x1 : Int32} {x2 : Int32} {sF : Sg} (hi : i < z 1) (h : f_X0_promise z σ i x1 x2 = some (sF)) : xMet l (xD G) (xcA G) (xbs G) yX0_promise cX0_promise 3 (Option.none : Option Jvm.ClassFile.FieldType) rm_X0_promise [.ref (xad G 25 i 0), .int x1, .int x2] (xRep G z σ τ) (xRep G z sF τ) none 0 0 := by
  refine xMet.of RX0 rfl (by decide +kernel) (Nat.le_of_ble_eq_true rfl) ?_
  intro p e s m args below meth c C hr hnm
  unfold f_X0_promise at h
  refine x_sub (L' := [(0, .ref (xad G 25 i 0)), (1, .int x1), (2, .int x2)]) [0, 1, 2] rfl ?_
  refine x_aload_n C dX0_promise_0 rfl (q := 0) rfl ?_
  refine x_get C cl_X0 3 (by decide) fl_X0_73_X0 (dm_25 hi) rfl rfl dX0_promise_1 ?_
  refine x_iconst C (v := 3) dX0_promise_4 (by decide) ?_
  refine x_iload_n C dX0_promise_5 rfl (q := 1) rfl ?_
  refine x_iload_n C dX0_promise_6 rfl (q := 2) rfl ?_
  refine x_iconst C (v := 0) dX0_promise_7 (by decide) ?_
  obtain ⟨s2, hq1, h⟩ := bnd1_some h
  refine x_callV_v C (m_X2_put (xb_a hi) hq1) wv_X0_83 (x_recv C.2.2.2 cl_X2 (dm_18 (xb_a hi)) rfl) rfl (Nat.le_of_ble_eq_true rfl) ⟨⟨rfl, rfl⟩, Nat.le_of_ble_eq_true rfl, Nat.le_of_ble_eq_true rfl⟩ dX0_promise_8 rfl ?_
  refine x_aload_n C dX0_promise_11 rfl (q := 0) rfl ?_
  refine x_get C cl_X0 5 (by decide) fl_X0_28_X0 (dm_25 hi) rfl rfl dX0_promise_12 ?_
  refine x_iload_n C dX0_promise_15 rfl (q := 1) rfl ?_
  refine x_aald C 8 rfl rfl (dm_26 hi) rfl dX0_promise_16 h (fun k3 hk3 h => ?_)
  refine x_iload_n C dX0_promise_17 rfl (q := 2) rfl ?_
  refine x_putI C cl_X9 1 (by decide) fl_X0_60_X9 rfl (dm_27 hi hk3) (fun _ _ _ => rfl) (fun _ _ _ => rfl) (fun _ _ _ => Nat.le_of_ble_eq_true rfl) rfl rfl dX0_promise_18 h (fun s4 h => ?_)
  cases h
  exact xr_v C hr dX0_promise_21 (fun _ h => h)
def f_X0_hearAsk (z : Nat → Nat) (σ : Sg) (i : Nat) (mi : Nat) (ti : Nat) : Option (Int32 × Sg) :=
  letv (σ.1 13 mi 0 3) fun v1 => letv (σ.1 27 i ti 1) fun v2 => if v2 ≤ v1 then (letv (σ.1 13 mi 0 3) fun v4 => letv (σ.1 27 i ti 1) fun v5 => if v4 ≤ v5 then (letv (σ.1 13 mi 0 2) fun v7 => bnd1 (f_X5_startDraft z σ 5 v7 (nI (z 0 + i))) fun s9 => letv (s9.1 13 mi 0 3) fun v10 => letv (upI s9 13 (z 4) 0 3 v10) fun s11 => bnd1 (f_X3_tell z s11 (z 4) i ti) fun s13 => letv (s13.1 13 mi 0 3) fun v14 => bnd1 (f_X7_acceptorOf z s13 v14) fun r16 => bnd2 (f_X5_post z s13 (z 4) r16) fun r18 s19 => some (1, s19)) else (bnd1 (f_X2_isFull z σ (z 0 + i)) fun r21 => if r21 = 0 then (letv (σ.1 13 mi 0 2) fun v23 => letv (σ.1 13 mi 0 3) fun v24 => bnd1 (f_X0_promise z σ i v23 v24) fun s26 => letv (s26.1 13 mi 0 2) fun v27 => bnd1 (f_X5_startDraft z s26 5 v27 (nI (z 0 + i))) fun s29 => letv (s29.1 13 mi 0 3) fun v30 => letv (upI s29 13 (z 4) 0 3 v30) fun s31 => bnd1 (f_X3_tell z s31 (z 4) i ti) fun s33 => letv (s33.1 13 mi 0 3) fun v34 => bnd1 (f_X7_acceptorOf z s33 v34) fun r36 => bnd2 (f_X5_post z s33 (z 4) r36) fun r38 s39 => some (1, s39)) else (some (0, σ)))) else (some (1, σ))
def rm_X0_hearAsk : Room := { frames := 3, cells := 0, slots := 0, locals := 66 }
set_option maxRecDepth 100000 in
set_option maxHeartbeats 4000000 in
theorem m_X0_hearAsk {l : Launch} {G : xG} {z : Nat → Nat} {σ : Sg} {τ : Tg} {i : Nat} {mi : Nat} {ti : Nat} {rF : Int32} {sF : Sg} (hi : i < z 1) (hmi : mi < z 4 + 2) (hti : ti < z 2) (h : f_X0_hearAsk z σ i mi ti = some (rF, sF)) : xMet l (xD G) (xcA G) (xbs G) yX0_hearAsk cX0_hearAsk 3 (Option.some Jvm.ClassFile.FieldType.boolean) rm_X0_hearAsk [.ref (xad G 25 i 0), .ref (xad G 13 mi 0), .ref (xad G 27 i ti)] (xRep G z σ τ) (xRep G z sF τ) (some (.int rF)) 0 0 := by
  refine xMet.of RX0 rfl (by decide +kernel) (Nat.le_of_ble_eq_true rfl) ?_
  intro p e s m args below meth c C hr hnm
  unfold f_X0_hearAsk at h
  refine x_sub (L' := [(0, .ref (xad G 25 i 0)), (1, .ref (xad G 13 mi 0)), (2, .ref (xad G 27 i ti))]) [0, 1, 2] rfl ?_
  refine x_aload_n C dX0_hearAsk_0 rfl (q := 1) rfl ?_
  refine x_get C cl_X3 3 (by decide) fl_X0_57_X3 (dm_13 hmi) rfl rfl dX0_hearAsk_1 ?_
  refine x_letI h (fun v1 h => ?_)
  refine x_aload_n C dX0_hearAsk_4 rfl (q := 2) rfl ?_
  refine x_get C cl_X9 1 (by decide) fl_X0_60_X9 (dm_27 hi hti) rfl rfl dX0_hearAsk_5 ?_
  refine x_letI h (fun v2 h => ?_)
  refine x_icmp_ge C (tgt := 13) dX0_hearAsk_8 (by decide) h (fun hc3 h => ?_) (fun hc3 h => ?_)
  · refine x_aload_n C dX0_hearAsk_13 rfl (q := 1) rfl ?_
    refine x_get C cl_X3 3 (by decide) fl_X0_57_X3 (dm_13 hmi) rfl rfl dX0_hearAsk_14 ?_
    refine x_letI h (fun v4 h => ?_)
    refine x_aload_n C dX0_hearAsk_17 rfl (q := 2) rfl ?_
    refine x_get C cl_X9 1 (by decide) fl_X0_60_X9 (dm_27 hi hti) rfl rfl dX0_hearAsk_18 ?_
    refine x_letI h (fun v5 h => ?_)
    refine x_icmp_le C (tgt := 48) dX0_hearAsk_21 (by decide) h (fun hc6 h => ?_) (fun hc6 h => ?_)
    · refine x_aload_n C dX0_hearAsk_48 rfl (q := 0) rfl ?_
      refine x_get C cl_X0 2 (by decide) fl_X0_91_X0 (dm_25 hi) rfl rfl dX0_hearAsk_49 ?_
      refine x_iconst C (v := 5) dX0_hearAsk_52 (by decide) ?_
      refine x_aload_n C dX0_hearAsk_53 rfl (q := 1) rfl ?_
      refine x_get C cl_X3 2 (by decide) fl_X0_35_X3 (dm_13 hmi) rfl rfl dX0_hearAsk_54 ?_
      refine x_letI h (fun v7 h => ?_)
      refine x_aload_n C dX0_hearAsk_57 rfl (q := 0) rfl ?_
      refine x_get C cl_X0 0 (by decide) fl_X0_95_X0 (dm_25 hi) rfl rfl dX0_hearAsk_58 ?_
      obtain ⟨s9, hq8, h⟩ := bnd1_some h
      refine x_callV_v C (m_X5_startDraft hq8) wv_X0_159 (x_recv C.2.2.2 cl_X5 (dm_11 z) rfl) rfl (Nat.le_of_ble_eq_true rfl) ⟨⟨rfl, rfl⟩, Nat.le_of_ble_eq_true rfl, Nat.le_of_ble_eq_true rfl⟩ dX0_hearAsk_61 rfl ?_
      refine x_aload_n C dX0_hearAsk_64 rfl (q := 0) rfl ?_
      refine x_get C cl_X0 2 (by decide) fl_X0_91_X0 (dm_25 hi) rfl rfl dX0_hearAsk_65 ?_
      refine x_get C cl_X5 2 (by decide) fl_X0_104_X5 (dm_11 z) rfl rfl dX0_hearAsk_68 ?_
      refine x_aload_n C dX0_hearAsk_71 rfl (q := 1) rfl ?_
      refine x_get C cl_X3 3 (by decide) fl_X0_57_X3 (dm_13 hmi) rfl rfl dX0_hearAsk_72 ?_
      refine x_letI h (fun v10 h => ?_)
      refine x_putI C cl_X3 3 (by decide) fl_X0_57_X3 rfl (dm_13 xb_d) (fun _ _ _ => rfl) (fun _ _ _ => rfl) (fun _ _ _ => Nat.le_of_ble_eq_true rfl) rfl rfl dX0_hearAsk_75 h (fun s11 h => ?_)
      refine x_aload_n C dX0_hearAsk_78 rfl (q := 0) rfl ?_
      refine x_get C cl_X0 2 (by decide) fl_X0_91_X0 (dm_25 hi) rfl rfl dX0_hearAsk_79 ?_
      refine x_get C cl_X5 2 (by decide) fl_X0_104_X5 (dm_11 z) rfl rfl dX0_hearAsk_82 ?_
      refine x_aload_n C dX0_hearAsk_85 rfl (q := 2) rfl ?_
      refine x_get C cl_X9 5 (by decide) fl_X0_169_X9 (dm_27 hi hti) rfl rfl dX0_hearAsk_86 ?_
      refine x_aload_n C dX0_hearAsk_89 rfl (q := 2) rfl ?_
      refine x_get C cl_X9 6 (by decide) fl_X0_172_X9 (dm_27 hi hti) rfl rfl dX0_hearAsk_90 ?_
      obtain ⟨s13, hq12, h⟩ := bnd1_some h
      refine x_callV_v C (m_X3_tell xb_d hi hti hq12) wv_X0_175 (x_recv C.2.2.2 cl_X3 (dm_13 xb_d) rfl) rfl (Nat.le_of_ble_eq_true rfl) ⟨⟨rfl, rfl⟩, Nat.le_of_ble_eq_true rfl, Nat.le_of_ble_eq_true rfl⟩ dX0_hearAsk_93 rfl ?_
      refine x_aload_n C dX0_hearAsk_96 rfl (q := 0) rfl ?_
      refine x_get C cl_X0 2 (by decide) fl_X0_91_X0 (dm_25 hi) rfl rfl dX0_hearAsk_97 ?_
      refine x_aload_n C dX0_hearAsk_100 rfl (q := 0) rfl ?_
      refine x_get C cl_X0 2 (by decide) fl_X0_91_X0 (dm_25 hi) rfl rfl dX0_hearAsk_101 ?_
      refine x_get C cl_X5 2 (by decide) fl_X0_104_X5 (dm_11 z) rfl rfl dX0_hearAsk_104 ?_
      refine x_aload_n C dX0_hearAsk_107 rfl (q := 0) rfl ?_
      refine x_get C cl_X0 1 (by decide) fl_X0_108_X0 (dm_25 hi) rfl rfl dX0_hearAsk_108 ?_
      refine x_aload_n C dX0_hearAsk_111 rfl (q := 1) rfl ?_
      refine x_get C cl_X3 3 (by decide) fl_X0_57_X3 (dm_13 hmi) rfl rfl dX0_hearAsk_112 ?_
      refine x_letI h (fun v14 h => ?_)
      obtain ⟨r16, hq15, h⟩ := bnd1_some h
      refine x_callV_i C (m_X7_acceptorOf hq15) wv_X0_112 (x_recv C.2.2.2 cl_X7 (dm_1 z) rfl) rfl (Nat.le_of_ble_eq_true rfl) ⟨⟨rfl, rfl⟩, Nat.le_of_ble_eq_true rfl, Nat.le_of_ble_eq_true rfl⟩ dX0_hearAsk_115 rfl ?_
      obtain ⟨r18, s19, hq17, h⟩ := bnd2_some h
      refine x_callV_i C (m_X5_post xb_d hq17) wv_X0_116 (x_recv C.2.2.2 cl_X5 (dm_11 z) rfl) rfl (Nat.le_of_ble_eq_true rfl) ⟨⟨rfl, rfl⟩, Nat.le_of_ble_eq_true rfl, Nat.le_of_ble_eq_true rfl⟩ dX0_hearAsk_118 rfl ?_
      refine x_pop C dX0_hearAsk_121 rfl ?_
      refine x_iconst C (v := 1) dX0_hearAsk_122 (by decide) ?_
      cases h
      exact xr_z C (by decide) hr dX0_hearAsk_123 (fun _ h => h)
    · refine x_aload_n C dX0_hearAsk_24 rfl (q := 0) rfl ?_
      refine x_get C cl_X0 3 (by decide) fl_X0_73_X0 (dm_25 hi) rfl rfl dX0_hearAsk_25 ?_
      obtain ⟨r21, hq20, h⟩ := bnd1_some h
      refine x_callV_i C (m_X2_isFull (xb_a hi) hq20) wv_X0_77 (x_recv C.2.2.2 cl_X2 (dm_18 (xb_a hi)) rfl) rfl (Nat.le_of_ble_eq_true rfl) ⟨⟨rfl, rfl⟩, Nat.le_of_ble_eq_true rfl, Nat.le_of_ble_eq_true rfl⟩ dX0_hearAsk_28 rfl ?_
      refine x_if_eq C (tgt := 36) dX0_hearAsk_31 (by decide) h (fun hc22 h => ?_) (fun hc22 h => ?_)
      · refine x_aload_n C dX0_hearAsk_36 rfl (q := 0) rfl ?_
        refine x_aload_n C dX0_hearAsk_37 rfl (q := 1) rfl ?_
        refine x_get C cl_X3 2 (by decide) fl_X0_35_X3 (dm_13 hmi) rfl rfl dX0_hearAsk_38 ?_
        refine x_letI h (fun v23 h => ?_)
        refine x_aload_n C dX0_hearAsk_41 rfl (q := 1) rfl ?_
        refine x_get C cl_X3 3 (by decide) fl_X0_57_X3 (dm_13 hmi) rfl rfl dX0_hearAsk_42 ?_
        refine x_letI h (fun v24 h => ?_)
        obtain ⟨s26, hq25, h⟩ := bnd1_some h
        refine x_callV_v C (m_X0_promise hi hq25) wv_X0_166 (x_recv C.2.2.2 cl_X0 (dm_25 hi) rfl) rfl (Nat.le_of_ble_eq_true rfl) ⟨⟨rfl, rfl⟩, Nat.le_of_ble_eq_true rfl, Nat.le_of_ble_eq_true rfl⟩ dX0_hearAsk_45 rfl ?_
        refine x_aload_n C dX0_hearAsk_48 rfl (q := 0) rfl ?_
        refine x_get C cl_X0 2 (by decide) fl_X0_91_X0 (dm_25 hi) rfl rfl dX0_hearAsk_49 ?_
        refine x_iconst C (v := 5) dX0_hearAsk_52 (by decide) ?_
        refine x_aload_n C dX0_hearAsk_53 rfl (q := 1) rfl ?_
        refine x_get C cl_X3 2 (by decide) fl_X0_35_X3 (dm_13 hmi) rfl rfl dX0_hearAsk_54 ?_
        refine x_letI h (fun v27 h => ?_)
        refine x_aload_n C dX0_hearAsk_57 rfl (q := 0) rfl ?_
        refine x_get C cl_X0 0 (by decide) fl_X0_95_X0 (dm_25 hi) rfl rfl dX0_hearAsk_58 ?_
        obtain ⟨s29, hq28, h⟩ := bnd1_some h
        refine x_callV_v C (m_X5_startDraft hq28) wv_X0_159 (x_recv C.2.2.2 cl_X5 (dm_11 z) rfl) rfl (Nat.le_of_ble_eq_true rfl) ⟨⟨rfl, rfl⟩, Nat.le_of_ble_eq_true rfl, Nat.le_of_ble_eq_true rfl⟩ dX0_hearAsk_61 rfl ?_
        refine x_aload_n C dX0_hearAsk_64 rfl (q := 0) rfl ?_
        refine x_get C cl_X0 2 (by decide) fl_X0_91_X0 (dm_25 hi) rfl rfl dX0_hearAsk_65 ?_
        refine x_get C cl_X5 2 (by decide) fl_X0_104_X5 (dm_11 z) rfl rfl dX0_hearAsk_68 ?_
        refine x_aload_n C dX0_hearAsk_71 rfl (q := 1) rfl ?_
        refine x_get C cl_X3 3 (by decide) fl_X0_57_X3 (dm_13 hmi) rfl rfl dX0_hearAsk_72 ?_
        refine x_letI h (fun v30 h => ?_)
        refine x_putI C cl_X3 3 (by decide) fl_X0_57_X3 rfl (dm_13 xb_d) (fun _ _ _ => rfl) (fun _ _ _ => rfl) (fun _ _ _ => Nat.le_of_ble_eq_true rfl) rfl rfl dX0_hearAsk_75 h (fun s31 h => ?_)
        refine x_aload_n C dX0_hearAsk_78 rfl (q := 0) rfl ?_
        refine x_get C cl_X0 2 (by decide) fl_X0_91_X0 (dm_25 hi) rfl rfl dX0_hearAsk_79 ?_
        refine x_get C cl_X5 2 (by decide) fl_X0_104_X5 (dm_11 z) rfl rfl dX0_hearAsk_82 ?_
        refine x_aload_n C dX0_hearAsk_85 rfl (q := 2) rfl ?_
        refine x_get C cl_X9 5 (by decide) fl_X0_169_X9 (dm_27 hi hti) rfl rfl dX0_hearAsk_86 ?_
        refine x_aload_n C dX0_hearAsk_89 rfl (q := 2) rfl ?_
        refine x_get C cl_X9 6 (by decide) fl_X0_172_X9 (dm_27 hi hti) rfl rfl dX0_hearAsk_90 ?_
        obtain ⟨s33, hq32, h⟩ := bnd1_some h
        refine x_callV_v C (m_X3_tell xb_d hi hti hq32) wv_X0_175 (x_recv C.2.2.2 cl_X3 (dm_13 xb_d) rfl) rfl (Nat.le_of_ble_eq_true rfl) ⟨⟨rfl, rfl⟩, Nat.le_of_ble_eq_true rfl, Nat.le_of_ble_eq_true rfl⟩ dX0_hearAsk_93 rfl ?_
        refine x_aload_n C dX0_hearAsk_96 rfl (q := 0) rfl ?_
        refine x_get C cl_X0 2 (by decide) fl_X0_91_X0 (dm_25 hi) rfl rfl dX0_hearAsk_97 ?_
        refine x_aload_n C dX0_hearAsk_100 rfl (q := 0) rfl ?_
        refine x_get C cl_X0 2 (by decide) fl_X0_91_X0 (dm_25 hi) rfl rfl dX0_hearAsk_101 ?_
        refine x_get C cl_X5 2 (by decide) fl_X0_104_X5 (dm_11 z) rfl rfl dX0_hearAsk_104 ?_
        refine x_aload_n C dX0_hearAsk_107 rfl (q := 0) rfl ?_
        refine x_get C cl_X0 1 (by decide) fl_X0_108_X0 (dm_25 hi) rfl rfl dX0_hearAsk_108 ?_
        refine x_aload_n C dX0_hearAsk_111 rfl (q := 1) rfl ?_
        refine x_get C cl_X3 3 (by decide) fl_X0_57_X3 (dm_13 hmi) rfl rfl dX0_hearAsk_112 ?_
        refine x_letI h (fun v34 h => ?_)
        obtain ⟨r36, hq35, h⟩ := bnd1_some h
        refine x_callV_i C (m_X7_acceptorOf hq35) wv_X0_112 (x_recv C.2.2.2 cl_X7 (dm_1 z) rfl) rfl (Nat.le_of_ble_eq_true rfl) ⟨⟨rfl, rfl⟩, Nat.le_of_ble_eq_true rfl, Nat.le_of_ble_eq_true rfl⟩ dX0_hearAsk_115 rfl ?_
        obtain ⟨r38, s39, hq37, h⟩ := bnd2_some h
        refine x_callV_i C (m_X5_post xb_d hq37) wv_X0_116 (x_recv C.2.2.2 cl_X5 (dm_11 z) rfl) rfl (Nat.le_of_ble_eq_true rfl) ⟨⟨rfl, rfl⟩, Nat.le_of_ble_eq_true rfl, Nat.le_of_ble_eq_true rfl⟩ dX0_hearAsk_118 rfl ?_
        refine x_pop C dX0_hearAsk_121 rfl ?_
        refine x_iconst C (v := 1) dX0_hearAsk_122 (by decide) ?_
        cases h
        exact xr_z C (by decide) hr dX0_hearAsk_123 (fun _ h => h)
      · refine x_iconst C (v := 0) dX0_hearAsk_34 (by decide) ?_
        cases h
        exact xr_z C (by decide) hr dX0_hearAsk_35 (fun _ h => h)
  · refine x_iconst C (v := 1) dX0_hearAsk_11 (by decide) ?_
    cases h
    exact xr_z C (by decide) hr dX0_hearAsk_12 (fun _ h => h)
def f_X0_hearPromise_L72 (z : Nat → Nat) (i : Nat) (mi : Nat) (ti : Nat) : Nat → Int32 → Sg → Option Sg
  | 0, _, _ => none
  | n + 1, y20, s21 => if (nI (z 0)) ≤ y20 then (some (s21)) else (letv (s21.1 13 mi 0 2) fun v26 => bnd1 (f_X8_touches z s21 v26 y20) fun r28 => if r28 = 0 then (letv (y20 + 1) fun v30 => f_X0_hearPromise_L72 z i mi ti n v30 s21) else (letv (s21.1 13 mi 0 2) fun v31 => letv (s21.1 13 mi 0 3) fun v32 => bnd1 (f_X9_keptOrNo z s21 i ti y20) fun r34 => bnd1 (f_X5_startDraftOfVote z s21 2 v31 (nI (z 0 + i)) v32 y20 r34) fun s36 => bnd1 (f_X5_postDraftToAcceptors z s36) fun s38 => letv (y20 + 1) fun v39 => f_X0_hearPromise_L72 z i mi ti n v39 s38))
def f_X0_hearPromise (z : Nat → Nat) (σ : Sg) (i : Nat) (mi : Nat) (ti : Nat) : Option Sg :=
  letv (σ.1 13 mi 0 3) fun v1 => bnd1 (f_X9_listensFor z σ i ti v1) fun r3 => if r3 = 0 then (some (σ)) else (letv (σ.1 27 i ti 4) fun v5 => bnd1 (f_X7_isMajority z σ v5) fun r7 => if r7 = 0 then (letv (σ.1 27 i ti 4) fun v9 => letv (σ.1 13 mi 0 6) fun v10 => bnd1 (f_X0_bitOf z σ i v10) fun r12 => letv (upI σ 27 i ti 4 (v9 ||| r12)) fun s13 => bnd1 (f_X9_keepGreatest z s13 i ti mi) fun s15 => letv (s15.1 27 i ti 4) fun v16 => bnd1 (f_X7_isMajority z s15 v16) fun r18 => if r18 = 0 then (some (s15)) else (bnd1 (f_X0_hearPromise_L72 z i mi ti FU 0 s15) fun (s22 : Sg) => some (s22))) else (some (σ)))
def rm_X0_hearPromise : Room := { frames := 3, cells := 0, slots := 0, locals := 66 }
set_option maxRecDepth 100000 in
set_option maxHeartbeats 4000000 in
theorem m_X0_hearPromise {l : Launch} {G : xG} {z : Nat → Nat} {σ : Sg} {τ : Tg} {i : Nat} {mi : Nat} {ti : Nat} {sF : Sg} (hi : i < z 1) (hmi : mi < z 4 + 2) (hti : ti < z 2) (h : f_X0_hearPromise z σ i mi ti = some (sF)) : xMet l (xD G) (xcA G) (xbs G) yX0_hearPromise cX0_hearPromise 4 (Option.none : Option Jvm.ClassFile.FieldType) rm_X0_hearPromise [.ref (xad G 25 i 0), .ref (xad G 13 mi 0), .ref (xad G 27 i ti)] (xRep G z σ τ) (xRep G z sF τ) none 0 0 := by
  refine xMet.of RX0 rfl (by decide +kernel) (Nat.le_of_ble_eq_true rfl) ?_
  intro p e s m args below meth c C hr hnm
  unfold f_X0_hearPromise at h
  refine x_sub (L' := [(0, .ref (xad G 25 i 0)), (1, .ref (xad G 13 mi 0)), (2, .ref (xad G 27 i ti))]) [0, 1, 2] rfl ?_
  refine x_aload_n C dX0_hearPromise_0 rfl (q := 2) rfl ?_
  refine x_aload_n C dX0_hearPromise_1 rfl (q := 1) rfl ?_
  refine x_get C cl_X3 3 (by decide) fl_X0_57_X3 (dm_13 hmi) rfl rfl dX0_hearPromise_2 ?_
  refine x_letI h (fun v1 h => ?_)
  obtain ⟨r3, hq2, h⟩ := bnd1_some h
  refine x_callV_i C (m_X9_listensFor hi hti hq2) wv_X0_120 (x_recv C.2.2.2 cl_X9 (dm_27 hi hti) rfl) rfl (Nat.le_of_ble_eq_true rfl) ⟨⟨rfl, rfl⟩, Nat.le_of_ble_eq_true rfl, Nat.le_of_ble_eq_true rfl⟩ dX0_hearPromise_5 rfl ?_
  refine x_if_eq C (tgt := 25) dX0_hearPromise_8 (by decide) h (fun hc4 h => ?_) (fun hc4 h => ?_)
  · cases h
    exact xr_v C hr dX0_hearPromise_25 (fun _ h => h)
  · refine x_aload_n C dX0_hearPromise_11 rfl (q := 0) rfl ?_
    refine x_get C cl_X0 1 (by decide) fl_X0_108_X0 (dm_25 hi) rfl rfl dX0_hearPromise_12 ?_
    refine x_aload_n C dX0_hearPromise_15 rfl (q := 2) rfl ?_
    refine x_get C cl_X9 4 (by decide) fl_X0_179_X9 (dm_27 hi hti) rfl rfl dX0_hearPromise_16 ?_
    refine x_letI h (fun v5 h => ?_)
    obtain ⟨r7, hq6, h⟩ := bnd1_some h
    refine x_callV_i C (m_X7_isMajority hq6) wv_X0_153 (x_recv C.2.2.2 cl_X7 (dm_1 z) rfl) rfl (Nat.le_of_ble_eq_true rfl) ⟨⟨rfl, rfl⟩, Nat.le_of_ble_eq_true rfl, Nat.le_of_ble_eq_true rfl⟩ dX0_hearPromise_19 rfl ?_
    refine x_if_eq C (tgt := 26) dX0_hearPromise_22 (by decide) h (fun hc8 h => ?_) (fun hc8 h => ?_)
    · refine x_aload_n C dX0_hearPromise_26 rfl (q := 2) rfl ?_
      refine x_dup C dX0_hearPromise_27 rfl ?_
      refine x_get C cl_X9 4 (by decide) fl_X0_179_X9 (dm_27 hi hti) rfl rfl dX0_hearPromise_28 ?_
      refine x_letI h (fun v9 h => ?_)
      refine x_aload_n C dX0_hearPromise_31 rfl (q := 0) rfl ?_
      refine x_aload_n C dX0_hearPromise_32 rfl (q := 1) rfl ?_
      refine x_get C cl_X3 6 (by decide) fl_X0_124_X3 (dm_13 hmi) rfl rfl dX0_hearPromise_33 ?_
      refine x_letI h (fun v10 h => ?_)
      obtain ⟨r12, hq11, h⟩ := bnd1_some h
      refine x_callV_i C (m_X0_bitOf hi hq11) wv_X0_127 (x_recv C.2.2.2 cl_X0 (dm_25 hi) rfl) rfl (Nat.le_of_ble_eq_true rfl) ⟨⟨rfl, rfl⟩, Nat.le_of_ble_eq_true rfl, Nat.le_of_ble_eq_true rfl⟩ dX0_hearPromise_36 rfl ?_
      refine x_ior C dX0_hearPromise_39 ?_
      refine x_putI C cl_X9 4 (by decide) fl_X0_179_X9 rfl (dm_27 hi hti) (fun _ _ _ => rfl) (fun _ _ _ => rfl) (fun _ _ _ => Nat.le_of_ble_eq_true rfl) rfl rfl dX0_hearPromise_40 h (fun s13 h => ?_)
      refine x_aload_n C dX0_hearPromise_43 rfl (q := 2) rfl ?_
      refine x_aload_n C dX0_hearPromise_44 rfl (q := 1) rfl ?_
      refine x_get C cl_X3 7 (by decide) fl_X0_182_X3 (dm_13 hmi) rfl rfl dX0_hearPromise_45 ?_
      refine x_aload_n C dX0_hearPromise_48 rfl (q := 1) rfl ?_
      refine x_get C cl_X3 8 (by decide) fl_X0_185_X3 (dm_13 hmi) rfl rfl dX0_hearPromise_49 ?_
      obtain ⟨s15, hq14, h⟩ := bnd1_some h
      refine x_callV_v C (m_X9_keepGreatest hi hti hmi hq14) wv_X0_188 (x_recv C.2.2.2 cl_X9 (dm_27 hi hti) rfl) rfl (Nat.le_of_ble_eq_true rfl) ⟨⟨rfl, rfl⟩, Nat.le_of_ble_eq_true rfl, Nat.le_of_ble_eq_true rfl⟩ dX0_hearPromise_52 rfl ?_
      refine x_aload_n C dX0_hearPromise_55 rfl (q := 0) rfl ?_
      refine x_get C cl_X0 1 (by decide) fl_X0_108_X0 (dm_25 hi) rfl rfl dX0_hearPromise_56 ?_
      refine x_aload_n C dX0_hearPromise_59 rfl (q := 2) rfl ?_
      refine x_get C cl_X9 4 (by decide) fl_X0_179_X9 (dm_27 hi hti) rfl rfl dX0_hearPromise_60 ?_
      refine x_letI h (fun v16 h => ?_)
      obtain ⟨r18, hq17, h⟩ := bnd1_some h
      refine x_callV_i C (m_X7_isMajority hq17) wv_X0_153 (x_recv C.2.2.2 cl_X7 (dm_1 z) rfl) rfl (Nat.le_of_ble_eq_true rfl) ⟨⟨rfl, rfl⟩, Nat.le_of_ble_eq_true rfl, Nat.le_of_ble_eq_true rfl⟩ dX0_hearPromise_63 rfl ?_
      refine x_if_ne C (tgt := 70) dX0_hearPromise_66 (by decide) h (fun hc19 h => ?_) (fun hc19 h => ?_)
      · refine x_iconst C (v := 0) dX0_hearPromise_70 (by decide) ?_
        refine x_istore_n C (L' := [(3, .int 0), (0, .ref (xad G 25 i 0)), (1, .ref (xad G 13 mi 0)), (2, .ref (xad G 27 i ti))]) dX0_hearPromise_71 rfl (by decide) rfl ?_
        obtain ⟨s22, hv24, h⟩ := bnd1_some h
        refine x_join (Ω' := (xRep G z s22 τ)) (pc' := 137) (L' := []) (st' := []) ?_ (fun hj23 => ?_)
        · cases h
          exact xr_v C hr dX0_hearPromise_137 (fun _ h => h)
        · have hl40 : ∀ (n : Nat) (y20 : Int32) (s21 : Sg), f_X0_hearPromise_L72 z i mi ti n y20 s21 = some (s22) → XW p l e rm_X0_hearPromise s m args below meth c 0 0 4 (xbs G) (xQ below args s (xbs G) none (xRep G z sF τ) 0 0) (xRep G z s21 τ) 72 [(0, .ref (xad G 25 i 0)), (1, .ref (xad G 13 mi 0)), (2, .ref (xad G 27 i ti)), (3, .int y20)] [] := by
            intro n
            induction n with
            | zero =>
              intro y20 s21 h
              exact absurd h (by rw [f_X0_hearPromise_L72]; intro q; cases q)
            | succ n ih =>
              intro y20 s21 h
              rw [f_X0_hearPromise_L72] at h
              refine x_iload_n C dX0_hearPromise_72 rfl (q := 3) rfl ?_
              refine x_aload_n C dX0_hearPromise_73 rfl (q := 0) rfl ?_
              refine x_get C cl_X0 1 (by decide) fl_X0_108_X0 (dm_25 hi) rfl rfl dX0_hearPromise_74 ?_
              refine x_get C cl_X7 0 (by decide) fl_X0_3_X7 (dm_1 z) rfl rfl dX0_hearPromise_77 ?_
              refine x_icmp_ge C (tgt := 137) dX0_hearPromise_80 (by decide) h (fun hc25 h => ?_) (fun hc25 h => ?_)
              · cases h
                exact x_sub [] rfl hj23
              · refine x_aload_n C dX0_hearPromise_83 rfl (q := 0) rfl ?_
                refine x_get C cl_X0 7 (by decide) fl_X0_20_X0 (dm_25 hi) rfl rfl dX0_hearPromise_84 ?_
                refine x_aload_n C dX0_hearPromise_87 rfl (q := 1) rfl ?_
                refine x_get C cl_X3 2 (by decide) fl_X0_35_X3 (dm_13 hmi) rfl rfl dX0_hearPromise_88 ?_
                refine x_letI h (fun v26 h => ?_)
                refine x_iload_n C dX0_hearPromise_91 rfl (q := 3) rfl ?_
                obtain ⟨r28, hq27, h⟩ := bnd1_some h
                refine x_callV_i C (m_X8_touches hq27) wv_X0_143 (x_recv C.2.2.2 cl_X8 (dm_2 z) rfl) rfl (Nat.le_of_ble_eq_true rfl) ⟨⟨rfl, rfl⟩, Nat.le_of_ble_eq_true rfl, Nat.le_of_ble_eq_true rfl⟩ dX0_hearPromise_92 rfl ?_
                refine x_if_eq C (tgt := 131) dX0_hearPromise_95 (by decide) h (fun hc29 h => ?_) (fun hc29 h => ?_)
                · refine x_iincL C (w := 1) (L' := fun v30 => [(3, .int v30), (0, .ref (xad G 25 i 0)), (1, .ref (xad G 13 mi 0)), (2, .ref (xad G 27 i ti))]) dX0_hearPromise_131 (k := 3) rfl (by decide) (by decide) (fun _ => rfl) h (fun v30 h => ?_)
                  refine x_goto C (tgt := 72) dX0_hearPromise_134 (by decide) ?_
                  exact x_sub [1, 2, 3, 0] rfl (ih _ _ h)
                · refine x_aload_n C dX0_hearPromise_98 rfl (q := 0) rfl ?_
                  refine x_get C cl_X0 2 (by decide) fl_X0_91_X0 (dm_25 hi) rfl rfl dX0_hearPromise_99 ?_
                  refine x_iconst C (v := 2) dX0_hearPromise_102 (by decide) ?_
                  refine x_aload_n C dX0_hearPromise_103 rfl (q := 1) rfl ?_
                  refine x_get C cl_X3 2 (by decide) fl_X0_35_X3 (dm_13 hmi) rfl rfl dX0_hearPromise_104 ?_
                  refine x_letI h (fun v31 h => ?_)
                  refine x_aload_n C dX0_hearPromise_107 rfl (q := 0) rfl ?_
                  refine x_get C cl_X0 0 (by decide) fl_X0_95_X0 (dm_25 hi) rfl rfl dX0_hearPromise_108 ?_
                  refine x_aload_n C dX0_hearPromise_111 rfl (q := 1) rfl ?_
                  refine x_get C cl_X3 3 (by decide) fl_X0_57_X3 (dm_13 hmi) rfl rfl dX0_hearPromise_112 ?_
                  refine x_letI h (fun v32 h => ?_)
                  refine x_iload_n C dX0_hearPromise_115 rfl (q := 3) rfl ?_
                  refine x_aload_n C dX0_hearPromise_116 rfl (q := 2) rfl ?_
                  refine x_iload_n C dX0_hearPromise_117 rfl (q := 3) rfl ?_
                  obtain ⟨r34, hq33, h⟩ := bnd1_some h
                  refine x_callV_i C (m_X9_keptOrNo hi hti hq33) wv_X0_191 (x_recv C.2.2.2 cl_X9 (dm_27 hi hti) rfl) rfl (Nat.le_of_ble_eq_true rfl) ⟨⟨rfl, rfl⟩, Nat.le_of_ble_eq_true rfl, Nat.le_of_ble_eq_true rfl⟩ dX0_hearPromise_118 rfl ?_
                  obtain ⟨s36, hq35, h⟩ := bnd1_some h
                  refine x_callV_v C (m_X5_startDraftOfVote hq35) wv_X0_98 (x_recv C.2.2.2 cl_X5 (dm_11 z) rfl) rfl (Nat.le_of_ble_eq_true rfl) ⟨⟨rfl, rfl⟩, Nat.le_of_ble_eq_true rfl, Nat.le_of_ble_eq_true rfl⟩ dX0_hearPromise_121 rfl ?_
                  refine x_aload_n C dX0_hearPromise_124 rfl (q := 0) rfl ?_
                  refine x_get C cl_X0 2 (by decide) fl_X0_91_X0 (dm_25 hi) rfl rfl dX0_hearPromise_125 ?_
                  obtain ⟨s38, hq37, h⟩ := bnd1_some h
                  refine x_callV_v C (m_X5_postDraftToAcceptors hq37) wv_X0_194 (x_recv C.2.2.2 cl_X5 (dm_11 z) rfl) rfl (Nat.le_of_ble_eq_true rfl) ⟨⟨rfl, rfl⟩, Nat.le_of_ble_eq_true rfl, Nat.le_of_ble_eq_true rfl⟩ dX0_hearPromise_128 rfl ?_
                  refine x_iincL C (w := 1) (L' := fun v39 => [(3, .int v39), (0, .ref (xad G 25 i 0)), (1, .ref (xad G 13 mi 0)), (2, .ref (xad G 27 i ti))]) dX0_hearPromise_131 (k := 3) rfl (by decide) (by decide) (fun _ => rfl) h (fun v39 h => ?_)
                  refine x_goto C (tgt := 72) dX0_hearPromise_134 (by decide) ?_
                  exact x_sub [1, 2, 3, 0] rfl (ih _ _ h)
          exact x_sub [1, 2, 3, 0] rfl (hl40 FU _ _ hv24)
      · cases h
        exact xr_v C hr dX0_hearPromise_69 (fun _ h => h)
    · cases h
      exact xr_v C hr dX0_hearPromise_25 (fun _ h => h)
def f_X0_hear (z : Nat → Nat) (σ : Sg) (i : Nat) (mi : Nat) : Option (Int32 × Sg) :=
  letv (σ.1 13 mi 0 2) fun v1 => gdx v1 (z 2) fun k2 => letv (σ.1 13 mi 0 0) fun v3 => if v3 = 2 then (bnd2 (f_X0_hearVote z σ i mi k2) fun r6 s7 => gdb r6 <| some (r6, s7)) else (if v3 = 3 then (bnd1 (f_X0_hearAccepted z σ i mi k2) fun s10 => some (1, s10)) else (if v3 = 4 then (bnd2 (f_X0_hearAsk z σ i mi k2) fun r13 s14 => gdb r13 <| some (r13, s14)) else (if v3 = 5 then (bnd1 (f_X0_hearPromise z σ i mi k2) fun s17 => some (1, s17)) else (some (1, σ)))))
def rm_X0_hear : Room := { frames := 4, cells := 0, slots := 0, locals := 91 }
set_option maxRecDepth 100000 in
set_option maxHeartbeats 4000000 in
theorem m_X0_hear {l : Launch} {G : xG} {z : Nat → Nat} {σ : Sg} {τ : Tg} {i : Nat} {mi : Nat} {rF : Int32} {sF : Sg} (hi : i < z 1) (hmi : mi < z 4 + 2) (h : f_X0_hear z σ i mi = some (rF, sF)) : xMet l (xD G) (xcA G) (xbs G) yX0_hear cX0_hear 3 (Option.some Jvm.ClassFile.FieldType.boolean) rm_X0_hear [.ref (xad G 25 i 0), .ref (xad G 13 mi 0)] (xRep G z σ τ) (xRep G z sF τ) (some (.int rF)) 0 0 := by
  refine xMet.of RX0 rfl (by decide +kernel) (Nat.le_of_ble_eq_true rfl) ?_
  intro p e s m args below meth c C hr hnm
  unfold f_X0_hear at h
  refine x_sub (L' := [(0, .ref (xad G 25 i 0)), (1, .ref (xad G 13 mi 0))]) [0, 1] rfl ?_
  refine x_aload_n C dX0_hear_0 rfl (q := 0) rfl ?_
  refine x_get C cl_X0 5 (by decide) fl_X0_28_X0 (dm_25 hi) rfl rfl dX0_hear_1 ?_
  refine x_aload_n C dX0_hear_4 rfl (q := 1) rfl ?_
  refine x_get C cl_X3 2 (by decide) fl_X0_35_X3 (dm_13 hmi) rfl rfl dX0_hear_5 ?_
  refine x_letI h (fun v1 h => ?_)
  refine x_aald C 8 rfl rfl (dm_26 hi) rfl dX0_hear_8 h (fun k2 hk2 h => ?_)
  refine x_astore_n C (L' := [(2, .ref (xad G 27 i k2)), (0, .ref (xad G 25 i 0)), (1, .ref (xad G 13 mi 0))]) dX0_hear_9 rfl (by decide) rfl ?_
  refine x_aload_n C dX0_hear_10 rfl (q := 2) rfl ?_
  refine x_get C cl_X3 0 (by decide) fl_X0_40_X3 (dm_13 hmi) rfl rfl dX0_hear_11 ?_
  refine x_letI h (fun v3 h => ?_)
  refine x_ite h (fun hc4 h => ?_) (fun hc4 h => ?_)
  · refine x_tableIn C (off := 30) (tgt := 44) dX0_hear_14 2 hc4 (by decide) (by decide) rfl (by decide) ?_
    refine x_aload_n C dX0_hear_44 rfl (q := 1) rfl ?_
    refine x_aload_n C dX0_hear_45 rfl (q := 2) rfl ?_
    refine x_aload_n C dX0_hear_46 rfl (q := 0) rfl ?_
    obtain ⟨r6, s7, hq5, h⟩ := bnd2_some h
    refine x_callV_i C (m_X0_hearVote hi hmi hk2 hq5) wv_X0_43 (x_recv C.2.2.2 cl_X0 (dm_25 hi) rfl) rfl (Nat.le_of_ble_eq_true rfl) ⟨⟨rfl, rfl⟩, Nat.le_of_ble_eq_true rfl, Nat.le_of_ble_eq_true rfl⟩ dX0_hear_47 rfl ?_
    obtain ⟨hb, h⟩ := gdb_some h
    cases h
    exact xr_z C hb hr dX0_hear_50 (fun _ h => h)
  · refine x_ite h (fun hc8 h => ?_) (fun hc8 h => ?_)
    · refine x_tableIn C (off := 37) (tgt := 51) dX0_hear_14 3 hc8 (by decide) (by decide) rfl (by decide) ?_
      refine x_aload_n C dX0_hear_51 rfl (q := 1) rfl ?_
      refine x_aload_n C dX0_hear_52 rfl (q := 2) rfl ?_
      refine x_aload_n C dX0_hear_53 rfl (q := 0) rfl ?_
      obtain ⟨s10, hq9, h⟩ := bnd1_some h
      refine x_callV_v C (m_X0_hearAccepted hi hmi hk2 hq9) wv_X0_47 (x_recv C.2.2.2 cl_X0 (dm_25 hi) rfl) rfl (Nat.le_of_ble_eq_true rfl) ⟨⟨rfl, rfl⟩, Nat.le_of_ble_eq_true rfl, Nat.le_of_ble_eq_true rfl⟩ dX0_hear_54 rfl ?_
      refine x_iconst C (v := 1) dX0_hear_57 (by decide) ?_
      cases h
      exact xr_z C (by decide) hr dX0_hear_58 (fun _ h => h)
    · refine x_ite h (fun hc11 h => ?_) (fun hc11 h => ?_)
      · refine x_tableIn C (off := 45) (tgt := 59) dX0_hear_14 4 hc11 (by decide) (by decide) rfl (by decide) ?_
        refine x_aload_n C dX0_hear_59 rfl (q := 1) rfl ?_
        refine x_aload_n C dX0_hear_60 rfl (q := 2) rfl ?_
        refine x_aload_n C dX0_hear_61 rfl (q := 0) rfl ?_
        obtain ⟨r13, s14, hq12, h⟩ := bnd2_some h
        refine x_callV_i C (m_X0_hearAsk hi hmi hk2 hq12) wv_X0_51 (x_recv C.2.2.2 cl_X0 (dm_25 hi) rfl) rfl (Nat.le_of_ble_eq_true rfl) ⟨⟨rfl, rfl⟩, Nat.le_of_ble_eq_true rfl, Nat.le_of_ble_eq_true rfl⟩ dX0_hear_62 rfl ?_
        obtain ⟨hb, h⟩ := gdb_some h
        cases h
        exact xr_z C hb hr dX0_hear_65 (fun _ h => h)
      · refine x_ite h (fun hc15 h => ?_) (fun hc15 h => ?_)
        · refine x_tableIn C (off := 52) (tgt := 66) dX0_hear_14 5 hc15 (by decide) (by decide) rfl (by decide) ?_
          refine x_aload_n C dX0_hear_66 rfl (q := 1) rfl ?_
          refine x_aload_n C dX0_hear_67 rfl (q := 2) rfl ?_
          refine x_aload_n C dX0_hear_68 rfl (q := 0) rfl ?_
          obtain ⟨s17, hq16, h⟩ := bnd1_some h
          refine x_callV_v C (m_X0_hearPromise hi hmi hk2 hq16) wv_X0_54 (x_recv C.2.2.2 cl_X0 (dm_25 hi) rfl) rfl (Nat.le_of_ble_eq_true rfl) ⟨⟨rfl, rfl⟩, Nat.le_of_ble_eq_true rfl, Nat.le_of_ble_eq_true rfl⟩ dX0_hear_69 rfl ?_
          refine x_iconst C (v := 1) dX0_hear_72 (by decide) ?_
          cases h
          exact xr_z C (by decide) hr dX0_hear_73 (fun _ h => h)
        · refine x_tableOut C (tgt := 74) dX0_hear_14 (by have a0 := xI_ne (k := 2) 2 (by decide) hc4; have a1 := xI_ne (k := 3) 3 (by decide) hc8; have a2 := xI_ne (k := 4) 4 (by decide) hc11; have a3 := xI_ne (k := 5) 5 (by decide) hc15; omega) (by decide) ?_
          refine x_iconst C (v := 1) dX0_hear_74 (by decide) ?_
          cases h
          exact xr_z C (by decide) hr dX0_hear_75 (fun _ h => h)
def f_X0_nextOwn (z : Nat → Nat) (σ : Sg) (i : Nat) (x1 : Int32) : Option Int32 :=
  letv (x1 + 1) fun v1 => bnd1 (f_J9_floorMod_7cf53 ((nI i) - v1) (nI (z 1))) fun r3 => some (v1 + r3)
def rm_X0_nextOwn : Room := { frames := 1, cells := 0, slots := 0, locals := 22 }
set_option maxRecDepth 100000 in
set_option maxHeartbeats 4000000 in
theorem m_X0_nextOwn {l : Launch} {G : xG} {z : Nat → Nat} {σ : Sg} {τ : Tg} {i : Nat} {x1 : Int32} {rF : Int32} (hi : i < z 1) (h : f_X0_nextOwn z σ i x1 = some (rF)) : xMet l (xD G) (xcA G) (xbs G) yX0_nextOwn cX0_nextOwn 3 (Option.some Jvm.ClassFile.FieldType.int) rm_X0_nextOwn [.ref (xad G 25 i 0), .int x1] (xRep G z σ τ) (xRep G z σ τ) (some (.int rF)) 0 0 := by
  refine xMet.of RX0 rfl (by decide +kernel) (Nat.le_of_ble_eq_true rfl) ?_
  intro p e s m args below meth c C hr hnm
  unfold f_X0_nextOwn at h
  refine x_sub (L' := [(0, .ref (xad G 25 i 0)), (1, .int x1)]) [0, 1] rfl ?_
  refine x_iload_n C dX0_nextOwn_0 rfl (q := 1) rfl ?_
  refine x_iconst C (v := 1) dX0_nextOwn_1 (by decide) ?_
  refine x_iadd C dX0_nextOwn_2 ?_
  refine x_letI h (fun v1 h => ?_)
  refine x_istore_n C (L' := [(2, .int v1), (0, .ref (xad G 25 i 0)), (1, .int x1)]) dX0_nextOwn_3 rfl (by decide) rfl ?_
  refine x_iload_n C dX0_nextOwn_4 rfl (q := 0) rfl ?_
  refine x_aload_n C dX0_nextOwn_5 rfl (q := 1) rfl ?_
  refine x_get C cl_X0 6 (by decide) fl_X0_15_X0 (dm_25 hi) rfl rfl dX0_nextOwn_6 ?_
  refine x_iload_n C dX0_nextOwn_9 rfl (q := 0) rfl ?_
  refine x_isub C dX0_nextOwn_10 ?_
  refine x_aload_n C dX0_nextOwn_11 rfl (q := 1) rfl ?_
  refine x_get C cl_X0 1 (by decide) fl_X0_108_X0 (dm_25 hi) rfl rfl dX0_nextOwn_12 ?_
  refine x_get C cl_X7 1 (by decide) fl_X0_218_X7 (dm_1 z) rfl rfl dX0_nextOwn_15 ?_
  obtain ⟨r3, hq2, h⟩ := bnd1_some h
  refine x_callS_i C (m_J9_floorMod_7cf53 hq2) ws_X0_221 rfl (Nat.le_of_ble_eq_true rfl) ⟨⟨rfl, rfl⟩, Nat.le_of_ble_eq_true rfl, Nat.le_of_ble_eq_true rfl⟩ dX0_nextOwn_18 rfl ?_
  refine x_iadd C dX0_nextOwn_21 ?_
  cases h
  exact xr_i C hr dX0_nextOwn_22 (fun _ h => h)
def f_X0_takeOver (z : Nat → Nat) (σ : Sg) (i : Nat) (x1 : Int32) : Option (Int32 × Sg) :=
  gdx x1 (z 2) fun k1 => letv (σ.1 25 i 0 4) fun v2 => if v2 = 0 then (some (0, σ)) else (letv (σ.1 27 i k1 3) fun v4 => if v4 = 0 then (bnd1 (f_X2_isFull z σ (z 0 + i)) fun r7 => if r7 = 0 then (letv (σ.1 27 i k1 2) fun v9 => letv (σ.1 27 i k1 1) fun v10 => bnd1 (f_J9_max_7cf53 v9 v10) fun r12 => bnd1 (f_J9_max_7cf53 0 r12) fun r14 => bnd1 (f_X0_nextOwn z σ i r14) fun r16 => bnd1 (f_X9_lead z σ i k1 r16) fun s18 => bnd1 (f_X0_promise z s18 i x1 r16) fun s20 => bnd1 (f_X5_startDraft z s20 4 x1 (nI (z 0 + i))) fun s22 => letv (upI s22 13 (z 4) 0 3 r16) fun s23 => bnd1 (f_X5_postDraftToAcceptors z s23) fun s25 => some (r16, s25)) else (some (0, σ))) else (some (0, σ)))
def rm_X0_takeOver : Room := { frames := 3, cells := 0, slots := 0, locals := 66 }
set_option maxRecDepth 100000 in
set_option maxHeartbeats 4000000 in
theorem m_X0_takeOver {l : Launch} {G : xG} {z : Nat → Nat} {σ : Sg} {τ : Tg} {i : Nat} {x1 : Int32} {rF : Int32} {sF : Sg} (hi : i < z 1) (h : f_X0_takeOver z σ i x1 = some (rF, sF)) : xMet l (xD G) (xcA G) (xbs G) yX0_takeOver cX0_takeOver 4 (Option.some Jvm.ClassFile.FieldType.int) rm_X0_takeOver [.ref (xad G 25 i 0), .int x1] (xRep G z σ τ) (xRep G z sF τ) (some (.int rF)) 0 0 := by
  refine xMet.of RX0 rfl (by decide +kernel) (Nat.le_of_ble_eq_true rfl) ?_
  intro p e s m args below meth c C hr hnm
  unfold f_X0_takeOver at h
  refine x_sub (L' := [(0, .ref (xad G 25 i 0)), (1, .int x1)]) [0, 1] rfl ?_
  refine x_aload_n C dX0_takeOver_0 rfl (q := 0) rfl ?_
  refine x_get C cl_X0 5 (by decide) fl_X0_28_X0 (dm_25 hi) rfl rfl dX0_takeOver_1 ?_
  refine x_iload_n C dX0_takeOver_4 rfl (q := 1) rfl ?_
  refine x_aald C 8 rfl rfl (dm_26 hi) rfl dX0_takeOver_5 h (fun k1 hk1 h => ?_)
  refine x_astore_n C (L' := [(2, .ref (xad G 27 i k1)), (0, .ref (xad G 25 i 0)), (1, .int x1)]) dX0_takeOver_6 rfl (by decide) rfl ?_
  refine x_aload_n C dX0_takeOver_7 rfl (q := 1) rfl ?_
  refine x_get C cl_X0 4 (by decide) fl_X0_198_X0 (dm_25 hi) rfl rfl dX0_takeOver_8 ?_
  refine x_letI h (fun v2 h => ?_)
  refine x_if_eq C (tgt := 31) dX0_takeOver_11 (by decide) h (fun hc3 h => ?_) (fun hc3 h => ?_)
  · refine x_iconst C (v := 0) dX0_takeOver_31 (by decide) ?_
    cases h
    exact xr_i C hr dX0_takeOver_32 (fun _ h => h)
  · refine x_aload_n C dX0_takeOver_14 rfl (q := 0) rfl ?_
    refine x_get C cl_X9 3 (by decide) fl_X0_137_X9 (dm_27 hi hk1) rfl rfl dX0_takeOver_15 ?_
    refine x_letI h (fun v4 h => ?_)
    refine x_if_ne C (tgt := 31) dX0_takeOver_18 (by decide) h (fun hc5 h => ?_) (fun hc5 h => ?_)
    · refine x_iconst C (v := 0) dX0_takeOver_31 (by decide) ?_
      cases h
      exact xr_i C hr dX0_takeOver_32 (fun _ h => h)
    · refine x_aload_n C dX0_takeOver_21 rfl (q := 1) rfl ?_
      refine x_get C cl_X0 3 (by decide) fl_X0_73_X0 (dm_25 hi) rfl rfl dX0_takeOver_22 ?_
      obtain ⟨r7, hq6, h⟩ := bnd1_some h
      refine x_callV_i C (m_X2_isFull (xb_a hi) hq6) wv_X0_77 (x_recv C.2.2.2 cl_X2 (dm_18 (xb_a hi)) rfl) rfl (Nat.le_of_ble_eq_true rfl) ⟨⟨rfl, rfl⟩, Nat.le_of_ble_eq_true rfl, Nat.le_of_ble_eq_true rfl⟩ dX0_takeOver_25 rfl ?_
      refine x_if_eq C (tgt := 33) dX0_takeOver_28 (by decide) h (fun hc8 h => ?_) (fun hc8 h => ?_)
      · refine x_aload_n C dX0_takeOver_33 rfl (q := 1) rfl ?_
        refine x_iconst C (v := 0) dX0_takeOver_34 (by decide) ?_
        refine x_aload_n C dX0_takeOver_35 rfl (q := 0) rfl ?_
        refine x_get C cl_X9 2 (by decide) fl_X0_202_X9 (dm_27 hi hk1) rfl rfl dX0_takeOver_36 ?_
        refine x_letI h (fun v9 h => ?_)
        refine x_aload_n C dX0_takeOver_39 rfl (q := 0) rfl ?_
        refine x_get C cl_X9 1 (by decide) fl_X0_60_X9 (dm_27 hi hk1) rfl rfl dX0_takeOver_40 ?_
        refine x_letI h (fun v10 h => ?_)
        obtain ⟨r12, hq11, h⟩ := bnd1_some h
        refine x_callS_i C (m_J9_max_7cf53 hq11) ws_X0_205 rfl (Nat.le_of_ble_eq_true rfl) ⟨⟨rfl, rfl⟩, Nat.le_of_ble_eq_true rfl, Nat.le_of_ble_eq_true rfl⟩ dX0_takeOver_43 rfl ?_
        obtain ⟨r14, hq13, h⟩ := bnd1_some h
        refine x_callS_i C (m_J9_max_7cf53 hq13) ws_X0_205 rfl (Nat.le_of_ble_eq_true rfl) ⟨⟨rfl, rfl⟩, Nat.le_of_ble_eq_true rfl, Nat.le_of_ble_eq_true rfl⟩ dX0_takeOver_46 rfl ?_
        obtain ⟨r16, hq15, h⟩ := bnd1_some h
        refine x_callV_i C (m_X0_nextOwn hi hq15) wv_X0_211 (x_recv C.2.2.2 cl_X0 (dm_25 hi) rfl) rfl (Nat.le_of_ble_eq_true rfl) ⟨⟨rfl, rfl⟩, Nat.le_of_ble_eq_true rfl, Nat.le_of_ble_eq_true rfl⟩ dX0_takeOver_49 rfl ?_
        refine x_istore_n C (L' := [(3, .int r16), (2, .ref (xad G 27 i k1)), (0, .ref (xad G 25 i 0)), (1, .int x1)]) dX0_takeOver_52 rfl (by decide) rfl ?_
        refine x_aload_n C dX0_takeOver_53 rfl (q := 1) rfl ?_
        refine x_iload_n C dX0_takeOver_54 rfl (q := 0) rfl ?_
        obtain ⟨s18, hq17, h⟩ := bnd1_some h
        refine x_callV_v C (m_X9_lead hi hk1 hq17) wv_X0_214 (x_recv C.2.2.2 cl_X9 (dm_27 hi hk1) rfl) rfl (Nat.le_of_ble_eq_true rfl) ⟨⟨rfl, rfl⟩, Nat.le_of_ble_eq_true rfl, Nat.le_of_ble_eq_true rfl⟩ dX0_takeOver_55 rfl ?_
        refine x_aload_n C dX0_takeOver_58 rfl (q := 2) rfl ?_
        refine x_iload_n C dX0_takeOver_59 rfl (q := 3) rfl ?_
        refine x_iload_n C dX0_takeOver_60 rfl (q := 0) rfl ?_
        obtain ⟨s20, hq19, h⟩ := bnd1_some h
        refine x_callV_v C (m_X0_promise hi hq19) wv_X0_166 (x_recv C.2.2.2 cl_X0 (dm_25 hi) rfl) rfl (Nat.le_of_ble_eq_true rfl) ⟨⟨rfl, rfl⟩, Nat.le_of_ble_eq_true rfl, Nat.le_of_ble_eq_true rfl⟩ dX0_takeOver_61 rfl ?_
        refine x_aload_n C dX0_takeOver_64 rfl (q := 2) rfl ?_
        refine x_get C cl_X0 2 (by decide) fl_X0_91_X0 (dm_25 hi) rfl rfl dX0_takeOver_65 ?_
        refine x_iconst C (v := 4) dX0_takeOver_68 (by decide) ?_
        refine x_iload_n C dX0_takeOver_69 rfl (q := 3) rfl ?_
        refine x_aload_n C dX0_takeOver_70 rfl (q := 2) rfl ?_
        refine x_get C cl_X0 0 (by decide) fl_X0_95_X0 (dm_25 hi) rfl rfl dX0_takeOver_71 ?_
        obtain ⟨s22, hq21, h⟩ := bnd1_some h
        refine x_callV_v C (m_X5_startDraft hq21) wv_X0_159 (x_recv C.2.2.2 cl_X5 (dm_11 z) rfl) rfl (Nat.le_of_ble_eq_true rfl) ⟨⟨rfl, rfl⟩, Nat.le_of_ble_eq_true rfl, Nat.le_of_ble_eq_true rfl⟩ dX0_takeOver_74 rfl ?_
        refine x_aload_n C dX0_takeOver_77 rfl (q := 2) rfl ?_
        refine x_get C cl_X0 2 (by decide) fl_X0_91_X0 (dm_25 hi) rfl rfl dX0_takeOver_78 ?_
        refine x_get C cl_X5 2 (by decide) fl_X0_104_X5 (dm_11 z) rfl rfl dX0_takeOver_81 ?_
        refine x_iload_n C dX0_takeOver_84 rfl (q := 0) rfl ?_
        refine x_putI C cl_X3 3 (by decide) fl_X0_57_X3 rfl (dm_13 xb_d) (fun _ _ _ => rfl) (fun _ _ _ => rfl) (fun _ _ _ => Nat.le_of_ble_eq_true rfl) rfl rfl dX0_takeOver_85 h (fun s23 h => ?_)
        refine x_aload_n C dX0_takeOver_88 rfl (q := 2) rfl ?_
        refine x_get C cl_X0 2 (by decide) fl_X0_91_X0 (dm_25 hi) rfl rfl dX0_takeOver_89 ?_
        obtain ⟨s25, hq24, h⟩ := bnd1_some h
        refine x_callV_v C (m_X5_postDraftToAcceptors hq24) wv_X0_194 (x_recv C.2.2.2 cl_X5 (dm_11 z) rfl) rfl (Nat.le_of_ble_eq_true rfl) ⟨⟨rfl, rfl⟩, Nat.le_of_ble_eq_true rfl, Nat.le_of_ble_eq_true rfl⟩ dX0_takeOver_92 rfl ?_
        refine x_iload_n C dX0_takeOver_95 rfl (q := 0) rfl ?_
        cases h
        exact xr_i C hr dX0_takeOver_96 (fun _ h => h)
      · refine x_iconst C (v := 0) dX0_takeOver_31 (by decide) ?_
        cases h
        exact xr_i C hr dX0_takeOver_32 (fun _ h => h)
def f_X0_forget_L10 (z : Nat → Nat) (i : Nat) (v1 : Int32) : Nat → Int32 → Sg → Option Sg
  | 0, _, _ => none
  | n + 1, y2, s3 => if v1 ≤ y2 then (some (s3)) else (gdx y2 (z 2) fun k8 => bnd1 (f_X9_forget z s3 i k8) fun s10 => letv (y2 + 1) fun v11 => f_X0_forget_L10 z i v1 n v11 s10)
def f_X0_forget (z : Nat → Nat) (σ : Sg) (i : Nat) : Option Sg :=
  letv (nI (z 2)) fun v1 => bnd1 (f_X0_forget_L10 z i v1 FU 0 σ) fun (s4 : Sg) => some (s4)
def rm_X0_forget : Room := { frames := 3, cells := 0, slots := 0, locals := 64 }
set_option maxRecDepth 100000 in
set_option maxHeartbeats 4000000 in
theorem m_X0_forget {l : Launch} {G : xG} {z : Nat → Nat} {σ : Sg} {τ : Tg} {i : Nat} {sF : Sg} (hi : i < z 1) (h : f_X0_forget z σ i = some (sF)) : xMet l (xD G) (xcA G) (xbs G) yX0_forget cX0_forget 5 (Option.none : Option Jvm.ClassFile.FieldType) rm_X0_forget [.ref (xad G 25 i 0)] (xRep G z σ τ) (xRep G z sF τ) none 0 0 := by
  refine xMet.of RX0 rfl (by decide +kernel) (Nat.le_of_ble_eq_true rfl) ?_
  intro p e s m args below meth c C hr hnm
  unfold f_X0_forget at h
  refine x_sub (L' := [(0, .ref (xad G 25 i 0))]) [0] rfl ?_
  refine x_aload_n C dX0_forget_0 rfl (q := 0) rfl ?_
  refine x_get C cl_X0 5 (by decide) fl_X0_28_X0 (dm_25 hi) rfl rfl dX0_forget_1 ?_
  refine x_astore_n C (L' := [(1, .ref (xad G 26 i 0)), (0, .ref (xad G 25 i 0))]) dX0_forget_4 rfl (by decide) rfl ?_
  refine x_aload_n C dX0_forget_5 rfl (q := 0) rfl ?_
  refine x_alen C 8 rfl (dm_26 hi) rfl dX0_forget_6 ?_
  refine x_letI h (fun v1 h => ?_)
  refine x_istore_n C (L' := [(2, .int v1), (1, .ref (xad G 26 i 0)), (0, .ref (xad G 25 i 0))]) dX0_forget_7 rfl (by decide) rfl ?_
  refine x_iconst C (v := 0) dX0_forget_8 (by decide) ?_
  refine x_istore_n C (L' := [(3, .int 0), (2, .int v1), (1, .ref (xad G 26 i 0)), (0, .ref (xad G 25 i 0))]) dX0_forget_9 rfl (by decide) rfl ?_
  obtain ⟨s4, hv6, h⟩ := bnd1_some h
  refine x_join (Ω' := (xRep G z s4 τ)) (pc' := 31) (L' := []) (st' := []) ?_ (fun hj5 => ?_)
  · cases h
    exact xr_v C hr dX0_forget_31 (fun _ h => h)
  · have hl12 : ∀ (n : Nat) (y2 : Int32) (s3 : Sg), f_X0_forget_L10 z i v1 n y2 s3 = some (s4) → XW p l e rm_X0_forget s m args below meth c 0 0 5 (xbs G) (xQ below args s (xbs G) none (xRep G z sF τ) 0 0) (xRep G z s3 τ) 10 [(1, .ref (xad G 26 i 0)), (2, .int v1), (3, .int y2)] [] := by
      intro n
      induction n with
      | zero =>
        intro y2 s3 h
        exact absurd h (by rw [f_X0_forget_L10]; intro q; cases q)
      | succ n ih =>
        intro y2 s3 h
        rw [f_X0_forget_L10] at h
        refine x_iload_n C dX0_forget_10 rfl (q := 2) rfl ?_
        refine x_iload_n C dX0_forget_11 rfl (q := 1) rfl ?_
        refine x_icmp_ge C (tgt := 31) dX0_forget_12 (by decide) h (fun hc7 h => ?_) (fun hc7 h => ?_)
        · cases h
          exact x_sub [] rfl hj5
        · refine x_aload_n C dX0_forget_15 rfl (q := 0) rfl ?_
          refine x_iload_n C dX0_forget_16 rfl (q := 2) rfl ?_
          refine x_aald C 8 rfl rfl (dm_26 hi) rfl dX0_forget_17 h (fun k8 hk8 h => ?_)
          refine x_astore C (L' := [(4, .ref (xad G 27 i k8)), (1, .ref (xad G 26 i 0)), (2, .int v1), (3, .int y2)]) dX0_forget_18 (by decide) rfl ?_
          refine x_aload C dX0_forget_20 (q := 0) rfl ?_
          obtain ⟨s10, hq9, h⟩ := bnd1_some h
          refine x_callV_v C (m_X9_forget hi hk8 hq9) wv_X0_224 (x_recv C.2.2.2 cl_X9 (dm_27 hi hk8) rfl) rfl (Nat.le_of_ble_eq_true rfl) ⟨⟨rfl, rfl⟩, Nat.le_of_ble_eq_true rfl, Nat.le_of_ble_eq_true rfl⟩ dX0_forget_22 rfl ?_
          refine x_iincL C (w := 1) (L' := fun v11 => [(3, .int v11), (4, .ref (xad G 27 i k8)), (1, .ref (xad G 26 i 0)), (2, .int v1)]) dX0_forget_25 (k := 3) rfl (by decide) (by decide) (fun _ => rfl) h (fun v11 h => ?_)
          refine x_goto C (tgt := 10) dX0_forget_28 (by decide) ?_
          exact x_sub [2, 3, 0] rfl (ih _ _ h)
    exact x_sub [2, 1, 0] rfl (hl12 FU _ _ hv6)
def f_X0_unpromised_L13 (z : Nat → Nat) (σ : Sg) (i : Nat) (v1 : Int32) : Nat → Int32 → Int32 → Option Int32
  | 0, _, _ => none
  | n + 1, y2, y3 => if v1 ≤ y3 then (some (y2)) else (gdx y3 (z 2) fun k8 => letv (σ.1 27 i k8 1) fun v9 => if v9 = 0 then (letv (y2 + 1) fun v12 => letv (y3 + 1) fun v13 => f_X0_unpromised_L13 z σ i v1 n v12 v13) else (letv (y3 + 1) fun v11 => f_X0_unpromised_L13 z σ i v1 n y2 v11))
def f_X0_unpromised (z : Nat → Nat) (σ : Sg) (i : Nat) : Option Int32 :=
  letv (nI (z 2)) fun v1 => bnd1 (f_X0_unpromised_L13 z σ i v1 FU 0 0) fun (v4 : Int32) => some (v4)
def rm_X0_unpromised : Room := { frames := 0, cells := 0, slots := 0, locals := 0 }
set_option maxRecDepth 100000 in
set_option maxHeartbeats 4000000 in
theorem m_X0_unpromised {l : Launch} {G : xG} {z : Nat → Nat} {σ : Sg} {τ : Tg} {i : Nat} {rF : Int32} (hi : i < z 1) (h : f_X0_unpromised z σ i = some (rF)) : xMet l (xD G) (xcA G) (xbs G) yX0_unpromised cX0_unpromised 6 (Option.some Jvm.ClassFile.FieldType.int) rm_X0_unpromised [.ref (xad G 25 i 0)] (xRep G z σ τ) (xRep G z σ τ) (some (.int rF)) 0 0 := by
  refine xMet.of RX0 rfl (by decide +kernel) (Nat.le_of_ble_eq_true rfl) ?_
  intro p e s m args below meth c C hr hnm
  unfold f_X0_unpromised at h
  refine x_sub (L' := [(0, .ref (xad G 25 i 0))]) [0] rfl ?_
  refine x_iconst C (v := 0) dX0_unpromised_0 (by decide) ?_
  refine x_istore_n C (L' := [(1, .int 0), (0, .ref (xad G 25 i 0))]) dX0_unpromised_1 rfl (by decide) rfl ?_
  refine x_aload_n C dX0_unpromised_2 rfl (q := 1) rfl ?_
  refine x_get C cl_X0 5 (by decide) fl_X0_28_X0 (dm_25 hi) rfl rfl dX0_unpromised_3 ?_
  refine x_astore_n C (L' := [(2, .ref (xad G 26 i 0)), (1, .int 0), (0, .ref (xad G 25 i 0))]) dX0_unpromised_6 rfl (by decide) rfl ?_
  refine x_aload_n C dX0_unpromised_7 rfl (q := 0) rfl ?_
  refine x_alen C 8 rfl (dm_26 hi) rfl dX0_unpromised_8 ?_
  refine x_letI h (fun v1 h => ?_)
  refine x_istore_n C (L' := [(3, .int v1), (2, .ref (xad G 26 i 0)), (1, .int 0), (0, .ref (xad G 25 i 0))]) dX0_unpromised_9 rfl (by decide) rfl ?_
  refine x_iconst C (v := 0) dX0_unpromised_10 (by decide) ?_
  refine x_istore C (L' := [(4, .int 0), (3, .int v1), (2, .ref (xad G 26 i 0)), (1, .int 0), (0, .ref (xad G 25 i 0))]) dX0_unpromised_11 (by decide) rfl ?_
  obtain ⟨v4, hv6, h⟩ := bnd1_some h
  refine x_join (Ω' := (xRep G z σ τ)) (pc' := 42) (L' := [(1, .int v4)]) (st' := []) ?_ (fun hj5 => ?_)
  · refine x_iload_n C dX0_unpromised_42 rfl (q := 0) rfl ?_
    cases h
    exact xr_i C hr dX0_unpromised_43 (fun _ h => h)
  · have hl14 : ∀ (n : Nat) (y2 : Int32) (y3 : Int32), f_X0_unpromised_L13 z σ i v1 n y2 y3 = some (v4) → XW p l e rm_X0_unpromised s m args below meth c 0 0 6 (xbs G) (xQ below args s (xbs G) (some (.int rF)) (xRep G z σ τ) 0 0) (xRep G z σ τ) 13 [(1, .int y2), (2, .ref (xad G 26 i 0)), (3, .int v1), (4, .int y3)] [] := by
      intro n
      induction n with
      | zero =>
        intro y2 y3 h
        exact absurd h (by rw [f_X0_unpromised_L13]; intro q; cases q)
      | succ n ih =>
        intro y2 y3 h
        rw [f_X0_unpromised_L13] at h
        refine x_iload C dX0_unpromised_13 (q := 3) rfl ?_
        refine x_iload_n C dX0_unpromised_15 rfl (q := 2) rfl ?_
        refine x_icmp_ge C (tgt := 42) dX0_unpromised_16 (by decide) h (fun hc7 h => ?_) (fun hc7 h => ?_)
        · cases h
          exact x_sub [0] rfl hj5
        · refine x_aload_n C dX0_unpromised_19 rfl (q := 1) rfl ?_
          refine x_iload C dX0_unpromised_20 (q := 3) rfl ?_
          refine x_aald C 8 rfl rfl (dm_26 hi) rfl dX0_unpromised_22 h (fun k8 hk8 h => ?_)
          refine x_astore C (L' := [(5, .ref (xad G 27 i k8)), (1, .int y2), (2, .ref (xad G 26 i 0)), (3, .int v1), (4, .int y3)]) dX0_unpromised_23 (by decide) rfl ?_
          refine x_aload C dX0_unpromised_25 (q := 0) rfl ?_
          refine x_get C cl_X9 1 (by decide) fl_X0_60_X9 (dm_27 hi hk8) rfl rfl dX0_unpromised_27 ?_
          refine x_letI h (fun v9 h => ?_)
          refine x_if_ne C (tgt := 36) dX0_unpromised_30 (by decide) h (fun hc10 h => ?_) (fun hc10 h => ?_)
          · refine x_iincL C (w := 1) (L' := fun v11 => [(4, .int v11), (5, .ref (xad G 27 i k8)), (1, .int y2), (2, .ref (xad G 26 i 0)), (3, .int v1)]) dX0_unpromised_36 (k := 4) rfl (by decide) (by decide) (fun _ => rfl) h (fun v11 h => ?_)
            refine x_goto C (tgt := 13) dX0_unpromised_39 (by decide) ?_
            exact x_sub [2, 3, 4, 0] rfl (ih _ _ h)
          · refine x_iincL C (w := 1) (L' := fun v12 => [(1, .int v12), (5, .ref (xad G 27 i k8)), (2, .ref (xad G 26 i 0)), (3, .int v1), (4, .int y3)]) dX0_unpromised_33 (k := 1) rfl (by decide) (by decide) (fun _ => rfl) h (fun v12 h => ?_)
            refine x_iincL C (w := 1) (L' := fun v13 => [(4, .int v13), (1, .int v12), (5, .ref (xad G 27 i k8)), (2, .ref (xad G 26 i 0)), (3, .int v1)]) dX0_unpromised_36 (k := 4) rfl (by decide) (by decide) (fun _ => rfl) h (fun v13 h => ?_)
            refine x_goto C (tgt := 13) dX0_unpromised_39 (by decide) ?_
            exact x_sub [1, 3, 4, 0] rfl (ih _ _ h)
    exact x_sub [3, 2, 1, 0] rfl (hl14 FU _ _ hv6)
def f_X0_ended_L13 (z : Nat → Nat) (σ : Sg) (i : Nat) (v1 : Int32) : Nat → Int32 → Int32 → Option Int32
  | 0, _, _ => none
  | n + 1, y2, y3 => if v1 ≤ y3 then (some (y2)) else (gdx y3 (z 2) fun k8 => letv (σ.1 27 i k8 3) fun v9 => if v9 = 0 then (letv (y3 + 1) fun v11 => f_X0_ended_L13 z σ i v1 n y2 v11) else (letv (y2 + 1) fun v12 => letv (y3 + 1) fun v13 => f_X0_ended_L13 z σ i v1 n v12 v13))
def f_X0_ended (z : Nat → Nat) (σ : Sg) (i : Nat) : Option Int32 :=
  letv (nI (z 2)) fun v1 => bnd1 (f_X0_ended_L13 z σ i v1 FU 0 0) fun (v4 : Int32) => some (v4)
def rm_X0_ended : Room := { frames := 0, cells := 0, slots := 0, locals := 0 }
set_option maxRecDepth 100000 in
set_option maxHeartbeats 4000000 in
theorem m_X0_ended {l : Launch} {G : xG} {z : Nat → Nat} {σ : Sg} {τ : Tg} {i : Nat} {rF : Int32} (hi : i < z 1) (h : f_X0_ended z σ i = some (rF)) : xMet l (xD G) (xcA G) (xbs G) yX0_ended cX0_ended 6 (Option.some Jvm.ClassFile.FieldType.int) rm_X0_ended [.ref (xad G 25 i 0)] (xRep G z σ τ) (xRep G z σ τ) (some (.int rF)) 0 0 := by
  refine xMet.of RX0 rfl (by decide +kernel) (Nat.le_of_ble_eq_true rfl) ?_
  intro p e s m args below meth c C hr hnm
  unfold f_X0_ended at h
  refine x_sub (L' := [(0, .ref (xad G 25 i 0))]) [0] rfl ?_
  refine x_iconst C (v := 0) dX0_ended_0 (by decide) ?_
  refine x_istore_n C (L' := [(1, .int 0), (0, .ref (xad G 25 i 0))]) dX0_ended_1 rfl (by decide) rfl ?_
  refine x_aload_n C dX0_ended_2 rfl (q := 1) rfl ?_
  refine x_get C cl_X0 5 (by decide) fl_X0_28_X0 (dm_25 hi) rfl rfl dX0_ended_3 ?_
  refine x_astore_n C (L' := [(2, .ref (xad G 26 i 0)), (1, .int 0), (0, .ref (xad G 25 i 0))]) dX0_ended_6 rfl (by decide) rfl ?_
  refine x_aload_n C dX0_ended_7 rfl (q := 0) rfl ?_
  refine x_alen C 8 rfl (dm_26 hi) rfl dX0_ended_8 ?_
  refine x_letI h (fun v1 h => ?_)
  refine x_istore_n C (L' := [(3, .int v1), (2, .ref (xad G 26 i 0)), (1, .int 0), (0, .ref (xad G 25 i 0))]) dX0_ended_9 rfl (by decide) rfl ?_
  refine x_iconst C (v := 0) dX0_ended_10 (by decide) ?_
  refine x_istore C (L' := [(4, .int 0), (3, .int v1), (2, .ref (xad G 26 i 0)), (1, .int 0), (0, .ref (xad G 25 i 0))]) dX0_ended_11 (by decide) rfl ?_
  obtain ⟨v4, hv6, h⟩ := bnd1_some h
  refine x_join (Ω' := (xRep G z σ τ)) (pc' := 42) (L' := [(1, .int v4)]) (st' := []) ?_ (fun hj5 => ?_)
  · refine x_iload_n C dX0_ended_42 rfl (q := 0) rfl ?_
    cases h
    exact xr_i C hr dX0_ended_43 (fun _ h => h)
  · have hl14 : ∀ (n : Nat) (y2 : Int32) (y3 : Int32), f_X0_ended_L13 z σ i v1 n y2 y3 = some (v4) → XW p l e rm_X0_ended s m args below meth c 0 0 6 (xbs G) (xQ below args s (xbs G) (some (.int rF)) (xRep G z σ τ) 0 0) (xRep G z σ τ) 13 [(1, .int y2), (2, .ref (xad G 26 i 0)), (3, .int v1), (4, .int y3)] [] := by
      intro n
      induction n with
      | zero =>
        intro y2 y3 h
        exact absurd h (by rw [f_X0_ended_L13]; intro q; cases q)
      | succ n ih =>
        intro y2 y3 h
        rw [f_X0_ended_L13] at h
        refine x_iload C dX0_ended_13 (q := 3) rfl ?_
        refine x_iload_n C dX0_ended_15 rfl (q := 2) rfl ?_
        refine x_icmp_ge C (tgt := 42) dX0_ended_16 (by decide) h (fun hc7 h => ?_) (fun hc7 h => ?_)
        · cases h
          exact x_sub [0] rfl hj5
        · refine x_aload_n C dX0_ended_19 rfl (q := 1) rfl ?_
          refine x_iload C dX0_ended_20 (q := 3) rfl ?_
          refine x_aald C 8 rfl rfl (dm_26 hi) rfl dX0_ended_22 h (fun k8 hk8 h => ?_)
          refine x_astore C (L' := [(5, .ref (xad G 27 i k8)), (1, .int y2), (2, .ref (xad G 26 i 0)), (3, .int v1), (4, .int y3)]) dX0_ended_23 (by decide) rfl ?_
          refine x_aload C dX0_ended_25 (q := 0) rfl ?_
          refine x_get C cl_X9 3 (by decide) fl_X0_137_X9 (dm_27 hi hk8) rfl rfl dX0_ended_27 ?_
          refine x_letI h (fun v9 h => ?_)
          refine x_if_eq C (tgt := 36) dX0_ended_30 (by decide) h (fun hc10 h => ?_) (fun hc10 h => ?_)
          · refine x_iincL C (w := 1) (L' := fun v11 => [(4, .int v11), (5, .ref (xad G 27 i k8)), (1, .int y2), (2, .ref (xad G 26 i 0)), (3, .int v1)]) dX0_ended_36 (k := 4) rfl (by decide) (by decide) (fun _ => rfl) h (fun v11 h => ?_)
            refine x_goto C (tgt := 13) dX0_ended_39 (by decide) ?_
            exact x_sub [2, 3, 4, 0] rfl (ih _ _ h)
          · refine x_iincL C (w := 1) (L' := fun v12 => [(1, .int v12), (5, .ref (xad G 27 i k8)), (2, .ref (xad G 26 i 0)), (3, .int v1), (4, .int y3)]) dX0_ended_33 (k := 1) rfl (by decide) (by decide) (fun _ => rfl) h (fun v12 h => ?_)
            refine x_iincL C (w := 1) (L' := fun v13 => [(4, .int v13), (1, .int v12), (5, .ref (xad G 27 i k8)), (2, .ref (xad G 26 i 0)), (3, .int v1)]) dX0_ended_36 (k := 4) rfl (by decide) (by decide) (fun _ => rfl) h (fun v13 h => ?_)
            refine x_goto C (tgt := 13) dX0_ended_39 (by decide) ?_
            exact x_sub [1, 3, 4, 0] rfl (ih _ _ h)
    exact x_sub [3, 2, 1, 0] rfl (hl14 FU _ _ hv6)
def f_X0_told (z : Nat → Nat) (σ : Sg) (i : Nat) (x1 : Int32) : Option Int32 :=
  if x1 = 3 then (bnd1 (f_X0_unpromised z σ i) fun r3 => some (r3)) else (if x1 = 4 then (bnd1 (f_X0_ended z σ i) fun r6 => some (r6)) else (some ((-1))))
def rm_X0_told : Room := { frames := 1, cells := 0, slots := 0, locals := 25 }
set_option maxRecDepth 100000 in
set_option maxHeartbeats 4000000 in
theorem m_X0_told {l : Launch} {G : xG} {z : Nat → Nat} {σ : Sg} {τ : Tg} {i : Nat} {x1 : Int32} {rF : Int32} (hi : i < z 1) (h : f_X0_told z σ i x1 = some (rF)) : xMet l (xD G) (xcA G) (xbs G) yX0_told cX0_told 2 (Option.some Jvm.ClassFile.FieldType.int) rm_X0_told [.ref (xad G 25 i 0), .int x1] (xRep G z σ τ) (xRep G z σ τ) (some (.int rF)) 0 0 := by
  refine xMet.of RX0 rfl (by decide +kernel) (Nat.le_of_ble_eq_true rfl) ?_
  intro p e s m args below meth c C hr hnm
  unfold f_X0_told at h
  refine x_sub (L' := [(0, .ref (xad G 25 i 0)), (1, .int x1)]) [0, 1] rfl ?_
  refine x_iload_n C dX0_told_0 rfl (q := 1) rfl ?_
  refine x_ite h (fun hc1 h => ?_) (fun hc1 h => ?_)
  · refine x_lookup C (off := 27) (tgt := 28) dX0_told_1 (by decide) (by rw [hc1]; decide) (by decide) ?_
    refine x_aload_n C dX0_told_28 rfl (q := 0) rfl ?_
    obtain ⟨r3, hq2, h⟩ := bnd1_some h
    refine x_callV_i C (m_X0_unpromised hi hq2) wv_X0_227 (x_recv C.2.2.2 cl_X0 (dm_25 hi) rfl) rfl (Nat.le_of_ble_eq_true rfl) ⟨⟨rfl, rfl⟩, Nat.le_of_ble_eq_true rfl, Nat.le_of_ble_eq_true rfl⟩ dX0_told_29 rfl ?_
    cases h
    exact xr_i C hr dX0_told_32 (fun _ h => h)
  · refine x_ite h (fun hc4 h => ?_) (fun hc4 h => ?_)
    · refine x_lookup C (off := 32) (tgt := 33) dX0_told_1 (by decide) (by rw [hc4]; decide) (by decide) ?_
      refine x_aload_n C dX0_told_33 rfl (q := 0) rfl ?_
      obtain ⟨r6, hq5, h⟩ := bnd1_some h
      refine x_callV_i C (m_X0_ended hi hq5) wv_X0_230 (x_recv C.2.2.2 cl_X0 (dm_25 hi) rfl) rfl (Nat.le_of_ble_eq_true rfl) ⟨⟨rfl, rfl⟩, Nat.le_of_ble_eq_true rfl, Nat.le_of_ble_eq_true rfl⟩ dX0_told_34 rfl ?_
      cases h
      exact xr_i C hr dX0_told_37 (fun _ h => h)
    · refine x_lookup C (off := 37) (tgt := 38) dX0_told_1 (by decide) (by have a0 := xI_ne (k := 3) 3 (by decide) hc1; have a1 := xI_ne (k := 4) 4 (by decide) hc4; simp [Op.lookupswitch.offset, a0, Ne.symm a0, a1, Ne.symm a1]) (by decide) ?_
      refine x_iconst C (v := (-1)) dX0_told_38 (by decide) ?_
      cases h
      exact xr_i C hr dX0_told_39 (fun _ h => h)
