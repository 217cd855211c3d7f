def f_X11_prepare_L69 (z : Nat → Nat) (x1 : Int32) (x2 : Int32) (v1 : Int32) (v14 : Int32) : Nat → Int32 → Tg → Option Tg
  | 0, _, _ => none
  | n + 1, y24, s25 => if (nI (z 3)) ≤ y24 then (some (s25)) else (if v14 = 1 then (gdx y24 (mlen 10) fun k31 => letv (s25.1 10 k31) fun v32 => gdx y24 (mlen 11) fun k33 => letv (s25.1 11 k33) fun v34 => bnd1 (α := Int32) (if v34 = x2 then (some ((-1))) else (some ((1 <<< (x2 &&& 31)) ^^^ (-1)))) fun (v35 : Int32) => gdx y24 (mlen 10) fun k39 => letv (tpI s25 10 k39 (v32 &&& v35)) fun s40 => letv (y24 + (nI (z 0))) fun v41 => f_X11_prepare_L69 z x1 x2 v1 v14 n v41 s40) else (some (s25)))
def f_X11_prepare (z : Nat → Nat) (τ : Tg) (x1 : Int32) (x2 : Int32) : Option (Int32 × Tg) :=
  letv ((16 * x1) + x2) fun v1 => gdx v1 (mlen 18) fun k2 => letv (τ.1 18 k2) fun v3 => if v3 = 0 then (gdx v1 (mlen 17) fun k5 => letv (τ.1 17 k5) fun v6 => if v6 = 0 then (gdx v1 (mlen 16) fun k12 => letv (τ.1 16 k12) fun v13 => bnd1 (α := Int32) (if v13 = 0 then (some (2)) else (some (1))) fun (v14 : Int32) => bnd2 (f_X11_writes z τ x1 1 x2 v14 0) fun r19 s20 => if r19 = 0 then (some (0, s20)) else (gdx v1 (mlen 17) fun k22 => letv (tpI s20 17 k22 v14) fun s23 => bnd1 (f_X11_prepare_L69 z x1 x2 v1 v14 FU x1 s23) fun (s26 : Tg) => gdx v1 (mlen 17) fun k42 => letv (s26.1 17 k42) fun v43 => bnd1 (f_X11_postAll z s26 2 x2 0 x1 v43 x1) fun s45 => some (1, s45))) else (gdx v1 (mlen 17) fun k8 => letv (τ.1 17 k8) fun v9 => bnd1 (f_X11_postAll z τ 2 x2 0 x1 v9 x1) fun s11 => some (1, s11))) else (some (1, τ))
def rm_X11_prepare : Room := { frames := 2, cells := 0, slots := 0, locals := 56 }
set_option maxRecDepth 100000 in
set_option maxHeartbeats 4000000 in
theorem m_X11_prepare {l : Launch} {G : xG} {z : Nat → Nat} {σ : Sg} {τ : Tg} {x1 : Int32} {x2 : Int32} {rF : Int32} {sF : Tg} (h : f_X11_prepare z τ x1 x2 = some (rF, sF)) : xMet l (xD G) (xcA G) (xbs G) yX11_prepare cX11_prepare 6 (Option.some Jvm.ClassFile.FieldType.boolean) rm_X11_prepare [.ref (xaM G 0), .int x1, .int x2] (xRep G z σ τ) (xRep G z σ sF) (some (.int rF)) 0 0 := by
  refine xMet.of RX11 rfl (by decide +kernel) (Nat.le_of_ble_eq_true rfl) ?_
  intro p e s m args below meth c C hr hnm
  unfold f_X11_prepare at h
  refine x_sub (L' := [(0, .ref (xaM G 0)), (1, .int x1), (2, .int x2)]) [0, 1, 2] rfl ?_
  refine x_bipush C (v := 16) dX11_prepare_0 (by decide) ?_
  refine x_iload_n C dX11_prepare_2 rfl (q := 1) rfl ?_
  refine x_imul C dX11_prepare_3 ?_
  refine x_iload_n C dX11_prepare_4 rfl (q := 2) rfl ?_
  refine x_iadd C dX11_prepare_5 ?_
  refine x_letI h (fun v1 h => ?_)
  refine x_istore_n C (L' := [(3, .int v1), (0, .ref (xaM G 0)), (1, .int x1), (2, .int x2)]) dX11_prepare_6 rfl (by decide) rfl ?_
  refine x_aload_n C dX11_prepare_7 rfl (q := 1) rfl ?_
  refine m_get C cl_X11 18 (by decide) fl_X11_48_X11 rfl rfl dX11_prepare_8 ?_
  refine x_iload_n C dX11_prepare_11 rfl (q := 0) rfl ?_
  refine m_iald C rfl (fun _ _ => rfl) dX11_prepare_12 h (fun k2 hk2 h => ?_)
  refine x_letI h (fun v3 h => ?_)
  refine x_if_eq C (tgt := 18) dX11_prepare_13 (by decide) h (fun hc4 h => ?_) (fun hc4 h => ?_)
  · refine x_aload_n C dX11_prepare_18 rfl (q := 1) rfl ?_
    refine m_get C cl_X11 17 (by decide) fl_X11_45_X11 rfl rfl dX11_prepare_19 ?_
    refine x_iload_n C dX11_prepare_22 rfl (q := 0) rfl ?_
    refine m_iald C rfl (fun _ _ => rfl) dX11_prepare_23 h (fun k5 hk5 h => ?_)
    refine x_letI h (fun v6 h => ?_)
    refine x_if_ne C (tgt := 126) dX11_prepare_24 (by decide) h (fun hc7 h => ?_) (fun hc7 h => ?_)
    · refine x_aload_n C dX11_prepare_126 rfl (q := 1) rfl ?_
      refine x_iconst C (v := 2) dX11_prepare_127 (by decide) ?_
      refine x_iload_n C dX11_prepare_128 rfl (q := 3) rfl ?_
      refine x_iconst C (v := 0) dX11_prepare_129 (by decide) ?_
      refine x_iload_n C dX11_prepare_130 rfl (q := 2) rfl ?_
      refine x_aload_n C dX11_prepare_131 rfl (q := 1) rfl ?_
      refine m_get C cl_X11 17 (by decide) fl_X11_45_X11 rfl rfl dX11_prepare_132 ?_
      refine x_iload_n C dX11_prepare_135 rfl (q := 0) rfl ?_
      refine m_iald C rfl (fun _ _ => rfl) dX11_prepare_136 h (fun k8 hk8 h => ?_)
      refine x_letI h (fun v9 h => ?_)
      refine x_iload_n C dX11_prepare_137 rfl (q := 2) rfl ?_
      obtain ⟨s11, hq10, h⟩ := bnd1_some h
      refine x_callV_v C (m_X11_postAll hq10) wv_X11_198 (m_recv C.2.2.2 cl_X11 rfl) rfl (Nat.le_of_ble_eq_true rfl) ⟨⟨rfl, rfl⟩, Nat.le_of_ble_eq_true rfl, Nat.le_of_ble_eq_true rfl⟩ dX11_prepare_138 rfl ?_
      refine x_iconst C (v := 1) dX11_prepare_141 (by decide) ?_
      cases h
      exact xr_z C (by decide) hr dX11_prepare_142 (fun _ h => h)
    · refine x_aload_n C dX11_prepare_27 rfl (q := 1) rfl ?_
      refine m_get C cl_X11 16 (by decide) fl_X11_42_X11 rfl rfl dX11_prepare_28 ?_
      refine x_iload_n C dX11_prepare_31 rfl (q := 0) rfl ?_
      refine m_bald C rfl (fun _ _ => rfl) dX11_prepare_32 h (fun k12 hk12 h => ?_)
      refine x_letI h (fun v13 h => ?_)
      obtain ⟨v14, hv16, h⟩ := bnd1_some h
      refine x_join (Ω' := (xRep G z σ τ)) (pc' := 41) (L' := [(0, .ref (xaM G 0)), (1, .int x1), (2, .int x2), (3, .int v1)]) (st' := [.int v14]) ?_ (fun hj15 => ?_)
      · refine x_istore C (L' := [(4, .int v14), (0, .ref (xaM G 0)), (1, .int x1), (2, .int x2), (3, .int v1)]) dX11_prepare_41 (by decide) rfl ?_
        refine x_aload_n C dX11_prepare_43 rfl (q := 1) rfl ?_
        refine x_iload_n C dX11_prepare_44 rfl (q := 2) rfl ?_
        refine x_iconst C (v := 1) dX11_prepare_45 (by decide) ?_
        refine x_iload_n C dX11_prepare_46 rfl (q := 3) rfl ?_
        refine x_iload C dX11_prepare_47 (q := 0) rfl ?_
        refine x_iconst C (v := 0) dX11_prepare_49 (by decide) ?_
        obtain ⟨r19, s20, hq18, h⟩ := bnd2_some h
        refine x_callV_i C (m_X11_writes hq18) wv_X11_194 (m_recv C.2.2.2 cl_X11 rfl) rfl (Nat.le_of_ble_eq_true rfl) ⟨⟨rfl, rfl⟩, Nat.le_of_ble_eq_true rfl, Nat.le_of_ble_eq_true rfl⟩ dX11_prepare_50 rfl ?_
        refine x_if_ne C (tgt := 58) dX11_prepare_53 (by decide) h (fun hc21 h => ?_) (fun hc21 h => ?_)
        · refine x_aload_n C dX11_prepare_58 rfl (q := 1) rfl ?_
          refine m_get C cl_X11 17 (by decide) fl_X11_45_X11 rfl rfl dX11_prepare_59 ?_
          refine x_iload_n C dX11_prepare_62 rfl (q := 4) rfl ?_
          refine x_iload C dX11_prepare_63 (q := 0) rfl ?_
          refine m_iast C rfl (fun _ _ => rfl) dX11_prepare_65 h (fun k22 hk22 h => ?_)
          refine m_letS h (fun s23 h => ?_)
          refine x_iload_n C dX11_prepare_66 rfl (q := 2) rfl ?_
          refine x_istore C (L' := [(5, .int x1), (4, .int v14), (0, .ref (xaM G 0)), (1, .int x1), (2, .int x2), (3, .int v1)]) dX11_prepare_67 (by decide) rfl ?_
          obtain ⟨s26, hv28, h⟩ := bnd1_some h
          refine x_join (Ω' := (xRep G z σ s26)) (pc' := 126) (L' := [(0, .ref (xaM G 0)), (1, .int x1), (2, .int x2), (3, .int v1)]) (st' := []) ?_ (fun hj27 => ?_)
          · refine x_aload_n C dX11_prepare_126 rfl (q := 0) rfl ?_
            refine x_iconst C (v := 2) dX11_prepare_127 (by decide) ?_
            refine x_iload_n C dX11_prepare_128 rfl (q := 2) rfl ?_
            refine x_iconst C (v := 0) dX11_prepare_129 (by decide) ?_
            refine x_iload_n C dX11_prepare_130 rfl (q := 1) rfl ?_
            refine x_aload_n C dX11_prepare_131 rfl (q := 0) rfl ?_
            refine m_get C cl_X11 17 (by decide) fl_X11_45_X11 rfl rfl dX11_prepare_132 ?_
            refine x_iload_n C dX11_prepare_135 rfl (q := 3) rfl ?_
            refine m_iald C rfl (fun _ _ => rfl) dX11_prepare_136 h (fun k42 hk42 h => ?_)
            refine x_letI h (fun v43 h => ?_)
            refine x_iload_n C dX11_prepare_137 rfl (q := 1) rfl ?_
            obtain ⟨s45, hq44, h⟩ := bnd1_some h
            refine x_callV_v C (m_X11_postAll hq44) wv_X11_198 (m_recv C.2.2.2 cl_X11 rfl) rfl (Nat.le_of_ble_eq_true rfl) ⟨⟨rfl, rfl⟩, Nat.le_of_ble_eq_true rfl, Nat.le_of_ble_eq_true rfl⟩ dX11_prepare_138 rfl ?_
            refine x_iconst C (v := 1) dX11_prepare_141 (by decide) ?_
            cases h
            exact xr_z C (by decide) hr dX11_prepare_142 (fun _ h => h)
          · have hl46 : ∀ (n : Nat) (y24 : Int32) (s25 : Tg), f_X11_prepare_L69 z x1 x2 v1 v14 n y24 s25 = some (s26) → XW p l e rm_X11_prepare s m args below meth c 0 0 6 (xbs G) (xQ below args s (xbs G) (some (.int rF)) (xRep G z σ sF) 0 0) (xRep G z σ s25) 69 [(0, .ref (xaM G 0)), (1, .int x1), (2, .int x2), (3, .int v1), (4, .int v14), (5, .int y24)] [] := by
              intro n
              induction n with
              | zero =>
                intro y24 s25 h
                exact absurd h (by rw [f_X11_prepare_L69]; intro q; cases q)
              | succ n ih =>
                intro y24 s25 h
                rw [f_X11_prepare_L69] at h
                refine x_iload C dX11_prepare_69 (q := 5) rfl ?_
                refine x_aload_n C dX11_prepare_71 rfl (q := 0) rfl ?_
                refine m_get C cl_X11 3 (by decide) fl_X11_107_X11 rfl rfl dX11_prepare_72 ?_
                refine x_icmp_ge C (tgt := 126) dX11_prepare_75 (by decide) h (fun hc29 h => ?_) (fun hc29 h => ?_)
                · cases h
                  exact x_sub [0, 1, 2, 3] rfl hj27
                · refine x_iload C dX11_prepare_78 (q := 4) rfl ?_
                  refine x_iconst C (v := 1) dX11_prepare_80 (by decide) ?_
                  refine x_icmp_ne C (tgt := 126) dX11_prepare_81 (by decide) h (fun hc30 h => ?_) (fun hc30 h => ?_)
                  · cases h
                    exact x_sub [0, 1, 2, 3] rfl hj27
                  · refine x_aload_n C dX11_prepare_84 rfl (q := 0) rfl ?_
                    refine m_get C cl_X11 10 (by decide) fl_X11_24_X11 rfl rfl dX11_prepare_85 ?_
                    refine x_iload C dX11_prepare_88 (q := 5) rfl ?_
                    refine x_dup2 C dX11_prepare_90 rfl rfl ?_
                    refine m_iald C rfl (fun _ _ => rfl) dX11_prepare_91 h (fun k31 hk31 h => ?_)
                    refine x_letI h (fun v32 h => ?_)
                    refine x_aload_n C dX11_prepare_92 rfl (q := 0) rfl ?_
                    refine m_get C cl_X11 11 (by decide) fl_X11_27_X11 rfl rfl dX11_prepare_93 ?_
                    refine x_iload C dX11_prepare_96 (q := 5) rfl ?_
                    refine m_iald C rfl (fun _ _ => rfl) dX11_prepare_98 h (fun k33 hk33 h => ?_)
                    refine x_letI h (fun v34 h => ?_)
                    refine x_iload_n C dX11_prepare_99 rfl (q := 2) rfl ?_
                    obtain ⟨v35, hv37, h⟩ := bnd1_some h
                    refine x_join (Ω' := (xRep G z σ s25)) (pc' := 112) (L' := [(0, .ref (xaM G 0)), (1, .int x1), (2, .int x2), (3, .int v1), (4, .int v14), (5, .int y24)]) (st' := [.int v35, .int v32, .int y24, .ref (xaM G 10)]) ?_ (fun hj36 => ?_)
                    · refine x_iand C dX11_prepare_112 ?_
                      refine m_iast C rfl (fun _ _ => rfl) dX11_prepare_113 h (fun k39 hk39 h => ?_)
                      refine m_letS h (fun s40 h => ?_)
                      refine x_iload C dX11_prepare_114 (q := 5) rfl ?_
                      refine x_aload_n C dX11_prepare_116 rfl (q := 0) rfl ?_
                      refine m_get C cl_X11 0 (by decide) fl_X11_97_X11 rfl rfl dX11_prepare_117 ?_
                      refine x_iadd C dX11_prepare_120 ?_
                      refine x_letI h (fun v41 h => ?_)
                      refine x_istore C (L' := [(5, .int v41), (0, .ref (xaM G 0)), (1, .int x1), (2, .int x2), (3, .int v1), (4, .int v14)]) dX11_prepare_121 (by decide) rfl ?_
                      refine x_goto C (tgt := 69) dX11_prepare_123 (by decide) ?_
                      exact x_sub [1, 2, 3, 4, 5, 0] rfl (ih _ _ h)
                    · replace h := hv37
                      clear hv37
                      refine x_icmp_ne C (tgt := 107) dX11_prepare_100 (by decide) h (fun hc38 h => ?_) (fun hc38 h => ?_)
                      · refine x_iconst C (v := 1) dX11_prepare_107 (by decide) ?_
                        refine x_iload_n C dX11_prepare_108 rfl (q := 2) rfl ?_
                        refine x_ishl C dX11_prepare_109 ?_
                        refine x_iconst C (v := (-1)) dX11_prepare_110 (by decide) ?_
                        refine x_ixor C dX11_prepare_111 ?_
                        cases h
                        exact x_sub [0, 1, 2, 3, 4, 5] rfl hj36
                      · refine x_iconst C (v := (-1)) dX11_prepare_103 (by decide) ?_
                        refine x_goto C (tgt := 112) dX11_prepare_104 (by decide) ?_
                        cases h
                        exact x_sub [0, 1, 2, 3, 4, 5] rfl hj36
            exact x_sub [2, 3, 4, 5, 1, 0] rfl (hl46 FU _ _ hv28)
        · refine x_iconst C (v := 0) dX11_prepare_56 (by decide) ?_
          cases h
          exact xr_z C (by decide) hr dX11_prepare_57 (fun _ h => h)
      · replace h := hv16
        clear hv16
        refine x_if_eq C (tgt := 40) dX11_prepare_33 (by decide) h (fun hc17 h => ?_) (fun hc17 h => ?_)
        · refine x_iconst C (v := 2) dX11_prepare_40 (by decide) ?_
          cases h
          exact x_sub [1, 2, 3, 0] rfl hj15
        · refine x_iconst C (v := 1) dX11_prepare_36 (by decide) ?_
          refine x_goto C (tgt := 41) dX11_prepare_37 (by decide) ?_
          cases h
          exact x_sub [1, 2, 3, 0] rfl hj15
  · refine x_iconst C (v := 1) dX11_prepare_16 (by decide) ?_
    cases h
    exact xr_z C (by decide) hr dX11_prepare_17 (fun _ h => h)
def f_X11_vote (z : Nat → Nat) (τ : Tg) (x1 : Int32) (x2 : Int32) (x3 : Int32) : Option (Int32 × Tg) :=
  gdx 3 (mlen 36) fun k1 => letv (τ.1 36 k1) fun v2 => gdx 4 (mlen 36) fun k3 => letv (τ.1 36 k3) fun v4 => gdx 5 (mlen 36) fun k5 => letv (τ.1 36 k5) fun v6 => gdx x3 (mlen 19) fun k7 => letv (τ.1 19 k7) fun v8 => if v8 ≤ v2 then (letv ((4 * x3) + v4) fun v10 => gdx v10 (mlen 23) fun k11 => letv (τ.1 23 k11) fun v12 => if v12 = v2 then (gdx v10 (mlen 24) fun k27 => letv (τ.1 24 k27) fun v28 => if v28 = v6 then (gnz (nI (z 1)) <| bnd2 (f_X11_post z τ 3 ((nI (z 0)) + (v2 - v2 / (nI (z 1)) * (nI (z 1)))) x2 v2 v4 v6 x1) fun r31 s32 => some (1, s32)) else (bnd2 (f_X11_writes z τ x1 4 x2 v2 ((10 * v4) + v6)) fun r34 s35 => if r34 = 0 then (some (0, s35)) else (gdx x3 (mlen 19) fun k37 => letv (tpI s35 19 k37 v2) fun s38 => gdx v10 (mlen 23) fun k39 => letv (tpI s38 23 k39 v2) fun s40 => gdx v10 (mlen 24) fun k41 => letv (tpI s40 24 k41 v6) fun s42 => gnz (nI (z 1)) <| bnd2 (f_X11_post z s42 3 ((nI (z 0)) + (v2 - v2 / (nI (z 1)) * (nI (z 1)))) x2 v2 v4 v6 x1) fun r44 s45 => some (1, s45)))) else (bnd2 (f_X11_writes z τ x1 4 x2 v2 ((10 * v4) + v6)) fun r15 s16 => if r15 = 0 then (some (0, s16)) else (gdx x3 (mlen 19) fun k18 => letv (tpI s16 19 k18 v2) fun s19 => gdx v10 (mlen 23) fun k20 => letv (tpI s19 23 k20 v2) fun s21 => gdx v10 (mlen 24) fun k22 => letv (tpI s21 24 k22 v6) fun s23 => gnz (nI (z 1)) <| bnd2 (f_X11_post z s23 3 ((nI (z 0)) + (v2 - v2 / (nI (z 1)) * (nI (z 1)))) x2 v2 v4 v6 x1) fun r25 s26 => some (1, s26)))) else (some (1, τ))
def rm_X11_vote : Room := { frames := 1, cells := 0, slots := 0, locals := 28 }
set_option maxRecDepth 100000 in
set_option maxHeartbeats 4000000 in
theorem m_X11_vote {l : Launch} {G : xG} {z : Nat → Nat} {σ : Sg} {τ : Tg} {x1 : Int32} {x2 : Int32} {x3 : Int32} {rF : Int32} {sF : Tg} (h : f_X11_vote z τ x1 x2 x3 = some (rF, sF)) : xMet l (xD G) (xcA G) (xbs G) yX11_vote cX11_vote 9 (Option.some Jvm.ClassFile.FieldType.boolean) rm_X11_vote [.ref (xaM G 0), .int x1, .int x2, .int x3] (xRep G z σ τ) (xRep G z σ sF) (some (.int rF)) 0 0 := by
  refine xMet.of RX11 rfl (by decide +kernel) (Nat.le_of_ble_eq_true rfl) ?_
  intro p e s m args below meth c C hr hnm
  unfold f_X11_vote at h
  refine x_sub (L' := [(0, .ref (xaM G 0)), (1, .int x1), (2, .int x2), (3, .int x3)]) [0, 1, 2, 3] rfl ?_
  refine x_aload_n C dX11_vote_0 rfl (q := 0) rfl ?_
  refine m_get C cl_X11 36 (by decide) fl_X11_87_X11 rfl rfl dX11_vote_1 ?_
  refine x_iconst C (v := 3) dX11_vote_4 (by decide) ?_
  refine m_iald C rfl (fun _ _ => rfl) dX11_vote_5 h (fun k1 hk1 h => ?_)
  refine x_letI h (fun v2 h => ?_)
  refine x_istore C (L' := [(4, .int v2), (0, .ref (xaM G 0)), (1, .int x1), (2, .int x2), (3, .int x3)]) dX11_vote_6 (by decide) rfl ?_
  refine x_aload_n C dX11_vote_8 rfl (q := 1) rfl ?_
  refine m_get C cl_X11 36 (by decide) fl_X11_87_X11 rfl rfl dX11_vote_9 ?_
  refine x_iconst C (v := 4) dX11_vote_12 (by decide) ?_
  refine m_iald C rfl (fun _ _ => rfl) dX11_vote_13 h (fun k3 hk3 h => ?_)
  refine x_letI h (fun v4 h => ?_)
  refine x_istore C (L' := [(5, .int v4), (4, .int v2), (0, .ref (xaM G 0)), (1, .int x1), (2, .int x2), (3, .int x3)]) dX11_vote_14 (by decide) rfl ?_
  refine x_aload_n C dX11_vote_16 rfl (q := 2) rfl ?_
  refine m_get C cl_X11 36 (by decide) fl_X11_87_X11 rfl rfl dX11_vote_17 ?_
  refine x_iconst C (v := 5) dX11_vote_20 (by decide) ?_
  refine m_iald C rfl (fun _ _ => rfl) dX11_vote_21 h (fun k5 hk5 h => ?_)
  refine x_letI h (fun v6 h => ?_)
  refine x_istore C (L' := [(6, .int v6), (5, .int v4), (4, .int v2), (0, .ref (xaM G 0)), (1, .int x1), (2, .int x2), (3, .int x3)]) dX11_vote_22 (by decide) rfl ?_
  refine x_iload C dX11_vote_24 (q := 2) rfl ?_
  refine x_aload_n C dX11_vote_26 rfl (q := 3) rfl ?_
  refine m_get C cl_X11 19 (by decide) fl_X11_51_X11 rfl rfl dX11_vote_27 ?_
  refine x_iload_n C dX11_vote_30 rfl (q := 6) rfl ?_
  refine m_iald C rfl (fun _ _ => rfl) dX11_vote_31 h (fun k7 hk7 h => ?_)
  refine x_letI h (fun v8 h => ?_)
  refine x_icmp_ge C (tgt := 37) dX11_vote_32 (by decide) h (fun hc9 h => ?_) (fun hc9 h => ?_)
  · refine x_iconst C (v := 4) dX11_vote_37 (by decide) ?_
    refine x_iload_n C dX11_vote_38 rfl (q := 6) rfl ?_
    refine x_imul C dX11_vote_39 ?_
    refine x_iload C dX11_vote_40 (q := 1) rfl ?_
    refine x_iadd C dX11_vote_42 ?_
    refine x_letI h (fun v10 h => ?_)
    refine x_istore C (L' := [(7, .int v10), (6, .int v6), (5, .int v4), (4, .int v2), (0, .ref (xaM G 0)), (1, .int x1), (2, .int x2), (3, .int x3)]) dX11_vote_43 (by decide) rfl ?_
    refine x_aload_n C dX11_vote_45 rfl (q := 4) rfl ?_
    refine m_get C cl_X11 23 (by decide) fl_X11_63_X11 rfl rfl dX11_vote_46 ?_
    refine x_iload C dX11_vote_49 (q := 0) rfl ?_
    refine m_iald C rfl (fun _ _ => rfl) dX11_vote_51 h (fun k11 hk11 h => ?_)
    refine x_letI h (fun v12 h => ?_)
    refine x_iload C dX11_vote_52 (q := 3) rfl ?_
    refine x_icmp_ne C (tgt := 69) dX11_vote_54 (by decide) h (fun hc13 h => ?_) (fun hc13 h => ?_)
    · refine x_aload_n C dX11_vote_69 rfl (q := 4) rfl ?_
      refine x_iload_n C dX11_vote_70 rfl (q := 5) rfl ?_
      refine x_iconst C (v := 4) dX11_vote_71 (by decide) ?_
      refine x_iload_n C dX11_vote_72 rfl (q := 6) rfl ?_
      refine x_iload C dX11_vote_73 (q := 3) rfl ?_
      refine x_bipush C (v := 10) dX11_vote_75 (by decide) ?_
      refine x_iload C dX11_vote_77 (q := 2) rfl ?_
      refine x_imul C dX11_vote_79 ?_
      refine x_iload C dX11_vote_80 (q := 1) rfl ?_
      refine x_iadd C dX11_vote_82 ?_
      obtain ⟨r15, s16, hq14, h⟩ := bnd2_some h
      refine x_callV_i C (m_X11_writes hq14) wv_X11_194 (m_recv C.2.2.2 cl_X11 rfl) rfl (Nat.le_of_ble_eq_true rfl) ⟨⟨rfl, rfl⟩, Nat.le_of_ble_eq_true rfl, Nat.le_of_ble_eq_true rfl⟩ dX11_vote_83 rfl ?_
      refine x_if_ne C (tgt := 91) dX11_vote_86 (by decide) h (fun hc17 h => ?_) (fun hc17 h => ?_)
      · refine x_aload_n C dX11_vote_91 rfl (q := 4) rfl ?_
        refine m_get C cl_X11 19 (by decide) fl_X11_51_X11 rfl rfl dX11_vote_92 ?_
        refine x_iload_n C dX11_vote_95 rfl (q := 7) rfl ?_
        refine x_iload C dX11_vote_96 (q := 3) rfl ?_
        refine m_iast C rfl (fun _ _ => rfl) dX11_vote_98 h (fun k18 hk18 h => ?_)
        refine m_letS h (fun s19 h => ?_)
        refine x_aload_n C dX11_vote_99 rfl (q := 4) rfl ?_
        refine m_get C cl_X11 23 (by decide) fl_X11_63_X11 rfl rfl dX11_vote_100 ?_
        refine x_iload C dX11_vote_103 (q := 0) rfl ?_
        refine x_iload C dX11_vote_105 (q := 3) rfl ?_
        refine m_iast C rfl (fun _ _ => rfl) dX11_vote_107 h (fun k20 hk20 h => ?_)
        refine m_letS h (fun s21 h => ?_)
        refine x_aload_n C dX11_vote_108 rfl (q := 4) rfl ?_
        refine m_get C cl_X11 24 (by decide) fl_X11_66_X11 rfl rfl dX11_vote_109 ?_
        refine x_iload C dX11_vote_112 (q := 0) rfl ?_
        refine x_iload C dX11_vote_114 (q := 1) rfl ?_
        refine m_iast C rfl (fun _ _ => rfl) dX11_vote_116 h (fun k22 hk22 h => ?_)
        refine m_letS h (fun s23 h => ?_)
        refine x_aload_n C dX11_vote_117 rfl (q := 4) rfl ?_
        refine x_iconst C (v := 3) dX11_vote_118 (by decide) ?_
        refine x_aload_n C dX11_vote_119 rfl (q := 4) rfl ?_
        refine m_get C cl_X11 0 (by decide) fl_X11_97_X11 rfl rfl dX11_vote_120 ?_
        refine x_iload C dX11_vote_123 (q := 3) rfl ?_
        refine x_aload_n C dX11_vote_125 rfl (q := 4) rfl ?_
        refine m_get C cl_X11 1 (by decide) fl_X11_101_X11 rfl rfl dX11_vote_126 ?_
        refine x_irem C dX11_vote_129 h (fun h => ?_)
        refine x_iadd C dX11_vote_130 ?_
        refine x_iload_n C dX11_vote_131 rfl (q := 6) rfl ?_
        refine x_iload C dX11_vote_132 (q := 3) rfl ?_
        refine x_iload C dX11_vote_134 (q := 2) rfl ?_
        refine x_iload C dX11_vote_136 (q := 1) rfl ?_
        refine x_iload_n C dX11_vote_138 rfl (q := 5) rfl ?_
        obtain ⟨r25, s26, hq24, h⟩ := bnd2_some h
        refine x_callV_i C (m_X11_post hq24) wv_X11_146 (m_recv C.2.2.2 cl_X11 rfl) rfl (Nat.le_of_ble_eq_true rfl) ⟨⟨rfl, rfl⟩, Nat.le_of_ble_eq_true rfl, Nat.le_of_ble_eq_true rfl⟩ dX11_vote_139 rfl ?_
        refine x_istore C (L' := [(8, .int r25), (7, .int v10), (6, .int v6), (5, .int v4), (4, .int v2), (0, .ref (xaM G 0)), (1, .int x1), (2, .int x2), (3, .int x3)]) dX11_vote_142 (by decide) rfl ?_
        refine x_iconst C (v := 1) dX11_vote_144 (by decide) ?_
        cases h
        exact xr_z C (by decide) hr dX11_vote_145 (fun _ h => h)
      · refine x_iconst C (v := 0) dX11_vote_89 (by decide) ?_
        cases h
        exact xr_z C (by decide) hr dX11_vote_90 (fun _ h => h)
    · refine x_aload_n C dX11_vote_57 rfl (q := 4) rfl ?_
      refine m_get C cl_X11 24 (by decide) fl_X11_66_X11 rfl rfl dX11_vote_58 ?_
      refine x_iload C dX11_vote_61 (q := 0) rfl ?_
      refine m_iald C rfl (fun _ _ => rfl) dX11_vote_63 h (fun k27 hk27 h => ?_)
      refine x_letI h (fun v28 h => ?_)
      refine x_iload C dX11_vote_64 (q := 1) rfl ?_
      refine x_icmp_eq C (tgt := 117) dX11_vote_66 (by decide) h (fun hc29 h => ?_) (fun hc29 h => ?_)
      · refine x_aload_n C dX11_vote_117 rfl (q := 4) rfl ?_
        refine x_iconst C (v := 3) dX11_vote_118 (by decide) ?_
        refine x_aload_n C dX11_vote_119 rfl (q := 4) rfl ?_
        refine m_get C cl_X11 0 (by decide) fl_X11_97_X11 rfl rfl dX11_vote_120 ?_
        refine x_iload C dX11_vote_123 (q := 3) rfl ?_
        refine x_aload_n C dX11_vote_125 rfl (q := 4) rfl ?_
        refine m_get C cl_X11 1 (by decide) fl_X11_101_X11 rfl rfl dX11_vote_126 ?_
        refine x_irem C dX11_vote_129 h (fun h => ?_)
        refine x_iadd C dX11_vote_130 ?_
        refine x_iload_n C dX11_vote_131 rfl (q := 6) rfl ?_
        refine x_iload C dX11_vote_132 (q := 3) rfl ?_
        refine x_iload C dX11_vote_134 (q := 2) rfl ?_
        refine x_iload C dX11_vote_136 (q := 1) rfl ?_
        refine x_iload_n C dX11_vote_138 rfl (q := 5) rfl ?_
        obtain ⟨r31, s32, hq30, h⟩ := bnd2_some h
        refine x_callV_i C (m_X11_post hq30) wv_X11_146 (m_recv C.2.2.2 cl_X11 rfl) rfl (Nat.le_of_ble_eq_true rfl) ⟨⟨rfl, rfl⟩, Nat.le_of_ble_eq_true rfl, Nat.le_of_ble_eq_true rfl⟩ dX11_vote_139 rfl ?_
        refine x_istore C (L' := [(8, .int r31), (7, .int v10), (6, .int v6), (5, .int v4), (4, .int v2), (0, .ref (xaM G 0)), (1, .int x1), (2, .int x2), (3, .int x3)]) dX11_vote_142 (by decide) rfl ?_
        refine x_iconst C (v := 1) dX11_vote_144 (by decide) ?_
        cases h
        exact xr_z C (by decide) hr dX11_vote_145 (fun _ h => h)
      · refine x_aload_n C dX11_vote_69 rfl (q := 4) rfl ?_
        refine x_iload_n C dX11_vote_70 rfl (q := 5) rfl ?_
        refine x_iconst C (v := 4) dX11_vote_71 (by decide) ?_
        refine x_iload_n C dX11_vote_72 rfl (q := 6) rfl ?_
        refine x_iload C dX11_vote_73 (q := 3) rfl ?_
        refine x_bipush C (v := 10) dX11_vote_75 (by decide) ?_
        refine x_iload C dX11_vote_77 (q := 2) rfl ?_
        refine x_imul C dX11_vote_79 ?_
        refine x_iload C dX11_vote_80 (q := 1) rfl ?_
        refine x_iadd C dX11_vote_82 ?_
        obtain ⟨r34, s35, hq33, h⟩ := bnd2_some h
        refine x_callV_i C (m_X11_writes hq33) wv_X11_194 (m_recv C.2.2.2 cl_X11 rfl) rfl (Nat.le_of_ble_eq_true rfl) ⟨⟨rfl, rfl⟩, Nat.le_of_ble_eq_true rfl, Nat.le_of_ble_eq_true rfl⟩ dX11_vote_83 rfl ?_
        refine x_if_ne C (tgt := 91) dX11_vote_86 (by decide) h (fun hc36 h => ?_) (fun hc36 h => ?_)
        · refine x_aload_n C dX11_vote_91 rfl (q := 4) rfl ?_
          refine m_get C cl_X11 19 (by decide) fl_X11_51_X11 rfl rfl dX11_vote_92 ?_
          refine x_iload_n C dX11_vote_95 rfl (q := 7) rfl ?_
          refine x_iload C dX11_vote_96 (q := 3) rfl ?_
          refine m_iast C rfl (fun _ _ => rfl) dX11_vote_98 h (fun k37 hk37 h => ?_)
          refine m_letS h (fun s38 h => ?_)
          refine x_aload_n C dX11_vote_99 rfl (q := 4) rfl ?_
          refine m_get C cl_X11 23 (by decide) fl_X11_63_X11 rfl rfl dX11_vote_100 ?_
          refine x_iload C dX11_vote_103 (q := 0) rfl ?_
          refine x_iload C dX11_vote_105 (q := 3) rfl ?_
          refine m_iast C rfl (fun _ _ => rfl) dX11_vote_107 h (fun k39 hk39 h => ?_)
          refine m_letS h (fun s40 h => ?_)
          refine x_aload_n C dX11_vote_108 rfl (q := 4) rfl ?_
          refine m_get C cl_X11 24 (by decide) fl_X11_66_X11 rfl rfl dX11_vote_109 ?_
          refine x_iload C dX11_vote_112 (q := 0) rfl ?_
          refine x_iload C dX11_vote_114 (q := 1) rfl ?_
          refine m_iast C rfl (fun _ _ => rfl) dX11_vote_116 h (fun k41 hk41 h => ?_)
          refine m_letS h (fun s42 h => ?_)
          refine x_aload_n C dX11_vote_117 rfl (q := 4) rfl ?_
          refine x_iconst C (v := 3) dX11_vote_118 (by decide) ?_
          refine x_aload_n C dX11_vote_119 rfl (q := 4) rfl ?_
          refine m_get C cl_X11 0 (by decide) fl_X11_97_X11 rfl rfl dX11_vote_120 ?_
          refine x_iload C dX11_vote_123 (q := 3) rfl ?_
          refine x_aload_n C dX11_vote_125 rfl (q := 4) rfl ?_
          refine m_get C cl_X11 1 (by decide) fl_X11_101_X11 rfl rfl dX11_vote_126 ?_
          refine x_irem C dX11_vote_129 h (fun h => ?_)
          refine x_iadd C dX11_vote_130 ?_
          refine x_iload_n C dX11_vote_131 rfl (q := 6) rfl ?_
          refine x_iload C dX11_vote_132 (q := 3) rfl ?_
          refine x_iload C dX11_vote_134 (q := 2) rfl ?_
          refine x_iload C dX11_vote_136 (q := 1) rfl ?_
          refine x_iload_n C dX11_vote_138 rfl (q := 5) rfl ?_
          obtain ⟨r44, s45, hq43, h⟩ := bnd2_some h
          refine x_callV_i C (m_X11_post hq43) wv_X11_146 (m_recv C.2.2.2 cl_X11 rfl) rfl (Nat.le_of_ble_eq_true rfl) ⟨⟨rfl, rfl⟩, Nat.le_of_ble_eq_true rfl, Nat.le_of_ble_eq_true rfl⟩ dX11_vote_139 rfl ?_
          refine x_istore C (L' := [(8, .int r44), (7, .int v10), (6, .int v6), (5, .int v4), (4, .int v2), (0, .ref (xaM G 0)), (1, .int x1), (2, .int x2), (3, .int x3)]) dX11_vote_142 (by decide) rfl ?_
          refine x_iconst C (v := 1) dX11_vote_144 (by decide) ?_
          cases h
          exact xr_z C (by decide) hr dX11_vote_145 (fun _ h => h)
        · refine x_iconst C (v := 0) dX11_vote_89 (by decide) ?_
          cases h
          exact xr_z C (by decide) hr dX11_vote_90 (fun _ h => h)
  · refine x_iconst C (v := 1) dX11_vote_35 (by decide) ?_
    cases h
    exact xr_z C (by decide) hr dX11_vote_36 (fun _ h => h)
def f_X11_accept_L139 (z : Nat → Nat) (s19 : Tg) (x1 : Int32) (x2 : Int32) (x3 : Int32) : Nat → Int32 → Int32 → Int32 → Option (Int32 × Int32)
  | 0, _, _, _ => none
  | n + 1, y43, y44, y45 => if (nI (z 0)) ≤ y45 then (some (y43, y44)) else (bnd1 (f_X11_touches z s19 x2 y45) fun r52 => if r52 = 0 then (letv (y45 + 1) fun v54 => f_X11_accept_L139 z s19 x1 x2 x3 n y43 y44 v54) else (bnd1 (α := Int32) (if y43 = 0 then (some (0)) else (gdx ((4 * x3) + y45) (mlen 25) fun k59 => letv (s19.1 25 k59) fun v60 => bnd1 (f_X11_isMajority z s19 v60) fun r62 => if r62 = 0 then (some (0)) else (some (1)))) fun (v55 : Int32) => if y44 = 0 then (gdx ((4 * x3) + y45) (mlen 26) fun k66 => letv (s19.1 26 k66) fun v67 => bnd1 (f_X11_isMajority z s19 v67) fun r69 => if r69 = 0 then (letv (y45 + 1) fun v71 => f_X11_accept_L139 z s19 x1 x2 x3 n v55 0 v71) else (letv (y45 + 1) fun v72 => f_X11_accept_L139 z s19 x1 x2 x3 n v55 1 v72)) else (letv (y45 + 1) fun v65 => f_X11_accept_L139 z s19 x1 x2 x3 n v55 1 v65)))
def f_X11_accept_L254 (z : Nat → Nat) (x1 : Int32) (x2 : Int32) (x3 : Int32) : Nat → Int32 → Tg → Option Tg
  | 0, _, _ => none
  | n + 1, y80, s81 => if (nI (z 0)) ≤ y80 then (some (s81)) else (bnd1 (f_X11_touches z s81 x2 y80) fun r87 => if r87 = 0 then (letv (y80 + 1) fun v89 => f_X11_accept_L254 z x1 x2 x3 n v89 s81) else (gdx x3 (mlen 21) fun k90 => letv (s81.1 21 k90) fun v91 => bnd2 (f_X11_post z s81 6 y80 x2 0 0 v91 x1) fun r93 s94 => letv (y80 + 1) fun v95 => f_X11_accept_L254 z x1 x2 x3 n v95 s94))
def f_X11_accept_L254_3 (z : Nat → Nat) (x1 : Int32) (x2 : Int32) (x3 : Int32) : Nat → Int32 → Tg → Option Tg
  | 0, _, _ => none
  | n + 1, y109, s110 => if (nI (z 0)) ≤ y109 then (some (s110)) else (bnd1 (f_X11_touches z s110 x2 y109) fun r116 => if r116 = 0 then (letv (y109 + 1) fun v118 => f_X11_accept_L254_3 z x1 x2 x3 n v118 s110) else (gdx x3 (mlen 21) fun k119 => letv (s110.1 21 k119) fun v120 => bnd2 (f_X11_post z s110 6 y109 x2 0 0 v120 x1) fun r122 s123 => letv (y109 + 1) fun v124 => f_X11_accept_L254_3 z x1 x2 x3 n v124 s123))
def f_X11_accept (z : Nat → Nat) (τ : Tg) (x1 : Int32) (x2 : Int32) (x3 : Int32) : Option Tg :=
  gdx 4 (mlen 36) fun k1 => letv (τ.1 36 k1) fun v2 => gdx x3 (mlen 20) fun k3 => letv (τ.1 20 k3) fun v4 => gdx 3 (mlen 36) fun k5 => letv (τ.1 36 k5) fun v6 => if v4 = v6 then (gdx x3 (mlen 21) fun k8 => letv (τ.1 21 k8) fun v9 => if v9 = 0 then (gdx 6 (mlen 36) fun k11 => letv (τ.1 36 k11) fun v12 => letv (1 <<< ((v12 - (nI (z 0))) &&& 31)) fun v13 => letv ((4 * x3) + v2) fun v14 => gdx v14 (mlen 25) fun k15 => letv (τ.1 25 k15) fun v16 => gdx v14 (mlen 26) fun k17 => letv (τ.1 26 k17) fun v18 => bnd1 (α := Tg) (if ((v16 ||| v18) &&& v13) = 0 then (gdx v14 (mlen 25) fun k23 => letv (τ.1 25 k23) fun v24 => gdx 5 (mlen 36) fun k25 => letv (τ.1 36 k25) fun v26 => bnd1 (α := Int32) (if v26 = 1 then (some (v13)) else (some (0))) fun (v27 : Int32) => gdx v14 (mlen 25) fun k31 => letv (tpI τ 25 k31 (v24 ||| v27)) fun s32 => gdx v14 (mlen 26) fun k33 => letv (s32.1 26 k33) fun v34 => gdx 5 (mlen 36) fun k35 => letv (s32.1 36 k35) fun v36 => bnd1 (α := Int32) (if v36 = 2 then (some (v13)) else (some (0))) fun (v37 : Int32) => gdx v14 (mlen 26) fun k41 => letv (tpI s32 26 k41 (v34 ||| v37)) fun s42 => some (s42)) else (some (τ))) fun (s19 : Tg) => bnd2 (f_X11_accept_L139 z s19 x1 x2 x3 FU 1 0 0) fun (v46 : Int32) (v47 : Int32) => if v47 = 0 then (if v46 = 0 then (some (s19)) else (bnd1 (α := Int32) (if v47 = 0 then (some (3)) else (some (4))) fun (v103 : Int32) => gdx x3 (mlen 21) fun k107 => letv (tpI s19 21 k107 v103) fun s108 => bnd1 (f_X11_accept_L254_3 z x1 x2 x3 FU 0 s108) fun (s111 : Tg) => gdx x3 (mlen 21) fun k125 => letv (s111.1 21 k125) fun v126 => bnd2 (f_X11_post z s111 6 ((nI (z 0)) + (nI (z 1))) x2 0 0 v126 x1) fun r128 s129 => some (s129))) else (bnd1 (α := Int32) (if v47 = 0 then (some (3)) else (some (4))) fun (v74 : Int32) => gdx x3 (mlen 21) fun k78 => letv (tpI s19 21 k78 v74) fun s79 => bnd1 (f_X11_accept_L254 z x1 x2 x3 FU 0 s79) fun (s82 : Tg) => gdx x3 (mlen 21) fun k96 => letv (s82.1 21 k96) fun v97 => bnd2 (f_X11_post z s82 6 ((nI (z 0)) + (nI (z 1))) x2 0 0 v97 x1) fun r99 s100 => some (s100))) else (some (τ))) else (some (τ))
def rm_X11_accept : Room := { frames := 2, cells := 0, slots := 0, locals := 43 }
set_option maxRecDepth 100000 in
set_option maxHeartbeats 4000000 in
theorem m_X11_accept {l : Launch} {G : xG} {z : Nat → Nat} {σ : Sg} {τ : Tg} {x1 : Int32} {x2 : Int32} {x3 : Int32} {sF : Tg} (h : f_X11_accept z τ x1 x2 x3 = some (sF)) : xMet l (xD G) (xcA G) (xbs G) yX11_accept cX11_accept 11 (Option.none : Option Jvm.ClassFile.FieldType) rm_X11_accept [.ref (xaM G 0), .int x1, .int x2, .int x3] (xRep G z σ τ) (xRep G z σ sF) none 0 0 := by
  refine xMet.of RX11 rfl (by decide +kernel) (Nat.le_of_ble_eq_true rfl) ?_
  intro p e s m args below meth c C hr hnm
  unfold f_X11_accept at h
  refine x_sub (L' := [(0, .ref (xaM G 0)), (1, .int x1), (2, .int x2), (3, .int x3)]) [0, 1, 2, 3] rfl ?_
  refine x_aload_n C dX11_accept_0 rfl (q := 0) rfl ?_
  refine m_get C cl_X11 36 (by decide) fl_X11_87_X11 rfl rfl dX11_accept_1 ?_
  refine x_iconst C (v := 4) dX11_accept_4 (by decide) ?_
  refine m_iald C rfl (fun _ _ => rfl) dX11_accept_5 h (fun k1 hk1 h => ?_)
  refine x_letI h (fun v2 h => ?_)
  refine x_istore C (L' := [(4, .int v2), (0, .ref (xaM G 0)), (1, .int x1), (2, .int x2), (3, .int x3)]) dX11_accept_6 (by decide) rfl ?_
  refine x_aload_n C dX11_accept_8 rfl (q := 1) rfl ?_
  refine m_get C cl_X11 20 (by decide) fl_X11_54_X11 rfl rfl dX11_accept_9 ?_
  refine x_iload_n C dX11_accept_12 rfl (q := 4) rfl ?_
  refine m_iald C rfl (fun _ _ => rfl) dX11_accept_13 h (fun k3 hk3 h => ?_)
  refine x_letI h (fun v4 h => ?_)
  refine x_aload_n C dX11_accept_14 rfl (q := 1) rfl ?_
  refine m_get C cl_X11 36 (by decide) fl_X11_87_X11 rfl rfl dX11_accept_15 ?_
  refine x_iconst C (v := 3) dX11_accept_18 (by decide) ?_
  refine m_iald C rfl (fun _ _ => rfl) dX11_accept_19 h (fun k5 hk5 h => ?_)
  refine x_letI h (fun v6 h => ?_)
  refine x_icmp_ne C (tgt := 32) dX11_accept_20 (by decide) h (fun hc7 h => ?_) (fun hc7 h => ?_)
  · cases h
    exact xr_v C hr dX11_accept_32 (fun _ h => h)
  · refine x_aload_n C dX11_accept_23 rfl (q := 1) rfl ?_
    refine m_get C cl_X11 21 (by decide) fl_X11_57_X11 rfl rfl dX11_accept_24 ?_
    refine x_iload_n C dX11_accept_27 rfl (q := 4) rfl ?_
    refine m_iald C rfl (fun _ _ => rfl) dX11_accept_28 h (fun k8 hk8 h => ?_)
    refine x_letI h (fun v9 h => ?_)
    refine x_if_eq C (tgt := 33) dX11_accept_29 (by decide) h (fun hc10 h => ?_) (fun hc10 h => ?_)
    · refine x_iconst C (v := 1) dX11_accept_33 (by decide) ?_
      refine x_aload_n C dX11_accept_34 rfl (q := 1) rfl ?_
      refine m_get C cl_X11 36 (by decide) fl_X11_87_X11 rfl rfl dX11_accept_35 ?_
      refine x_bipush C (v := 6) dX11_accept_38 (by decide) ?_
      refine m_iald C rfl (fun _ _ => rfl) dX11_accept_40 h (fun k11 hk11 h => ?_)
      refine x_letI h (fun v12 h => ?_)
      refine x_aload_n C dX11_accept_41 rfl (q := 1) rfl ?_
      refine m_get C cl_X11 0 (by decide) fl_X11_97_X11 rfl rfl dX11_accept_42 ?_
      refine x_isub C dX11_accept_45 ?_
      refine x_ishl C dX11_accept_46 ?_
      refine x_letI h (fun v13 h => ?_)
      refine x_istore C (L' := [(5, .int v13), (4, .int v2), (0, .ref (xaM G 0)), (1, .int x1), (2, .int x2), (3, .int x3)]) dX11_accept_47 (by decide) rfl ?_
      refine x_iconst C (v := 4) dX11_accept_49 (by decide) ?_
      refine x_iload_n C dX11_accept_50 rfl (q := 5) rfl ?_
      refine x_imul C dX11_accept_51 ?_
      refine x_iload C dX11_accept_52 (q := 1) rfl ?_
      refine x_iadd C dX11_accept_54 ?_
      refine x_letI h (fun v14 h => ?_)
      refine x_istore C (L' := [(6, .int v14), (5, .int v13), (4, .int v2), (0, .ref (xaM G 0)), (1, .int x1), (2, .int x2), (3, .int x3)]) dX11_accept_55 (by decide) rfl ?_
      refine x_aload_n C dX11_accept_57 rfl (q := 3) rfl ?_
      refine m_get C cl_X11 25 (by decide) fl_X11_69_X11 rfl rfl dX11_accept_58 ?_
      refine x_iload C dX11_accept_61 (q := 0) rfl ?_
      refine m_iald C rfl (fun _ _ => rfl) dX11_accept_63 h (fun k15 hk15 h => ?_)
      refine x_letI h (fun v16 h => ?_)
      refine x_aload_n C dX11_accept_64 rfl (q := 3) rfl ?_
      refine m_get C cl_X11 26 (by decide) fl_X11_72_X11 rfl rfl dX11_accept_65 ?_
      refine x_iload C dX11_accept_68 (q := 0) rfl ?_
      refine m_iald C rfl (fun _ _ => rfl) dX11_accept_70 h (fun k17 hk17 h => ?_)
      refine x_letI h (fun v18 h => ?_)
      refine x_ior C dX11_accept_71 ?_
      refine x_iload C dX11_accept_72 (q := 1) rfl ?_
      refine x_iand C dX11_accept_74 ?_
      obtain ⟨s19, hv21, h⟩ := bnd1_some h
      refine x_join (Ω' := (xRep G z σ s19)) (pc' := 130) (L' := [(0, .ref (xaM G 0)), (1, .int x1), (2, .int x2), (3, .int x3)]) (st' := []) ?_ (fun hj20 => ?_)
      · refine x_iconst C (v := 1) dX11_accept_130 (by decide) ?_
        refine x_istore C (L' := [(7, .int 1), (0, .ref (xaM G 0)), (1, .int x1), (2, .int x2), (3, .int x3)]) dX11_accept_131 (by decide) rfl ?_
        refine x_iconst C (v := 0) dX11_accept_133 (by decide) ?_
        refine x_istore C (L' := [(8, .int 0), (7, .int 1), (0, .ref (xaM G 0)), (1, .int x1), (2, .int x2), (3, .int x3)]) dX11_accept_134 (by decide) rfl ?_
        refine x_iconst C (v := 0) dX11_accept_136 (by decide) ?_
        refine x_istore C (L' := [(9, .int 0), (8, .int 0), (7, .int 1), (0, .ref (xaM G 0)), (1, .int x1), (2, .int x2), (3, .int x3)]) dX11_accept_137 (by decide) rfl ?_
        obtain ⟨v46, v47, hv49, h⟩ := bnd2_some h
        refine x_join (Ω' := (xRep G z σ s19)) (pc' := 224) (L' := [(0, .ref (xaM G 0)), (1, .int x1), (2, .int x2), (3, .int x3), (7, .int v46), (8, .int v47)]) (st' := []) ?_ (fun hj48 => ?_)
        · refine x_iload C dX11_accept_224 (q := 5) rfl ?_
          refine x_if_ne C (tgt := 235) dX11_accept_226 (by decide) h (fun hc73 h => ?_) (fun hc73 h => ?_)
          · refine x_aload_n C dX11_accept_235 rfl (q := 0) rfl ?_
            refine m_get C cl_X11 21 (by decide) fl_X11_57_X11 rfl rfl dX11_accept_236 ?_
            refine x_iload_n C dX11_accept_239 rfl (q := 3) rfl ?_
            refine x_iload C dX11_accept_240 (q := 5) rfl ?_
            obtain ⟨v74, hv76, h⟩ := bnd1_some h
            refine x_join (Ω' := (xRep G z σ s19)) (pc' := 250) (L' := [(0, .ref (xaM G 0)), (1, .int x1), (2, .int x2), (3, .int x3)]) (st' := [.int v74, .int x3, .ref (xaM G 21)]) ?_ (fun hj75 => ?_)
            · refine m_iast C rfl (fun _ _ => rfl) dX11_accept_250 h (fun k78 hk78 h => ?_)
              refine m_letS h (fun s79 h => ?_)
              refine x_iconst C (v := 0) dX11_accept_251 (by decide) ?_
              refine x_istore C (L' := [(9, .int 0), (0, .ref (xaM G 0)), (1, .int x1), (2, .int x2), (3, .int x3)]) dX11_accept_252 (by decide) rfl ?_
              obtain ⟨s82, hv84, h⟩ := bnd1_some h
              refine x_join (Ω' := (xRep G z σ s82)) (pc' := 299) (L' := [(0, .ref (xaM G 0)), (1, .int x1), (2, .int x2), (3, .int x3)]) (st' := []) ?_ (fun hj83 => ?_)
              · refine x_aload_n C dX11_accept_299 rfl (q := 0) rfl ?_
                refine x_bipush C (v := 6) dX11_accept_300 (by decide) ?_
                refine x_aload_n C dX11_accept_302 rfl (q := 0) rfl ?_
                refine m_get C cl_X11 0 (by decide) fl_X11_97_X11 rfl rfl dX11_accept_303 ?_
                refine x_aload_n C dX11_accept_306 rfl (q := 0) rfl ?_
                refine m_get C cl_X11 1 (by decide) fl_X11_101_X11 rfl rfl dX11_accept_307 ?_
                refine x_iadd C dX11_accept_310 ?_
                refine x_iload_n C dX11_accept_311 rfl (q := 2) rfl ?_
                refine x_iconst C (v := 0) dX11_accept_312 (by decide) ?_
                refine x_iconst C (v := 0) dX11_accept_313 (by decide) ?_
                refine x_aload_n C dX11_accept_314 rfl (q := 0) rfl ?_
                refine m_get C cl_X11 21 (by decide) fl_X11_57_X11 rfl rfl dX11_accept_315 ?_
                refine x_iload_n C dX11_accept_318 rfl (q := 3) rfl ?_
                refine m_iald C rfl (fun _ _ => rfl) dX11_accept_319 h (fun k96 hk96 h => ?_)
                refine x_letI h (fun v97 h => ?_)
                refine x_iload_n C dX11_accept_320 rfl (q := 1) rfl ?_
                obtain ⟨r99, s100, hq98, h⟩ := bnd2_some h
                refine x_callV_i C (m_X11_post hq98) wv_X11_146 (m_recv C.2.2.2 cl_X11 rfl) rfl (Nat.le_of_ble_eq_true rfl) ⟨⟨rfl, rfl⟩, Nat.le_of_ble_eq_true rfl, Nat.le_of_ble_eq_true rfl⟩ dX11_accept_321 rfl ?_
                refine x_istore C (L' := [(9, .int r99), (0, .ref (xaM G 0)), (1, .int x1), (2, .int x2), (3, .int x3)]) dX11_accept_324 (by decide) rfl ?_
                cases h
                exact xr_v C hr dX11_accept_326 (fun _ h => h)
              · have hl101 : ∀ (n : Nat) (y80 : Int32) (s81 : Tg), f_X11_accept_L254 z x1 x2 x3 n y80 s81 = some (s82) → XW p l e rm_X11_accept s m args below meth c 0 0 11 (xbs G) (xQ below args s (xbs G) none (xRep G z σ sF) 0 0) (xRep G z σ s81) 254 [(0, .ref (xaM G 0)), (1, .int x1), (2, .int x2), (3, .int x3), (9, .int y80)] [] := by
                  intro n
                  induction n with
                  | zero =>
                    intro y80 s81 h
                    exact absurd h (by rw [f_X11_accept_L254]; intro q; cases q)
                  | succ n ih =>
                    intro y80 s81 h
                    rw [f_X11_accept_L254] at h
                    refine x_iload C dX11_accept_254 (q := 4) rfl ?_
                    refine x_aload_n C dX11_accept_256 rfl (q := 0) rfl ?_
                    refine m_get C cl_X11 0 (by decide) fl_X11_97_X11 rfl rfl dX11_accept_257 ?_
                    refine x_icmp_ge C (tgt := 299) dX11_accept_260 (by decide) h (fun hc85 h => ?_) (fun hc85 h => ?_)
                    · cases h
                      exact x_sub [0, 1, 2, 3] rfl hj83
                    · refine x_aload_n C dX11_accept_263 rfl (q := 0) rfl ?_
                      refine x_iload_n C dX11_accept_264 rfl (q := 2) rfl ?_
                      refine x_iload C dX11_accept_265 (q := 4) rfl ?_
                      obtain ⟨r87, hq86, h⟩ := bnd1_some h
                      refine x_callV_i C (m_X11_touches hq86) wv_X11_128 (m_recv C.2.2.2 cl_X11 rfl) rfl (Nat.le_of_ble_eq_true rfl) ⟨⟨rfl, rfl⟩, Nat.le_of_ble_eq_true rfl, Nat.le_of_ble_eq_true rfl⟩ dX11_accept_267 rfl ?_
                      refine x_if_eq C (tgt := 293) dX11_accept_270 (by decide) h (fun hc88 h => ?_) (fun hc88 h => ?_)
                      · refine x_iincL C (w := 1) (L' := fun v89 => [(9, .int v89), (0, .ref (xaM G 0)), (1, .int x1), (2, .int x2), (3, .int x3)]) dX11_accept_293 (k := 4) rfl (by decide) (by decide) (fun _ => rfl) h (fun v89 h => ?_)
                        refine x_goto C (tgt := 254) dX11_accept_296 (by decide) ?_
                        exact x_sub [1, 2, 3, 4, 0] rfl (ih _ _ h)
                      · refine x_aload_n C dX11_accept_273 rfl (q := 0) rfl ?_
                        refine x_bipush C (v := 6) dX11_accept_274 (by decide) ?_
                        refine x_iload C dX11_accept_276 (q := 4) rfl ?_
                        refine x_iload_n C dX11_accept_278 rfl (q := 2) rfl ?_
                        refine x_iconst C (v := 0) dX11_accept_279 (by decide) ?_
                        refine x_iconst C (v := 0) dX11_accept_280 (by decide) ?_
                        refine x_aload_n C dX11_accept_281 rfl (q := 0) rfl ?_
                        refine m_get C cl_X11 21 (by decide) fl_X11_57_X11 rfl rfl dX11_accept_282 ?_
                        refine x_iload_n C dX11_accept_285 rfl (q := 3) rfl ?_
                        refine m_iald C rfl (fun _ _ => rfl) dX11_accept_286 h (fun k90 hk90 h => ?_)
                        refine x_letI h (fun v91 h => ?_)
                        refine x_iload_n C dX11_accept_287 rfl (q := 1) rfl ?_
                        obtain ⟨r93, s94, hq92, h⟩ := bnd2_some h
                        refine x_callV_i C (m_X11_post hq92) wv_X11_146 (m_recv C.2.2.2 cl_X11 rfl) rfl (Nat.le_of_ble_eq_true rfl) ⟨⟨rfl, rfl⟩, Nat.le_of_ble_eq_true rfl, Nat.le_of_ble_eq_true rfl⟩ dX11_accept_288 rfl ?_
                        refine x_istore C (L' := [(10, .int r93), (0, .ref (xaM G 0)), (1, .int x1), (2, .int x2), (3, .int x3), (9, .int y80)]) dX11_accept_291 (by decide) rfl ?_
                        refine x_iincL C (w := 1) (L' := fun v95 => [(9, .int v95), (10, .int r93), (0, .ref (xaM G 0)), (1, .int x1), (2, .int x2), (3, .int x3)]) dX11_accept_293 (k := 5) rfl (by decide) (by decide) (fun _ => rfl) h (fun v95 h => ?_)
                        refine x_goto C (tgt := 254) dX11_accept_296 (by decide) ?_
                        exact x_sub [2, 3, 4, 5, 0] rfl (ih _ _ h)
                exact x_sub [1, 2, 3, 4, 0] rfl (hl101 FU _ _ hv84)
            · replace h := hv76
              clear hv76
              refine x_if_eq C (tgt := 249) dX11_accept_242 (by decide) h (fun hc77 h => ?_) (fun hc77 h => ?_)
              · refine x_iconst C (v := 3) dX11_accept_249 (by decide) ?_
                cases h
                exact x_sub [0, 1, 2, 3] rfl hj75
              · refine x_iconst C (v := 4) dX11_accept_245 (by decide) ?_
                refine x_goto C (tgt := 250) dX11_accept_246 (by decide) ?_
                cases h
                exact x_sub [0, 1, 2, 3] rfl hj75
          · refine x_iload C dX11_accept_229 (q := 4) rfl ?_
            refine x_if_ne C (tgt := 235) dX11_accept_231 (by decide) h (fun hc102 h => ?_) (fun hc102 h => ?_)
            · refine x_aload_n C dX11_accept_235 rfl (q := 0) rfl ?_
              refine m_get C cl_X11 21 (by decide) fl_X11_57_X11 rfl rfl dX11_accept_236 ?_
              refine x_iload_n C dX11_accept_239 rfl (q := 3) rfl ?_
              refine x_iload C dX11_accept_240 (q := 5) rfl ?_
              obtain ⟨v103, hv105, h⟩ := bnd1_some h
              refine x_join (Ω' := (xRep G z σ s19)) (pc' := 250) (L' := [(0, .ref (xaM G 0)), (1, .int x1), (2, .int x2), (3, .int x3)]) (st' := [.int v103, .int x3, .ref (xaM G 21)]) ?_ (fun hj104 => ?_)
              · refine m_iast C rfl (fun _ _ => rfl) dX11_accept_250 h (fun k107 hk107 h => ?_)
                refine m_letS h (fun s108 h => ?_)
                refine x_iconst C (v := 0) dX11_accept_251 (by decide) ?_
                refine x_istore C (L' := [(9, .int 0), (0, .ref (xaM G 0)), (1, .int x1), (2, .int x2), (3, .int x3)]) dX11_accept_252 (by decide) rfl ?_
                obtain ⟨s111, hv113, h⟩ := bnd1_some h
                refine x_join (Ω' := (xRep G z σ s111)) (pc' := 299) (L' := [(0, .ref (xaM G 0)), (1, .int x1), (2, .int x2), (3, .int x3)]) (st' := []) ?_ (fun hj112 => ?_)
                · refine x_aload_n C dX11_accept_299 rfl (q := 0) rfl ?_
                  refine x_bipush C (v := 6) dX11_accept_300 (by decide) ?_
                  refine x_aload_n C dX11_accept_302 rfl (q := 0) rfl ?_
                  refine m_get C cl_X11 0 (by decide) fl_X11_97_X11 rfl rfl dX11_accept_303 ?_
                  refine x_aload_n C dX11_accept_306 rfl (q := 0) rfl ?_
                  refine m_get C cl_X11 1 (by decide) fl_X11_101_X11 rfl rfl dX11_accept_307 ?_
                  refine x_iadd C dX11_accept_310 ?_
                  refine x_iload_n C dX11_accept_311 rfl (q := 2) rfl ?_
                  refine x_iconst C (v := 0) dX11_accept_312 (by decide) ?_
                  refine x_iconst C (v := 0) dX11_accept_313 (by decide) ?_
                  refine x_aload_n C dX11_accept_314 rfl (q := 0) rfl ?_
                  refine m_get C cl_X11 21 (by decide) fl_X11_57_X11 rfl rfl dX11_accept_315 ?_
                  refine x_iload_n C dX11_accept_318 rfl (q := 3) rfl ?_
                  refine m_iald C rfl (fun _ _ => rfl) dX11_accept_319 h (fun k125 hk125 h => ?_)
                  refine x_letI h (fun v126 h => ?_)
                  refine x_iload_n C dX11_accept_320 rfl (q := 1) rfl ?_
                  obtain ⟨r128, s129, hq127, h⟩ := bnd2_some h
                  refine x_callV_i C (m_X11_post hq127) wv_X11_146 (m_recv C.2.2.2 cl_X11 rfl) rfl (Nat.le_of_ble_eq_true rfl) ⟨⟨rfl, rfl⟩, Nat.le_of_ble_eq_true rfl, Nat.le_of_ble_eq_true rfl⟩ dX11_accept_321 rfl ?_
                  refine x_istore C (L' := [(9, .int r128), (0, .ref (xaM G 0)), (1, .int x1), (2, .int x2), (3, .int x3)]) dX11_accept_324 (by decide) rfl ?_
                  cases h
                  exact xr_v C hr dX11_accept_326 (fun _ h => h)
                · have hl130 : ∀ (n : Nat) (y109 : Int32) (s110 : Tg), f_X11_accept_L254_3 z x1 x2 x3 n y109 s110 = some (s111) → XW p l e rm_X11_accept s m args below meth c 0 0 11 (xbs G) (xQ below args s (xbs G) none (xRep G z σ sF) 0 0) (xRep G z σ s110) 254 [(0, .ref (xaM G 0)), (1, .int x1), (2, .int x2), (3, .int x3), (9, .int y109)] [] := by
                    intro n
                    induction n with
                    | zero =>
                      intro y109 s110 h
                      exact absurd h (by rw [f_X11_accept_L254_3]; intro q; cases q)
                    | succ n ih =>
                      intro y109 s110 h
                      rw [f_X11_accept_L254_3] at h
                      refine x_iload C dX11_accept_254 (q := 4) rfl ?_
                      refine x_aload_n C dX11_accept_256 rfl (q := 0) rfl ?_
                      refine m_get C cl_X11 0 (by decide) fl_X11_97_X11 rfl rfl dX11_accept_257 ?_
                      refine x_icmp_ge C (tgt := 299) dX11_accept_260 (by decide) h (fun hc114 h => ?_) (fun hc114 h => ?_)
                      · cases h
                        exact x_sub [0, 1, 2, 3] rfl hj112
                      · refine x_aload_n C dX11_accept_263 rfl (q := 0) rfl ?_
                        refine x_iload_n C dX11_accept_264 rfl (q := 2) rfl ?_
                        refine x_iload C dX11_accept_265 (q := 4) rfl ?_
                        obtain ⟨r116, hq115, h⟩ := bnd1_some h
                        refine x_callV_i C (m_X11_touches hq115) wv_X11_128 (m_recv C.2.2.2 cl_X11 rfl) rfl (Nat.le_of_ble_eq_true rfl) ⟨⟨rfl, rfl⟩, Nat.le_of_ble_eq_true rfl, Nat.le_of_ble_eq_true rfl⟩ dX11_accept_267 rfl ?_
                        refine x_if_eq C (tgt := 293) dX11_accept_270 (by decide) h (fun hc117 h => ?_) (fun hc117 h => ?_)
                        · refine x_iincL C (w := 1) (L' := fun v118 => [(9, .int v118), (0, .ref (xaM G 0)), (1, .int x1), (2, .int x2), (3, .int x3)]) dX11_accept_293 (k := 4) rfl (by decide) (by decide) (fun _ => rfl) h (fun v118 h => ?_)
                          refine x_goto C (tgt := 254) dX11_accept_296 (by decide) ?_
                          exact x_sub [1, 2, 3, 4, 0] rfl (ih _ _ h)
                        · refine x_aload_n C dX11_accept_273 rfl (q := 0) rfl ?_
                          refine x_bipush C (v := 6) dX11_accept_274 (by decide) ?_
                          refine x_iload C dX11_accept_276 (q := 4) rfl ?_
                          refine x_iload_n C dX11_accept_278 rfl (q := 2) rfl ?_
                          refine x_iconst C (v := 0) dX11_accept_279 (by decide) ?_
                          refine x_iconst C (v := 0) dX11_accept_280 (by decide) ?_
                          refine x_aload_n C dX11_accept_281 rfl (q := 0) rfl ?_
                          refine m_get C cl_X11 21 (by decide) fl_X11_57_X11 rfl rfl dX11_accept_282 ?_
                          refine x_iload_n C dX11_accept_285 rfl (q := 3) rfl ?_
                          refine m_iald C rfl (fun _ _ => rfl) dX11_accept_286 h (fun k119 hk119 h => ?_)
                          refine x_letI h (fun v120 h => ?_)
                          refine x_iload_n C dX11_accept_287 rfl (q := 1) rfl ?_
                          obtain ⟨r122, s123, hq121, h⟩ := bnd2_some h
                          refine x_callV_i C (m_X11_post hq121) wv_X11_146 (m_recv C.2.2.2 cl_X11 rfl) rfl (Nat.le_of_ble_eq_true rfl) ⟨⟨rfl, rfl⟩, Nat.le_of_ble_eq_true rfl, Nat.le_of_ble_eq_true rfl⟩ dX11_accept_288 rfl ?_
                          refine x_istore C (L' := [(10, .int r122), (0, .ref (xaM G 0)), (1, .int x1), (2, .int x2), (3, .int x3), (9, .int y109)]) dX11_accept_291 (by decide) rfl ?_
                          refine x_iincL C (w := 1) (L' := fun v124 => [(9, .int v124), (10, .int r122), (0, .ref (xaM G 0)), (1, .int x1), (2, .int x2), (3, .int x3)]) dX11_accept_293 (k := 5) rfl (by decide) (by decide) (fun _ => rfl) h (fun v124 h => ?_)
                          refine x_goto C (tgt := 254) dX11_accept_296 (by decide) ?_
                          exact x_sub [2, 3, 4, 5, 0] rfl (ih _ _ h)
                  exact x_sub [1, 2, 3, 4, 0] rfl (hl130 FU _ _ hv113)
              · replace h := hv105
                clear hv105
                refine x_if_eq C (tgt := 249) dX11_accept_242 (by decide) h (fun hc106 h => ?_) (fun hc106 h => ?_)
                · refine x_iconst C (v := 3) dX11_accept_249 (by decide) ?_
                  cases h
                  exact x_sub [0, 1, 2, 3] rfl hj104
                · refine x_iconst C (v := 4) dX11_accept_245 (by decide) ?_
                  refine x_goto C (tgt := 250) dX11_accept_246 (by decide) ?_
                  cases h
                  exact x_sub [0, 1, 2, 3] rfl hj104
            · cases h
              exact xr_v C hr dX11_accept_234 (fun _ h => h)
        · have hl131 : ∀ (n : Nat) (y43 : Int32) (y44 : Int32) (y45 : Int32), f_X11_accept_L139 z s19 x1 x2 x3 n y43 y44 y45 = some (v46, v47) → XW p l e rm_X11_accept s m args below meth c 0 0 11 (xbs G) (xQ below args s (xbs G) none (xRep G z σ sF) 0 0) (xRep G z σ s19) 139 [(0, .ref (xaM G 0)), (1, .int x1), (2, .int x2), (3, .int x3), (7, .int y43), (8, .int y44), (9, .int y45)] [] := by
            intro n
            induction n with
            | zero =>
              intro y43 y44 y45 h
              exact absurd h (by rw [f_X11_accept_L139]; intro q; cases q)
            | succ n ih =>
              intro y43 y44 y45 h
              rw [f_X11_accept_L139] at h
              refine x_iload C dX11_accept_139 (q := 6) rfl ?_
              refine x_aload_n C dX11_accept_141 rfl (q := 0) rfl ?_
              refine m_get C cl_X11 0 (by decide) fl_X11_97_X11 rfl rfl dX11_accept_142 ?_
              refine x_icmp_ge C (tgt := 224) dX11_accept_145 (by decide) h (fun hc50 h => ?_) (fun hc50 h => ?_)
              · cases h
                exact x_sub [0, 1, 2, 3, 4, 5] rfl hj48
              · refine x_aload_n C dX11_accept_148 rfl (q := 0) rfl ?_
                refine x_iload_n C dX11_accept_149 rfl (q := 2) rfl ?_
                refine x_iload C dX11_accept_150 (q := 6) rfl ?_
                obtain ⟨r52, hq51, h⟩ := bnd1_some h
                refine x_callV_i C (m_X11_touches hq51) wv_X11_128 (m_recv C.2.2.2 cl_X11 rfl) rfl (Nat.le_of_ble_eq_true rfl) ⟨⟨rfl, rfl⟩, Nat.le_of_ble_eq_true rfl, Nat.le_of_ble_eq_true rfl⟩ dX11_accept_152 rfl ?_
                refine x_if_eq C (tgt := 218) dX11_accept_155 (by decide) h (fun hc53 h => ?_) (fun hc53 h => ?_)
                · refine x_iincL C (w := 1) (L' := fun v54 => [(9, .int v54), (0, .ref (xaM G 0)), (1, .int x1), (2, .int x2), (3, .int x3), (7, .int y43), (8, .int y44)]) dX11_accept_218 (k := 6) rfl (by decide) (by decide) (fun _ => rfl) h (fun v54 h => ?_)
                  refine x_goto C (tgt := 139) dX11_accept_221 (by decide) ?_
                  exact x_sub [1, 2, 3, 4, 5, 6, 0] rfl (ih _ _ _ h)
                · refine x_iload C dX11_accept_158 (q := 4) rfl ?_
                  obtain ⟨v55, hv57, h⟩ := bnd1_some h
                  refine x_join (Ω' := (xRep G z σ s19)) (pc' := 186) (L' := [(0, .ref (xaM G 0)), (1, .int x1), (2, .int x2), (3, .int x3), (8, .int y44), (9, .int y45)]) (st' := [.int v55]) ?_ (fun hj56 => ?_)
                  · refine x_istore C (L' := [(7, .int v55), (0, .ref (xaM G 0)), (1, .int x1), (2, .int x2), (3, .int x3), (8, .int y44), (9, .int y45)]) dX11_accept_186 (by decide) rfl ?_
                    refine x_iload C dX11_accept_188 (q := 5) rfl ?_
                    refine x_if_ne C (tgt := 211) dX11_accept_190 (by decide) h (fun hc64 h => ?_) (fun hc64 h => ?_)
                    · refine x_iconst C (v := 1) dX11_accept_211 (by decide) ?_
                      refine x_goto C (tgt := 216) dX11_accept_212 (by decide) ?_
                      refine x_istore C (L' := [(8, .int 1), (7, .int v55), (0, .ref (xaM G 0)), (1, .int x1), (2, .int x2), (3, .int x3), (9, .int y45)]) dX11_accept_216 (by decide) rfl ?_
                      refine x_iincL C (w := 1) (L' := fun v65 => [(9, .int v65), (8, .int 1), (7, .int v55), (0, .ref (xaM G 0)), (1, .int x1), (2, .int x2), (3, .int x3)]) dX11_accept_218 (k := 6) rfl (by decide) (by decide) (fun _ => rfl) h (fun v65 h => ?_)
                      refine x_goto C (tgt := 139) dX11_accept_221 (by decide) ?_
                      exact x_sub [3, 4, 5, 6, 2, 1, 0] rfl (ih _ _ _ h)
                    · refine x_aload_n C dX11_accept_193 rfl (q := 1) rfl ?_
                      refine x_aload_n C dX11_accept_194 rfl (q := 1) rfl ?_
                      refine m_get C cl_X11 26 (by decide) fl_X11_72_X11 rfl rfl dX11_accept_195 ?_
                      refine x_iconst C (v := 4) dX11_accept_198 (by decide) ?_
                      refine x_iload_n C dX11_accept_199 rfl (q := 4) rfl ?_
                      refine x_imul C dX11_accept_200 ?_
                      refine x_iload C dX11_accept_201 (q := 6) rfl ?_
                      refine x_iadd C dX11_accept_203 ?_
                      refine m_iald C rfl (fun _ _ => rfl) dX11_accept_204 h (fun k66 hk66 h => ?_)
                      refine x_letI h (fun v67 h => ?_)
                      obtain ⟨r69, hq68, h⟩ := bnd1_some h
                      refine x_callV_i C (m_X11_isMajority hq68) wv_X11_202 (m_recv C.2.2.2 cl_X11 rfl) rfl (Nat.le_of_ble_eq_true rfl) ⟨⟨rfl, rfl⟩, Nat.le_of_ble_eq_true rfl, Nat.le_of_ble_eq_true rfl⟩ dX11_accept_205 rfl ?_
                      refine x_if_eq C (tgt := 215) dX11_accept_208 (by decide) h (fun hc70 h => ?_) (fun hc70 h => ?_)
                      · refine x_iconst C (v := 0) dX11_accept_215 (by decide) ?_
                        refine x_istore C (L' := [(8, .int 0), (7, .int v55), (0, .ref (xaM G 0)), (1, .int x1), (2, .int x2), (3, .int x3), (9, .int y45)]) dX11_accept_216 (by decide) rfl ?_
                        refine x_iincL C (w := 1) (L' := fun v71 => [(9, .int v71), (8, .int 0), (7, .int v55), (0, .ref (xaM G 0)), (1, .int x1), (2, .int x2), (3, .int x3)]) dX11_accept_218 (k := 6) rfl (by decide) (by decide) (fun _ => rfl) h (fun v71 h => ?_)
                        refine x_goto C (tgt := 139) dX11_accept_221 (by decide) ?_
                        exact x_sub [3, 4, 5, 6, 2, 1, 0] rfl (ih _ _ _ h)
                      · refine x_iconst C (v := 1) dX11_accept_211 (by decide) ?_
                        refine x_goto C (tgt := 216) dX11_accept_212 (by decide) ?_
                        refine x_istore C (L' := [(8, .int 1), (7, .int v55), (0, .ref (xaM G 0)), (1, .int x1), (2, .int x2), (3, .int x3), (9, .int y45)]) dX11_accept_216 (by decide) rfl ?_
                        refine x_iincL C (w := 1) (L' := fun v72 => [(9, .int v72), (8, .int 1), (7, .int v55), (0, .ref (xaM G 0)), (1, .int x1), (2, .int x2), (3, .int x3)]) dX11_accept_218 (k := 6) rfl (by decide) (by decide) (fun _ => rfl) h (fun v72 h => ?_)
                        refine x_goto C (tgt := 139) dX11_accept_221 (by decide) ?_
                        exact x_sub [3, 4, 5, 6, 2, 1, 0] rfl (ih _ _ _ h)
                  · replace h := hv57
                    clear hv57
                    refine x_if_eq C (tgt := 185) dX11_accept_160 (by decide) h (fun hc58 h => ?_) (fun hc58 h => ?_)
                    · refine x_iconst C (v := 0) dX11_accept_185 (by decide) ?_
                      cases h
                      exact x_sub [0, 1, 2, 3, 5, 6] rfl hj56
                    · refine x_aload_n C dX11_accept_163 rfl (q := 0) rfl ?_
                      refine x_aload_n C dX11_accept_164 rfl (q := 0) rfl ?_
                      refine m_get C cl_X11 25 (by decide) fl_X11_69_X11 rfl rfl dX11_accept_165 ?_
                      refine x_iconst C (v := 4) dX11_accept_168 (by decide) ?_
                      refine x_iload_n C dX11_accept_169 rfl (q := 3) rfl ?_
                      refine x_imul C dX11_accept_170 ?_
                      refine x_iload C dX11_accept_171 (q := 6) rfl ?_
                      refine x_iadd C dX11_accept_173 ?_
                      refine m_iald C rfl (fun _ _ => rfl) dX11_accept_174 h (fun k59 hk59 h => ?_)
                      refine x_letI h (fun v60 h => ?_)
                      obtain ⟨r62, hq61, h⟩ := bnd1_some h
                      refine x_callV_i C (m_X11_isMajority hq61) wv_X11_202 (m_recv C.2.2.2 cl_X11 rfl) rfl (Nat.le_of_ble_eq_true rfl) ⟨⟨rfl, rfl⟩, Nat.le_of_ble_eq_true rfl, Nat.le_of_ble_eq_true rfl⟩ dX11_accept_175 rfl ?_
                      refine x_if_eq C (tgt := 185) dX11_accept_178 (by decide) h (fun hc63 h => ?_) (fun hc63 h => ?_)
                      · refine x_iconst C (v := 0) dX11_accept_185 (by decide) ?_
                        cases h
                        exact x_sub [0, 1, 2, 3, 5, 6] rfl hj56
                      · refine x_iconst C (v := 1) dX11_accept_181 (by decide) ?_
                        refine x_goto C (tgt := 186) dX11_accept_182 (by decide) ?_
                        cases h
                        exact x_sub [0, 1, 2, 3, 5, 6] rfl hj56
          exact x_sub [3, 4, 5, 6, 2, 1, 0] rfl (hl131 FU _ _ _ hv49)
      · replace h := hv21
        clear hv21
        refine x_if_ne C (tgt := 130) dX11_accept_75 (by decide) h (fun hc22 h => ?_) (fun hc22 h => ?_)
        · cases h
          exact x_sub [3, 4, 5, 6] rfl hj20
        · refine x_aload_n C dX11_accept_78 rfl (q := 3) rfl ?_
          refine m_get C cl_X11 25 (by decide) fl_X11_69_X11 rfl rfl dX11_accept_79 ?_
          refine x_iload C dX11_accept_82 (q := 0) rfl ?_
          refine x_dup2 C dX11_accept_84 rfl rfl ?_
          refine m_iald C rfl (fun _ _ => rfl) dX11_accept_85 h (fun k23 hk23 h => ?_)
          refine x_letI h (fun v24 h => ?_)
          refine x_aload_n C dX11_accept_86 rfl (q := 3) rfl ?_
          refine m_get C cl_X11 36 (by decide) fl_X11_87_X11 rfl rfl dX11_accept_87 ?_
          refine x_iconst C (v := 5) dX11_accept_90 (by decide) ?_
          refine m_iald C rfl (fun _ _ => rfl) dX11_accept_91 h (fun k25 hk25 h => ?_)
          refine x_letI h (fun v26 h => ?_)
          refine x_iconst C (v := 1) dX11_accept_92 (by decide) ?_
          obtain ⟨v27, hv29, h⟩ := bnd1_some h
          refine x_join (Ω' := (xRep G z σ τ)) (pc' := 102) (L' := [(0, .ref (xaM G 0)), (1, .int x1), (2, .int x2), (3, .int x3), (5, .int v13), (6, .int v14)]) (st' := [.int v27, .int v24, .int v14, .ref (xaM G 25)]) ?_ (fun hj28 => ?_)
          · refine x_ior C dX11_accept_102 ?_
            refine m_iast C rfl (fun _ _ => rfl) dX11_accept_103 h (fun k31 hk31 h => ?_)
            refine m_letS h (fun s32 h => ?_)
            refine x_aload_n C dX11_accept_104 rfl (q := 0) rfl ?_
            refine m_get C cl_X11 26 (by decide) fl_X11_72_X11 rfl rfl dX11_accept_105 ?_
            refine x_iload C dX11_accept_108 (q := 5) rfl ?_
            refine x_dup2 C dX11_accept_110 rfl rfl ?_
            refine m_iald C rfl (fun _ _ => rfl) dX11_accept_111 h (fun k33 hk33 h => ?_)
            refine x_letI h (fun v34 h => ?_)
            refine x_aload_n C dX11_accept_112 rfl (q := 0) rfl ?_
            refine m_get C cl_X11 36 (by decide) fl_X11_87_X11 rfl rfl dX11_accept_113 ?_
            refine x_iconst C (v := 5) dX11_accept_116 (by decide) ?_
            refine m_iald C rfl (fun _ _ => rfl) dX11_accept_117 h (fun k35 hk35 h => ?_)
            refine x_letI h (fun v36 h => ?_)
            refine x_iconst C (v := 2) dX11_accept_118 (by decide) ?_
            obtain ⟨v37, hv39, h⟩ := bnd1_some h
            refine x_join (Ω' := (xRep G z σ s32)) (pc' := 128) (L' := [(0, .ref (xaM G 0)), (1, .int x1), (2, .int x2), (3, .int x3)]) (st' := [.int v37, .int v34, .int v14, .ref (xaM G 26)]) ?_ (fun hj38 => ?_)
            · refine x_ior C dX11_accept_128 ?_
              refine m_iast C rfl (fun _ _ => rfl) dX11_accept_129 h (fun k41 hk41 h => ?_)
              refine m_letS h (fun s42 h => ?_)
              cases h
              exact x_sub [0, 1, 2, 3] rfl hj20
            · replace h := hv39
              clear hv39
              refine x_icmp_ne C (tgt := 127) dX11_accept_119 (by decide) h (fun hc40 h => ?_) (fun hc40 h => ?_)
              · refine x_iconst C (v := 0) dX11_accept_127 (by decide) ?_
                cases h
                exact x_sub [0, 1, 2, 3] rfl hj38
              · refine x_iload C dX11_accept_122 (q := 4) rfl ?_
                refine x_goto C (tgt := 128) dX11_accept_124 (by decide) ?_
                cases h
                exact x_sub [0, 1, 2, 3] rfl hj38
          · replace h := hv29
            clear hv29
            refine x_icmp_ne C (tgt := 101) dX11_accept_93 (by decide) h (fun hc30 h => ?_) (fun hc30 h => ?_)
            · refine x_iconst C (v := 0) dX11_accept_101 (by decide) ?_
              cases h
              exact x_sub [3, 4, 5, 6, 1, 0] rfl hj28
            · refine x_iload C dX11_accept_96 (q := 1) rfl ?_
              refine x_goto C (tgt := 102) dX11_accept_98 (by decide) ?_
              cases h
              exact x_sub [3, 4, 5, 6, 1, 0] rfl hj28
    · cases h
      exact xr_v C hr dX11_accept_32 (fun _ h => h)
def f_X11_answer_L83 (z : Nat → Nat) (x3 : Int32) (r10 : Int32) : Nat → Int32 → Tg → Option Tg
  | 0, _, _ => none
  | n + 1, y12, s13 => if 4 ≤ y12 then (some (s13)) else (if r10 < 0 then (some (s13)) else (gdx ((4 * x3) + y12) (mlen 23) fun k19 => letv (s13.1 23 k19) fun v20 => gdx ((8 * r10) + y12) (mlen 31) fun k21 => letv (tpI s13 31 k21 v20) fun s22 => gdx ((4 * x3) + y12) (mlen 24) fun k23 => letv (s22.1 24 k23) fun v24 => gdx (((8 * r10) + 4) + y12) (mlen 31) fun k25 => letv (tpI s22 31 k25 v24) fun s26 => letv (y12 + 1) fun v27 => f_X11_answer_L83 z x3 r10 n v27 s26))
def f_X11_answer_L83_2 (z : Nat → Nat) (x3 : Int32) (r36 : Int32) : Nat → Int32 → Tg → Option Tg
  | 0, _, _ => none
  | n + 1, y38, s39 => if 4 ≤ y38 then (some (s39)) else (if r36 < 0 then (some (s39)) else (gdx ((4 * x3) + y38) (mlen 23) fun k45 => letv (s39.1 23 k45) fun v46 => gdx ((8 * r36) + y38) (mlen 31) fun k47 => letv (tpI s39 31 k47 v46) fun s48 => gdx ((4 * x3) + y38) (mlen 24) fun k49 => letv (s48.1 24 k49) fun v50 => gdx (((8 * r36) + 4) + y38) (mlen 31) fun k51 => letv (tpI s48 31 k51 v50) fun s52 => letv (y38 + 1) fun v53 => f_X11_answer_L83_2 z x3 r36 n v53 s52))
def f_X11_answer (z : Nat → Nat) (τ : Tg) (x1 : Int32) (x2 : Int32) (x3 : Int32) : Option (Int32 × Tg) :=
  gdx 3 (mlen 36) fun k1 => letv (τ.1 36 k1) fun v2 => gdx x3 (mlen 19) fun k3 => letv (τ.1 19 k3) fun v4 => if v4 ≤ v2 then (gdx x3 (mlen 19) fun k6 => letv (τ.1 19 k6) fun v7 => if v2 ≤ v7 then (gnz (nI (z 1)) <| bnd2 (f_X11_post z τ 5 ((nI (z 0)) + (v2 - v2 / (nI (z 1)) * (nI (z 1)))) x2 v2 0 0 x1) fun r10 s11 => bnd1 (f_X11_answer_L83 z x3 r10 FU 0 s11) fun (s14 : Tg) => some (1, s14)) else (bnd2 (f_X11_writes z τ x1 3 x2 v2 0) fun r30 s31 => if r30 = 0 then (some (0, s31)) else (gdx x3 (mlen 19) fun k33 => letv (tpI s31 19 k33 v2) fun s34 => gnz (nI (z 1)) <| bnd2 (f_X11_post z s34 5 ((nI (z 0)) + (v2 - v2 / (nI (z 1)) * (nI (z 1)))) x2 v2 0 0 x1) fun r36 s37 => bnd1 (f_X11_answer_L83_2 z x3 r36 FU 0 s37) fun (s40 : Tg) => some (1, s40)))) else (some (1, τ))
def rm_X11_answer : Room := { frames := 1, cells := 0, slots := 0, locals := 28 }
set_option maxRecDepth 100000 in
set_option maxHeartbeats 4000000 in
theorem m_X11_answer {l : Launch} {G : xG} {z : Nat → Nat} {σ : Sg} {τ : Tg} {x1 : Int32} {x2 : Int32} {x3 : Int32} {rF : Int32} {sF : Tg} (h : f_X11_answer z τ x1 x2 x3 = some (rF, sF)) : xMet l (xD G) (xcA G) (xbs G) yX11_answer cX11_answer 7 (Option.some Jvm.ClassFile.FieldType.boolean) rm_X11_answer [.ref (xaM G 0), .int x1, .int x2, .int x3] (xRep G z σ τ) (xRep G z σ sF) (some (.int rF)) 0 0 := by
  refine xMet.of RX11 rfl (by decide +kernel) (Nat.le_of_ble_eq_true rfl) ?_
  intro p e s m args below meth c C hr hnm
  unfold f_X11_answer at h
  refine x_sub (L' := [(0, .ref (xaM G 0)), (1, .int x1), (2, .int x2), (3, .int x3)]) [0, 1, 2, 3] rfl ?_
  refine x_aload_n C dX11_answer_0 rfl (q := 0) rfl ?_
  refine m_get C cl_X11 36 (by decide) fl_X11_87_X11 rfl rfl dX11_answer_1 ?_
  refine x_iconst C (v := 3) dX11_answer_4 (by decide) ?_
  refine m_iald C rfl (fun _ _ => rfl) dX11_answer_5 h (fun k1 hk1 h => ?_)
  refine x_letI h (fun v2 h => ?_)
  refine x_istore C (L' := [(4, .int v2), (0, .ref (xaM G 0)), (1, .int x1), (2, .int x2), (3, .int x3)]) dX11_answer_6 (by decide) rfl ?_
  refine x_iload C dX11_answer_8 (q := 0) rfl ?_
  refine x_aload_n C dX11_answer_10 rfl (q := 1) rfl ?_
  refine m_get C cl_X11 19 (by decide) fl_X11_51_X11 rfl rfl dX11_answer_11 ?_
  refine x_iload_n C dX11_answer_14 rfl (q := 4) rfl ?_
  refine m_iald C rfl (fun _ _ => rfl) dX11_answer_15 h (fun k3 hk3 h => ?_)
  refine x_letI h (fun v4 h => ?_)
  refine x_icmp_ge C (tgt := 21) dX11_answer_16 (by decide) h (fun hc5 h => ?_) (fun hc5 h => ?_)
  · refine x_iload C dX11_answer_21 (q := 0) rfl ?_
    refine x_aload_n C dX11_answer_23 rfl (q := 1) rfl ?_
    refine m_get C cl_X11 19 (by decide) fl_X11_51_X11 rfl rfl dX11_answer_24 ?_
    refine x_iload_n C dX11_answer_27 rfl (q := 4) rfl ?_
    refine m_iald C rfl (fun _ _ => rfl) dX11_answer_28 h (fun k6 hk6 h => ?_)
    refine x_letI h (fun v7 h => ?_)
    refine x_icmp_le C (tgt := 55) dX11_answer_29 (by decide) h (fun hc8 h => ?_) (fun hc8 h => ?_)
    · refine x_aload_n C dX11_answer_55 rfl (q := 1) rfl ?_
      refine x_iconst C (v := 5) dX11_answer_56 (by decide) ?_
      refine x_aload_n C dX11_answer_57 rfl (q := 1) rfl ?_
      refine m_get C cl_X11 0 (by decide) fl_X11_97_X11 rfl rfl dX11_answer_58 ?_
      refine x_iload C dX11_answer_61 (q := 0) rfl ?_
      refine x_aload_n C dX11_answer_63 rfl (q := 1) rfl ?_
      refine m_get C cl_X11 1 (by decide) fl_X11_101_X11 rfl rfl dX11_answer_64 ?_
      refine x_irem C dX11_answer_67 h (fun h => ?_)
      refine x_iadd C dX11_answer_68 ?_
      refine x_iload_n C dX11_answer_69 rfl (q := 3) rfl ?_
      refine x_iload C dX11_answer_70 (q := 0) rfl ?_
      refine x_iconst C (v := 0) dX11_answer_72 (by decide) ?_
      refine x_iconst C (v := 0) dX11_answer_73 (by decide) ?_
      refine x_iload_n C dX11_answer_74 rfl (q := 2) rfl ?_
      obtain ⟨r10, s11, hq9, h⟩ := bnd2_some h
      refine x_callV_i C (m_X11_post hq9) wv_X11_146 (m_recv C.2.2.2 cl_X11 rfl) rfl (Nat.le_of_ble_eq_true rfl) ⟨⟨rfl, rfl⟩, Nat.le_of_ble_eq_true rfl, Nat.le_of_ble_eq_true rfl⟩ dX11_answer_75 rfl ?_
      refine x_istore C (L' := [(5, .int r10), (4, .int v2), (0, .ref (xaM G 0)), (1, .int x1), (2, .int x2), (3, .int x3)]) dX11_answer_78 (by decide) rfl ?_
      refine x_iconst C (v := 0) dX11_answer_80 (by decide) ?_
      refine x_istore C (L' := [(6, .int 0), (5, .int r10), (4, .int v2), (0, .ref (xaM G 0)), (1, .int x1), (2, .int x2), (3, .int x3)]) dX11_answer_81 (by decide) rfl ?_
      obtain ⟨s14, hv16, h⟩ := bnd1_some h
      refine x_join (Ω' := (xRep G z σ s14)) (pc' := 150) (L' := []) (st' := []) ?_ (fun hj15 => ?_)
      · refine x_iconst C (v := 1) dX11_answer_150 (by decide) ?_
        cases h
        exact xr_z C (by decide) hr dX11_answer_151 (fun _ h => h)
      · have hl28 : ∀ (n : Nat) (y12 : Int32) (s13 : Tg), f_X11_answer_L83 z x3 r10 n y12 s13 = some (s14) → XW p l e rm_X11_answer s m args below meth c 0 0 7 (xbs G) (xQ below args s (xbs G) (some (.int rF)) (xRep G z σ sF) 0 0) (xRep G z σ s13) 83 [(0, .ref (xaM G 0)), (3, .int x3), (5, .int r10), (6, .int y12)] [] := by
          intro n
          induction n with
          | zero =>
            intro y12 s13 h
            exact absurd h (by rw [f_X11_answer_L83]; intro q; cases q)
          | succ n ih =>
            intro y12 s13 h
            rw [f_X11_answer_L83] at h
            refine x_iload C dX11_answer_83 (q := 3) rfl ?_
            refine x_iconst C (v := 4) dX11_answer_85 (by decide) ?_
            refine x_icmp_ge C (tgt := 150) dX11_answer_86 (by decide) h (fun hc17 h => ?_) (fun hc17 h => ?_)
            · cases h
              exact x_sub [] rfl hj15
            · refine x_iload C dX11_answer_89 (q := 2) rfl ?_
              refine x_if_lt C (tgt := 150) dX11_answer_91 (by decide) h (fun hc18 h => ?_) (fun hc18 h => ?_)
              · cases h
                exact x_sub [] rfl hj15
              · refine x_aload_n C dX11_answer_94 rfl (q := 0) rfl ?_
                refine m_get C cl_X11 31 (by decide) fl_X11_84_X11 rfl rfl dX11_answer_95 ?_
                refine x_bipush C (v := 8) dX11_answer_98 (by decide) ?_
                refine x_iload C dX11_answer_100 (q := 2) rfl ?_
                refine x_imul C dX11_answer_102 ?_
                refine x_iload C dX11_answer_103 (q := 3) rfl ?_
                refine x_iadd C dX11_answer_105 ?_
                refine x_aload_n C dX11_answer_106 rfl (q := 0) rfl ?_
                refine m_get C cl_X11 23 (by decide) fl_X11_63_X11 rfl rfl dX11_answer_107 ?_
                refine x_iconst C (v := 4) dX11_answer_110 (by decide) ?_
                refine x_iload_n C dX11_answer_111 rfl (q := 1) rfl ?_
                refine x_imul C dX11_answer_112 ?_
                refine x_iload C dX11_answer_113 (q := 3) rfl ?_
                refine x_iadd C dX11_answer_115 ?_
                refine m_iald C rfl (fun _ _ => rfl) dX11_answer_116 h (fun k19 hk19 h => ?_)
                refine x_letI h (fun v20 h => ?_)
                refine m_iast C rfl (fun _ _ => rfl) dX11_answer_117 h (fun k21 hk21 h => ?_)
                refine m_letS h (fun s22 h => ?_)
                refine x_aload_n C dX11_answer_118 rfl (q := 0) rfl ?_
                refine m_get C cl_X11 31 (by decide) fl_X11_84_X11 rfl rfl dX11_answer_119 ?_
                refine x_bipush C (v := 8) dX11_answer_122 (by decide) ?_
                refine x_iload C dX11_answer_124 (q := 2) rfl ?_
                refine x_imul C dX11_answer_126 ?_
                refine x_iconst C (v := 4) dX11_answer_127 (by decide) ?_
                refine x_iadd C dX11_answer_128 ?_
                refine x_iload C dX11_answer_129 (q := 3) rfl ?_
                refine x_iadd C dX11_answer_131 ?_
                refine x_aload_n C dX11_answer_132 rfl (q := 0) rfl ?_
                refine m_get C cl_X11 24 (by decide) fl_X11_66_X11 rfl rfl dX11_answer_133 ?_
                refine x_iconst C (v := 4) dX11_answer_136 (by decide) ?_
                refine x_iload_n C dX11_answer_137 rfl (q := 1) rfl ?_
                refine x_imul C dX11_answer_138 ?_
                refine x_iload C dX11_answer_139 (q := 3) rfl ?_
                refine x_iadd C dX11_answer_141 ?_
                refine m_iald C rfl (fun _ _ => rfl) dX11_answer_142 h (fun k23 hk23 h => ?_)
                refine x_letI h (fun v24 h => ?_)
                refine m_iast C rfl (fun _ _ => rfl) dX11_answer_143 h (fun k25 hk25 h => ?_)
                refine m_letS h (fun s26 h => ?_)
                refine x_iincL C (w := 1) (L' := fun v27 => [(6, .int v27), (0, .ref (xaM G 0)), (3, .int x3), (5, .int r10)]) dX11_answer_144 (k := 3) rfl (by decide) (by decide) (fun _ => rfl) h (fun v27 h => ?_)
                refine x_goto C (tgt := 83) dX11_answer_147 (by decide) ?_
                exact x_sub [1, 2, 3, 0] rfl (ih _ _ h)
        exact x_sub [3, 6, 1, 0] rfl (hl28 FU _ _ hv16)
    · refine x_aload_n C dX11_answer_32 rfl (q := 1) rfl ?_
      refine x_iload_n C dX11_answer_33 rfl (q := 2) rfl ?_
      refine x_iconst C (v := 3) dX11_answer_34 (by decide) ?_
      refine x_iload_n C dX11_answer_35 rfl (q := 3) rfl ?_
      refine x_iload C dX11_answer_36 (q := 0) rfl ?_
      refine x_iconst C (v := 0) dX11_answer_38 (by decide) ?_
      obtain ⟨r30, s31, hq29, h⟩ := bnd2_some h
      refine x_callV_i C (m_X11_writes hq29) wv_X11_194 (m_recv C.2.2.2 cl_X11 rfl) rfl (Nat.le_of_ble_eq_true rfl) ⟨⟨rfl, rfl⟩, Nat.le_of_ble_eq_true rfl, Nat.le_of_ble_eq_true rfl⟩ dX11_answer_39 rfl ?_
      refine x_if_ne C (tgt := 47) dX11_answer_42 (by decide) h (fun hc32 h => ?_) (fun hc32 h => ?_)
      · refine x_aload_n C dX11_answer_47 rfl (q := 1) rfl ?_
        refine m_get C cl_X11 19 (by decide) fl_X11_51_X11 rfl rfl dX11_answer_48 ?_
        refine x_iload_n C dX11_answer_51 rfl (q := 4) rfl ?_
        refine x_iload C dX11_answer_52 (q := 0) rfl ?_
        refine m_iast C rfl (fun _ _ => rfl) dX11_answer_54 h (fun k33 hk33 h => ?_)
        refine m_letS h (fun s34 h => ?_)
        refine x_aload_n C dX11_answer_55 rfl (q := 1) rfl ?_
        refine x_iconst C (v := 5) dX11_answer_56 (by decide) ?_
        refine x_aload_n C dX11_answer_57 rfl (q := 1) rfl ?_
        refine m_get C cl_X11 0 (by decide) fl_X11_97_X11 rfl rfl dX11_answer_58 ?_
        refine x_iload C dX11_answer_61 (q := 0) rfl ?_
        refine x_aload_n C dX11_answer_63 rfl (q := 1) rfl ?_
        refine m_get C cl_X11 1 (by decide) fl_X11_101_X11 rfl rfl dX11_answer_64 ?_
        refine x_irem C dX11_answer_67 h (fun h => ?_)
        refine x_iadd C dX11_answer_68 ?_
        refine x_iload_n C dX11_answer_69 rfl (q := 3) rfl ?_
        refine x_iload C dX11_answer_70 (q := 0) rfl ?_
        refine x_iconst C (v := 0) dX11_answer_72 (by decide) ?_
        refine x_iconst C (v := 0) dX11_answer_73 (by decide) ?_
        refine x_iload_n C dX11_answer_74 rfl (q := 2) rfl ?_
        obtain ⟨r36, s37, hq35, h⟩ := bnd2_some h
        refine x_callV_i C (m_X11_post hq35) wv_X11_146 (m_recv C.2.2.2 cl_X11 rfl) rfl (Nat.le_of_ble_eq_true rfl) ⟨⟨rfl, rfl⟩, Nat.le_of_ble_eq_true rfl, Nat.le_of_ble_eq_true rfl⟩ dX11_answer_75 rfl ?_
        refine x_istore C (L' := [(5, .int r36), (4, .int v2), (0, .ref (xaM G 0)), (1, .int x1), (2, .int x2), (3, .int x3)]) dX11_answer_78 (by decide) rfl ?_
        refine x_iconst C (v := 0) dX11_answer_80 (by decide) ?_
        refine x_istore C (L' := [(6, .int 0), (5, .int r36), (4, .int v2), (0, .ref (xaM G 0)), (1, .int x1), (2, .int x2), (3, .int x3)]) dX11_answer_81 (by decide) rfl ?_
        obtain ⟨s40, hv42, h⟩ := bnd1_some h
        refine x_join (Ω' := (xRep G z σ s40)) (pc' := 150) (L' := []) (st' := []) ?_ (fun hj41 => ?_)
        · refine x_iconst C (v := 1) dX11_answer_150 (by decide) ?_
          cases h
          exact xr_z C (by decide) hr dX11_answer_151 (fun _ h => h)
        · have hl54 : ∀ (n : Nat) (y38 : Int32) (s39 : Tg), f_X11_answer_L83_2 z x3 r36 n y38 s39 = some (s40) → XW p l e rm_X11_answer s m args below meth c 0 0 7 (xbs G) (xQ below args s (xbs G) (some (.int rF)) (xRep G z σ sF) 0 0) (xRep G z σ s39) 83 [(0, .ref (xaM G 0)), (3, .int x3), (5, .int r36), (6, .int y38)] [] := by
            intro n
            induction n with
            | zero =>
              intro y38 s39 h
              exact absurd h (by rw [f_X11_answer_L83_2]; intro q; cases q)
            | succ n ih =>
              intro y38 s39 h
              rw [f_X11_answer_L83_2] at h
              refine x_iload C dX11_answer_83 (q := 3) rfl ?_
              refine x_iconst C (v := 4) dX11_answer_85 (by decide) ?_
              refine x_icmp_ge C (tgt := 150) dX11_answer_86 (by decide) h (fun hc43 h => ?_) (fun hc43 h => ?_)
              · cases h
                exact x_sub [] rfl hj41
              · refine x_iload C dX11_answer_89 (q := 2) rfl ?_
                refine x_if_lt C (tgt := 150) dX11_answer_91 (by decide) h (fun hc44 h => ?_) (fun hc44 h => ?_)
                · cases h
                  exact x_sub [] rfl hj41
                · refine x_aload_n C dX11_answer_94 rfl (q := 0) rfl ?_
                  refine m_get C cl_X11 31 (by decide) fl_X11_84_X11 rfl rfl dX11_answer_95 ?_
                  refine x_bipush C (v := 8) dX11_answer_98 (by decide) ?_
                  refine x_iload C dX11_answer_100 (q := 2) rfl ?_
                  refine x_imul C dX11_answer_102 ?_
                  refine x_iload C dX11_answer_103 (q := 3) rfl ?_
                  refine x_iadd C dX11_answer_105 ?_
                  refine x_aload_n C dX11_answer_106 rfl (q := 0) rfl ?_
                  refine m_get C cl_X11 23 (by decide) fl_X11_63_X11 rfl rfl dX11_answer_107 ?_
                  refine x_iconst C (v := 4) dX11_answer_110 (by decide) ?_
                  refine x_iload_n C dX11_answer_111 rfl (q := 1) rfl ?_
                  refine x_imul C dX11_answer_112 ?_
                  refine x_iload C dX11_answer_113 (q := 3) rfl ?_
                  refine x_iadd C dX11_answer_115 ?_
                  refine m_iald C rfl (fun _ _ => rfl) dX11_answer_116 h (fun k45 hk45 h => ?_)
                  refine x_letI h (fun v46 h => ?_)
                  refine m_iast C rfl (fun _ _ => rfl) dX11_answer_117 h (fun k47 hk47 h => ?_)
                  refine m_letS h (fun s48 h => ?_)
                  refine x_aload_n C dX11_answer_118 rfl (q := 0) rfl ?_
                  refine m_get C cl_X11 31 (by decide) fl_X11_84_X11 rfl rfl dX11_answer_119 ?_
                  refine x_bipush C (v := 8) dX11_answer_122 (by decide) ?_
                  refine x_iload C dX11_answer_124 (q := 2) rfl ?_
                  refine x_imul C dX11_answer_126 ?_
                  refine x_iconst C (v := 4) dX11_answer_127 (by decide) ?_
                  refine x_iadd C dX11_answer_128 ?_
                  refine x_iload C dX11_answer_129 (q := 3) rfl ?_
                  refine x_iadd C dX11_answer_131 ?_
                  refine x_aload_n C dX11_answer_132 rfl (q := 0) rfl ?_
                  refine m_get C cl_X11 24 (by decide) fl_X11_66_X11 rfl rfl dX11_answer_133 ?_
                  refine x_iconst C (v := 4) dX11_answer_136 (by decide) ?_
                  refine x_iload_n C dX11_answer_137 rfl (q := 1) rfl ?_
                  refine x_imul C dX11_answer_138 ?_
                  refine x_iload C dX11_answer_139 (q := 3) rfl ?_
                  refine x_iadd C dX11_answer_141 ?_
                  refine m_iald C rfl (fun _ _ => rfl) dX11_answer_142 h (fun k49 hk49 h => ?_)
                  refine x_letI h (fun v50 h => ?_)
                  refine m_iast C rfl (fun _ _ => rfl) dX11_answer_143 h (fun k51 hk51 h => ?_)
                  refine m_letS h (fun s52 h => ?_)
                  refine x_iincL C (w := 1) (L' := fun v53 => [(6, .int v53), (0, .ref (xaM G 0)), (3, .int x3), (5, .int r36)]) dX11_answer_144 (k := 3) rfl (by decide) (by decide) (fun _ => rfl) h (fun v53 h => ?_)
                  refine x_goto C (tgt := 83) dX11_answer_147 (by decide) ?_
                  exact x_sub [1, 2, 3, 0] rfl (ih _ _ h)
          exact x_sub [3, 6, 1, 0] rfl (hl54 FU _ _ hv42)
      · refine x_iconst C (v := 0) dX11_answer_45 (by decide) ?_
        cases h
        exact xr_z C (by decide) hr dX11_answer_46 (fun _ h => h)
  · refine x_iconst C (v := 1) dX11_answer_19 (by decide) ?_
    cases h
    exact xr_z C (by decide) hr dX11_answer_20 (fun _ h => h)
def f_X11_promise_L68 (z : Nat → Nat) (x1 : Int32) (x2 : Int32) (x3 : Int32) (v2 : Int32) : Nat → Int32 → Tg → Option Tg
  | 0, _, _ => none
  | n + 1, y20, s21 => if 4 ≤ y20 then (some (s21)) else (gdx y20 (mlen 37) fun k26 => letv (s21.1 37 k26) fun v27 => gdx ((4 * x3) + y20) (mlen 27) fun k28 => letv (s21.1 27 k28) fun v29 => if v27 ≤ v29 then (letv (y20 + 1) fun v31 => f_X11_promise_L68 z x1 x2 x3 v2 n v31 s21) else (gdx y20 (mlen 37) fun k32 => letv (s21.1 37 k32) fun v33 => gdx ((4 * x3) + y20) (mlen 27) fun k34 => letv (tpI s21 27 k34 v33) fun s35 => gdx (4 + y20) (mlen 37) fun k36 => letv (s35.1 37 k36) fun v37 => gdx ((4 * x3) + y20) (mlen 28) fun k38 => letv (tpI s35 28 k38 v37) fun s39 => letv (y20 + 1) fun v40 => f_X11_promise_L68 z x1 x2 x3 v2 n v40 s39))
def f_X11_promise_L156 (z : Nat → Nat) (x1 : Int32) (x2 : Int32) (x3 : Int32) (v2 : Int32) : Nat → Int32 → Tg → Option Tg
  | 0, _, _ => none
  | n + 1, y46, s47 => if (nI (z 0)) ≤ y46 then (some (s47)) else (bnd1 (f_X11_touches z s47 x2 y46) fun r53 => if r53 = 0 then (letv (y46 + 1) fun v55 => f_X11_promise_L156 z x1 x2 x3 v2 n v55 s47) else (gdx ((4 * x3) + y46) (mlen 27) fun k56 => letv (s47.1 27 k56) fun v57 => bnd1 (α := Int32) (if 0 ≤ v57 then (gdx ((4 * x3) + y46) (mlen 28) fun k62 => letv (s47.1 28 k62) fun v63 => some (v63)) else (some (2))) fun (v58 : Int32) => bnd1 (f_X11_postAll z s47 2 x2 v2 y46 v58 x1) fun s65 => letv (y46 + 1) fun v66 => f_X11_promise_L156 z x1 x2 x3 v2 n v66 s65))
def f_X11_promise (z : Nat → Nat) (τ : Tg) (x1 : Int32) (x2 : Int32) (x3 : Int32) : Option Tg :=
  gdx 3 (mlen 36) fun k1 => letv (τ.1 36 k1) fun v2 => gdx x3 (mlen 20) fun k3 => letv (τ.1 20 k3) fun v4 => if v4 = v2 then (gdx x3 (mlen 21) fun k6 => letv (τ.1 21 k6) fun v7 => if v7 = 0 then (gdx x3 (mlen 22) fun k9 => letv (τ.1 22 k9) fun v10 => bnd1 (f_X11_isMajority z τ v10) fun r12 => if r12 = 0 then (gdx x3 (mlen 22) fun k14 => letv (τ.1 22 k14) fun v15 => gdx 6 (mlen 36) fun k16 => letv (τ.1 36 k16) fun v17 => gdx x3 (mlen 22) fun k18 => letv (tpI τ 22 k18 (v15 ||| (1 <<< ((v17 - (nI (z 0))) &&& 31)))) fun s19 => bnd1 (f_X11_promise_L68 z x1 x2 x3 v2 FU 0 s19) fun (s22 : Tg) => gdx x3 (mlen 22) fun k41 => letv (s22.1 22 k41) fun v42 => bnd1 (f_X11_isMajority z s22 v42) fun r44 => if r44 = 0 then (some (s22)) else (bnd1 (f_X11_promise_L156 z x1 x2 x3 v2 FU 0 s22) fun (s48 : Tg) => some (s48))) else (some (τ))) else (some (τ))) else (some (τ))
def rm_X11_promise : Room := { frames := 2, cells := 0, slots := 0, locals := 56 }
set_option maxRecDepth 100000 in
set_option maxHeartbeats 4000000 in
theorem m_X11_promise {l : Launch} {G : xG} {z : Nat → Nat} {σ : Sg} {τ : Tg} {x1 : Int32} {x2 : Int32} {x3 : Int32} {sF : Tg} (h : f_X11_promise z τ x1 x2 x3 = some (sF)) : xMet l (xD G) (xcA G) (xbs G) yX11_promise cX11_promise 6 (Option.none : Option Jvm.ClassFile.FieldType) rm_X11_promise [.ref (xaM G 0), .int x1, .int x2, .int x3] (xRep G z σ τ) (xRep G z σ sF) none 0 0 := by
  refine xMet.of RX11 rfl (by decide +kernel) (Nat.le_of_ble_eq_true rfl) ?_
  intro p e s m args below meth c C hr hnm
  unfold f_X11_promise at h
  refine x_sub (L' := [(0, .ref (xaM G 0)), (1, .int x1), (2, .int x2), (3, .int x3)]) [0, 1, 2, 3] rfl ?_
  refine x_aload_n C dX11_promise_0 rfl (q := 0) rfl ?_
  refine m_get C cl_X11 36 (by decide) fl_X11_87_X11 rfl rfl dX11_promise_1 ?_
  refine x_iconst C (v := 3) dX11_promise_4 (by decide) ?_
  refine m_iald C rfl (fun _ _ => rfl) dX11_promise_5 h (fun k1 hk1 h => ?_)
  refine x_letI h (fun v2 h => ?_)
  refine x_istore C (L' := [(4, .int v2), (0, .ref (xaM G 0)), (1, .int x1), (2, .int x2), (3, .int x3)]) dX11_promise_6 (by decide) rfl ?_
  refine x_aload_n C dX11_promise_8 rfl (q := 1) rfl ?_
  refine m_get C cl_X11 20 (by decide) fl_X11_54_X11 rfl rfl dX11_promise_9 ?_
  refine x_iload_n C dX11_promise_12 rfl (q := 4) rfl ?_
  refine m_iald C rfl (fun _ _ => rfl) dX11_promise_13 h (fun k3 hk3 h => ?_)
  refine x_letI h (fun v4 h => ?_)
  refine x_iload C dX11_promise_14 (q := 0) rfl ?_
  refine x_icmp_ne C (tgt := 41) dX11_promise_16 (by decide) h (fun hc5 h => ?_) (fun hc5 h => ?_)
  · cases h
    exact xr_v C hr dX11_promise_41 (fun _ h => h)
  · refine x_aload_n C dX11_promise_19 rfl (q := 1) rfl ?_
    refine m_get C cl_X11 21 (by decide) fl_X11_57_X11 rfl rfl dX11_promise_20 ?_
    refine x_iload_n C dX11_promise_23 rfl (q := 4) rfl ?_
    refine m_iald C rfl (fun _ _ => rfl) dX11_promise_24 h (fun k6 hk6 h => ?_)
    refine x_letI h (fun v7 h => ?_)
    refine x_if_ne C (tgt := 41) dX11_promise_25 (by decide) h (fun hc8 h => ?_) (fun hc8 h => ?_)
    · cases h
      exact xr_v C hr dX11_promise_41 (fun _ h => h)
    · refine x_aload_n C dX11_promise_28 rfl (q := 1) rfl ?_
      refine x_aload_n C dX11_promise_29 rfl (q := 1) rfl ?_
      refine m_get C cl_X11 22 (by decide) fl_X11_60_X11 rfl rfl dX11_promise_30 ?_
      refine x_iload_n C dX11_promise_33 rfl (q := 4) rfl ?_
      refine m_iald C rfl (fun _ _ => rfl) dX11_promise_34 h (fun k9 hk9 h => ?_)
      refine x_letI h (fun v10 h => ?_)
      obtain ⟨r12, hq11, h⟩ := bnd1_some h
      refine x_callV_i C (m_X11_isMajority hq11) wv_X11_202 (m_recv C.2.2.2 cl_X11 rfl) rfl (Nat.le_of_ble_eq_true rfl) ⟨⟨rfl, rfl⟩, Nat.le_of_ble_eq_true rfl, Nat.le_of_ble_eq_true rfl⟩ dX11_promise_35 rfl ?_
      refine x_if_eq C (tgt := 42) dX11_promise_38 (by decide) h (fun hc13 h => ?_) (fun hc13 h => ?_)
      · refine x_aload_n C dX11_promise_42 rfl (q := 1) rfl ?_
        refine m_get C cl_X11 22 (by decide) fl_X11_60_X11 rfl rfl dX11_promise_43 ?_
        refine x_iload_n C dX11_promise_46 rfl (q := 4) rfl ?_
        refine x_dup2 C dX11_promise_47 rfl rfl ?_
        refine m_iald C rfl (fun _ _ => rfl) dX11_promise_48 h (fun k14 hk14 h => ?_)
        refine x_letI h (fun v15 h => ?_)
        refine x_iconst C (v := 1) dX11_promise_49 (by decide) ?_
        refine x_aload_n C dX11_promise_50 rfl (q := 1) rfl ?_
        refine m_get C cl_X11 36 (by decide) fl_X11_87_X11 rfl rfl dX11_promise_51 ?_
        refine x_bipush C (v := 6) dX11_promise_54 (by decide) ?_
        refine m_iald C rfl (fun _ _ => rfl) dX11_promise_56 h (fun k16 hk16 h => ?_)
        refine x_letI h (fun v17 h => ?_)
        refine x_aload_n C dX11_promise_57 rfl (q := 1) rfl ?_
        refine m_get C cl_X11 0 (by decide) fl_X11_97_X11 rfl rfl dX11_promise_58 ?_
        refine x_isub C dX11_promise_61 ?_
        refine x_ishl C dX11_promise_62 ?_
        refine x_ior C dX11_promise_63 ?_
        refine m_iast C rfl (fun _ _ => rfl) dX11_promise_64 h (fun k18 hk18 h => ?_)
        refine m_letS h (fun s19 h => ?_)
        refine x_iconst C (v := 0) dX11_promise_65 (by decide) ?_
        refine x_istore C (L' := [(5, .int 0), (4, .int v2), (0, .ref (xaM G 0)), (1, .int x1), (2, .int x2), (3, .int x3)]) dX11_promise_66 (by decide) rfl ?_
        obtain ⟨s22, hv24, h⟩ := bnd1_some h
        refine x_join (Ω' := (xRep G z σ s22)) (pc' := 139) (L' := [(0, .ref (xaM G 0)), (1, .int x1), (2, .int x2), (3, .int x3), (4, .int v2)]) (st' := []) ?_ (fun hj23 => ?_)
        · refine x_aload_n C dX11_promise_139 rfl (q := 0) rfl ?_
          refine x_aload_n C dX11_promise_140 rfl (q := 0) rfl ?_
          refine m_get C cl_X11 22 (by decide) fl_X11_60_X11 rfl rfl dX11_promise_141 ?_
          refine x_iload_n C dX11_promise_144 rfl (q := 3) rfl ?_
          refine m_iald C rfl (fun _ _ => rfl) dX11_promise_145 h (fun k41 hk41 h => ?_)
          refine x_letI h (fun v42 h => ?_)
          obtain ⟨r44, hq43, h⟩ := bnd1_some h
          refine x_callV_i C (m_X11_isMajority hq43) wv_X11_202 (m_recv C.2.2.2 cl_X11 rfl) rfl (Nat.le_of_ble_eq_true rfl) ⟨⟨rfl, rfl⟩, Nat.le_of_ble_eq_true rfl, Nat.le_of_ble_eq_true rfl⟩ dX11_promise_146 rfl ?_
          refine x_if_ne C (tgt := 153) dX11_promise_149 (by decide) h (fun hc45 h => ?_) (fun hc45 h => ?_)
          · refine x_iconst C (v := 0) dX11_promise_153 (by decide) ?_
            refine x_istore C (L' := [(5, .int 0), (0, .ref (xaM G 0)), (1, .int x1), (2, .int x2), (3, .int x3), (4, .int v2)]) dX11_promise_154 (by decide) rfl ?_
            obtain ⟨s48, hv50, h⟩ := bnd1_some h
            refine x_join (Ω' := (xRep G z σ s48)) (pc' := 221) (L' := []) (st' := []) ?_ (fun hj49 => ?_)
            · cases h
              exact xr_v C hr dX11_promise_221 (fun _ h => h)
            · have hl67 : ∀ (n : Nat) (y46 : Int32) (s47 : Tg), f_X11_promise_L156 z x1 x2 x3 v2 n y46 s47 = some (s48) → XW p l e rm_X11_promise s m args below meth c 0 0 6 (xbs G) (xQ below args s (xbs G) none (xRep G z σ sF) 0 0) (xRep G z σ s47) 156 [(0, .ref (xaM G 0)), (1, .int x1), (2, .int x2), (3, .int x3), (4, .int v2), (5, .int y46)] [] := by
                intro n
                induction n with
                | zero =>
                  intro y46 s47 h
                  exact absurd h (by rw [f_X11_promise_L156]; intro q; cases q)
                | succ n ih =>
                  intro y46 s47 h
                  rw [f_X11_promise_L156] at h
                  refine x_iload C dX11_promise_156 (q := 5) rfl ?_
                  refine x_aload_n C dX11_promise_158 rfl (q := 0) rfl ?_
                  refine m_get C cl_X11 0 (by decide) fl_X11_97_X11 rfl rfl dX11_promise_159 ?_
                  refine x_icmp_ge C (tgt := 221) dX11_promise_162 (by decide) h (fun hc51 h => ?_) (fun hc51 h => ?_)
                  · cases h
                    exact x_sub [] rfl hj49
                  · refine x_aload_n C dX11_promise_165 rfl (q := 0) rfl ?_
                    refine x_iload_n C dX11_promise_166 rfl (q := 2) rfl ?_
                    refine x_iload C dX11_promise_167 (q := 5) rfl ?_
                    obtain ⟨r53, hq52, h⟩ := bnd1_some h
                    refine x_callV_i C (m_X11_touches hq52) wv_X11_128 (m_recv C.2.2.2 cl_X11 rfl) rfl (Nat.le_of_ble_eq_true rfl) ⟨⟨rfl, rfl⟩, Nat.le_of_ble_eq_true rfl, Nat.le_of_ble_eq_true rfl⟩ dX11_promise_169 rfl ?_
                    refine x_if_eq C (tgt := 215) dX11_promise_172 (by decide) h (fun hc54 h => ?_) (fun hc54 h => ?_)
                    · refine x_iincL C (w := 1) (L' := fun v55 => [(5, .int v55), (0, .ref (xaM G 0)), (1, .int x1), (2, .int x2), (3, .int x3), (4, .int v2)]) dX11_promise_215 (k := 5) rfl (by decide) (by decide) (fun _ => rfl) h (fun v55 h => ?_)
                      refine x_goto C (tgt := 156) dX11_promise_218 (by decide) ?_
                      exact x_sub [1, 2, 3, 4, 5, 0] rfl (ih _ _ h)
                    · refine x_aload_n C dX11_promise_175 rfl (q := 0) rfl ?_
                      refine x_iconst C (v := 2) dX11_promise_176 (by decide) ?_
                      refine x_iload_n C dX11_promise_177 rfl (q := 2) rfl ?_
                      refine x_iload C dX11_promise_178 (q := 4) rfl ?_
                      refine x_iload C dX11_promise_180 (q := 5) rfl ?_
                      refine x_aload_n C dX11_promise_182 rfl (q := 0) rfl ?_
                      refine m_get C cl_X11 27 (by decide) fl_X11_75_X11 rfl rfl dX11_promise_183 ?_
                      refine x_iconst C (v := 4) dX11_promise_186 (by decide) ?_
                      refine x_iload_n C dX11_promise_187 rfl (q := 3) rfl ?_
                      refine x_imul C dX11_promise_188 ?_
                      refine x_iload C dX11_promise_189 (q := 5) rfl ?_
                      refine x_iadd C dX11_promise_191 ?_
                      refine m_iald C rfl (fun _ _ => rfl) dX11_promise_192 h (fun k56 hk56 h => ?_)
                      refine x_letI h (fun v57 h => ?_)
                      obtain ⟨v58, hv60, h⟩ := bnd1_some h
                      refine x_join (Ω' := (xRep G z σ s47)) (pc' := 211) (L' := [(0, .ref (xaM G 0)), (1, .int x1), (2, .int x2), (3, .int x3), (4, .int v2), (5, .int y46)]) (st' := [.int v58, .int y46, .int v2, .int x2, .int 2, .ref (xaM G 0)]) ?_ (fun hj59 => ?_)
                      · refine x_iload_n C dX11_promise_211 rfl (q := 1) rfl ?_
                        obtain ⟨s65, hq64, h⟩ := bnd1_some h
                        refine x_callV_v C (m_X11_postAll hq64) wv_X11_198 (m_recv C.2.2.2 cl_X11 rfl) rfl (Nat.le_of_ble_eq_true rfl) ⟨⟨rfl, rfl⟩, Nat.le_of_ble_eq_true rfl, Nat.le_of_ble_eq_true rfl⟩ dX11_promise_212 rfl ?_
                        refine x_iincL C (w := 1) (L' := fun v66 => [(5, .int v66), (0, .ref (xaM G 0)), (1, .int x1), (2, .int x2), (3, .int x3), (4, .int v2)]) dX11_promise_215 (k := 5) rfl (by decide) (by decide) (fun _ => rfl) h (fun v66 h => ?_)
                        refine x_goto C (tgt := 156) dX11_promise_218 (by decide) ?_
                        exact x_sub [1, 2, 3, 4, 5, 0] rfl (ih _ _ h)
                      · replace h := hv60
                        clear hv60
                        refine x_if_ge C (tgt := 200) dX11_promise_193 (by decide) h (fun hc61 h => ?_) (fun hc61 h => ?_)
                        · refine x_aload_n C dX11_promise_200 rfl (q := 0) rfl ?_
                          refine m_get C cl_X11 28 (by decide) fl_X11_78_X11 rfl rfl dX11_promise_201 ?_
                          refine x_iconst C (v := 4) dX11_promise_204 (by decide) ?_
                          refine x_iload_n C dX11_promise_205 rfl (q := 3) rfl ?_
                          refine x_imul C dX11_promise_206 ?_
                          refine x_iload C dX11_promise_207 (q := 5) rfl ?_
                          refine x_iadd C dX11_promise_209 ?_
                          refine m_iald C rfl (fun _ _ => rfl) dX11_promise_210 h (fun k62 hk62 h => ?_)
                          refine x_letI h (fun v63 h => ?_)
                          cases h
                          exact x_sub [0, 1, 2, 3, 4, 5] rfl hj59
                        · refine x_iconst C (v := 2) dX11_promise_196 (by decide) ?_
                          refine x_goto C (tgt := 211) dX11_promise_197 (by decide) ?_
                          cases h
                          exact x_sub [0, 1, 2, 3, 4, 5] rfl hj59
              exact x_sub [1, 2, 3, 4, 5, 0] rfl (hl67 FU _ _ hv50)
          · cases h
            exact xr_v C hr dX11_promise_152 (fun _ h => h)
        · have hl68 : ∀ (n : Nat) (y20 : Int32) (s21 : Tg), f_X11_promise_L68 z x1 x2 x3 v2 n y20 s21 = some (s22) → XW p l e rm_X11_promise s m args below meth c 0 0 6 (xbs G) (xQ below args s (xbs G) none (xRep G z σ sF) 0 0) (xRep G z σ s21) 68 [(0, .ref (xaM G 0)), (1, .int x1), (2, .int x2), (3, .int x3), (4, .int v2), (5, .int y20)] [] := by
            intro n
            induction n with
            | zero =>
              intro y20 s21 h
              exact absurd h (by rw [f_X11_promise_L68]; intro q; cases q)
            | succ n ih =>
              intro y20 s21 h
              rw [f_X11_promise_L68] at h
              refine x_iload C dX11_promise_68 (q := 5) rfl ?_
              refine x_iconst C (v := 4) dX11_promise_70 (by decide) ?_
              refine x_icmp_ge C (tgt := 139) dX11_promise_71 (by decide) h (fun hc25 h => ?_) (fun hc25 h => ?_)
              · cases h
                exact x_sub [0, 1, 2, 3, 4] rfl hj23
              · refine x_aload_n C dX11_promise_74 rfl (q := 0) rfl ?_
                refine m_get C cl_X11 37 (by decide) fl_X11_90_X11 rfl rfl dX11_promise_75 ?_
                refine x_iload C dX11_promise_78 (q := 5) rfl ?_
                refine m_iald C rfl (fun _ _ => rfl) dX11_promise_80 h (fun k26 hk26 h => ?_)
                refine x_letI h (fun v27 h => ?_)
                refine x_aload_n C dX11_promise_81 rfl (q := 0) rfl ?_
                refine m_get C cl_X11 27 (by decide) fl_X11_75_X11 rfl rfl dX11_promise_82 ?_
                refine x_iconst C (v := 4) dX11_promise_85 (by decide) ?_
                refine x_iload_n C dX11_promise_86 rfl (q := 3) rfl ?_
                refine x_imul C dX11_promise_87 ?_
                refine x_iload C dX11_promise_88 (q := 5) rfl ?_
                refine x_iadd C dX11_promise_90 ?_
                refine m_iald C rfl (fun _ _ => rfl) dX11_promise_91 h (fun k28 hk28 h => ?_)
                refine x_letI h (fun v29 h => ?_)
                refine x_icmp_le C (tgt := 133) dX11_promise_92 (by decide) h (fun hc30 h => ?_) (fun hc30 h => ?_)
                · refine x_iincL C (w := 1) (L' := fun v31 => [(5, .int v31), (0, .ref (xaM G 0)), (1, .int x1), (2, .int x2), (3, .int x3), (4, .int v2)]) dX11_promise_133 (k := 5) rfl (by decide) (by decide) (fun _ => rfl) h (fun v31 h => ?_)
                  refine x_goto C (tgt := 68) dX11_promise_136 (by decide) ?_
                  exact x_sub [1, 2, 3, 4, 5, 0] rfl (ih _ _ h)
                · refine x_aload_n C dX11_promise_95 rfl (q := 0) rfl ?_
                  refine m_get C cl_X11 27 (by decide) fl_X11_75_X11 rfl rfl dX11_promise_96 ?_
                  refine x_iconst C (v := 4) dX11_promise_99 (by decide) ?_
                  refine x_iload_n C dX11_promise_100 rfl (q := 3) rfl ?_
                  refine x_imul C dX11_promise_101 ?_
                  refine x_iload C dX11_promise_102 (q := 5) rfl ?_
                  refine x_iadd C dX11_promise_104 ?_
                  refine x_aload_n C dX11_promise_105 rfl (q := 0) rfl ?_
                  refine m_get C cl_X11 37 (by decide) fl_X11_90_X11 rfl rfl dX11_promise_106 ?_
                  refine x_iload C dX11_promise_109 (q := 5) rfl ?_
                  refine m_iald C rfl (fun _ _ => rfl) dX11_promise_111 h (fun k32 hk32 h => ?_)
                  refine x_letI h (fun v33 h => ?_)
                  refine m_iast C rfl (fun _ _ => rfl) dX11_promise_112 h (fun k34 hk34 h => ?_)
                  refine m_letS h (fun s35 h => ?_)
                  refine x_aload_n C dX11_promise_113 rfl (q := 0) rfl ?_
                  refine m_get C cl_X11 28 (by decide) fl_X11_78_X11 rfl rfl dX11_promise_114 ?_
                  refine x_iconst C (v := 4) dX11_promise_117 (by decide) ?_
                  refine x_iload_n C dX11_promise_118 rfl (q := 3) rfl ?_
                  refine x_imul C dX11_promise_119 ?_
                  refine x_iload C dX11_promise_120 (q := 5) rfl ?_
                  refine x_iadd C dX11_promise_122 ?_
                  refine x_aload_n C dX11_promise_123 rfl (q := 0) rfl ?_
                  refine m_get C cl_X11 37 (by decide) fl_X11_90_X11 rfl rfl dX11_promise_124 ?_
                  refine x_iconst C (v := 4) dX11_promise_127 (by decide) ?_
                  refine x_iload C dX11_promise_128 (q := 5) rfl ?_
                  refine x_iadd C dX11_promise_130 ?_
                  refine m_iald C rfl (fun _ _ => rfl) dX11_promise_131 h (fun k36 hk36 h => ?_)
                  refine x_letI h (fun v37 h => ?_)
                  refine m_iast C rfl (fun _ _ => rfl) dX11_promise_132 h (fun k38 hk38 h => ?_)
                  refine m_letS h (fun s39 h => ?_)
                  refine x_iincL C (w := 1) (L' := fun v40 => [(5, .int v40), (0, .ref (xaM G 0)), (1, .int x1), (2, .int x2), (3, .int x3), (4, .int v2)]) dX11_promise_133 (k := 5) rfl (by decide) (by decide) (fun _ => rfl) h (fun v40 h => ?_)
                  refine x_goto C (tgt := 68) dX11_promise_136 (by decide) ?_
                  exact x_sub [1, 2, 3, 4, 5, 0] rfl (ih _ _ h)
          exact x_sub [2, 3, 4, 5, 1, 0] rfl (hl68 FU _ _ hv24)
      · cases h
        exact xr_v C hr dX11_promise_41 (fun _ h => h)
def f_X11_end_L52 (z : Nat → Nat) (x1 : Int32) (x2 : Int32) (v1 : Int32) : Nat → Int32 → Tg → Option Tg
  | 0, _, _ => none
  | n + 1, y15, s16 => if (nI (z 3)) ≤ y15 then (some (s16)) else (gdx 5 (mlen 36) fun k21 => letv (s16.1 36 k21) fun v22 => if v22 = 3 then (gdx v1 (mlen 16) fun k24 => letv (s16.1 16 k24) fun v25 => if v25 = 0 then (some (s16)) else (gdx ((32 * x2) + y15) (mlen 14) fun k27 => letv (s16.1 14 k27) fun v28 => bnd1 (α := Int64) (if v28 = 0 then (gdx y15 (mlen 9) fun k33 => letv (s16.2 9 k33) fun v34 => some (v34)) else (gdx ((32 * x2) + y15) (mlen 15) fun k35 => letv (s16.2 15 k35) fun v36 => some (v36))) fun (v29 : Int64) => gdx y15 (mlen 9) fun k37 => letv (tpL s16 9 k37 v29) fun s38 => letv (y15 + (nI (z 0))) fun v39 => f_X11_end_L52 z x1 x2 v1 n v39 s38)) else (some (s16)))
def f_X11_end (z : Nat → Nat) (τ : Tg) (x1 : Int32) (x2 : Int32) : Option (Int32 × Tg) :=
  letv ((16 * x1) + x2) fun v1 => gdx v1 (mlen 18) fun k2 => letv (τ.1 18 k2) fun v3 => if v3 = 0 then (gdx 5 (mlen 36) fun k5 => letv (τ.1 36 k5) fun v6 => bnd2 (f_X11_writes z τ x1 2 x2 v6 0) fun r8 s9 => if r8 = 0 then (some (0, s9)) else (gdx 5 (mlen 36) fun k11 => letv (s9.1 36 k11) fun v12 => gdx v1 (mlen 18) fun k13 => letv (tpI s9 18 k13 v12) fun s14 => bnd1 (f_X11_end_L52 z x1 x2 v1 FU x1 s14) fun (s17 : Tg) => bnd1 (f_X11_endSession z s17 x1 x2) fun s41 => some (1, s41))) else (some (1, τ))
def rm_X11_end : Room := { frames := 1, cells := 0, slots := 0, locals := 26 }
set_option maxRecDepth 100000 in
set_option maxHeartbeats 4000000 in
theorem m_X11_end {l : Launch} {G : xG} {z : Nat → Nat} {σ : Sg} {τ : Tg} {x1 : Int32} {x2 : Int32} {rF : Int32} {sF : Tg} (h : f_X11_end z τ x1 x2 = some (rF, sF)) : xMet l (xD G) (xcA G) (xbs G) yX11_end cX11_end 5 (Option.some Jvm.ClassFile.FieldType.boolean) rm_X11_end [.ref (xaM G 0), .int x1, .int x2] (xRep G z σ τ) (xRep G z σ sF) (some (.int rF)) 0 0 := by
  refine xMet.of RX11 rfl (by decide +kernel) (Nat.le_of_ble_eq_true rfl) ?_
  intro p e s m args below meth c C hr hnm
  unfold f_X11_end at h
  refine x_sub (L' := [(0, .ref (xaM G 0)), (1, .int x1), (2, .int x2)]) [0, 1, 2] rfl ?_
  refine x_bipush C (v := 16) dX11_end_0 (by decide) ?_
  refine x_iload_n C dX11_end_2 rfl (q := 1) rfl ?_
  refine x_imul C dX11_end_3 ?_
  refine x_iload_n C dX11_end_4 rfl (q := 2) rfl ?_
  refine x_iadd C dX11_end_5 ?_
  refine x_letI h (fun v1 h => ?_)
  refine x_istore_n C (L' := [(3, .int v1), (0, .ref (xaM G 0)), (1, .int x1), (2, .int x2)]) dX11_end_6 rfl (by decide) rfl ?_
  refine x_aload_n C dX11_end_7 rfl (q := 1) rfl ?_
  refine m_get C cl_X11 18 (by decide) fl_X11_48_X11 rfl rfl dX11_end_8 ?_
  refine x_iload_n C dX11_end_11 rfl (q := 0) rfl ?_
  refine m_iald C rfl (fun _ _ => rfl) dX11_end_12 h (fun k2 hk2 h => ?_)
  refine x_letI h (fun v3 h => ?_)
  refine x_if_eq C (tgt := 18) dX11_end_13 (by decide) h (fun hc4 h => ?_) (fun hc4 h => ?_)
  · refine x_aload_n C dX11_end_18 rfl (q := 1) rfl ?_
    refine x_iload_n C dX11_end_19 rfl (q := 2) rfl ?_
    refine x_iconst C (v := 2) dX11_end_20 (by decide) ?_
    refine x_iload_n C dX11_end_21 rfl (q := 3) rfl ?_
    refine x_aload_n C dX11_end_22 rfl (q := 1) rfl ?_
    refine m_get C cl_X11 36 (by decide) fl_X11_87_X11 rfl rfl dX11_end_23 ?_
    refine x_iconst C (v := 5) dX11_end_26 (by decide) ?_
    refine m_iald C rfl (fun _ _ => rfl) dX11_end_27 h (fun k5 hk5 h => ?_)
    refine x_letI h (fun v6 h => ?_)
    refine x_iconst C (v := 0) dX11_end_28 (by decide) ?_
    obtain ⟨r8, s9, hq7, h⟩ := bnd2_some h
    refine x_callV_i C (m_X11_writes hq7) wv_X11_194 (m_recv C.2.2.2 cl_X11 rfl) rfl (Nat.le_of_ble_eq_true rfl) ⟨⟨rfl, rfl⟩, Nat.le_of_ble_eq_true rfl, Nat.le_of_ble_eq_true rfl⟩ dX11_end_29 rfl ?_
    refine x_if_ne C (tgt := 37) dX11_end_32 (by decide) h (fun hc10 h => ?_) (fun hc10 h => ?_)
    · refine x_aload_n C dX11_end_37 rfl (q := 1) rfl ?_
      refine m_get C cl_X11 18 (by decide) fl_X11_48_X11 rfl rfl dX11_end_38 ?_
      refine x_iload_n C dX11_end_41 rfl (q := 0) rfl ?_
      refine x_aload_n C dX11_end_42 rfl (q := 1) rfl ?_
      refine m_get C cl_X11 36 (by decide) fl_X11_87_X11 rfl rfl dX11_end_43 ?_
      refine x_iconst C (v := 5) dX11_end_46 (by decide) ?_
      refine m_iald C rfl (fun _ _ => rfl) dX11_end_47 h (fun k11 hk11 h => ?_)
      refine x_letI h (fun v12 h => ?_)
      refine m_iast C rfl (fun _ _ => rfl) dX11_end_48 h (fun k13 hk13 h => ?_)
      refine m_letS h (fun s14 h => ?_)
      refine x_iload_n C dX11_end_49 rfl (q := 2) rfl ?_
      refine x_istore C (L' := [(4, .int x1), (3, .int v1), (0, .ref (xaM G 0)), (1, .int x1), (2, .int x2)]) dX11_end_50 (by decide) rfl ?_
      obtain ⟨s17, hv19, h⟩ := bnd1_some h
      refine x_join (Ω' := (xRep G z σ s17)) (pc' := 136) (L' := [(0, .ref (xaM G 0)), (1, .int x1), (2, .int x2)]) (st' := []) ?_ (fun hj18 => ?_)
      · refine x_aload_n C dX11_end_136 rfl (q := 0) rfl ?_
        refine x_iload_n C dX11_end_137 rfl (q := 1) rfl ?_
        refine x_iload_n C dX11_end_138 rfl (q := 2) rfl ?_
        obtain ⟨s41, hq40, h⟩ := bnd1_some h
        refine x_callV_v C (m_X11_endSession hq40) wv_X11_150 (m_recv C.2.2.2 cl_X11 rfl) rfl (Nat.le_of_ble_eq_true rfl) ⟨⟨rfl, rfl⟩, Nat.le_of_ble_eq_true rfl, Nat.le_of_ble_eq_true rfl⟩ dX11_end_139 rfl ?_
        refine x_iconst C (v := 1) dX11_end_142 (by decide) ?_
        cases h
        exact xr_z C (by decide) hr dX11_end_143 (fun _ h => h)
      · have hl42 : ∀ (n : Nat) (y15 : Int32) (s16 : Tg), f_X11_end_L52 z x1 x2 v1 n y15 s16 = some (s17) → XW p l e rm_X11_end s m args below meth c 0 0 5 (xbs G) (xQ below args s (xbs G) (some (.int rF)) (xRep G z σ sF) 0 0) (xRep G z σ s16) 52 [(0, .ref (xaM G 0)), (1, .int x1), (2, .int x2), (3, .int v1), (4, .int y15)] [] := by
          intro n
          induction n with
          | zero =>
            intro y15 s16 h
            exact absurd h (by rw [f_X11_end_L52]; intro q; cases q)
          | succ n ih =>
            intro y15 s16 h
            rw [f_X11_end_L52] at h
            refine x_iload C dX11_end_52 (q := 4) rfl ?_
            refine x_aload_n C dX11_end_54 rfl (q := 0) rfl ?_
            refine m_get C cl_X11 3 (by decide) fl_X11_107_X11 rfl rfl dX11_end_55 ?_
            refine x_icmp_ge C (tgt := 136) dX11_end_58 (by decide) h (fun hc20 h => ?_) (fun hc20 h => ?_)
            · cases h
              exact x_sub [0, 1, 2] rfl hj18
            · refine x_aload_n C dX11_end_61 rfl (q := 0) rfl ?_
              refine m_get C cl_X11 36 (by decide) fl_X11_87_X11 rfl rfl dX11_end_62 ?_
              refine x_iconst C (v := 5) dX11_end_65 (by decide) ?_
              refine m_iald C rfl (fun _ _ => rfl) dX11_end_66 h (fun k21 hk21 h => ?_)
              refine x_letI h (fun v22 h => ?_)
              refine x_iconst C (v := 3) dX11_end_67 (by decide) ?_
              refine x_icmp_ne C (tgt := 136) dX11_end_68 (by decide) h (fun hc23 h => ?_) (fun hc23 h => ?_)
              · cases h
                exact x_sub [0, 1, 2] rfl hj18
              · refine x_aload_n C dX11_end_71 rfl (q := 0) rfl ?_
                refine m_get C cl_X11 16 (by decide) fl_X11_42_X11 rfl rfl dX11_end_72 ?_
                refine x_iload_n C dX11_end_75 rfl (q := 3) rfl ?_
                refine m_bald C rfl (fun _ _ => rfl) dX11_end_76 h (fun k24 hk24 h => ?_)
                refine x_letI h (fun v25 h => ?_)
                refine x_if_eq C (tgt := 136) dX11_end_77 (by decide) h (fun hc26 h => ?_) (fun hc26 h => ?_)
                · cases h
                  exact x_sub [0, 1, 2] rfl hj18
                · refine x_aload_n C dX11_end_80 rfl (q := 0) rfl ?_
                  refine m_get C cl_X11 9 (by decide) fl_X11_20_X11 rfl rfl dX11_end_81 ?_
                  refine x_iload C dX11_end_84 (q := 4) rfl ?_
                  refine x_aload_n C dX11_end_86 rfl (q := 0) rfl ?_
                  refine m_get C cl_X11 14 (by decide) fl_X11_36_X11 rfl rfl dX11_end_87 ?_
                  refine x_bipush C (v := 32) dX11_end_90 (by decide) ?_
                  refine x_iload_n C dX11_end_92 rfl (q := 2) rfl ?_
                  refine x_imul C dX11_end_93 ?_
                  refine x_iload C dX11_end_94 (q := 4) rfl ?_
                  refine x_iadd C dX11_end_96 ?_
                  refine m_bald C rfl (fun _ _ => rfl) dX11_end_97 h (fun k27 hk27 h => ?_)
                  refine x_letI h (fun v28 h => ?_)
                  obtain ⟨v29, hv31, h⟩ := bnd1_some h
                  refine x_join (Ω' := (xRep G z σ s16)) (pc' := 123) (L' := [(0, .ref (xaM G 0)), (1, .int x1), (2, .int x2), (3, .int v1), (4, .int y15)]) (st' := [.long v29, .int y15, .ref (xaM G 9)]) ?_ (fun hj30 => ?_)
                  · refine m_last C rfl (fun _ _ => rfl) dX11_end_123 h (fun k37 hk37 h => ?_)
                    refine m_letS h (fun s38 h => ?_)
                    refine x_iload C dX11_end_124 (q := 4) rfl ?_
                    refine x_aload_n C dX11_end_126 rfl (q := 0) rfl ?_
                    refine m_get C cl_X11 0 (by decide) fl_X11_97_X11 rfl rfl dX11_end_127 ?_
                    refine x_iadd C dX11_end_130 ?_
                    refine x_letI h (fun v39 h => ?_)
                    refine x_istore C (L' := [(4, .int v39), (0, .ref (xaM G 0)), (1, .int x1), (2, .int x2), (3, .int v1)]) dX11_end_131 (by decide) rfl ?_
                    refine x_goto C (tgt := 52) dX11_end_133 (by decide) ?_
                    exact x_sub [1, 2, 3, 4, 0] rfl (ih _ _ h)
                  · replace h := hv31
                    clear hv31
                    refine x_if_eq C (tgt := 116) dX11_end_98 (by decide) h (fun hc32 h => ?_) (fun hc32 h => ?_)
                    · refine x_aload_n C dX11_end_116 rfl (q := 0) rfl ?_
                      refine m_get C cl_X11 9 (by decide) fl_X11_20_X11 rfl rfl dX11_end_117 ?_
                      refine x_iload C dX11_end_120 (q := 4) rfl ?_
                      refine m_lald C rfl (fun _ _ => rfl) dX11_end_122 h (fun k33 hk33 h => ?_)
                      refine x_letL h (fun v34 h => ?_)
                      cases h
                      exact x_sub [0, 1, 2, 3, 4] rfl hj30
                    · refine x_aload_n C dX11_end_101 rfl (q := 0) rfl ?_
                      refine m_get C cl_X11 15 (by decide) fl_X11_39_X11 rfl rfl dX11_end_102 ?_
                      refine x_bipush C (v := 32) dX11_end_105 (by decide) ?_
                      refine x_iload_n C dX11_end_107 rfl (q := 2) rfl ?_
                      refine x_imul C dX11_end_108 ?_
                      refine x_iload C dX11_end_109 (q := 4) rfl ?_
                      refine x_iadd C dX11_end_111 ?_
                      refine m_lald C rfl (fun _ _ => rfl) dX11_end_112 h (fun k35 hk35 h => ?_)
                      refine x_letL h (fun v36 h => ?_)
                      refine x_goto C (tgt := 123) dX11_end_113 (by decide) ?_
                      cases h
                      exact x_sub [0, 1, 2, 3, 4] rfl hj30
        exact x_sub [2, 3, 4, 1, 0] rfl (hl42 FU _ _ hv19)
    · refine x_iconst C (v := 0) dX11_end_35 (by decide) ?_
      cases h
      exact xr_z C (by decide) hr dX11_end_36 (fun _ h => h)
  · refine x_iconst C (v := 1) dX11_end_16 (by decide) ?_
    cases h
    exact xr_z C (by decide) hr dX11_end_17 (fun _ h => h)
def f_X11_does (z : Nat → Nat) (τ : Tg) (x1 : Int32) (x2 : Int32) : Option (Int32 × Tg) :=
  letv ((16 * (x1 - (nI (z 0)))) + x2) fun v1 => gdx 0 (mlen 36) fun k2 => letv (τ.1 36 k2) fun v3 => if v3 = 1 then (bnd2 (f_X11_prepare z τ x1 x2) fun r6 s7 => gdb r6 <| some (r6, s7)) else (if v3 = 2 then (bnd2 (f_X11_vote z τ x1 x2 v1) fun r10 s11 => gdb r10 <| some (r10, s11)) else (if v3 = 3 then (bnd1 (f_X11_accept z τ x1 x2 v1) fun s14 => some (1, s14)) else (if v3 = 4 then (bnd2 (f_X11_answer z τ x1 x2 v1) fun r17 s18 => gdb r17 <| some (r17, s18)) else (if v3 = 5 then (bnd1 (f_X11_promise z τ x1 x2 v1) fun s21 => some (1, s21)) else (bnd2 (f_X11_end z τ x1 x2) fun r23 s24 => gdb r23 <| some (r23, s24))))))
def rm_X11_does : Room := { frames := 3, cells := 0, slots := 0, locals := 81 }
set_option maxRecDepth 100000 in
set_option maxHeartbeats 4000000 in
theorem m_X11_does {l : Launch} {G : xG} {z : Nat → Nat} {σ : Sg} {τ : Tg} {x1 : Int32} {x2 : Int32} {rF : Int32} {sF : Tg} (h : f_X11_does z τ x1 x2 = some (rF, sF)) : xMet l (xD G) (xcA G) (xbs G) yX11_does cX11_does 4 (Option.some Jvm.ClassFile.FieldType.boolean) rm_X11_does [.ref (xaM G 0), .int x1, .int x2] (xRep G z σ τ) (xRep G z σ sF) (some (.int rF)) 0 0 := by
  refine xMet.of RX11 rfl (by decide +kernel) (Nat.le_of_ble_eq_true rfl) ?_
  intro p e s m args below meth c C hr hnm
  unfold f_X11_does at h
  refine x_sub (L' := [(0, .ref (xaM G 0)), (1, .int x1), (2, .int x2)]) [0, 1, 2] rfl ?_
  refine x_bipush C (v := 16) dX11_does_0 (by decide) ?_
  refine x_iload_n C dX11_does_2 rfl (q := 1) rfl ?_
  refine x_aload_n C dX11_does_3 rfl (q := 0) rfl ?_
  refine m_get C cl_X11 0 (by decide) fl_X11_97_X11 rfl rfl dX11_does_4 ?_
  refine x_isub C dX11_does_7 ?_
  refine x_imul C dX11_does_8 ?_
  refine x_iload_n C dX11_does_9 rfl (q := 2) rfl ?_
  refine x_iadd C dX11_does_10 ?_
  refine x_letI h (fun v1 h => ?_)
  refine x_istore_n C (L' := [(3, .int v1), (0, .ref (xaM G 0)), (1, .int x1), (2, .int x2)]) dX11_does_11 rfl (by decide) rfl ?_
  refine x_aload_n C dX11_does_12 rfl (q := 1) rfl ?_
  refine m_get C cl_X11 36 (by decide) fl_X11_87_X11 rfl rfl dX11_does_13 ?_
  refine x_iconst C (v := 0) dX11_does_16 (by decide) ?_
  refine m_iald C rfl (fun _ _ => rfl) dX11_does_17 h (fun k2 hk2 h => ?_)
  refine x_letI h (fun v3 h => ?_)
  refine x_ite h (fun hc4 h => ?_) (fun hc4 h => ?_)
  · refine x_tableIn C (off := 34) (tgt := 52) dX11_does_18 1 hc4 (by decide) (by decide) rfl (by decide) ?_
    refine x_aload_n C dX11_does_52 rfl (q := 1) rfl ?_
    refine x_iload_n C dX11_does_53 rfl (q := 2) rfl ?_
    refine x_iload_n C dX11_does_54 rfl (q := 3) rfl ?_
    obtain ⟨r6, s7, hq5, h⟩ := bnd2_some h
    refine x_callV_i C (m_X11_prepare hq5) wv_X11_175 (m_recv C.2.2.2 cl_X11 rfl) rfl (Nat.le_of_ble_eq_true rfl) ⟨⟨rfl, rfl⟩, Nat.le_of_ble_eq_true rfl, Nat.le_of_ble_eq_true rfl⟩ dX11_does_55 rfl ?_
    obtain ⟨hb, h⟩ := gdb_some h
    cases h
    exact xr_z C hb hr dX11_does_58 (fun _ h => h)
  · refine x_ite h (fun hc8 h => ?_) (fun hc8 h => ?_)
    · refine x_tableIn C (off := 41) (tgt := 59) dX11_does_18 2 hc8 (by decide) (by decide) rfl (by decide) ?_
      refine x_aload_n C dX11_does_59 rfl (q := 1) rfl ?_
      refine x_iload_n C dX11_does_60 rfl (q := 2) rfl ?_
      refine x_iload_n C dX11_does_61 rfl (q := 3) rfl ?_
      refine x_iload_n C dX11_does_62 rfl (q := 0) rfl ?_
      obtain ⟨r10, s11, hq9, h⟩ := bnd2_some h
      refine x_callV_i C (m_X11_vote hq9) wv_X11_178 (m_recv C.2.2.2 cl_X11 rfl) rfl (Nat.le_of_ble_eq_true rfl) ⟨⟨rfl, rfl⟩, Nat.le_of_ble_eq_true rfl, Nat.le_of_ble_eq_true rfl⟩ dX11_does_63 rfl ?_
      obtain ⟨hb, h⟩ := gdb_some h
      cases h
      exact xr_z C hb hr dX11_does_66 (fun _ h => h)
    · refine x_ite h (fun hc12 h => ?_) (fun hc12 h => ?_)
      · refine x_tableIn C (off := 49) (tgt := 67) dX11_does_18 3 hc12 (by decide) (by decide) rfl (by decide) ?_
        refine x_aload_n C dX11_does_67 rfl (q := 1) rfl ?_
        refine x_iload_n C dX11_does_68 rfl (q := 2) rfl ?_
        refine x_iload_n C dX11_does_69 rfl (q := 3) rfl ?_
        refine x_iload_n C dX11_does_70 rfl (q := 0) rfl ?_
        obtain ⟨s14, hq13, h⟩ := bnd1_some h
        refine x_callV_v C (m_X11_accept hq13) wv_X11_181 (m_recv C.2.2.2 cl_X11 rfl) rfl (Nat.le_of_ble_eq_true rfl) ⟨⟨rfl, rfl⟩, Nat.le_of_ble_eq_true rfl, Nat.le_of_ble_eq_true rfl⟩ dX11_does_71 rfl ?_
        refine x_iconst C (v := 1) dX11_does_74 (by decide) ?_
        cases h
        exact xr_z C (by decide) hr dX11_does_75 (fun _ h => h)
      · refine x_ite h (fun hc15 h => ?_) (fun hc15 h => ?_)
        · refine x_tableIn C (off := 58) (tgt := 76) dX11_does_18 4 hc15 (by decide) (by decide) rfl (by decide) ?_
          refine x_aload_n C dX11_does_76 rfl (q := 1) rfl ?_
          refine x_iload_n C dX11_does_77 rfl (q := 2) rfl ?_
          refine x_iload_n C dX11_does_78 rfl (q := 3) rfl ?_
          refine x_iload_n C dX11_does_79 rfl (q := 0) rfl ?_
          obtain ⟨r17, s18, hq16, h⟩ := bnd2_some h
          refine x_callV_i C (m_X11_answer hq16) wv_X11_185 (m_recv C.2.2.2 cl_X11 rfl) rfl (Nat.le_of_ble_eq_true rfl) ⟨⟨rfl, rfl⟩, Nat.le_of_ble_eq_true rfl, Nat.le_of_ble_eq_true rfl⟩ dX11_does_80 rfl ?_
          obtain ⟨hb, h⟩ := gdb_some h
          cases h
          exact xr_z C hb hr dX11_does_83 (fun _ h => h)
        · refine x_ite h (fun hc19 h => ?_) (fun hc19 h => ?_)
          · refine x_tableIn C (off := 66) (tgt := 84) dX11_does_18 5 hc19 (by decide) (by decide) rfl (by decide) ?_
            refine x_aload_n C dX11_does_84 rfl (q := 1) rfl ?_
            refine x_iload_n C dX11_does_85 rfl (q := 2) rfl ?_
            refine x_iload_n C dX11_does_86 rfl (q := 3) rfl ?_
            refine x_iload_n C dX11_does_87 rfl (q := 0) rfl ?_
            obtain ⟨s21, hq20, h⟩ := bnd1_some h
            refine x_callV_v C (m_X11_promise hq20) wv_X11_188 (m_recv C.2.2.2 cl_X11 rfl) rfl (Nat.le_of_ble_eq_true rfl) ⟨⟨rfl, rfl⟩, Nat.le_of_ble_eq_true rfl, Nat.le_of_ble_eq_true rfl⟩ dX11_does_88 rfl ?_
            refine x_iconst C (v := 1) dX11_does_91 (by decide) ?_
            cases h
            exact xr_z C (by decide) hr dX11_does_92 (fun _ h => h)
          · refine x_tableOut C (tgt := 93) dX11_does_18 (by have a0 := xI_ne (k := 1) 1 (by decide) hc4; have a1 := xI_ne (k := 2) 2 (by decide) hc8; have a2 := xI_ne (k := 3) 3 (by decide) hc12; have a3 := xI_ne (k := 4) 4 (by decide) hc15; have a4 := xI_ne (k := 5) 5 (by decide) hc19; omega) (by decide) ?_
            refine x_aload_n C dX11_does_93 rfl (q := 1) rfl ?_
            refine x_iload_n C dX11_does_94 rfl (q := 2) rfl ?_
            refine x_iload_n C dX11_does_95 rfl (q := 3) rfl ?_
            obtain ⟨r23, s24, hq22, h⟩ := bnd2_some h
            refine x_callV_i C (m_X11_end hq22) wv_X11_191 (m_recv C.2.2.2 cl_X11 rfl) rfl (Nat.le_of_ble_eq_true rfl) ⟨⟨rfl, rfl⟩, Nat.le_of_ble_eq_true rfl, Nat.le_of_ble_eq_true rfl⟩ dX11_does_96 rfl ?_
            obtain ⟨hb, h⟩ := gdb_some h
            cases h
            exact xr_z C hb hr dX11_does_99 (fun _ h => h)
def f_X11_deliver (z : Nat → Nat) (τ : Tg) (x1 : Int32) : Option (Int32 × Tg) :=
  bnd1 (f_X11_isMessage z τ x1) fun r2 => if r2 = 0 then (some ((-1), τ)) else (bnd1 (f_X11_takeOut z τ x1) fun s5 => letv (s5.1 0 34) fun v6 => letv (tpI s5 0 34 (v6 + 1)) fun s7 => gdx 1 (mlen 36) fun k8 => letv (s7.1 36 k8) fun v9 => if v9 = ((nI (z 0)) + (nI (z 1))) then (gdx 2 (mlen 36) fun k22 => letv (s7.1 36 k22) fun v23 => gdx 2 (mlen 36) fun k24 => letv (s7.1 36 k24) fun v25 => gdx v25 (mlen 12) fun k26 => letv (s7.1 12 k26) fun v27 => bnd1 (α := Int32) (if v27 = 2 then (gdx 5 (mlen 36) fun k36 => letv (s7.1 36 k36) fun v37 => some (v37)) else (gdx 2 (mlen 36) fun k32 => letv (s7.1 36 k32) fun v33 => gdx v33 (mlen 12) fun k34 => letv (s7.1 12 k34) fun v35 => some (v35))) fun (v28 : Int32) => gdx v23 (mlen 12) fun k38 => letv (tpI s7 12 k38 v28) fun s39 => some (6, s39)) else (gdx v9 (mlen 6) fun k11 => letv (s7.1 6 k11) fun v12 => if v12 = 0 then (some (9, s7)) else (gdx 2 (mlen 36) fun k14 => letv (s7.1 36 k14) fun v15 => bnd2 (f_X11_does z s7 v9 v15) fun r17 s18 => if r17 = 0 then (some (10, s18)) else (gdx 0 (mlen 36) fun k20 => letv (s18.1 36 k20) fun v21 => some (v21, s18)))))
def rm_X11_deliver : Room := { frames := 4, cells := 0, slots := 0, locals := 104 }
set_option maxRecDepth 100000 in
set_option maxHeartbeats 4000000 in
theorem m_X11_deliver {l : Launch} {G : xG} {z : Nat → Nat} {σ : Sg} {τ : Tg} {x1 : Int32} {rF : Int32} {sF : Tg} (h : f_X11_deliver z τ x1 = some (rF, sF)) : xMet l (xD G) (xcA G) (xbs G) yX11_deliver cX11_deliver 3 (Option.some Jvm.ClassFile.FieldType.int) rm_X11_deliver [.ref (xaM G 0), .int x1] (xRep G z σ τ) (xRep G z σ sF) (some (.int rF)) 0 0 := by
  refine xMet.of RX11 rfl (by decide +kernel) (Nat.le_of_ble_eq_true rfl) ?_
  intro p e s m args below meth c C hr hnm
  unfold f_X11_deliver at h
  refine x_sub (L' := [(0, .ref (xaM G 0)), (1, .int x1)]) [0, 1] rfl ?_
  refine x_aload_n C dX11_deliver_0 rfl (q := 0) rfl ?_
  refine x_iload_n C dX11_deliver_1 rfl (q := 1) rfl ?_
  obtain ⟨r2, hq1, h⟩ := bnd1_some h
  refine x_callV_i C (m_X11_isMessage hq1) wv_X11_163 (m_recv C.2.2.2 cl_X11 rfl) rfl (Nat.le_of_ble_eq_true rfl) ⟨⟨rfl, rfl⟩, Nat.le_of_ble_eq_true rfl, Nat.le_of_ble_eq_true rfl⟩ dX11_deliver_2 rfl ?_
  refine x_if_ne C (tgt := 10) dX11_deliver_5 (by decide) h (fun hc3 h => ?_) (fun hc3 h => ?_)
  · refine x_aload_n C dX11_deliver_10 rfl (q := 0) rfl ?_
    refine x_iload_n C dX11_deliver_11 rfl (q := 1) rfl ?_
    obtain ⟨s5, hq4, h⟩ := bnd1_some h
    refine x_callV_v C (m_X11_takeOut hq4) wv_X11_166 (m_recv C.2.2.2 cl_X11 rfl) rfl (Nat.le_of_ble_eq_true rfl) ⟨⟨rfl, rfl⟩, Nat.le_of_ble_eq_true rfl, Nat.le_of_ble_eq_true rfl⟩ dX11_deliver_12 rfl ?_
    refine x_aload_n C dX11_deliver_15 rfl (q := 0) rfl ?_
    refine x_dup C dX11_deliver_16 rfl ?_
    refine m_get C cl_X11 34 (by decide) fl_X11_169_X11 rfl rfl dX11_deliver_17 ?_
    refine x_letI h (fun v6 h => ?_)
    refine x_iconst C (v := 1) dX11_deliver_20 (by decide) ?_
    refine x_iadd C dX11_deliver_21 ?_
    refine m_putI C cl_X11 34 (by decide) fl_X11_169_X11 rfl (fun _ _ => rfl) (fun _ _ => rfl) (fun _ _ => Nat.le_of_ble_eq_true rfl) rfl rfl dX11_deliver_22 h (fun s7 h => ?_)
    refine x_aload_n C dX11_deliver_25 rfl (q := 0) rfl ?_
    refine m_get C cl_X11 36 (by decide) fl_X11_87_X11 rfl rfl dX11_deliver_26 ?_
    refine x_iconst C (v := 1) dX11_deliver_29 (by decide) ?_
    refine m_iald C rfl (fun _ _ => rfl) dX11_deliver_30 h (fun k8 hk8 h => ?_)
    refine x_letI h (fun v9 h => ?_)
    refine x_istore_n C (L' := [(2, .int v9), (0, .ref (xaM G 0)), (1, .int x1)]) dX11_deliver_31 rfl (by decide) rfl ?_
    refine x_iload_n C dX11_deliver_32 rfl (q := 0) rfl ?_
    refine x_aload_n C dX11_deliver_33 rfl (q := 1) rfl ?_
    refine m_get C cl_X11 0 (by decide) fl_X11_97_X11 rfl rfl dX11_deliver_34 ?_
    refine x_aload_n C dX11_deliver_37 rfl (q := 1) rfl ?_
    refine m_get C cl_X11 1 (by decide) fl_X11_101_X11 rfl rfl dX11_deliver_38 ?_
    refine x_iadd C dX11_deliver_41 ?_
    refine x_icmp_ne C (tgt := 94) dX11_deliver_42 (by decide) h (fun hc10 h => ?_) (fun hc10 h => ?_)
    · refine x_aload_n C dX11_deliver_94 rfl (q := 1) rfl ?_
      refine m_get C cl_X11 6 (by decide) fl_X11_7_X11 rfl rfl dX11_deliver_95 ?_
      refine x_iload_n C dX11_deliver_98 rfl (q := 0) rfl ?_
      refine m_bald C rfl (fun _ _ => rfl) dX11_deliver_99 h (fun k11 hk11 h => ?_)
      refine x_letI h (fun v12 h => ?_)
      refine x_if_ne C (tgt := 106) dX11_deliver_100 (by decide) h (fun hc13 h => ?_) (fun hc13 h => ?_)
      · refine x_aload_n C dX11_deliver_106 rfl (q := 1) rfl ?_
        refine x_iload_n C dX11_deliver_107 rfl (q := 0) rfl ?_
        refine x_aload_n C dX11_deliver_108 rfl (q := 1) rfl ?_
        refine m_get C cl_X11 36 (by decide) fl_X11_87_X11 rfl rfl dX11_deliver_109 ?_
        refine x_iconst C (v := 2) dX11_deliver_112 (by decide) ?_
        refine m_iald C rfl (fun _ _ => rfl) dX11_deliver_113 h (fun k14 hk14 h => ?_)
        refine x_letI h (fun v15 h => ?_)
        obtain ⟨r17, s18, hq16, h⟩ := bnd2_some h
        refine x_callV_i C (m_X11_does hq16) wv_X11_172 (m_recv C.2.2.2 cl_X11 rfl) rfl (Nat.le_of_ble_eq_true rfl) ⟨⟨rfl, rfl⟩, Nat.le_of_ble_eq_true rfl, Nat.le_of_ble_eq_true rfl⟩ dX11_deliver_114 rfl ?_
        refine x_if_eq C (tgt := 129) dX11_deliver_117 (by decide) h (fun hc19 h => ?_) (fun hc19 h => ?_)
        · refine x_bipush C (v := 10) dX11_deliver_129 (by decide) ?_
          cases h
          exact xr_i C hr dX11_deliver_131 (fun _ h => h)
        · refine x_aload_n C dX11_deliver_120 rfl (q := 1) rfl ?_
          refine m_get C cl_X11 36 (by decide) fl_X11_87_X11 rfl rfl dX11_deliver_121 ?_
          refine x_iconst C (v := 0) dX11_deliver_124 (by decide) ?_
          refine m_iald C rfl (fun _ _ => rfl) dX11_deliver_125 h (fun k20 hk20 h => ?_)
          refine x_letI h (fun v21 h => ?_)
          refine x_goto C (tgt := 131) dX11_deliver_126 (by decide) ?_
          cases h
          exact xr_i C hr dX11_deliver_131 (fun _ h => h)
      · refine x_bipush C (v := 9) dX11_deliver_103 (by decide) ?_
        cases h
        exact xr_i C hr dX11_deliver_105 (fun _ h => h)
    · refine x_aload_n C dX11_deliver_45 rfl (q := 1) rfl ?_
      refine m_get C cl_X11 12 (by decide) fl_X11_30_X11 rfl rfl dX11_deliver_46 ?_
      refine x_aload_n C dX11_deliver_49 rfl (q := 1) rfl ?_
      refine m_get C cl_X11 36 (by decide) fl_X11_87_X11 rfl rfl dX11_deliver_50 ?_
      refine x_iconst C (v := 2) dX11_deliver_53 (by decide) ?_
      refine m_iald C rfl (fun _ _ => rfl) dX11_deliver_54 h (fun k22 hk22 h => ?_)
      refine x_letI h (fun v23 h => ?_)
      refine x_aload_n C dX11_deliver_55 rfl (q := 1) rfl ?_
      refine m_get C cl_X11 12 (by decide) fl_X11_30_X11 rfl rfl dX11_deliver_56 ?_
      refine x_aload_n C dX11_deliver_59 rfl (q := 1) rfl ?_
      refine m_get C cl_X11 36 (by decide) fl_X11_87_X11 rfl rfl dX11_deliver_60 ?_
      refine x_iconst C (v := 2) dX11_deliver_63 (by decide) ?_
      refine m_iald C rfl (fun _ _ => rfl) dX11_deliver_64 h (fun k24 hk24 h => ?_)
      refine x_letI h (fun v25 h => ?_)
      refine m_iald C rfl (fun _ _ => rfl) dX11_deliver_65 h (fun k26 hk26 h => ?_)
      refine x_letI h (fun v27 h => ?_)
      refine x_iconst C (v := 2) dX11_deliver_66 (by decide) ?_
      obtain ⟨v28, hv30, h⟩ := bnd1_some h
      refine x_join (Ω' := (xRep G z σ s7)) (pc' := 90) (L' := []) (st' := [.int v28, .int v23, .ref (xaM G 12)]) ?_ (fun hj29 => ?_)
      · refine m_iast C rfl (fun _ _ => rfl) dX11_deliver_90 h (fun k38 hk38 h => ?_)
        refine m_letS h (fun s39 h => ?_)
        refine x_bipush C (v := 6) dX11_deliver_91 (by decide) ?_
        cases h
        exact xr_i C hr dX11_deliver_93 (fun _ h => h)
      · replace h := hv30
        clear hv30
        refine x_icmp_ne C (tgt := 79) dX11_deliver_67 (by decide) h (fun hc31 h => ?_) (fun hc31 h => ?_)
        · refine x_aload_n C dX11_deliver_79 rfl (q := 1) rfl ?_
          refine m_get C cl_X11 12 (by decide) fl_X11_30_X11 rfl rfl dX11_deliver_80 ?_
          refine x_aload_n C dX11_deliver_83 rfl (q := 1) rfl ?_
          refine m_get C cl_X11 36 (by decide) fl_X11_87_X11 rfl rfl dX11_deliver_84 ?_
          refine x_iconst C (v := 2) dX11_deliver_87 (by decide) ?_
          refine m_iald C rfl (fun _ _ => rfl) dX11_deliver_88 h (fun k32 hk32 h => ?_)
          refine x_letI h (fun v33 h => ?_)
          refine m_iald C rfl (fun _ _ => rfl) dX11_deliver_89 h (fun k34 hk34 h => ?_)
          refine x_letI h (fun v35 h => ?_)
          cases h
          exact x_sub [] rfl hj29
        · refine x_aload_n C dX11_deliver_70 rfl (q := 1) rfl ?_
          refine m_get C cl_X11 36 (by decide) fl_X11_87_X11 rfl rfl dX11_deliver_71 ?_
          refine x_iconst C (v := 5) dX11_deliver_74 (by decide) ?_
          refine m_iald C rfl (fun _ _ => rfl) dX11_deliver_75 h (fun k36 hk36 h => ?_)
          refine x_letI h (fun v37 h => ?_)
          refine x_goto C (tgt := 90) dX11_deliver_76 (by decide) ?_
          cases h
          exact x_sub [] rfl hj29
  · refine x_iconst C (v := (-1)) dX11_deliver_8 (by decide) ?_
    cases h
    exact xr_i C hr dX11_deliver_9 (fun _ h => h)
def f_X11_drop (z : Nat → Nat) (τ : Tg) (x1 : Int32) : Option (Int32 × Tg) :=
  bnd1 (f_X11_isMessage z τ x1) fun r2 => if r2 = 0 then (some ((-1), τ)) else (bnd1 (f_X11_takeOut z τ x1) fun s5 => gdx 0 (mlen 36) fun k6 => letv (s5.1 36 k6) fun v7 => some (v7, s5))
def rm_X11_drop : Room := { frames := 2, cells := 0, slots := 0, locals := 43 }
set_option maxRecDepth 100000 in
set_option maxHeartbeats 4000000 in
theorem m_X11_drop {l : Launch} {G : xG} {z : Nat → Nat} {σ : Sg} {τ : Tg} {x1 : Int32} {rF : Int32} {sF : Tg} (h : f_X11_drop z τ x1 = some (rF, sF)) : xMet l (xD G) (xcA G) (xbs G) yX11_drop cX11_drop 2 (Option.some Jvm.ClassFile.FieldType.int) rm_X11_drop [.ref (xaM G 0), .int x1] (xRep G z σ τ) (xRep G z σ sF) (some (.int rF)) 0 0 := by
  refine xMet.of RX11 rfl (by decide +kernel) (Nat.le_of_ble_eq_true rfl) ?_
  intro p e s m args below meth c C hr hnm
  unfold f_X11_drop at h
  refine x_sub (L' := [(0, .ref (xaM G 0)), (1, .int x1)]) [0, 1] rfl ?_
  refine x_aload_n C dX11_drop_0 rfl (q := 0) rfl ?_
  refine x_iload_n C dX11_drop_1 rfl (q := 1) rfl ?_
  obtain ⟨r2, hq1, h⟩ := bnd1_some h
  refine x_callV_i C (m_X11_isMessage hq1) wv_X11_163 (m_recv C.2.2.2 cl_X11 rfl) rfl (Nat.le_of_ble_eq_true rfl) ⟨⟨rfl, rfl⟩, Nat.le_of_ble_eq_true rfl, Nat.le_of_ble_eq_true rfl⟩ dX11_drop_2 rfl ?_
  refine x_if_ne C (tgt := 10) dX11_drop_5 (by decide) h (fun hc3 h => ?_) (fun hc3 h => ?_)
  · refine x_aload_n C dX11_drop_10 rfl (q := 0) rfl ?_
    refine x_iload_n C dX11_drop_11 rfl (q := 1) rfl ?_
    obtain ⟨s5, hq4, h⟩ := bnd1_some h
    refine x_callV_v C (m_X11_takeOut hq4) wv_X11_166 (m_recv C.2.2.2 cl_X11 rfl) rfl (Nat.le_of_ble_eq_true rfl) ⟨⟨rfl, rfl⟩, Nat.le_of_ble_eq_true rfl, Nat.le_of_ble_eq_true rfl⟩ dX11_drop_12 rfl ?_
    refine x_aload_n C dX11_drop_15 rfl (q := 0) rfl ?_
    refine m_get C cl_X11 36 (by decide) fl_X11_87_X11 rfl rfl dX11_drop_16 ?_
    refine x_iconst C (v := 0) dX11_drop_19 (by decide) ?_
    refine m_iald C rfl (fun _ _ => rfl) dX11_drop_20 h (fun k6 hk6 h => ?_)
    refine x_letI h (fun v7 h => ?_)
    cases h
    exact xr_i C hr dX11_drop_21 (fun _ h => h)
  · refine x_iconst C (v := (-1)) dX11_drop_8 (by decide) ?_
    cases h
    exact xr_i C hr dX11_drop_9 (fun _ h => h)
def f_X11_twice_L78 (z : Nat → Nat) (x1 : Int32) (r20 : Int32) : Nat → Int32 → Tg → Option Tg
  | 0, _, _ => none
  | n + 1, y22, s23 => if 8 ≤ y22 then (some (s23)) else (if r20 < 0 then (some (s23)) else (gdx ((8 * x1) + y22) (mlen 31) fun k29 => letv (s23.1 31 k29) fun v30 => gdx ((8 * r20) + y22) (mlen 31) fun k31 => letv (tpI s23 31 k31 v30) fun s32 => letv (y22 + 1) fun v33 => f_X11_twice_L78 z x1 r20 n v33 s32))
def f_X11_twice (z : Nat → Nat) (τ : Tg) (x1 : Int32) : Option (Int32 × Tg) :=
  bnd1 (f_X11_isMessage z τ x1) fun r2 => if r2 = 0 then (some ((-1), τ)) else (letv (7 * x1) fun v4 => gdx v4 (mlen 30) fun k5 => letv (τ.1 30 k5) fun v6 => gdx (v4 + 1) (mlen 30) fun k7 => letv (τ.1 30 k7) fun v8 => gdx (v4 + 2) (mlen 30) fun k9 => letv (τ.1 30 k9) fun v10 => gdx (v4 + 3) (mlen 30) fun k11 => letv (τ.1 30 k11) fun v12 => gdx (v4 + 4) (mlen 30) fun k13 => letv (τ.1 30 k13) fun v14 => gdx (v4 + 5) (mlen 30) fun k15 => letv (τ.1 30 k15) fun v16 => gdx (v4 + 6) (mlen 30) fun k17 => letv (τ.1 30 k17) fun v18 => bnd2 (f_X11_post z τ v6 v8 v10 v12 v14 v16 v18) fun r20 s21 => bnd1 (f_X11_twice_L78 z x1 r20 FU 0 s21) fun (s24 : Tg) => if 0 ≤ r20 then (letv (s24.1 0 29) fun v35 => some (v35, s24)) else (some (0, s24)))
def rm_X11_twice : Room := { frames := 2, cells := 0, slots := 0, locals := 43 }
set_option maxRecDepth 100000 in
set_option maxHeartbeats 4000000 in
theorem m_X11_twice {l : Launch} {G : xG} {z : Nat → Nat} {σ : Sg} {τ : Tg} {x1 : Int32} {rF : Int32} {sF : Tg} (h : f_X11_twice z τ x1 = some (rF, sF)) : xMet l (xD G) (xcA G) (xbs G) yX11_twice cX11_twice 5 (Option.some Jvm.ClassFile.FieldType.int) rm_X11_twice [.ref (xaM G 0), .int x1] (xRep G z σ τ) (xRep G z σ sF) (some (.int rF)) 0 0 := by
  refine xMet.of RX11 rfl (by decide +kernel) (Nat.le_of_ble_eq_true rfl) ?_
  intro p e s m args below meth c C hr hnm
  unfold f_X11_twice at h
  refine x_sub (L' := [(0, .ref (xaM G 0)), (1, .int x1)]) [0, 1] rfl ?_
  refine x_aload_n C dX11_twice_0 rfl (q := 0) rfl ?_
  refine x_iload_n C dX11_twice_1 rfl (q := 1) rfl ?_
  obtain ⟨r2, hq1, h⟩ := bnd1_some h
  refine x_callV_i C (m_X11_isMessage hq1) wv_X11_163 (m_recv C.2.2.2 cl_X11 rfl) rfl (Nat.le_of_ble_eq_true rfl) ⟨⟨rfl, rfl⟩, Nat.le_of_ble_eq_true rfl, Nat.le_of_ble_eq_true rfl⟩ dX11_twice_2 rfl ?_
  refine x_if_ne C (tgt := 10) dX11_twice_5 (by decide) h (fun hc3 h => ?_) (fun hc3 h => ?_)
  · refine x_bipush C (v := 7) dX11_twice_10 (by decide) ?_
    refine x_iload_n C dX11_twice_12 rfl (q := 1) rfl ?_
    refine x_imul C dX11_twice_13 ?_
    refine x_letI h (fun v4 h => ?_)
    refine x_istore_n C (L' := [(2, .int v4), (0, .ref (xaM G 0)), (1, .int x1)]) dX11_twice_14 rfl (by decide) rfl ?_
    refine x_aload_n C dX11_twice_15 rfl (q := 1) rfl ?_
    refine x_aload_n C dX11_twice_16 rfl (q := 1) rfl ?_
    refine m_get C cl_X11 30 (by decide) fl_X11_81_X11 rfl rfl dX11_twice_17 ?_
    refine x_iload_n C dX11_twice_20 rfl (q := 0) rfl ?_
    refine m_iald C rfl (fun _ _ => rfl) dX11_twice_21 h (fun k5 hk5 h => ?_)
    refine x_letI h (fun v6 h => ?_)
    refine x_aload_n C dX11_twice_22 rfl (q := 1) rfl ?_
    refine m_get C cl_X11 30 (by decide) fl_X11_81_X11 rfl rfl dX11_twice_23 ?_
    refine x_iload_n C dX11_twice_26 rfl (q := 0) rfl ?_
    refine x_iconst C (v := 1) dX11_twice_27 (by decide) ?_
    refine x_iadd C dX11_twice_28 ?_
    refine m_iald C rfl (fun _ _ => rfl) dX11_twice_29 h (fun k7 hk7 h => ?_)
    refine x_letI h (fun v8 h => ?_)
    refine x_aload_n C dX11_twice_30 rfl (q := 1) rfl ?_
    refine m_get C cl_X11 30 (by decide) fl_X11_81_X11 rfl rfl dX11_twice_31 ?_
    refine x_iload_n C dX11_twice_34 rfl (q := 0) rfl ?_
    refine x_iconst C (v := 2) dX11_twice_35 (by decide) ?_
    refine x_iadd C dX11_twice_36 ?_
    refine m_iald C rfl (fun _ _ => rfl) dX11_twice_37 h (fun k9 hk9 h => ?_)
    refine x_letI h (fun v10 h => ?_)
    refine x_aload_n C dX11_twice_38 rfl (q := 1) rfl ?_
    refine m_get C cl_X11 30 (by decide) fl_X11_81_X11 rfl rfl dX11_twice_39 ?_
    refine x_iload_n C dX11_twice_42 rfl (q := 0) rfl ?_
    refine x_iconst C (v := 3) dX11_twice_43 (by decide) ?_
    refine x_iadd C dX11_twice_44 ?_
    refine m_iald C rfl (fun _ _ => rfl) dX11_twice_45 h (fun k11 hk11 h => ?_)
    refine x_letI h (fun v12 h => ?_)
    refine x_aload_n C dX11_twice_46 rfl (q := 1) rfl ?_
    refine m_get C cl_X11 30 (by decide) fl_X11_81_X11 rfl rfl dX11_twice_47 ?_
    refine x_iload_n C dX11_twice_50 rfl (q := 0) rfl ?_
    refine x_iconst C (v := 4) dX11_twice_51 (by decide) ?_
    refine x_iadd C dX11_twice_52 ?_
    refine m_iald C rfl (fun _ _ => rfl) dX11_twice_53 h (fun k13 hk13 h => ?_)
    refine x_letI h (fun v14 h => ?_)
    refine x_aload_n C dX11_twice_54 rfl (q := 1) rfl ?_
    refine m_get C cl_X11 30 (by decide) fl_X11_81_X11 rfl rfl dX11_twice_55 ?_
    refine x_iload_n C dX11_twice_58 rfl (q := 0) rfl ?_
    refine x_iconst C (v := 5) dX11_twice_59 (by decide) ?_
    refine x_iadd C dX11_twice_60 ?_
    refine m_iald C rfl (fun _ _ => rfl) dX11_twice_61 h (fun k15 hk15 h => ?_)
    refine x_letI h (fun v16 h => ?_)
    refine x_aload_n C dX11_twice_62 rfl (q := 1) rfl ?_
    refine m_get C cl_X11 30 (by decide) fl_X11_81_X11 rfl rfl dX11_twice_63 ?_
    refine x_iload_n C dX11_twice_66 rfl (q := 0) rfl ?_
    refine x_bipush C (v := 6) dX11_twice_67 (by decide) ?_
    refine x_iadd C dX11_twice_69 ?_
    refine m_iald C rfl (fun _ _ => rfl) dX11_twice_70 h (fun k17 hk17 h => ?_)
    refine x_letI h (fun v18 h => ?_)
    obtain ⟨r20, s21, hq19, h⟩ := bnd2_some h
    refine x_callV_i C (m_X11_post hq19) wv_X11_146 (m_recv C.2.2.2 cl_X11 rfl) rfl (Nat.le_of_ble_eq_true rfl) ⟨⟨rfl, rfl⟩, Nat.le_of_ble_eq_true rfl, Nat.le_of_ble_eq_true rfl⟩ dX11_twice_71 rfl ?_
    refine x_istore_n C (L' := [(3, .int r20), (2, .int v4), (0, .ref (xaM G 0)), (1, .int x1)]) dX11_twice_74 rfl (by decide) rfl ?_
    refine x_iconst C (v := 0) dX11_twice_75 (by decide) ?_
    refine x_istore C (L' := [(4, .int 0), (3, .int r20), (2, .int v4), (0, .ref (xaM G 0)), (1, .int x1)]) dX11_twice_76 (by decide) rfl ?_
    obtain ⟨s24, hv26, h⟩ := bnd1_some h
    refine x_join (Ω' := (xRep G z σ s24)) (pc' := 119) (L' := [(0, .ref (xaM G 0)), (3, .int r20)]) (st' := []) ?_ (fun hj25 => ?_)
    · refine x_iload_n C dX11_twice_119 rfl (q := 1) rfl ?_
      refine x_if_ge C (tgt := 127) dX11_twice_120 (by decide) h (fun hc34 h => ?_) (fun hc34 h => ?_)
      · refine x_aload_n C dX11_twice_127 rfl (q := 0) rfl ?_
        refine m_get C cl_X11 29 (by decide) fl_X11_157_X11 rfl rfl dX11_twice_128 ?_
        refine x_letI h (fun v35 h => ?_)
        cases h
        exact xr_i C hr dX11_twice_131 (fun _ h => h)
      · refine x_iconst C (v := 0) dX11_twice_123 (by decide) ?_
        refine x_goto C (tgt := 131) dX11_twice_124 (by decide) ?_
        cases h
        exact xr_i C hr dX11_twice_131 (fun _ h => h)
    · have hl36 : ∀ (n : Nat) (y22 : Int32) (s23 : Tg), f_X11_twice_L78 z x1 r20 n y22 s23 = some (s24) → XW p l e rm_X11_twice s m args below meth c 0 0 5 (xbs G) (xQ below args s (xbs G) (some (.int rF)) (xRep G z σ sF) 0 0) (xRep G z σ s23) 78 [(0, .ref (xaM G 0)), (1, .int x1), (3, .int r20), (4, .int y22)] [] := by
        intro n
        induction n with
        | zero =>
          intro y22 s23 h
          exact absurd h (by rw [f_X11_twice_L78]; intro q; cases q)
        | succ n ih =>
          intro y22 s23 h
          rw [f_X11_twice_L78] at h
          refine x_iload C dX11_twice_78 (q := 3) rfl ?_
          refine x_bipush C (v := 8) dX11_twice_80 (by decide) ?_
          refine x_icmp_ge C (tgt := 119) dX11_twice_82 (by decide) h (fun hc27 h => ?_) (fun hc27 h => ?_)
          · cases h
            exact x_sub [0, 2] rfl hj25
          · refine x_iload_n C dX11_twice_85 rfl (q := 2) rfl ?_
            refine x_if_lt C (tgt := 119) dX11_twice_86 (by decide) h (fun hc28 h => ?_) (fun hc28 h => ?_)
            · cases h
              exact x_sub [0, 2] rfl hj25
            · refine x_aload_n C dX11_twice_89 rfl (q := 0) rfl ?_
              refine m_get C cl_X11 31 (by decide) fl_X11_84_X11 rfl rfl dX11_twice_90 ?_
              refine x_bipush C (v := 8) dX11_twice_93 (by decide) ?_
              refine x_iload_n C dX11_twice_95 rfl (q := 2) rfl ?_
              refine x_imul C dX11_twice_96 ?_
              refine x_iload C dX11_twice_97 (q := 3) rfl ?_
              refine x_iadd C dX11_twice_99 ?_
              refine x_aload_n C dX11_twice_100 rfl (q := 0) rfl ?_
              refine m_get C cl_X11 31 (by decide) fl_X11_84_X11 rfl rfl dX11_twice_101 ?_
              refine x_bipush C (v := 8) dX11_twice_104 (by decide) ?_
              refine x_iload_n C dX11_twice_106 rfl (q := 1) rfl ?_
              refine x_imul C dX11_twice_107 ?_
              refine x_iload C dX11_twice_108 (q := 3) rfl ?_
              refine x_iadd C dX11_twice_110 ?_
              refine m_iald C rfl (fun _ _ => rfl) dX11_twice_111 h (fun k29 hk29 h => ?_)
              refine x_letI h (fun v30 h => ?_)
              refine m_iast C rfl (fun _ _ => rfl) dX11_twice_112 h (fun k31 hk31 h => ?_)
              refine m_letS h (fun s32 h => ?_)
              refine x_iincL C (w := 1) (L' := fun v33 => [(4, .int v33), (0, .ref (xaM G 0)), (1, .int x1), (3, .int r20)]) dX11_twice_113 (k := 3) rfl (by decide) (by decide) (fun _ => rfl) h (fun v33 h => ?_)
              refine x_goto C (tgt := 78) dX11_twice_116 (by decide) ?_
              exact x_sub [1, 2, 3, 0] rfl (ih _ _ h)
      exact x_sub [3, 4, 1, 0] rfl (hl36 FU _ _ hv26)
  · refine x_iconst C (v := (-1)) dX11_twice_8 (by decide) ?_
    cases h
    exact xr_i C hr dX11_twice_9 (fun _ h => h)
def f_X11_begins_L11 (z : Nat → Nat) (x1 : Int32) : Nat → Int32 → Tg → Option Tg
  | 0, _, _ => none
  | n + 1, y4, s5 => if ((4 * x1) + 4) ≤ y4 then (some (s5)) else (gdx y4 (mlen 25) fun k10 => letv (tpI s5 25 k10 0) fun s11 => gdx y4 (mlen 26) fun k12 => letv (tpI s11 26 k12 0) fun s13 => gdx y4 (mlen 27) fun k14 => letv (tpI s13 27 k14 (-1)) fun s15 => gdx y4 (mlen 28) fun k16 => letv (tpI s15 28 k16 0) fun s17 => letv (y4 + 1) fun v18 => f_X11_begins_L11 z x1 n v18 s17)
def f_X11_begins (z : Nat → Nat) (τ : Tg) (x1 : Int32) : Option Tg :=
  gdx x1 (mlen 22) fun k1 => letv (tpI τ 22 k1 0) fun s2 => letv (4 * x1) fun v3 => bnd1 (f_X11_begins_L11 z x1 FU v3 s2) fun (s6 : Tg) => some (s6)
def rm_X11_begins : Room := { frames := 0, cells := 0, slots := 0, locals := 0 }
set_option maxRecDepth 100000 in
set_option maxHeartbeats 4000000 in
theorem m_X11_begins {l : Launch} {G : xG} {z : Nat → Nat} {σ : Sg} {τ : Tg} {x1 : Int32} {sF : Tg} (h : f_X11_begins z τ x1 = some (sF)) : xMet l (xD G) (xcA G) (xbs G) yX11_begins cX11_begins 3 (Option.none : Option Jvm.ClassFile.FieldType) rm_X11_begins [.ref (xaM G 0), .int x1] (xRep G z σ τ) (xRep G z σ sF) none 0 0 := by
  refine xMet.of RX11 rfl (by decide +kernel) (Nat.le_of_ble_eq_true rfl) ?_
  intro p e s m args below meth c C hr hnm
  unfold f_X11_begins at h
  refine x_sub (L' := [(0, .ref (xaM G 0)), (1, .int x1)]) [0, 1] rfl ?_
  refine x_aload_n C dX11_begins_0 rfl (q := 0) rfl ?_
  refine m_get C cl_X11 22 (by decide) fl_X11_60_X11 rfl rfl dX11_begins_1 ?_
  refine x_iload_n C dX11_begins_4 rfl (q := 1) rfl ?_
  refine x_iconst C (v := 0) dX11_begins_5 (by decide) ?_
  refine m_iast C rfl (fun _ _ => rfl) dX11_begins_6 h (fun k1 hk1 h => ?_)
  refine m_letS h (fun s2 h => ?_)
  refine x_iconst C (v := 4) dX11_begins_7 (by decide) ?_
  refine x_iload_n C dX11_begins_8 rfl (q := 1) rfl ?_
  refine x_imul C dX11_begins_9 ?_
  refine x_letI h (fun v3 h => ?_)
  refine x_istore_n C (L' := [(2, .int v3), (0, .ref (xaM G 0)), (1, .int x1)]) dX11_begins_10 rfl (by decide) rfl ?_
  obtain ⟨s6, hv8, h⟩ := bnd1_some h
  refine x_join (Ω' := (xRep G z σ s6)) (pc' := 54) (L' := []) (st' := []) ?_ (fun hj7 => ?_)
  · cases h
    exact xr_v C hr dX11_begins_54 (fun _ h => h)
  · have hl19 : ∀ (n : Nat) (y4 : Int32) (s5 : Tg), f_X11_begins_L11 z x1 n y4 s5 = some (s6) → XW p l e rm_X11_begins s m args below meth c 0 0 3 (xbs G) (xQ below args s (xbs G) none (xRep G z σ sF) 0 0) (xRep G z σ s5) 11 [(0, .ref (xaM G 0)), (1, .int x1), (2, .int y4)] [] := by
      intro n
      induction n with
      | zero =>
        intro y4 s5 h
        exact absurd h (by rw [f_X11_begins_L11]; intro q; cases q)
      | succ n ih =>
        intro y4 s5 h
        rw [f_X11_begins_L11] at h
        refine x_iload_n C dX11_begins_11 rfl (q := 2) rfl ?_
        refine x_iconst C (v := 4) dX11_begins_12 (by decide) ?_
        refine x_iload_n C dX11_begins_13 rfl (q := 1) rfl ?_
        refine x_imul C dX11_begins_14 ?_
        refine x_iconst C (v := 4) dX11_begins_15 (by decide) ?_
        refine x_iadd C dX11_begins_16 ?_
        refine x_icmp_ge C (tgt := 54) dX11_begins_17 (by decide) h (fun hc9 h => ?_) (fun hc9 h => ?_)
        · cases h
          exact x_sub [] rfl hj7
        · refine x_aload_n C dX11_begins_20 rfl (q := 0) rfl ?_
          refine m_get C cl_X11 25 (by decide) fl_X11_69_X11 rfl rfl dX11_begins_21 ?_
          refine x_iload_n C dX11_begins_24 rfl (q := 2) rfl ?_
          refine x_iconst C (v := 0) dX11_begins_25 (by decide) ?_
          refine m_iast C rfl (fun _ _ => rfl) dX11_begins_26 h (fun k10 hk10 h => ?_)
          refine m_letS h (fun s11 h => ?_)
          refine x_aload_n C dX11_begins_27 rfl (q := 0) rfl ?_
          refine m_get C cl_X11 26 (by decide) fl_X11_72_X11 rfl rfl dX11_begins_28 ?_
          refine x_iload_n C dX11_begins_31 rfl (q := 2) rfl ?_
          refine x_iconst C (v := 0) dX11_begins_32 (by decide) ?_
          refine m_iast C rfl (fun _ _ => rfl) dX11_begins_33 h (fun k12 hk12 h => ?_)
          refine m_letS h (fun s13 h => ?_)
          refine x_aload_n C dX11_begins_34 rfl (q := 0) rfl ?_
          refine m_get C cl_X11 27 (by decide) fl_X11_75_X11 rfl rfl dX11_begins_35 ?_
          refine x_iload_n C dX11_begins_38 rfl (q := 2) rfl ?_
          refine x_iconst C (v := (-1)) dX11_begins_39 (by decide) ?_
          refine m_iast C rfl (fun _ _ => rfl) dX11_begins_40 h (fun k14 hk14 h => ?_)
          refine m_letS h (fun s15 h => ?_)
          refine x_aload_n C dX11_begins_41 rfl (q := 0) rfl ?_
          refine m_get C cl_X11 28 (by decide) fl_X11_78_X11 rfl rfl dX11_begins_42 ?_
          refine x_iload_n C dX11_begins_45 rfl (q := 2) rfl ?_
          refine x_iconst C (v := 0) dX11_begins_46 (by decide) ?_
          refine m_iast C rfl (fun _ _ => rfl) dX11_begins_47 h (fun k16 hk16 h => ?_)
          refine m_letS h (fun s17 h => ?_)
          refine x_iincL C (w := 1) (L' := fun v18 => [(2, .int v18), (0, .ref (xaM G 0)), (1, .int x1)]) dX11_begins_48 (k := 2) rfl (by decide) (by decide) (fun _ => rfl) h (fun v18 h => ?_)
          refine x_goto C (tgt := 11) dX11_begins_51 (by decide) ?_
          exact x_sub [1, 2, 0] rfl (ih _ _ h)
    exact x_sub [1, 2, 0] rfl (hl19 FU _ _ hv8)
def f_X11_forget_L5 (z : Nat → Nat) (x1 : Int32) : Nat → Int32 → Tg → Option Tg
  | 0, _, _ => none
  | n + 1, y2, s3 => if ((16 * x1) + 16) ≤ y2 then (some (s3)) else (bnd1 (f_X11_begins z s3 y2) fun s9 => gdx y2 (mlen 21) fun k10 => letv (tpI s9 21 k10 0) fun s11 => bnd1 (α := Int32) (if x1 = 0 then (some (0)) else (some ((-1)))) fun (v12 : Int32) => gdx y2 (mlen 20) fun k16 => letv (tpI s11 20 k16 v12) fun s17 => letv (y2 + 1) fun v18 => f_X11_forget_L5 z x1 n v18 s17)
def f_X11_forget (z : Nat → Nat) (τ : Tg) (x1 : Int32) : Option Tg :=
  letv (16 * x1) fun v1 => bnd1 (f_X11_forget_L5 z x1 FU v1 τ) fun (s4 : Tg) => some (s4)
def rm_X11_forget : Room := { frames := 1, cells := 0, slots := 0, locals := 22 }
set_option maxRecDepth 100000 in
set_option maxHeartbeats 4000000 in
theorem m_X11_forget {l : Launch} {G : xG} {z : Nat → Nat} {σ : Sg} {τ : Tg} {x1 : Int32} {sF : Tg} (h : f_X11_forget z τ x1 = some (sF)) : xMet l (xD G) (xcA G) (xbs G) yX11_forget cX11_forget 3 (Option.none : Option Jvm.ClassFile.FieldType) rm_X11_forget [.ref (xaM G 0), .int x1] (xRep G z σ τ) (xRep G z σ sF) none 0 0 := by
  refine xMet.of RX11 rfl (by decide +kernel) (Nat.le_of_ble_eq_true rfl) ?_
  intro p e s m args below meth c C hr hnm
  unfold f_X11_forget at h
  refine x_sub (L' := [(0, .ref (xaM G 0)), (1, .int x1)]) [0, 1] rfl ?_
  refine x_bipush C (v := 16) dX11_forget_0 (by decide) ?_
  refine x_iload_n C dX11_forget_2 rfl (q := 1) rfl ?_
  refine x_imul C dX11_forget_3 ?_
  refine x_letI h (fun v1 h => ?_)
  refine x_istore_n C (L' := [(2, .int v1), (0, .ref (xaM G 0)), (1, .int x1)]) dX11_forget_4 rfl (by decide) rfl ?_
  obtain ⟨s4, hv6, h⟩ := bnd1_some h
  refine x_join (Ω' := (xRep G z σ s4)) (pc' := 49) (L' := []) (st' := []) ?_ (fun hj5 => ?_)
  · cases h
    exact xr_v C hr dX11_forget_49 (fun _ h => h)
  · have hl19 : ∀ (n : Nat) (y2 : Int32) (s3 : Tg), f_X11_forget_L5 z x1 n y2 s3 = some (s4) → XW p l e rm_X11_forget s m args below meth c 0 0 3 (xbs G) (xQ below args s (xbs G) none (xRep G z σ sF) 0 0) (xRep G z σ s3) 5 [(0, .ref (xaM G 0)), (1, .int x1), (2, .int y2)] [] := by
      intro n
      induction n with
      | zero =>
        intro y2 s3 h
        exact absurd h (by rw [f_X11_forget_L5]; intro q; cases q)
      | succ n ih =>
        intro y2 s3 h
        rw [f_X11_forget_L5] at h
        refine x_iload_n C dX11_forget_5 rfl (q := 2) rfl ?_
        refine x_bipush C (v := 16) dX11_forget_6 (by decide) ?_
        refine x_iload_n C dX11_forget_8 rfl (q := 1) rfl ?_
        refine x_imul C dX11_forget_9 ?_
        refine x_bipush C (v := 16) dX11_forget_10 (by decide) ?_
        refine x_iadd C dX11_forget_12 ?_
        refine x_icmp_ge C (tgt := 49) dX11_forget_13 (by decide) h (fun hc7 h => ?_) (fun hc7 h => ?_)
        · cases h
          exact x_sub [] rfl hj5
        · refine x_aload_n C dX11_forget_16 rfl (q := 0) rfl ?_
          refine x_iload_n C dX11_forget_17 rfl (q := 2) rfl ?_
          obtain ⟨s9, hq8, h⟩ := bnd1_some h
          refine x_callV_v C (m_X11_begins hq8) wv_X11_205 (m_recv C.2.2.2 cl_X11 rfl) rfl (Nat.le_of_ble_eq_true rfl) ⟨⟨rfl, rfl⟩, Nat.le_of_ble_eq_true rfl, Nat.le_of_ble_eq_true rfl⟩ dX11_forget_18 rfl ?_
          refine x_aload_n C dX11_forget_21 rfl (q := 0) rfl ?_
          refine m_get C cl_X11 21 (by decide) fl_X11_57_X11 rfl rfl dX11_forget_22 ?_
          refine x_iload_n C dX11_forget_25 rfl (q := 2) rfl ?_
          refine x_iconst C (v := 0) dX11_forget_26 (by decide) ?_
          refine m_iast C rfl (fun _ _ => rfl) dX11_forget_27 h (fun k10 hk10 h => ?_)
          refine m_letS h (fun s11 h => ?_)
          refine x_aload_n C dX11_forget_28 rfl (q := 0) rfl ?_
          refine m_get C cl_X11 20 (by decide) fl_X11_54_X11 rfl rfl dX11_forget_29 ?_
          refine x_iload_n C dX11_forget_32 rfl (q := 2) rfl ?_
          refine x_iload_n C dX11_forget_33 rfl (q := 1) rfl ?_
          obtain ⟨v12, hv14, h⟩ := bnd1_some h
          refine x_join (Ω' := (xRep G z σ s11)) (pc' := 42) (L' := [(0, .ref (xaM G 0)), (1, .int x1), (2, .int y2)]) (st' := [.int v12, .int y2, .ref (xaM G 20)]) ?_ (fun hj13 => ?_)
          · refine m_iast C rfl (fun _ _ => rfl) dX11_forget_42 h (fun k16 hk16 h => ?_)
            refine m_letS h (fun s17 h => ?_)
            refine x_iincL C (w := 1) (L' := fun v18 => [(2, .int v18), (0, .ref (xaM G 0)), (1, .int x1)]) dX11_forget_43 (k := 2) rfl (by decide) (by decide) (fun _ => rfl) h (fun v18 h => ?_)
            refine x_goto C (tgt := 5) dX11_forget_46 (by decide) ?_
            exact x_sub [1, 2, 0] rfl (ih _ _ h)
          · replace h := hv14
            clear hv14
            refine x_if_ne C (tgt := 41) dX11_forget_34 (by decide) h (fun hc15 h => ?_) (fun hc15 h => ?_)
            · refine x_iconst C (v := (-1)) dX11_forget_41 (by decide) ?_
              cases h
              exact x_sub [0, 1, 2] rfl hj13
            · refine x_iconst C (v := 0) dX11_forget_37 (by decide) ?_
              refine x_goto C (tgt := 42) dX11_forget_38 (by decide) ?_
              cases h
              exact x_sub [0, 1, 2] rfl hj13
    exact x_sub [1, 2, 0] rfl (hl19 FU _ _ hv6)
def f_X11_timeout_L118 (z : Nat → Nat) (τ : Tg) (x1 : Int32) (x2 : Int32) (v7 : Int32) (v27 : Int32) : Nat → Int32 → Option Int32
  | 0, _ => none
  | n + 1, y36 => if y36 ≤ v27 then (letv (y36 + (nI (z 1))) fun v41 => f_X11_timeout_L118 z τ x1 x2 v7 v27 n v41) else (if 0 < y36 then (some (y36)) else (letv (y36 + (nI (z 1))) fun v43 => f_X11_timeout_L118 z τ x1 x2 v7 v27 n v43))
def f_X11_timeout (z : Nat → Nat) (τ : Tg) (x1 : Int32) (x2 : Int32) : Option (Int32 × Tg) :=
  bnd1 (f_X11_isAcceptor z τ x1) fun r2 => if r2 = 0 then (some ((-1), τ)) else (bnd1 (f_X11_isTxn z τ x2) fun r5 => if r5 = 0 then (some ((-1), τ)) else (letv ((16 * (x1 - (nI (z 0)))) + x2) fun v7 => gdx x1 (mlen 6) fun k8 => letv (τ.1 6 k8) fun v9 => if v9 = 0 then (some (0, τ)) else (gdx v7 (mlen 21) fun k11 => letv (τ.1 21 k11) fun v12 => if v12 = 0 then (gdx x2 (mlen 12) fun k14 => letv (τ.1 12 k14) fun v15 => if v15 = 0 then (some (0, τ)) else (gdx x2 (mlen 12) fun k17 => letv (τ.1 12 k17) fun v18 => if v18 = 1 then (some (0, τ)) else (gdx x2 (mlen 13) fun k20 => letv (τ.1 13 k20) fun v21 => if v21 = 0 then (some (0, τ)) else (gdx v7 (mlen 20) fun k23 => letv (τ.1 20 k23) fun v24 => gdx v7 (mlen 19) fun k25 => letv (τ.1 19 k25) fun v26 => bnd1 (α := Int32) (if v24 ≤ v26 then (gdx v7 (mlen 19) fun k31 => letv (τ.1 19 k31) fun v32 => some (v32)) else (gdx v7 (mlen 20) fun k33 => letv (τ.1 20 k33) fun v34 => some (v34))) fun (v27 : Int32) => letv (x1 - (nI (z 0))) fun v35 => bnd1 (f_X11_timeout_L118 z τ x1 x2 v7 v27 FU v35) fun (v37 : Int32) => bnd2 (f_X11_writes z τ x1 3 x2 v37 0) fun r45 s46 => if r45 = 0 then (some (0, s46)) else (gdx v7 (mlen 19) fun k48 => letv (tpI s46 19 k48 v37) fun s49 => gdx v7 (mlen 20) fun k50 => letv (tpI s49 20 k50 v37) fun s51 => bnd1 (f_X11_begins z s51 v7) fun s53 => bnd1 (f_X11_postAll z s53 4 x2 v37 0 0 x1) fun s55 => some (v37, s55)))))) else (some (0, τ)))))
def rm_X11_timeout : Room := { frames := 2, cells := 0, slots := 0, locals := 56 }
set_option maxRecDepth 100000 in
set_option maxHeartbeats 4000000 in
theorem m_X11_timeout {l : Launch} {G : xG} {z : Nat → Nat} {σ : Sg} {τ : Tg} {x1 : Int32} {x2 : Int32} {rF : Int32} {sF : Tg} (h : f_X11_timeout z τ x1 x2 = some (rF, sF)) : xMet l (xD G) (xcA G) (xbs G) yX11_timeout cX11_timeout 6 (Option.some Jvm.ClassFile.FieldType.int) rm_X11_timeout [.ref (xaM G 0), .int x1, .int x2] (xRep G z σ τ) (xRep G z σ sF) (some (.int rF)) 0 0 := by
  refine xMet.of RX11 rfl (by decide +kernel) (Nat.le_of_ble_eq_true rfl) ?_
  intro p e s m args below meth c C hr hnm
  unfold f_X11_timeout at h
  refine x_sub (L' := [(0, .ref (xaM G 0)), (1, .int x1), (2, .int x2)]) [0, 1, 2] rfl ?_
  refine x_aload_n C dX11_timeout_0 rfl (q := 0) rfl ?_
  refine x_iload_n C dX11_timeout_1 rfl (q := 1) rfl ?_
  obtain ⟨r2, hq1, h⟩ := bnd1_some h
  refine x_callV_i C (m_X11_isAcceptor hq1) wv_X11_208 (m_recv C.2.2.2 cl_X11 rfl) rfl (Nat.le_of_ble_eq_true rfl) ⟨⟨rfl, rfl⟩, Nat.le_of_ble_eq_true rfl, Nat.le_of_ble_eq_true rfl⟩ dX11_timeout_2 rfl ?_
  refine x_if_eq C (tgt := 16) dX11_timeout_5 (by decide) h (fun hc3 h => ?_) (fun hc3 h => ?_)
  · refine x_iconst C (v := (-1)) dX11_timeout_16 (by decide) ?_
    cases h
    exact xr_i C hr dX11_timeout_17 (fun _ h => h)
  · refine x_aload_n C dX11_timeout_8 rfl (q := 0) rfl ?_
    refine x_iload_n C dX11_timeout_9 rfl (q := 2) rfl ?_
    obtain ⟨r5, hq4, h⟩ := bnd1_some h
    refine x_callV_i C (m_X11_isTxn hq4) wv_X11_132 (m_recv C.2.2.2 cl_X11 rfl) rfl (Nat.le_of_ble_eq_true rfl) ⟨⟨rfl, rfl⟩, Nat.le_of_ble_eq_true rfl, Nat.le_of_ble_eq_true rfl⟩ dX11_timeout_10 rfl ?_
    refine x_if_ne C (tgt := 18) dX11_timeout_13 (by decide) h (fun hc6 h => ?_) (fun hc6 h => ?_)
    · refine x_bipush C (v := 16) dX11_timeout_18 (by decide) ?_
      refine x_iload_n C dX11_timeout_20 rfl (q := 1) rfl ?_
      refine x_aload_n C dX11_timeout_21 rfl (q := 0) rfl ?_
      refine m_get C cl_X11 0 (by decide) fl_X11_97_X11 rfl rfl dX11_timeout_22 ?_
      refine x_isub C dX11_timeout_25 ?_
      refine x_imul C dX11_timeout_26 ?_
      refine x_iload_n C dX11_timeout_27 rfl (q := 2) rfl ?_
      refine x_iadd C dX11_timeout_28 ?_
      refine x_letI h (fun v7 h => ?_)
      refine x_istore_n C (L' := [(3, .int v7), (0, .ref (xaM G 0)), (1, .int x1), (2, .int x2)]) dX11_timeout_29 rfl (by decide) rfl ?_
      refine x_aload_n C dX11_timeout_30 rfl (q := 1) rfl ?_
      refine m_get C cl_X11 6 (by decide) fl_X11_7_X11 rfl rfl dX11_timeout_31 ?_
      refine x_iload_n C dX11_timeout_34 rfl (q := 2) rfl ?_
      refine m_bald C rfl (fun _ _ => rfl) dX11_timeout_35 h (fun k8 hk8 h => ?_)
      refine x_letI h (fun v9 h => ?_)
      refine x_if_eq C (tgt := 76) dX11_timeout_36 (by decide) h (fun hc10 h => ?_) (fun hc10 h => ?_)
      · refine x_iconst C (v := 0) dX11_timeout_76 (by decide) ?_
        cases h
        exact xr_i C hr dX11_timeout_77 (fun _ h => h)
      · refine x_aload_n C dX11_timeout_39 rfl (q := 1) rfl ?_
        refine m_get C cl_X11 21 (by decide) fl_X11_57_X11 rfl rfl dX11_timeout_40 ?_
        refine x_iload_n C dX11_timeout_43 rfl (q := 0) rfl ?_
        refine m_iald C rfl (fun _ _ => rfl) dX11_timeout_44 h (fun k11 hk11 h => ?_)
        refine x_letI h (fun v12 h => ?_)
        refine x_if_ne C (tgt := 76) dX11_timeout_45 (by decide) h (fun hc13 h => ?_) (fun hc13 h => ?_)
        · refine x_iconst C (v := 0) dX11_timeout_76 (by decide) ?_
          cases h
          exact xr_i C hr dX11_timeout_77 (fun _ h => h)
        · refine x_aload_n C dX11_timeout_48 rfl (q := 1) rfl ?_
          refine m_get C cl_X11 12 (by decide) fl_X11_30_X11 rfl rfl dX11_timeout_49 ?_
          refine x_iload_n C dX11_timeout_52 rfl (q := 3) rfl ?_
          refine m_iald C rfl (fun _ _ => rfl) dX11_timeout_53 h (fun k14 hk14 h => ?_)
          refine x_letI h (fun v15 h => ?_)
          refine x_if_eq C (tgt := 76) dX11_timeout_54 (by decide) h (fun hc16 h => ?_) (fun hc16 h => ?_)
          · refine x_iconst C (v := 0) dX11_timeout_76 (by decide) ?_
            cases h
            exact xr_i C hr dX11_timeout_77 (fun _ h => h)
          · refine x_aload_n C dX11_timeout_57 rfl (q := 1) rfl ?_
            refine m_get C cl_X11 12 (by decide) fl_X11_30_X11 rfl rfl dX11_timeout_58 ?_
            refine x_iload_n C dX11_timeout_61 rfl (q := 3) rfl ?_
            refine m_iald C rfl (fun _ _ => rfl) dX11_timeout_62 h (fun k17 hk17 h => ?_)
            refine x_letI h (fun v18 h => ?_)
            refine x_iconst C (v := 1) dX11_timeout_63 (by decide) ?_
            refine x_icmp_eq C (tgt := 76) dX11_timeout_64 (by decide) h (fun hc19 h => ?_) (fun hc19 h => ?_)
            · refine x_iconst C (v := 0) dX11_timeout_76 (by decide) ?_
              cases h
              exact xr_i C hr dX11_timeout_77 (fun _ h => h)
            · refine x_aload_n C dX11_timeout_67 rfl (q := 1) rfl ?_
              refine m_get C cl_X11 13 (by decide) fl_X11_33_X11 rfl rfl dX11_timeout_68 ?_
              refine x_iload_n C dX11_timeout_71 rfl (q := 3) rfl ?_
              refine m_iald C rfl (fun _ _ => rfl) dX11_timeout_72 h (fun k20 hk20 h => ?_)
              refine x_letI h (fun v21 h => ?_)
              refine x_if_ne C (tgt := 78) dX11_timeout_73 (by decide) h (fun hc22 h => ?_) (fun hc22 h => ?_)
              · refine x_aload_n C dX11_timeout_78 rfl (q := 1) rfl ?_
                refine m_get C cl_X11 20 (by decide) fl_X11_54_X11 rfl rfl dX11_timeout_79 ?_
                refine x_iload_n C dX11_timeout_82 rfl (q := 0) rfl ?_
                refine m_iald C rfl (fun _ _ => rfl) dX11_timeout_83 h (fun k23 hk23 h => ?_)
                refine x_letI h (fun v24 h => ?_)
                refine x_aload_n C dX11_timeout_84 rfl (q := 1) rfl ?_
                refine m_get C cl_X11 19 (by decide) fl_X11_51_X11 rfl rfl dX11_timeout_85 ?_
                refine x_iload_n C dX11_timeout_88 rfl (q := 0) rfl ?_
                refine m_iald C rfl (fun _ _ => rfl) dX11_timeout_89 h (fun k25 hk25 h => ?_)
                refine x_letI h (fun v26 h => ?_)
                obtain ⟨v27, hv29, h⟩ := bnd1_some h
                refine x_join (Ω' := (xRep G z σ τ)) (pc' := 108) (L' := [(0, .ref (xaM G 0)), (1, .int x1), (2, .int x2), (3, .int v7)]) (st' := [.int v27]) ?_ (fun hj28 => ?_)
                · refine x_istore C (L' := [(4, .int v27), (0, .ref (xaM G 0)), (1, .int x1), (2, .int x2), (3, .int v7)]) dX11_timeout_108 (by decide) rfl ?_
                  refine x_iload_n C dX11_timeout_110 rfl (q := 2) rfl ?_
                  refine x_aload_n C dX11_timeout_111 rfl (q := 1) rfl ?_
                  refine m_get C cl_X11 0 (by decide) fl_X11_97_X11 rfl rfl dX11_timeout_112 ?_
                  refine x_isub C dX11_timeout_115 ?_
                  refine x_letI h (fun v35 h => ?_)
                  refine x_istore C (L' := [(5, .int v35), (4, .int v27), (0, .ref (xaM G 0)), (1, .int x1), (2, .int x2), (3, .int v7)]) dX11_timeout_116 (by decide) rfl ?_
                  obtain ⟨v37, hv39, h⟩ := bnd1_some h
                  refine x_join (Ω' := (xRep G z σ τ)) (pc' := 142) (L' := [(0, .ref (xaM G 0)), (1, .int x1), (2, .int x2), (3, .int v7), (5, .int v37)]) (st' := []) ?_ (fun hj38 => ?_)
                  · refine x_aload_n C dX11_timeout_142 rfl (q := 0) rfl ?_
                    refine x_iload_n C dX11_timeout_143 rfl (q := 1) rfl ?_
                    refine x_iconst C (v := 3) dX11_timeout_144 (by decide) ?_
                    refine x_iload_n C dX11_timeout_145 rfl (q := 2) rfl ?_
                    refine x_iload C dX11_timeout_146 (q := 4) rfl ?_
                    refine x_iconst C (v := 0) dX11_timeout_148 (by decide) ?_
                    obtain ⟨r45, s46, hq44, h⟩ := bnd2_some h
                    refine x_callV_i C (m_X11_writes hq44) wv_X11_194 (m_recv C.2.2.2 cl_X11 rfl) rfl (Nat.le_of_ble_eq_true rfl) ⟨⟨rfl, rfl⟩, Nat.le_of_ble_eq_true rfl, Nat.le_of_ble_eq_true rfl⟩ dX11_timeout_149 rfl ?_
                    refine x_if_ne C (tgt := 157) dX11_timeout_152 (by decide) h (fun hc47 h => ?_) (fun hc47 h => ?_)
                    · refine x_aload_n C dX11_timeout_157 rfl (q := 0) rfl ?_
                      refine m_get C cl_X11 19 (by decide) fl_X11_51_X11 rfl rfl dX11_timeout_158 ?_
                      refine x_iload_n C dX11_timeout_161 rfl (q := 3) rfl ?_
                      refine x_iload C dX11_timeout_162 (q := 4) rfl ?_
                      refine m_iast C rfl (fun _ _ => rfl) dX11_timeout_164 h (fun k48 hk48 h => ?_)
                      refine m_letS h (fun s49 h => ?_)
                      refine x_aload_n C dX11_timeout_165 rfl (q := 0) rfl ?_
                      refine m_get C cl_X11 20 (by decide) fl_X11_54_X11 rfl rfl dX11_timeout_166 ?_
                      refine x_iload_n C dX11_timeout_169 rfl (q := 3) rfl ?_
                      refine x_iload C dX11_timeout_170 (q := 4) rfl ?_
                      refine m_iast C rfl (fun _ _ => rfl) dX11_timeout_172 h (fun k50 hk50 h => ?_)
                      refine m_letS h (fun s51 h => ?_)
                      refine x_aload_n C dX11_timeout_173 rfl (q := 0) rfl ?_
                      refine x_iload_n C dX11_timeout_174 rfl (q := 3) rfl ?_
                      obtain ⟨s53, hq52, h⟩ := bnd1_some h
                      refine x_callV_v C (m_X11_begins hq52) wv_X11_205 (m_recv C.2.2.2 cl_X11 rfl) rfl (Nat.le_of_ble_eq_true rfl) ⟨⟨rfl, rfl⟩, Nat.le_of_ble_eq_true rfl, Nat.le_of_ble_eq_true rfl⟩ dX11_timeout_175 rfl ?_
                      refine x_aload_n C dX11_timeout_178 rfl (q := 0) rfl ?_
                      refine x_iconst C (v := 4) dX11_timeout_179 (by decide) ?_
                      refine x_iload_n C dX11_timeout_180 rfl (q := 2) rfl ?_
                      refine x_iload C dX11_timeout_181 (q := 4) rfl ?_
                      refine x_iconst C (v := 0) dX11_timeout_183 (by decide) ?_
                      refine x_iconst C (v := 0) dX11_timeout_184 (by decide) ?_
                      refine x_iload_n C dX11_timeout_185 rfl (q := 1) rfl ?_
                      obtain ⟨s55, hq54, h⟩ := bnd1_some h
                      refine x_callV_v C (m_X11_postAll hq54) wv_X11_198 (m_recv C.2.2.2 cl_X11 rfl) rfl (Nat.le_of_ble_eq_true rfl) ⟨⟨rfl, rfl⟩, Nat.le_of_ble_eq_true rfl, Nat.le_of_ble_eq_true rfl⟩ dX11_timeout_186 rfl ?_
                      refine x_iload C dX11_timeout_189 (q := 4) rfl ?_
                      cases h
                      exact xr_i C hr dX11_timeout_191 (fun _ h => h)
                    · refine x_iconst C (v := 0) dX11_timeout_155 (by decide) ?_
                      cases h
                      exact xr_i C hr dX11_timeout_156 (fun _ h => h)
                  · have hl56 : ∀ (n : Nat) (y36 : Int32), f_X11_timeout_L118 z τ x1 x2 v7 v27 n y36 = some (v37) → XW p l e rm_X11_timeout s m args below meth c 0 0 6 (xbs G) (xQ below args s (xbs G) (some (.int rF)) (xRep G z σ sF) 0 0) (xRep G z σ τ) 118 [(0, .ref (xaM G 0)), (1, .int x1), (2, .int x2), (3, .int v7), (4, .int v27), (5, .int y36)] [] := by
                      intro n
                      induction n with
                      | zero =>
                        intro y36 h
                        exact absurd h (by rw [f_X11_timeout_L118]; intro q; cases q)
                      | succ n ih =>
                        intro y36 h
                        rw [f_X11_timeout_L118] at h
                        refine x_iload C dX11_timeout_118 (q := 5) rfl ?_
                        refine x_iload C dX11_timeout_120 (q := 4) rfl ?_
                        refine x_icmp_le C (tgt := 130) dX11_timeout_122 (by decide) h (fun hc40 h => ?_) (fun hc40 h => ?_)
                        · refine x_iload C dX11_timeout_130 (q := 5) rfl ?_
                          refine x_aload_n C dX11_timeout_132 rfl (q := 0) rfl ?_
                          refine m_get C cl_X11 1 (by decide) fl_X11_101_X11 rfl rfl dX11_timeout_133 ?_
                          refine x_iadd C dX11_timeout_136 ?_
                          refine x_letI h (fun v41 h => ?_)
                          refine x_istore C (L' := [(5, .int v41), (0, .ref (xaM G 0)), (1, .int x1), (2, .int x2), (3, .int v7), (4, .int v27)]) dX11_timeout_137 (by decide) rfl ?_
                          refine x_goto C (tgt := 118) dX11_timeout_139 (by decide) ?_
                          exact x_sub [1, 2, 3, 4, 5, 0] rfl (ih _ h)
                        · refine x_iload C dX11_timeout_125 (q := 5) rfl ?_
                          refine x_if_gt C (tgt := 142) dX11_timeout_127 (by decide) h (fun hc42 h => ?_) (fun hc42 h => ?_)
                          · cases h
                            exact x_sub [0, 1, 2, 3, 5] rfl hj38
                          · refine x_iload C dX11_timeout_130 (q := 5) rfl ?_
                            refine x_aload_n C dX11_timeout_132 rfl (q := 0) rfl ?_
                            refine m_get C cl_X11 1 (by decide) fl_X11_101_X11 rfl rfl dX11_timeout_133 ?_
                            refine x_iadd C dX11_timeout_136 ?_
                            refine x_letI h (fun v43 h => ?_)
                            refine x_istore C (L' := [(5, .int v43), (0, .ref (xaM G 0)), (1, .int x1), (2, .int x2), (3, .int v7), (4, .int v27)]) dX11_timeout_137 (by decide) rfl ?_
                            refine x_goto C (tgt := 118) dX11_timeout_139 (by decide) ?_
                            exact x_sub [1, 2, 3, 4, 5, 0] rfl (ih _ h)
                    exact x_sub [2, 3, 4, 5, 1, 0] rfl (hl56 FU _ hv39)
                · replace h := hv29
                  clear hv29
                  refine x_icmp_le C (tgt := 102) dX11_timeout_90 (by decide) h (fun hc30 h => ?_) (fun hc30 h => ?_)
                  · refine x_aload_n C dX11_timeout_102 rfl (q := 1) rfl ?_
                    refine m_get C cl_X11 19 (by decide) fl_X11_51_X11 rfl rfl dX11_timeout_103 ?_
                    refine x_iload_n C dX11_timeout_106 rfl (q := 0) rfl ?_
                    refine m_iald C rfl (fun _ _ => rfl) dX11_timeout_107 h (fun k31 hk31 h => ?_)
                    refine x_letI h (fun v32 h => ?_)
                    cases h
                    exact x_sub [1, 2, 3, 0] rfl hj28
                  · refine x_aload_n C dX11_timeout_93 rfl (q := 1) rfl ?_
                    refine m_get C cl_X11 20 (by decide) fl_X11_54_X11 rfl rfl dX11_timeout_94 ?_
                    refine x_iload_n C dX11_timeout_97 rfl (q := 0) rfl ?_
                    refine m_iald C rfl (fun _ _ => rfl) dX11_timeout_98 h (fun k33 hk33 h => ?_)
                    refine x_letI h (fun v34 h => ?_)
                    refine x_goto C (tgt := 108) dX11_timeout_99 (by decide) ?_
                    cases h
                    exact x_sub [1, 2, 3, 0] rfl hj28
              · refine x_iconst C (v := 0) dX11_timeout_76 (by decide) ?_
                cases h
                exact xr_i C hr dX11_timeout_77 (fun _ h => h)
    · refine x_iconst C (v := (-1)) dX11_timeout_16 (by decide) ?_
      cases h
      exact xr_i C hr dX11_timeout_17 (fun _ h => h)
def f_X11_crash_L50 (z : Nat → Nat) (x1 : Int32) : Nat → Int32 → Tg → Option Tg
  | 0, _, _ => none
  | n + 1, y10, s11 => if (nI (z 2)) ≤ y10 then (some (s11)) else (letv ((16 * x1) + y10) fun v16 => gdx v16 (mlen 16) fun k17 => letv (s11.1 16 k17) fun v18 => if v18 = 0 then (letv (y10 + 1) fun v20 => f_X11_crash_L50 z x1 n v20 s11) else (gdx v16 (mlen 17) fun k21 => letv (s11.1 17 k21) fun v22 => if v22 = 1 then (gdx v16 (mlen 18) fun k27 => letv (s11.1 18 k27) fun v28 => if v28 = 0 then (letv (y10 + 1) fun v30 => f_X11_crash_L50 z x1 n v30 s11) else (bnd1 (f_X11_endSession z s11 x1 y10) fun s32 => letv (y10 + 1) fun v33 => f_X11_crash_L50 z x1 n v33 s32)) else (bnd1 (f_X11_endSession z s11 x1 y10) fun s25 => letv (y10 + 1) fun v26 => f_X11_crash_L50 z x1 n v26 s25)))
def f_X11_crash (z : Nat → Nat) (τ : Tg) (x1 : Int32) : Option (Int32 × Tg) :=
  bnd1 (f_X11_isNode z τ x1) fun r2 => if r2 = 0 then (some ((-1), τ)) else (gdx x1 (mlen 6) fun k4 => letv (τ.1 6 k4) fun v5 => if v5 = 0 then (some (0, τ)) else (gdx x1 (mlen 6) fun k7 => letv (tpI τ 6 k7 0) fun s8 => if x1 < (nI (z 0)) then (bnd1 (f_X11_crash_L50 z x1 FU 0 s8) fun (s12 : Tg) => some (1, s12)) else (bnd1 (f_X11_forget z s8 (x1 - (nI (z 0)))) fun s36 => some (1, s36))))
def rm_X11_crash : Room := { frames := 2, cells := 0, slots := 0, locals := 44 }
set_option maxRecDepth 100000 in
set_option maxHeartbeats 4000000 in
theorem m_X11_crash {l : Launch} {G : xG} {z : Nat → Nat} {σ : Sg} {τ : Tg} {x1 : Int32} {rF : Int32} {sF : Tg} (h : f_X11_crash z τ x1 = some (rF, sF)) : xMet l (xD G) (xcA G) (xbs G) yX11_crash cX11_crash 4 (Option.some Jvm.ClassFile.FieldType.int) rm_X11_crash [.ref (xaM G 0), .int x1] (xRep G z σ τ) (xRep G z σ sF) (some (.int rF)) 0 0 := by
  refine xMet.of RX11 rfl (by decide +kernel) (Nat.le_of_ble_eq_true rfl) ?_
  intro p e s m args below meth c C hr hnm
  unfold f_X11_crash at h
  refine x_sub (L' := [(0, .ref (xaM G 0)), (1, .int x1)]) [0, 1] rfl ?_
  refine x_aload_n C dX11_crash_0 rfl (q := 0) rfl ?_
  refine x_iload_n C dX11_crash_1 rfl (q := 1) rfl ?_
  obtain ⟨r2, hq1, h⟩ := bnd1_some h
  refine x_callV_i C (m_X11_isNode hq1) wv_X11_211 (m_recv C.2.2.2 cl_X11 rfl) rfl (Nat.le_of_ble_eq_true rfl) ⟨⟨rfl, rfl⟩, Nat.le_of_ble_eq_true rfl, Nat.le_of_ble_eq_true rfl⟩ dX11_crash_2 rfl ?_
  refine x_if_ne C (tgt := 10) dX11_crash_5 (by decide) h (fun hc3 h => ?_) (fun hc3 h => ?_)
  · refine x_aload_n C dX11_crash_10 rfl (q := 0) rfl ?_
    refine m_get C cl_X11 6 (by decide) fl_X11_7_X11 rfl rfl dX11_crash_11 ?_
    refine x_iload_n C dX11_crash_14 rfl (q := 1) rfl ?_
    refine m_bald C rfl (fun _ _ => rfl) dX11_crash_15 h (fun k4 hk4 h => ?_)
    refine x_letI h (fun v5 h => ?_)
    refine x_if_ne C (tgt := 21) dX11_crash_16 (by decide) h (fun hc6 h => ?_) (fun hc6 h => ?_)
    · refine x_aload_n C dX11_crash_21 rfl (q := 0) rfl ?_
      refine m_get C cl_X11 6 (by decide) fl_X11_7_X11 rfl rfl dX11_crash_22 ?_
      refine x_iload_n C dX11_crash_25 rfl (q := 1) rfl ?_
      refine x_iconst C (v := 0) dX11_crash_26 (by decide) ?_
      refine m_bast C (by decide) rfl (fun _ _ => rfl) dX11_crash_27 h (fun k7 hk7 h => ?_)
      refine m_letS h (fun s8 h => ?_)
      refine x_iload_n C dX11_crash_28 rfl (q := 1) rfl ?_
      refine x_aload_n C dX11_crash_29 rfl (q := 0) rfl ?_
      refine m_get C cl_X11 0 (by decide) fl_X11_97_X11 rfl rfl dX11_crash_30 ?_
      refine x_icmp_lt C (tgt := 48) dX11_crash_33 (by decide) h (fun hc9 h => ?_) (fun hc9 h => ?_)
      · refine x_iconst C (v := 0) dX11_crash_48 (by decide) ?_
        refine x_istore_n C (L' := [(2, .int 0), (0, .ref (xaM G 0)), (1, .int x1)]) dX11_crash_49 rfl (by decide) rfl ?_
        obtain ⟨s12, hv14, h⟩ := bnd1_some h
        refine x_join (Ω' := (xRep G z σ s12)) (pc' := 105) (L' := []) (st' := []) ?_ (fun hj13 => ?_)
        · refine x_iconst C (v := 1) dX11_crash_105 (by decide) ?_
          cases h
          exact xr_i C hr dX11_crash_106 (fun _ h => h)
        · have hl34 : ∀ (n : Nat) (y10 : Int32) (s11 : Tg), f_X11_crash_L50 z x1 n y10 s11 = some (s12) → XW p l e rm_X11_crash s m args below meth c 0 0 4 (xbs G) (xQ below args s (xbs G) (some (.int rF)) (xRep G z σ sF) 0 0) (xRep G z σ s11) 50 [(0, .ref (xaM G 0)), (1, .int x1), (2, .int y10)] [] := by
            intro n
            induction n with
            | zero =>
              intro y10 s11 h
              exact absurd h (by rw [f_X11_crash_L50]; intro q; cases q)
            | succ n ih =>
              intro y10 s11 h
              rw [f_X11_crash_L50] at h
              refine x_iload_n C dX11_crash_50 rfl (q := 2) rfl ?_
              refine x_aload_n C dX11_crash_51 rfl (q := 0) rfl ?_
              refine m_get C cl_X11 2 (by decide) fl_X11_104_X11 rfl rfl dX11_crash_52 ?_
              refine x_icmp_ge C (tgt := 105) dX11_crash_55 (by decide) h (fun hc15 h => ?_) (fun hc15 h => ?_)
              · cases h
                exact x_sub [] rfl hj13
              · refine x_bipush C (v := 16) dX11_crash_58 (by decide) ?_
                refine x_iload_n C dX11_crash_60 rfl (q := 1) rfl ?_
                refine x_imul C dX11_crash_61 ?_
                refine x_iload_n C dX11_crash_62 rfl (q := 2) rfl ?_
                refine x_iadd C dX11_crash_63 ?_
                refine x_letI h (fun v16 h => ?_)
                refine x_istore_n C (L' := [(3, .int v16), (0, .ref (xaM G 0)), (1, .int x1), (2, .int y10)]) dX11_crash_64 rfl (by decide) rfl ?_
                refine x_aload_n C dX11_crash_65 rfl (q := 1) rfl ?_
                refine m_get C cl_X11 16 (by decide) fl_X11_42_X11 rfl rfl dX11_crash_66 ?_
                refine x_iload_n C dX11_crash_69 rfl (q := 0) rfl ?_
                refine m_bald C rfl (fun _ _ => rfl) dX11_crash_70 h (fun k17 hk17 h => ?_)
                refine x_letI h (fun v18 h => ?_)
                refine x_if_eq C (tgt := 99) dX11_crash_71 (by decide) h (fun hc19 h => ?_) (fun hc19 h => ?_)
                · refine x_iincL C (w := 1) (L' := fun v20 => [(2, .int v20), (3, .int v16), (0, .ref (xaM G 0)), (1, .int x1)]) dX11_crash_99 (k := 3) rfl (by decide) (by decide) (fun _ => rfl) h (fun v20 h => ?_)
                  refine x_goto C (tgt := 50) dX11_crash_102 (by decide) ?_
                  exact x_sub [2, 3, 0] rfl (ih _ _ h)
                · refine x_aload_n C dX11_crash_74 rfl (q := 1) rfl ?_
                  refine m_get C cl_X11 17 (by decide) fl_X11_45_X11 rfl rfl dX11_crash_75 ?_
                  refine x_iload_n C dX11_crash_78 rfl (q := 0) rfl ?_
                  refine m_iald C rfl (fun _ _ => rfl) dX11_crash_79 h (fun k21 hk21 h => ?_)
                  refine x_letI h (fun v22 h => ?_)
                  refine x_iconst C (v := 1) dX11_crash_80 (by decide) ?_
                  refine x_icmp_ne C (tgt := 93) dX11_crash_81 (by decide) h (fun hc23 h => ?_) (fun hc23 h => ?_)
                  · refine x_aload_n C dX11_crash_93 rfl (q := 1) rfl ?_
                    refine x_iload_n C dX11_crash_94 rfl (q := 2) rfl ?_
                    refine x_iload_n C dX11_crash_95 rfl (q := 3) rfl ?_
                    obtain ⟨s25, hq24, h⟩ := bnd1_some h
                    refine x_callV_v C (m_X11_endSession hq24) wv_X11_150 (m_recv C.2.2.2 cl_X11 rfl) rfl (Nat.le_of_ble_eq_true rfl) ⟨⟨rfl, rfl⟩, Nat.le_of_ble_eq_true rfl, Nat.le_of_ble_eq_true rfl⟩ dX11_crash_96 rfl ?_
                    refine x_iincL C (w := 1) (L' := fun v26 => [(2, .int v26), (3, .int v16), (0, .ref (xaM G 0)), (1, .int x1)]) dX11_crash_99 (k := 3) rfl (by decide) (by decide) (fun _ => rfl) h (fun v26 h => ?_)
                    refine x_goto C (tgt := 50) dX11_crash_102 (by decide) ?_
                    exact x_sub [2, 3, 0] rfl (ih _ _ h)
                  · refine x_aload_n C dX11_crash_84 rfl (q := 1) rfl ?_
                    refine m_get C cl_X11 18 (by decide) fl_X11_48_X11 rfl rfl dX11_crash_85 ?_
                    refine x_iload_n C dX11_crash_88 rfl (q := 0) rfl ?_
                    refine m_iald C rfl (fun _ _ => rfl) dX11_crash_89 h (fun k27 hk27 h => ?_)
                    refine x_letI h (fun v28 h => ?_)
                    refine x_if_eq C (tgt := 99) dX11_crash_90 (by decide) h (fun hc29 h => ?_) (fun hc29 h => ?_)
                    · refine x_iincL C (w := 1) (L' := fun v30 => [(2, .int v30), (3, .int v16), (0, .ref (xaM G 0)), (1, .int x1)]) dX11_crash_99 (k := 3) rfl (by decide) (by decide) (fun _ => rfl) h (fun v30 h => ?_)
                      refine x_goto C (tgt := 50) dX11_crash_102 (by decide) ?_
                      exact x_sub [2, 3, 0] rfl (ih _ _ h)
                    · refine x_aload_n C dX11_crash_93 rfl (q := 1) rfl ?_
                      refine x_iload_n C dX11_crash_94 rfl (q := 2) rfl ?_
                      refine x_iload_n C dX11_crash_95 rfl (q := 3) rfl ?_
                      obtain ⟨s32, hq31, h⟩ := bnd1_some h
                      refine x_callV_v C (m_X11_endSession hq31) wv_X11_150 (m_recv C.2.2.2 cl_X11 rfl) rfl (Nat.le_of_ble_eq_true rfl) ⟨⟨rfl, rfl⟩, Nat.le_of_ble_eq_true rfl, Nat.le_of_ble_eq_true rfl⟩ dX11_crash_96 rfl ?_
                      refine x_iincL C (w := 1) (L' := fun v33 => [(2, .int v33), (3, .int v16), (0, .ref (xaM G 0)), (1, .int x1)]) dX11_crash_99 (k := 3) rfl (by decide) (by decide) (fun _ => rfl) h (fun v33 h => ?_)
                      refine x_goto C (tgt := 50) dX11_crash_102 (by decide) ?_
                      exact x_sub [2, 3, 0] rfl (ih _ _ h)
          exact x_sub [1, 2, 0] rfl (hl34 FU _ _ hv14)
      · refine x_aload_n C dX11_crash_36 rfl (q := 0) rfl ?_
        refine x_iload_n C dX11_crash_37 rfl (q := 1) rfl ?_
        refine x_aload_n C dX11_crash_38 rfl (q := 0) rfl ?_
        refine m_get C cl_X11 0 (by decide) fl_X11_97_X11 rfl rfl dX11_crash_39 ?_
        refine x_isub C dX11_crash_42 ?_
        obtain ⟨s36, hq35, h⟩ := bnd1_some h
        refine x_callV_v C (m_X11_forget hq35) wv_X11_116 (m_recv C.2.2.2 cl_X11 rfl) rfl (Nat.le_of_ble_eq_true rfl) ⟨⟨rfl, rfl⟩, Nat.le_of_ble_eq_true rfl, Nat.le_of_ble_eq_true rfl⟩ dX11_crash_43 rfl ?_
        refine x_iconst C (v := 1) dX11_crash_46 (by decide) ?_
        cases h
        exact xr_i C hr dX11_crash_47 (fun _ h => h)
    · refine x_iconst C (v := 0) dX11_crash_19 (by decide) ?_
      cases h
      exact xr_i C hr dX11_crash_20 (fun _ h => h)
  · refine x_iconst C (v := (-1)) dX11_crash_8 (by decide) ?_
    cases h
    exact xr_i C hr dX11_crash_9 (fun _ h => h)
def f_X11_restart (z : Nat → Nat) (τ : Tg) (x1 : Int32) : Option (Int32 × Tg) :=
  bnd1 (f_X11_isNode z τ x1) fun r2 => if r2 = 0 then (some ((-1), τ)) else (gdx x1 (mlen 6) fun k4 => letv (τ.1 6 k4) fun v5 => bnd1 (α := Int32) (if v5 = 0 then (some (1)) else (some (0))) fun (v6 : Int32) => gdx x1 (mlen 6) fun k10 => letv (tpI τ 6 k10 1) fun s11 => some (v6, s11))
def rm_X11_restart : Room := { frames := 2, cells := 0, slots := 0, locals := 43 }
set_option maxRecDepth 100000 in
set_option maxHeartbeats 4000000 in
theorem m_X11_restart {l : Launch} {G : xG} {z : Nat → Nat} {σ : Sg} {τ : Tg} {x1 : Int32} {rF : Int32} {sF : Tg} (h : f_X11_restart z τ x1 = some (rF, sF)) : xMet l (xD G) (xcA G) (xbs G) yX11_restart cX11_restart 3 (Option.some Jvm.ClassFile.FieldType.int) rm_X11_restart [.ref (xaM G 0), .int x1] (xRep G z σ τ) (xRep G z σ sF) (some (.int rF)) 0 0 := by
  refine xMet.of RX11 rfl (by decide +kernel) (Nat.le_of_ble_eq_true rfl) ?_
  intro p e s m args below meth c C hr hnm
  unfold f_X11_restart at h
  refine x_sub (L' := [(0, .ref (xaM G 0)), (1, .int x1)]) [0, 1] rfl ?_
  refine x_aload_n C dX11_restart_0 rfl (q := 0) rfl ?_
  refine x_iload_n C dX11_restart_1 rfl (q := 1) rfl ?_
  obtain ⟨r2, hq1, h⟩ := bnd1_some h
  refine x_callV_i C (m_X11_isNode hq1) wv_X11_211 (m_recv C.2.2.2 cl_X11 rfl) rfl (Nat.le_of_ble_eq_true rfl) ⟨⟨rfl, rfl⟩, Nat.le_of_ble_eq_true rfl, Nat.le_of_ble_eq_true rfl⟩ dX11_restart_2 rfl ?_
  refine x_if_ne C (tgt := 10) dX11_restart_5 (by decide) h (fun hc3 h => ?_) (fun hc3 h => ?_)
  · refine x_aload_n C dX11_restart_10 rfl (q := 0) rfl ?_
    refine m_get C cl_X11 6 (by decide) fl_X11_7_X11 rfl rfl dX11_restart_11 ?_
    refine x_iload_n C dX11_restart_14 rfl (q := 1) rfl ?_
    refine m_bald C rfl (fun _ _ => rfl) dX11_restart_15 h (fun k4 hk4 h => ?_)
    refine x_letI h (fun v5 h => ?_)
    obtain ⟨v6, hv8, h⟩ := bnd1_some h
    refine x_join (Ω' := (xRep G z σ τ)) (pc' := 24) (L' := [(0, .ref (xaM G 0)), (1, .int x1)]) (st' := [.int v6]) ?_ (fun hj7 => ?_)
    · refine x_istore_n C (L' := [(2, .int v6), (0, .ref (xaM G 0)), (1, .int x1)]) dX11_restart_24 rfl (by decide) rfl ?_
      refine x_aload_n C dX11_restart_25 rfl (q := 1) rfl ?_
      refine m_get C cl_X11 6 (by decide) fl_X11_7_X11 rfl rfl dX11_restart_26 ?_
      refine x_iload_n C dX11_restart_29 rfl (q := 2) rfl ?_
      refine x_iconst C (v := 1) dX11_restart_30 (by decide) ?_
      refine m_bast C (by decide) rfl (fun _ _ => rfl) dX11_restart_31 h (fun k10 hk10 h => ?_)
      refine m_letS h (fun s11 h => ?_)
      refine x_iload_n C dX11_restart_32 rfl (q := 0) rfl ?_
      cases h
      exact xr_i C hr dX11_restart_33 (fun _ h => h)
    · replace h := hv8
      clear hv8
      refine x_if_eq C (tgt := 23) dX11_restart_16 (by decide) h (fun hc9 h => ?_) (fun hc9 h => ?_)
      · refine x_iconst C (v := 1) dX11_restart_23 (by decide) ?_
        cases h
        exact x_sub [0, 1] rfl hj7
      · refine x_iconst C (v := 0) dX11_restart_19 (by decide) ?_
        refine x_goto C (tgt := 24) dX11_restart_20 (by decide) ?_
        cases h
        exact x_sub [0, 1] rfl hj7
  · refine x_iconst C (v := (-1)) dX11_restart_8 (by decide) ?_
    cases h
    exact xr_i C hr dX11_restart_9 (fun _ h => h)
def f_X11_pending (z : Nat → Nat) (τ : Tg) : Option Int32 :=
  letv (τ.1 0 29) fun v1 => some (v1)
def rm_X11_pending : Room := { frames := 0, cells := 0, slots := 0, locals := 0 }
set_option maxRecDepth 100000 in
set_option maxHeartbeats 4000000 in
theorem m_X11_pending {l : Launch} {G : xG} {z : Nat → Nat} {σ : Sg} {τ : Tg} {rF : Int32} (h : f_X11_pending z τ = some (rF)) : xMet l (xD G) (xcA G) (xbs G) yX11_pending cX11_pending 1 (Option.some Jvm.ClassFile.FieldType.int) rm_X11_pending [.ref (xaM G 0)] (xRep G z σ τ) (xRep G z σ τ) (some (.int rF)) 0 0 := by
  refine xMet.of RX11 rfl (by decide +kernel) (Nat.le_of_ble_eq_true rfl) ?_
  intro p e s m args below meth c C hr hnm
  unfold f_X11_pending at h
  refine x_sub (L' := [(0, .ref (xaM G 0))]) [0] rfl ?_
  refine x_aload_n C dX11_pending_0 rfl (q := 0) rfl ?_
  refine m_get C cl_X11 29 (by decide) fl_X11_157_X11 rfl rfl dX11_pending_1 ?_
  refine x_letI h (fun v1 h => ?_)
  cases h
  exact xr_i C hr dX11_pending_4 (fun _ h => h)
def f_X11_play_L19 (z : Nat → Nat) (x2 : Int32) : Nat → Int64 → Int32 → Tg → Option (Int32 × Tg)
  | 0, _, _, _ => none
  | n + 1, y4, y5, s6 => if x2 ≤ y5 then (some (y5, s6)) else (letv (s6.1 0 29) fun v12 => if v12 ≤ 0 then (some (y5, s6)) else (letv ((y4 * 6364136223846793005) + 1442695040888963407) fun v14 => letv (((lushr v14 32).toInt32) &&& 2147483647) fun v15 => letv (s6.1 0 29) fun v16 => gnz v16 <| bnd2 (f_X11_deliver z s6 (v15 - v15 / v16 * v16)) fun r18 s19 => letv (y5 + 1) fun v20 => f_X11_play_L19 z x2 n v14 v20 s19))
def f_X11_play (z : Nat → Nat) (τ : Tg) (x1 : Int64) (x2 : Int32) : Option (Int32 × Tg) :=
  bnd1 (f_X11_in x2 0 400) fun r2 => if r2 = 0 then (some ((-1), τ)) else (bnd2 (f_X11_play_L19 z x2 FU x1 0 τ) fun (v7 : Int32) (s8 : Tg) => some (v7, s8))
def rm_X11_play : Room := { frames := 5, cells := 0, slots := 0, locals := 126 }
set_option maxRecDepth 100000 in
set_option maxHeartbeats 4000000 in
theorem m_X11_play {l : Launch} {G : xG} {z : Nat → Nat} {σ : Sg} {τ : Tg} {x1 : Int64} {x2 : Int32} {rF : Int32} {sF : Tg} (h : f_X11_play z τ x1 x2 = some (rF, sF)) : xMet l (xD G) (xcA G) (xbs G) yX11_play cX11_play 9 (Option.some Jvm.ClassFile.FieldType.int) rm_X11_play [.ref (xaM G 0), .long x1, .int x2] (xRep G z σ τ) (xRep G z σ sF) (some (.int rF)) 0 0 := by
  refine xMet.of RX11 rfl (by decide +kernel) (Nat.le_of_ble_eq_true rfl) ?_
  intro p e s m args below meth c C hr hnm
  unfold f_X11_play at h
  refine x_sub (L' := [(0, .ref (xaM G 0)), (1, .long x1), (3, .int x2)]) [0, 1, 2] rfl ?_
  refine x_iload_n C dX11_play_0 rfl (q := 2) rfl ?_
  refine x_iconst C (v := 0) dX11_play_1 (by decide) ?_
  refine x_sipush C (v := 400) dX11_play_2 (by decide) ?_
  obtain ⟨r2, hq1, h⟩ := bnd1_some h
  refine x_callS_i C (m_X11_in hq1) ws_X11_120 rfl (Nat.le_of_ble_eq_true rfl) ⟨⟨rfl, rfl⟩, Nat.le_of_ble_eq_true rfl, Nat.le_of_ble_eq_true rfl⟩ dX11_play_5 rfl ?_
  refine x_if_ne C (tgt := 13) dX11_play_8 (by decide) h (fun hc3 h => ?_) (fun hc3 h => ?_)
  · refine x_lload_n C dX11_play_13 rfl (q := 1) rfl ?_
    refine x_lstore C (L' := [(4, .long x1), (0, .ref (xaM G 0)), (1, .long x1), (3, .int x2)]) dX11_play_14 (by decide) rfl ?_
    refine x_iconst C (v := 0) dX11_play_16 (by decide) ?_
    refine x_istore C (L' := [(6, .int 0), (4, .long x1), (0, .ref (xaM G 0)), (1, .long x1), (3, .int x2)]) dX11_play_17 (by decide) rfl ?_
    obtain ⟨v7, s8, hv10, h⟩ := bnd2_some h
    refine x_join (Ω' := (xRep G z σ s8)) (pc' := 74) (L' := [(6, .int v7)]) (st' := []) ?_ (fun hj9 => ?_)
    · refine x_iload C dX11_play_74 (q := 0) rfl ?_
      cases h
      exact xr_i C hr dX11_play_76 (fun _ h => h)
    · have hl21 : ∀ (n : Nat) (y4 : Int64) (y5 : Int32) (s6 : Tg), f_X11_play_L19 z x2 n y4 y5 s6 = some (v7, s8) → XW p l e rm_X11_play s m args below meth c 0 0 9 (xbs G) (xQ below args s (xbs G) (some (.int rF)) (xRep G z σ sF) 0 0) (xRep G z σ s6) 19 [(0, .ref (xaM G 0)), (3, .int x2), (4, .long y4), (6, .int y5)] [] := by
        intro n
        induction n with
        | zero =>
          intro y4 y5 s6 h
          exact absurd h (by rw [f_X11_play_L19]; intro q; cases q)
        | succ n ih =>
          intro y4 y5 s6 h
          rw [f_X11_play_L19] at h
          refine x_iload C dX11_play_19 (q := 3) rfl ?_
          refine x_iload_n C dX11_play_21 rfl (q := 1) rfl ?_
          refine x_icmp_ge C (tgt := 74) dX11_play_22 (by decide) h (fun hc11 h => ?_) (fun hc11 h => ?_)
          · cases h
            exact x_sub [3] rfl hj9
          · refine x_aload_n C dX11_play_25 rfl (q := 0) rfl ?_
            refine m_get C cl_X11 29 (by decide) fl_X11_157_X11 rfl rfl dX11_play_26 ?_
            refine x_letI h (fun v12 h => ?_)
            refine x_if_le C (tgt := 74) dX11_play_29 (by decide) h (fun hc13 h => ?_) (fun hc13 h => ?_)
            · cases h
              exact x_sub [3] rfl hj9
            · refine x_lload C dX11_play_32 (q := 2) rfl ?_
              refine x_ldc2_w C wc_X11_214 dX11_play_34 ?_
              refine x_lmul C dX11_play_37 ?_
              refine x_ldc2_w C wc_X11_216 dX11_play_38 ?_
              refine x_ladd C dX11_play_41 ?_
              refine x_letL h (fun v14 h => ?_)
              refine x_lstore C (L' := [(4, .long v14), (0, .ref (xaM G 0)), (3, .int x2), (6, .int y5)]) dX11_play_42 (by decide) rfl ?_
              refine x_lload C dX11_play_44 (q := 0) rfl ?_
              refine x_bipush C (v := 32) dX11_play_46 (by decide) ?_
              refine x_lushr C (v := lushr _ _) dX11_play_48 rfl ?_
              refine x_l2i C dX11_play_49 ?_
              refine x_ldc C wc_X11_218 dX11_play_50 ?_
              refine x_iand C dX11_play_52 ?_
              refine x_letI h (fun v15 h => ?_)
              refine x_istore C (L' := [(7, .int v15), (4, .long v14), (0, .ref (xaM G 0)), (3, .int x2), (6, .int y5)]) dX11_play_53 (by decide) rfl ?_
              refine x_aload_n C dX11_play_55 rfl (q := 2) rfl ?_
              refine x_iload C dX11_play_56 (q := 0) rfl ?_
              refine x_aload_n C dX11_play_58 rfl (q := 2) rfl ?_
              refine m_get C cl_X11 29 (by decide) fl_X11_157_X11 rfl rfl dX11_play_59 ?_
              refine x_letI h (fun v16 h => ?_)
              refine x_irem C dX11_play_62 h (fun h => ?_)
              obtain ⟨r18, s19, hq17, h⟩ := bnd2_some h
              refine x_callV_i C (m_X11_deliver hq17) wv_X11_219 (m_recv C.2.2.2 cl_X11 rfl) rfl (Nat.le_of_ble_eq_true rfl) ⟨⟨rfl, rfl⟩, Nat.le_of_ble_eq_true rfl, Nat.le_of_ble_eq_true rfl⟩ dX11_play_63 rfl ?_
              refine x_istore C (L' := [(8, .int r18), (7, .int v15), (4, .long v14), (0, .ref (xaM G 0)), (3, .int x2), (6, .int y5)]) dX11_play_66 (by decide) rfl ?_
              refine x_iincL C (w := 1) (L' := fun v20 => [(6, .int v20), (8, .int r18), (7, .int v15), (4, .long v14), (0, .ref (xaM G 0)), (3, .int x2)]) dX11_play_68 (k := 5) rfl (by decide) (by decide) (fun _ => rfl) h (fun v20 h => ?_)
              refine x_goto C (tgt := 19) dX11_play_71 (by decide) ?_
              exact x_sub [4, 5, 3, 0] rfl (ih _ _ _ h)
      exact x_sub [2, 4, 1, 0] rfl (hl21 FU _ _ _ hv10)
  · refine x_iconst C (v := (-1)) dX11_play_11 (by decide) ?_
    cases h
    exact xr_i C hr dX11_play_12 (fun _ h => h)
def f_X11_message (z : Nat → Nat) (τ : Tg) (x1 : Int32) (x2 : Int32) : Option Int32 :=
  bnd1 (f_X11_isMessage z τ x1) fun r2 => if r2 = 0 then (some ((-1))) else (bnd1 (f_X11_in x2 0 6) fun r5 => if r5 = 0 then (some ((-1))) else (gdx ((7 * x1) + x2) (mlen 30) fun k7 => letv (τ.1 30 k7) fun v8 => some (v8)))
def rm_X11_message : Room := { frames := 2, cells := 0, slots := 0, locals := 43 }
set_option maxRecDepth 100000 in
set_option maxHeartbeats 4000000 in
theorem m_X11_message {l : Launch} {G : xG} {z : Nat → Nat} {σ : Sg} {τ : Tg} {x1 : Int32} {x2 : Int32} {rF : Int32} (h : f_X11_message z τ x1 x2 = some (rF)) : xMet l (xD G) (xcA G) (xbs G) yX11_message cX11_message 3 (Option.some Jvm.ClassFile.FieldType.int) rm_X11_message [.ref (xaM G 0), .int x1, .int x2] (xRep G z σ τ) (xRep G z σ τ) (some (.int rF)) 0 0 := by
  refine xMet.of RX11 rfl (by decide +kernel) (Nat.le_of_ble_eq_true rfl) ?_
  intro p e s m args below meth c C hr hnm
  unfold f_X11_message at h
  refine x_sub (L' := [(0, .ref (xaM G 0)), (1, .int x1), (2, .int x2)]) [0, 1, 2] rfl ?_
  refine x_aload_n C dX11_message_0 rfl (q := 0) rfl ?_
  refine x_iload_n C dX11_message_1 rfl (q := 1) rfl ?_
  obtain ⟨r2, hq1, h⟩ := bnd1_some h
  refine x_callV_i C (m_X11_isMessage hq1) wv_X11_163 (m_recv C.2.2.2 cl_X11 rfl) rfl (Nat.le_of_ble_eq_true rfl) ⟨⟨rfl, rfl⟩, Nat.le_of_ble_eq_true rfl, Nat.le_of_ble_eq_true rfl⟩ dX11_message_2 rfl ?_
  refine x_if_eq C (tgt := 32) dX11_message_5 (by decide) h (fun hc3 h => ?_) (fun hc3 h => ?_)
  · refine x_iconst C (v := (-1)) dX11_message_32 (by decide) ?_
    cases h
    exact xr_i C hr dX11_message_33 (fun _ h => h)
  · refine x_iload_n C dX11_message_8 rfl (q := 2) rfl ?_
    refine x_iconst C (v := 0) dX11_message_9 (by decide) ?_
    refine x_bipush C (v := 6) dX11_message_10 (by decide) ?_
    obtain ⟨r5, hq4, h⟩ := bnd1_some h
    refine x_callS_i C (m_X11_in hq4) ws_X11_120 rfl (Nat.le_of_ble_eq_true rfl) ⟨⟨rfl, rfl⟩, Nat.le_of_ble_eq_true rfl, Nat.le_of_ble_eq_true rfl⟩ dX11_message_12 rfl ?_
    refine x_if_eq C (tgt := 32) dX11_message_15 (by decide) h (fun hc6 h => ?_) (fun hc6 h => ?_)
    · refine x_iconst C (v := (-1)) dX11_message_32 (by decide) ?_
      cases h
      exact xr_i C hr dX11_message_33 (fun _ h => h)
    · refine x_aload_n C dX11_message_18 rfl (q := 0) rfl ?_
      refine m_get C cl_X11 30 (by decide) fl_X11_81_X11 rfl rfl dX11_message_19 ?_
      refine x_bipush C (v := 7) dX11_message_22 (by decide) ?_
      refine x_iload_n C dX11_message_24 rfl (q := 1) rfl ?_
      refine x_imul C dX11_message_25 ?_
      refine x_iload_n C dX11_message_26 rfl (q := 2) rfl ?_
      refine x_iadd C dX11_message_27 ?_
      refine m_iald C rfl (fun _ _ => rfl) dX11_message_28 h (fun k7 hk7 h => ?_)
      refine x_letI h (fun v8 h => ?_)
      refine x_goto C (tgt := 33) dX11_message_29 (by decide) ?_
      cases h
      exact xr_i C hr dX11_message_33 (fun _ h => h)
def f_X11_lock_L55 (z : Nat → Nat) (τ : Tg) (x1 : Int32) : Nat → Int32 → Option Int32
  | 0, _ => none
  | n + 1, y9 => if 16 ≤ y9 then (some (y9)) else (gdx x1 (mlen 10) fun k14 => letv (τ.1 10 k14) fun v15 => if ((v15 >>> (y9 &&& 31)) &&& 1) = 0 then (letv (y9 + 1) fun v17 => f_X11_lock_L55 z τ x1 n v17) else (some (y9)))
def f_X11_lock (z : Nat → Nat) (τ : Tg) (x1 : Int32) (x2 : Int32) : Option Int32 :=
  bnd1 (f_X11_isKey z τ x1) fun r2 => if r2 = 0 then (some ((-1))) else (bnd1 (f_X11_in x2 0 2) fun r5 => if r5 = 0 then (some ((-1))) else (if x2 = 0 then (gdx x1 (mlen 10) fun k23 => letv (τ.1 10 k23) fun v24 => bnd1 (f_X11_bits v24) fun r26 => some (r26)) else (if x2 = 2 then (gdx x1 (mlen 11) fun k20 => letv (τ.1 11 k20) fun v21 => if v21 < 0 then (some (0)) else (some (1))) else (bnd1 (f_X11_lock_L55 z τ x1 FU 0) fun (v10 : Int32) => if 16 ≤ v10 then (some ((-1))) else (some (v10))))))
def rm_X11_lock : Room := { frames := 2, cells := 0, slots := 0, locals := 43 }
set_option maxRecDepth 100000 in
set_option maxHeartbeats 4000000 in
theorem m_X11_lock {l : Launch} {G : xG} {z : Nat → Nat} {σ : Sg} {τ : Tg} {x1 : Int32} {x2 : Int32} {rF : Int32} (h : f_X11_lock z τ x1 x2 = some (rF)) : xMet l (xD G) (xcA G) (xbs G) yX11_lock cX11_lock 4 (Option.some Jvm.ClassFile.FieldType.int) rm_X11_lock [.ref (xaM G 0), .int x1, .int x2] (xRep G z σ τ) (xRep G z σ τ) (some (.int rF)) 0 0 := by
  refine xMet.of RX11 rfl (by decide +kernel) (Nat.le_of_ble_eq_true rfl) ?_
  intro p e s m args below meth c C hr hnm
  unfold f_X11_lock at h
  refine x_sub (L' := [(0, .ref (xaM G 0)), (1, .int x1), (2, .int x2)]) [0, 1, 2] rfl ?_
  refine x_aload_n C dX11_lock_0 rfl (q := 0) rfl ?_
  refine x_iload_n C dX11_lock_1 rfl (q := 1) rfl ?_
  obtain ⟨r2, hq1, h⟩ := bnd1_some h
  refine x_callV_i C (m_X11_isKey hq1) wv_X11_136 (m_recv C.2.2.2 cl_X11 rfl) rfl (Nat.le_of_ble_eq_true rfl) ⟨⟨rfl, rfl⟩, Nat.le_of_ble_eq_true rfl, Nat.le_of_ble_eq_true rfl⟩ dX11_lock_2 rfl ?_
  refine x_if_eq C (tgt := 17) dX11_lock_5 (by decide) h (fun hc3 h => ?_) (fun hc3 h => ?_)
  · refine x_iconst C (v := (-1)) dX11_lock_17 (by decide) ?_
    cases h
    exact xr_i C hr dX11_lock_18 (fun _ h => h)
  · refine x_iload_n C dX11_lock_8 rfl (q := 2) rfl ?_
    refine x_iconst C (v := 0) dX11_lock_9 (by decide) ?_
    refine x_iconst C (v := 2) dX11_lock_10 (by decide) ?_
    obtain ⟨r5, hq4, h⟩ := bnd1_some h
    refine x_callS_i C (m_X11_in hq4) ws_X11_120 rfl (Nat.le_of_ble_eq_true rfl) ⟨⟨rfl, rfl⟩, Nat.le_of_ble_eq_true rfl, Nat.le_of_ble_eq_true rfl⟩ dX11_lock_11 rfl ?_
    refine x_if_ne C (tgt := 19) dX11_lock_14 (by decide) h (fun hc6 h => ?_) (fun hc6 h => ?_)
    · refine x_iload_n C dX11_lock_19 rfl (q := 2) rfl ?_
      refine x_if_ne C (tgt := 33) dX11_lock_20 (by decide) h (fun hc7 h => ?_) (fun hc7 h => ?_)
      · refine x_iload_n C dX11_lock_33 rfl (q := 2) rfl ?_
        refine x_iconst C (v := 2) dX11_lock_34 (by decide) ?_
        refine x_icmp_ne C (tgt := 53) dX11_lock_35 (by decide) h (fun hc8 h => ?_) (fun hc8 h => ?_)
        · refine x_iconst C (v := 0) dX11_lock_53 (by decide) ?_
          refine x_istore_n C (L' := [(3, .int 0), (0, .ref (xaM G 0)), (1, .int x1), (2, .int x2)]) dX11_lock_54 rfl (by decide) rfl ?_
          obtain ⟨v10, hv12, h⟩ := bnd1_some h
          refine x_join (Ω' := (xRep G z σ τ)) (pc' := 80) (L' := [(3, .int v10)]) (st' := []) ?_ (fun hj11 => ?_)
          · refine x_iload_n C dX11_lock_80 rfl (q := 0) rfl ?_
            refine x_bipush C (v := 16) dX11_lock_81 (by decide) ?_
            refine x_icmp_ge C (tgt := 90) dX11_lock_83 (by decide) h (fun hc18 h => ?_) (fun hc18 h => ?_)
            · refine x_iconst C (v := (-1)) dX11_lock_90 (by decide) ?_
              cases h
              exact xr_i C hr dX11_lock_91 (fun _ h => h)
            · refine x_iload_n C dX11_lock_86 rfl (q := 0) rfl ?_
              refine x_goto C (tgt := 91) dX11_lock_87 (by decide) ?_
              cases h
              exact xr_i C hr dX11_lock_91 (fun _ h => h)
          · have hl19 : ∀ (n : Nat) (y9 : Int32), f_X11_lock_L55 z τ x1 n y9 = some (v10) → XW p l e rm_X11_lock s m args below meth c 0 0 4 (xbs G) (xQ below args s (xbs G) (some (.int rF)) (xRep G z σ τ) 0 0) (xRep G z σ τ) 55 [(0, .ref (xaM G 0)), (1, .int x1), (3, .int y9)] [] := by
              intro n
              induction n with
              | zero =>
                intro y9 h
                exact absurd h (by rw [f_X11_lock_L55]; intro q; cases q)
              | succ n ih =>
                intro y9 h
                rw [f_X11_lock_L55] at h
                refine x_iload_n C dX11_lock_55 rfl (q := 2) rfl ?_
                refine x_bipush C (v := 16) dX11_lock_56 (by decide) ?_
                refine x_icmp_ge C (tgt := 80) dX11_lock_58 (by decide) h (fun hc13 h => ?_) (fun hc13 h => ?_)
                · cases h
                  exact x_sub [2] rfl hj11
                · refine x_aload_n C dX11_lock_61 rfl (q := 0) rfl ?_
                  refine m_get C cl_X11 10 (by decide) fl_X11_24_X11 rfl rfl dX11_lock_62 ?_
                  refine x_iload_n C dX11_lock_65 rfl (q := 1) rfl ?_
                  refine m_iald C rfl (fun _ _ => rfl) dX11_lock_66 h (fun k14 hk14 h => ?_)
                  refine x_letI h (fun v15 h => ?_)
                  refine x_iload_n C dX11_lock_67 rfl (q := 2) rfl ?_
                  refine x_ishr C dX11_lock_68 ?_
                  refine x_iconst C (v := 1) dX11_lock_69 (by decide) ?_
                  refine x_iand C dX11_lock_70 ?_
                  refine x_if_ne C (tgt := 80) dX11_lock_71 (by decide) h (fun hc16 h => ?_) (fun hc16 h => ?_)
                  · cases h
                    exact x_sub [2] rfl hj11
                  · refine x_iincL C (w := 1) (L' := fun v17 => [(3, .int v17), (0, .ref (xaM G 0)), (1, .int x1)]) dX11_lock_74 (k := 2) rfl (by decide) (by decide) (fun _ => rfl) h (fun v17 h => ?_)
                    refine x_goto C (tgt := 55) dX11_lock_77 (by decide) ?_
                    exact x_sub [1, 2, 0] rfl (ih _ h)
            exact x_sub [1, 2, 0] rfl (hl19 FU _ hv12)
        · refine x_aload_n C dX11_lock_38 rfl (q := 0) rfl ?_
          refine m_get C cl_X11 11 (by decide) fl_X11_27_X11 rfl rfl dX11_lock_39 ?_
          refine x_iload_n C dX11_lock_42 rfl (q := 1) rfl ?_
          refine m_iald C rfl (fun _ _ => rfl) dX11_lock_43 h (fun k20 hk20 h => ?_)
          refine x_letI h (fun v21 h => ?_)
          refine x_if_lt C (tgt := 51) dX11_lock_44 (by decide) h (fun hc22 h => ?_) (fun hc22 h => ?_)
          · refine x_iconst C (v := 0) dX11_lock_51 (by decide) ?_
            cases h
            exact xr_i C hr dX11_lock_52 (fun _ h => h)
          · refine x_iconst C (v := 1) dX11_lock_47 (by decide) ?_
            refine x_goto C (tgt := 52) dX11_lock_48 (by decide) ?_
            cases h
            exact xr_i C hr dX11_lock_52 (fun _ h => h)
      · refine x_aload_n C dX11_lock_23 rfl (q := 0) rfl ?_
        refine m_get C cl_X11 10 (by decide) fl_X11_24_X11 rfl rfl dX11_lock_24 ?_
        refine x_iload_n C dX11_lock_27 rfl (q := 1) rfl ?_
        refine m_iald C rfl (fun _ _ => rfl) dX11_lock_28 h (fun k23 hk23 h => ?_)
        refine x_letI h (fun v24 h => ?_)
        obtain ⟨r26, hq25, h⟩ := bnd1_some h
        refine x_callS_i C (m_X11_bits hq25) ws_X11_124 rfl (Nat.le_of_ble_eq_true rfl) ⟨⟨rfl, rfl⟩, Nat.le_of_ble_eq_true rfl, Nat.le_of_ble_eq_true rfl⟩ dX11_lock_29 rfl ?_
        cases h
        exact xr_i C hr dX11_lock_32 (fun _ h => h)
    · refine x_iconst C (v := (-1)) dX11_lock_17 (by decide) ?_
      cases h
      exact xr_i C hr dX11_lock_18 (fun _ h => h)
def f_X11_node_L84 (z : Nat → Nat) (τ : Tg) (x1 : Int32) (x2 : Int32) : Nat → Int32 → Int32 → Option Int32
  | 0, _, _ => none
  | n + 1, y10, y11 => if (nI (z 2)) ≤ y11 then (some (y10)) else (if x2 = 2 then (gdx ((16 * x1) + y11) (mlen 16) fun k33 => letv (τ.1 16 k33) fun v34 => bnd1 (α := Int32) (if v34 = 0 then (some (0)) else (some (1))) fun (v35 : Int32) => letv (y10 + v35) fun v39 => letv (y11 + 1) fun v40 => f_X11_node_L84 z τ x1 x2 n v39 v40) else (letv ((16 * (x1 - (nI (z 0)))) + y11) fun v17 => if x2 = 3 then (gdx v17 (mlen 19) fun k26 => letv (τ.1 19 k26) fun v27 => if v27 = 0 then (letv (y10 + 1) fun v31 => letv (y11 + 1) fun v32 => f_X11_node_L84 z τ x1 x2 n v31 v32) else (letv (y10 + 0) fun v29 => letv (y11 + 1) fun v30 => f_X11_node_L84 z τ x1 x2 n v29 v30)) else (gdx v17 (mlen 21) fun k19 => letv (τ.1 21 k19) fun v20 => if v20 = 0 then (letv (y10 + 0) fun v22 => letv (y11 + 1) fun v23 => f_X11_node_L84 z τ x1 x2 n v22 v23) else (letv (y10 + 1) fun v24 => letv (y11 + 1) fun v25 => f_X11_node_L84 z τ x1 x2 n v24 v25))))
def f_X11_node_L84_2 (z : Nat → Nat) (τ : Tg) (x1 : Int32) (x2 : Int32) : Nat → Int32 → Int32 → Option Int32
  | 0, _, _ => none
  | n + 1, y50, y51 => if (nI (z 2)) ≤ y51 then (some (y50)) else (if x2 = 2 then (gdx ((16 * x1) + y51) (mlen 16) fun k73 => letv (τ.1 16 k73) fun v74 => bnd1 (α := Int32) (if v74 = 0 then (some (0)) else (some (1))) fun (v75 : Int32) => letv (y50 + v75) fun v79 => letv (y51 + 1) fun v80 => f_X11_node_L84_2 z τ x1 x2 n v79 v80) else (letv ((16 * (x1 - (nI (z 0)))) + y51) fun v57 => if x2 = 3 then (gdx v57 (mlen 19) fun k66 => letv (τ.1 19 k66) fun v67 => if v67 = 0 then (letv (y50 + 1) fun v71 => letv (y51 + 1) fun v72 => f_X11_node_L84_2 z τ x1 x2 n v71 v72) else (letv (y50 + 0) fun v69 => letv (y51 + 1) fun v70 => f_X11_node_L84_2 z τ x1 x2 n v69 v70)) else (gdx v57 (mlen 21) fun k59 => letv (τ.1 21 k59) fun v60 => if v60 = 0 then (letv (y50 + 0) fun v62 => letv (y51 + 1) fun v63 => f_X11_node_L84_2 z τ x1 x2 n v62 v63) else (letv (y50 + 1) fun v64 => letv (y51 + 1) fun v65 => f_X11_node_L84_2 z τ x1 x2 n v64 v65))))
def f_X11_node_L84_3 (z : Nat → Nat) (τ : Tg) (x1 : Int32) (x2 : Int32) : Nat → Int32 → Int32 → Option Int32
  | 0, _, _ => none
  | n + 1, y91, y92 => if (nI (z 2)) ≤ y92 then (some (y91)) else (if x2 = 2 then (gdx ((16 * x1) + y92) (mlen 16) fun k114 => letv (τ.1 16 k114) fun v115 => bnd1 (α := Int32) (if v115 = 0 then (some (0)) else (some (1))) fun (v116 : Int32) => letv (y91 + v116) fun v120 => letv (y92 + 1) fun v121 => f_X11_node_L84_3 z τ x1 x2 n v120 v121) else (letv ((16 * (x1 - (nI (z 0)))) + y92) fun v98 => if x2 = 3 then (gdx v98 (mlen 19) fun k107 => letv (τ.1 19 k107) fun v108 => if v108 = 0 then (letv (y91 + 1) fun v112 => letv (y92 + 1) fun v113 => f_X11_node_L84_3 z τ x1 x2 n v112 v113) else (letv (y91 + 0) fun v110 => letv (y92 + 1) fun v111 => f_X11_node_L84_3 z τ x1 x2 n v110 v111)) else (gdx v98 (mlen 21) fun k100 => letv (τ.1 21 k100) fun v101 => if v101 = 0 then (letv (y91 + 0) fun v103 => letv (y92 + 1) fun v104 => f_X11_node_L84_3 z τ x1 x2 n v103 v104) else (letv (y91 + 1) fun v105 => letv (y92 + 1) fun v106 => f_X11_node_L84_3 z τ x1 x2 n v105 v106))))
def f_X11_node_L84_4 (z : Nat → Nat) (τ : Tg) (x1 : Int32) (x2 : Int32) : Nat → Int32 → Int32 → Option Int32
  | 0, _, _ => none
  | n + 1, y131, y132 => if (nI (z 2)) ≤ y132 then (some (y131)) else (if x2 = 2 then (gdx ((16 * x1) + y132) (mlen 16) fun k154 => letv (τ.1 16 k154) fun v155 => bnd1 (α := Int32) (if v155 = 0 then (some (0)) else (some (1))) fun (v156 : Int32) => letv (y131 + v156) fun v160 => letv (y132 + 1) fun v161 => f_X11_node_L84_4 z τ x1 x2 n v160 v161) else (letv ((16 * (x1 - (nI (z 0)))) + y132) fun v138 => if x2 = 3 then (gdx v138 (mlen 19) fun k147 => letv (τ.1 19 k147) fun v148 => if v148 = 0 then (letv (y131 + 1) fun v152 => letv (y132 + 1) fun v153 => f_X11_node_L84_4 z τ x1 x2 n v152 v153) else (letv (y131 + 0) fun v150 => letv (y132 + 1) fun v151 => f_X11_node_L84_4 z τ x1 x2 n v150 v151)) else (gdx v138 (mlen 21) fun k140 => letv (τ.1 21 k140) fun v141 => if v141 = 0 then (letv (y131 + 0) fun v143 => letv (y132 + 1) fun v144 => f_X11_node_L84_4 z τ x1 x2 n v143 v144) else (letv (y131 + 1) fun v145 => letv (y132 + 1) fun v146 => f_X11_node_L84_4 z τ x1 x2 n v145 v146))))
def f_X11_node (z : Nat → Nat) (τ : Tg) (x1 : Int32) (x2 : Int32) : Option Int32 :=
  bnd1 (f_X11_isNode z τ x1) fun r2 => if r2 = 0 then (some ((-1))) else (bnd1 (f_X11_in x2 0 4) fun r5 => if r5 = 0 then (some ((-1))) else (if x2 = 2 then (if (nI (z 0)) ≤ x1 then (some ((-1))) else (if x2 ≤ 2 then (if 2 ≤ x2 then (bnd1 (f_X11_node_L84_3 z τ x1 x2 FU 0 0) fun (v93 : Int32) => some (v93)) else (if x2 = 1 then (gdx x1 (mlen 7) fun k127 => letv (τ.1 7 k127) fun v128 => some (v128)) else (gdx x1 (mlen 6) fun k124 => letv (τ.1 6 k124) fun v125 => if v125 = 0 then (some (0)) else (some (1))))) else (if (nI (z 0)) ≤ x1 then (if 2 ≤ x2 then (bnd1 (f_X11_node_L84_4 z τ x1 x2 FU 0 0) fun (v133 : Int32) => some (v133)) else (if x2 = 1 then (gdx x1 (mlen 7) fun k167 => letv (τ.1 7 k167) fun v168 => some (v168)) else (gdx x1 (mlen 6) fun k164 => letv (τ.1 6 k164) fun v165 => if v165 = 0 then (some (0)) else (some (1))))) else (some ((-1)))))) else (if x2 ≤ 2 then (if 2 ≤ x2 then (bnd1 (f_X11_node_L84 z τ x1 x2 FU 0 0) fun (v12 : Int32) => some (v12)) else (if x2 = 1 then (gdx x1 (mlen 7) fun k46 => letv (τ.1 7 k46) fun v47 => some (v47)) else (gdx x1 (mlen 6) fun k43 => letv (τ.1 6 k43) fun v44 => if v44 = 0 then (some (0)) else (some (1))))) else (if (nI (z 0)) ≤ x1 then (if 2 ≤ x2 then (bnd1 (f_X11_node_L84_2 z τ x1 x2 FU 0 0) fun (v52 : Int32) => some (v52)) else (if x2 = 1 then (gdx x1 (mlen 7) fun k86 => letv (τ.1 7 k86) fun v87 => some (v87)) else (gdx x1 (mlen 6) fun k83 => letv (τ.1 6 k83) fun v84 => if v84 = 0 then (some (0)) else (some (1))))) else (some ((-1)))))))
def rm_X11_node : Room := { frames := 2, cells := 0, slots := 0, locals := 43 }
set_option maxRecDepth 100000 in
set_option maxHeartbeats 4000000 in
theorem m_X11_node {l : Launch} {G : xG} {z : Nat → Nat} {σ : Sg} {τ : Tg} {x1 : Int32} {x2 : Int32} {rF : Int32} (h : f_X11_node z τ x1 x2 = some (rF)) : xMet l (xD G) (xcA G) (xbs G) yX11_node cX11_node 6 (Option.some Jvm.ClassFile.FieldType.int) rm_X11_node [.ref (xaM G 0), .int x1, .int x2] (xRep G z σ τ) (xRep G z σ τ) (some (.int rF)) 0 0 := by
  refine xMet.of RX11 rfl (by decide +kernel) (Nat.le_of_ble_eq_true rfl) ?_
  intro p e s m args below meth c C hr hnm
  unfold f_X11_node at h
  refine x_sub (L' := [(0, .ref (xaM G 0)), (1, .int x1), (2, .int x2)]) [0, 1, 2] rfl ?_
  refine x_aload_n C dX11_node_0 rfl (q := 0) rfl ?_
  refine x_iload_n C dX11_node_1 rfl (q := 1) rfl ?_
  obtain ⟨r2, hq1, h⟩ := bnd1_some h
  refine x_callV_i C (m_X11_isNode hq1) wv_X11_211 (m_recv C.2.2.2 cl_X11 rfl) rfl (Nat.le_of_ble_eq_true rfl) ⟨⟨rfl, rfl⟩, Nat.le_of_ble_eq_true rfl, Nat.le_of_ble_eq_true rfl⟩ dX11_node_2 rfl ?_
  refine x_if_eq C (tgt := 43) dX11_node_5 (by decide) h (fun hc3 h => ?_) (fun hc3 h => ?_)
  · refine x_iconst C (v := (-1)) dX11_node_43 (by decide) ?_
    cases h
    exact xr_i C hr dX11_node_44 (fun _ h => h)
  · refine x_iload_n C dX11_node_8 rfl (q := 2) rfl ?_
    refine x_iconst C (v := 0) dX11_node_9 (by decide) ?_
    refine x_iconst C (v := 4) dX11_node_10 (by decide) ?_
    obtain ⟨r5, hq4, h⟩ := bnd1_some h
    refine x_callS_i C (m_X11_in hq4) ws_X11_120 rfl (Nat.le_of_ble_eq_true rfl) ⟨⟨rfl, rfl⟩, Nat.le_of_ble_eq_true rfl, Nat.le_of_ble_eq_true rfl⟩ dX11_node_11 rfl ?_
    refine x_if_eq C (tgt := 43) dX11_node_14 (by decide) h (fun hc6 h => ?_) (fun hc6 h => ?_)
    · refine x_iconst C (v := (-1)) dX11_node_43 (by decide) ?_
      cases h
      exact xr_i C hr dX11_node_44 (fun _ h => h)
    · refine x_iload_n C dX11_node_17 rfl (q := 2) rfl ?_
      refine x_iconst C (v := 2) dX11_node_18 (by decide) ?_
      refine x_icmp_ne C (tgt := 30) dX11_node_19 (by decide) h (fun hc7 h => ?_) (fun hc7 h => ?_)
      · refine x_iload_n C dX11_node_30 rfl (q := 2) rfl ?_
        refine x_iconst C (v := 2) dX11_node_31 (by decide) ?_
        refine x_icmp_le C (tgt := 45) dX11_node_32 (by decide) h (fun hc8 h => ?_) (fun hc8 h => ?_)
        · refine x_iload_n C dX11_node_45 rfl (q := 2) rfl ?_
          refine x_iconst C (v := 2) dX11_node_46 (by decide) ?_
          refine x_icmp_ge C (tgt := 79) dX11_node_47 (by decide) h (fun hc9 h => ?_) (fun hc9 h => ?_)
          · refine x_iconst C (v := 0) dX11_node_79 (by decide) ?_
            refine x_istore_n C (L' := [(3, .int 0), (0, .ref (xaM G 0)), (1, .int x1), (2, .int x2)]) dX11_node_80 rfl (by decide) rfl ?_
            refine x_iconst C (v := 0) dX11_node_81 (by decide) ?_
            refine x_istore C (L' := [(4, .int 0), (3, .int 0), (0, .ref (xaM G 0)), (1, .int x1), (2, .int x2)]) dX11_node_82 (by decide) rfl ?_
            obtain ⟨v12, hv14, h⟩ := bnd1_some h
            refine x_join (Ω' := (xRep G z σ τ)) (pc' := 180) (L' := [(3, .int v12)]) (st' := []) ?_ (fun hj13 => ?_)
            · refine x_iload_n C dX11_node_180 rfl (q := 0) rfl ?_
              cases h
              exact xr_i C hr dX11_node_181 (fun _ h => h)
            · have hl41 : ∀ (n : Nat) (y10 : Int32) (y11 : Int32), f_X11_node_L84 z τ x1 x2 n y10 y11 = some (v12) → XW p l e rm_X11_node s m args below meth c 0 0 6 (xbs G) (xQ below args s (xbs G) (some (.int rF)) (xRep G z σ τ) 0 0) (xRep G z σ τ) 84 [(0, .ref (xaM G 0)), (1, .int x1), (2, .int x2), (3, .int y10), (4, .int y11)] [] := by
                intro n
                induction n with
                | zero =>
                  intro y10 y11 h
                  exact absurd h (by rw [f_X11_node_L84]; intro q; cases q)
                | succ n ih =>
                  intro y10 y11 h
                  rw [f_X11_node_L84] at h
                  refine x_iload C dX11_node_84 (q := 4) rfl ?_
                  refine x_aload_n C dX11_node_86 rfl (q := 0) rfl ?_
                  refine m_get C cl_X11 2 (by decide) fl_X11_104_X11 rfl rfl dX11_node_87 ?_
                  refine x_icmp_ge C (tgt := 180) dX11_node_90 (by decide) h (fun hc15 h => ?_) (fun hc15 h => ?_)
                  · cases h
                    exact x_sub [3] rfl hj13
                  · refine x_iload_n C dX11_node_93 rfl (q := 2) rfl ?_
                    refine x_iconst C (v := 2) dX11_node_94 (by decide) ?_
                    refine x_icmp_ne C (tgt := 124) dX11_node_95 (by decide) h (fun hc16 h => ?_) (fun hc16 h => ?_)
                    · refine x_bipush C (v := 16) dX11_node_124 (by decide) ?_
                      refine x_iload_n C dX11_node_126 rfl (q := 1) rfl ?_
                      refine x_aload_n C dX11_node_127 rfl (q := 0) rfl ?_
                      refine m_get C cl_X11 0 (by decide) fl_X11_97_X11 rfl rfl dX11_node_128 ?_
                      refine x_isub C dX11_node_131 ?_
                      refine x_imul C dX11_node_132 ?_
                      refine x_iload C dX11_node_133 (q := 4) rfl ?_
                      refine x_iadd C dX11_node_135 ?_
                      refine x_letI h (fun v17 h => ?_)
                      refine x_istore C (L' := [(5, .int v17), (0, .ref (xaM G 0)), (1, .int x1), (2, .int x2), (3, .int y10), (4, .int y11)]) dX11_node_136 (by decide) rfl ?_
                      refine x_iload_n C dX11_node_138 rfl (q := 4) rfl ?_
                      refine x_iload_n C dX11_node_139 rfl (q := 3) rfl ?_
                      refine x_iconst C (v := 3) dX11_node_140 (by decide) ?_
                      refine x_icmp_ne C (tgt := 157) dX11_node_141 (by decide) h (fun hc18 h => ?_) (fun hc18 h => ?_)
                      · refine x_aload_n C dX11_node_157 rfl (q := 1) rfl ?_
                        refine m_get C cl_X11 21 (by decide) fl_X11_57_X11 rfl rfl dX11_node_158 ?_
                        refine x_iload C dX11_node_161 (q := 0) rfl ?_
                        refine m_iald C rfl (fun _ _ => rfl) dX11_node_163 h (fun k19 hk19 h => ?_)
                        refine x_letI h (fun v20 h => ?_)
                        refine x_if_eq C (tgt := 171) dX11_node_164 (by decide) h (fun hc21 h => ?_) (fun hc21 h => ?_)
                        · refine x_iconst C (v := 0) dX11_node_171 (by decide) ?_
                          refine x_iadd C dX11_node_172 ?_
                          refine x_letI h (fun v22 h => ?_)
                          refine x_istore_n C (L' := [(3, .int v22), (5, .int v17), (0, .ref (xaM G 0)), (1, .int x1), (2, .int x2), (4, .int y11)]) dX11_node_173 rfl (by decide) rfl ?_
                          refine x_iincL C (w := 1) (L' := fun v23 => [(4, .int v23), (3, .int v22), (5, .int v17), (0, .ref (xaM G 0)), (1, .int x1), (2, .int x2)]) dX11_node_174 (k := 5) rfl (by decide) (by decide) (fun _ => rfl) h (fun v23 h => ?_)
                          refine x_goto C (tgt := 84) dX11_node_177 (by decide) ?_
                          exact x_sub [3, 4, 5, 1, 0] rfl (ih _ _ h)
                        · refine x_iconst C (v := 1) dX11_node_167 (by decide) ?_
                          refine x_goto C (tgt := 172) dX11_node_168 (by decide) ?_
                          refine x_iadd C dX11_node_172 ?_
                          refine x_letI h (fun v24 h => ?_)
                          refine x_istore_n C (L' := [(3, .int v24), (5, .int v17), (0, .ref (xaM G 0)), (1, .int x1), (2, .int x2), (4, .int y11)]) dX11_node_173 rfl (by decide) rfl ?_
                          refine x_iincL C (w := 1) (L' := fun v25 => [(4, .int v25), (3, .int v24), (5, .int v17), (0, .ref (xaM G 0)), (1, .int x1), (2, .int x2)]) dX11_node_174 (k := 5) rfl (by decide) (by decide) (fun _ => rfl) h (fun v25 h => ?_)
                          refine x_goto C (tgt := 84) dX11_node_177 (by decide) ?_
                          exact x_sub [3, 4, 5, 1, 0] rfl (ih _ _ h)
                      · refine x_aload_n C dX11_node_144 rfl (q := 1) rfl ?_
                        refine m_get C cl_X11 19 (by decide) fl_X11_51_X11 rfl rfl dX11_node_145 ?_
                        refine x_iload C dX11_node_148 (q := 0) rfl ?_
                        refine m_iald C rfl (fun _ _ => rfl) dX11_node_150 h (fun k26 hk26 h => ?_)
                        refine x_letI h (fun v27 h => ?_)
                        refine x_if_ne C (tgt := 171) dX11_node_151 (by decide) h (fun hc28 h => ?_) (fun hc28 h => ?_)
                        · refine x_iconst C (v := 0) dX11_node_171 (by decide) ?_
                          refine x_iadd C dX11_node_172 ?_
                          refine x_letI h (fun v29 h => ?_)
                          refine x_istore_n C (L' := [(3, .int v29), (5, .int v17), (0, .ref (xaM G 0)), (1, .int x1), (2, .int x2), (4, .int y11)]) dX11_node_173 rfl (by decide) rfl ?_
                          refine x_iincL C (w := 1) (L' := fun v30 => [(4, .int v30), (3, .int v29), (5, .int v17), (0, .ref (xaM G 0)), (1, .int x1), (2, .int x2)]) dX11_node_174 (k := 5) rfl (by decide) (by decide) (fun _ => rfl) h (fun v30 h => ?_)
                          refine x_goto C (tgt := 84) dX11_node_177 (by decide) ?_
                          exact x_sub [3, 4, 5, 1, 0] rfl (ih _ _ h)
                        · refine x_goto C (tgt := 167) dX11_node_154 (by decide) ?_
                          refine x_iconst C (v := 1) dX11_node_167 (by decide) ?_
                          refine x_goto C (tgt := 172) dX11_node_168 (by decide) ?_
                          refine x_iadd C dX11_node_172 ?_
                          refine x_letI h (fun v31 h => ?_)
                          refine x_istore_n C (L' := [(3, .int v31), (5, .int v17), (0, .ref (xaM G 0)), (1, .int x1), (2, .int x2), (4, .int y11)]) dX11_node_173 rfl (by decide) rfl ?_
                          refine x_iincL C (w := 1) (L' := fun v32 => [(4, .int v32), (3, .int v31), (5, .int v17), (0, .ref (xaM G 0)), (1, .int x1), (2, .int x2)]) dX11_node_174 (k := 5) rfl (by decide) (by decide) (fun _ => rfl) h (fun v32 h => ?_)
                          refine x_goto C (tgt := 84) dX11_node_177 (by decide) ?_
                          exact x_sub [3, 4, 5, 1, 0] rfl (ih _ _ h)
                    · refine x_iload_n C dX11_node_98 rfl (q := 3) rfl ?_
                      refine x_aload_n C dX11_node_99 rfl (q := 0) rfl ?_
                      refine m_get C cl_X11 16 (by decide) fl_X11_42_X11 rfl rfl dX11_node_100 ?_
                      refine x_bipush C (v := 16) dX11_node_103 (by decide) ?_
                      refine x_iload_n C dX11_node_105 rfl (q := 1) rfl ?_
                      refine x_imul C dX11_node_106 ?_
                      refine x_iload C dX11_node_107 (q := 4) rfl ?_
                      refine x_iadd C dX11_node_109 ?_
                      refine m_bald C rfl (fun _ _ => rfl) dX11_node_110 h (fun k33 hk33 h => ?_)
                      refine x_letI h (fun v34 h => ?_)
                      obtain ⟨v35, hv37, h⟩ := bnd1_some h
                      refine x_join (Ω' := (xRep G z σ τ)) (pc' := 119) (L' := [(0, .ref (xaM G 0)), (1, .int x1), (2, .int x2), (4, .int y11)]) (st' := [.int v35, .int y10]) ?_ (fun hj36 => ?_)
                      · refine x_iadd C dX11_node_119 ?_
                        refine x_letI h (fun v39 h => ?_)
                        refine x_istore_n C (L' := [(3, .int v39), (0, .ref (xaM G 0)), (1, .int x1), (2, .int x2), (4, .int y11)]) dX11_node_120 rfl (by decide) rfl ?_
                        refine x_goto C (tgt := 174) dX11_node_121 (by decide) ?_
                        refine x_iincL C (w := 1) (L' := fun v40 => [(4, .int v40), (3, .int v39), (0, .ref (xaM G 0)), (1, .int x1), (2, .int x2)]) dX11_node_174 (k := 4) rfl (by decide) (by decide) (fun _ => rfl) h (fun v40 h => ?_)
                        refine x_goto C (tgt := 84) dX11_node_177 (by decide) ?_
                        exact x_sub [2, 3, 4, 1, 0] rfl (ih _ _ h)
                      · replace h := hv37
                        clear hv37
                        refine x_if_eq C (tgt := 118) dX11_node_111 (by decide) h (fun hc38 h => ?_) (fun hc38 h => ?_)
                        · refine x_iconst C (v := 0) dX11_node_118 (by decide) ?_
                          cases h
                          exact x_sub [0, 1, 2, 4] rfl hj36
                        · refine x_iconst C (v := 1) dX11_node_114 (by decide) ?_
                          refine x_goto C (tgt := 119) dX11_node_115 (by decide) ?_
                          cases h
                          exact x_sub [0, 1, 2, 4] rfl hj36
              exact x_sub [2, 3, 4, 1, 0] rfl (hl41 FU _ _ hv14)
          · refine x_iload_n C dX11_node_50 rfl (q := 2) rfl ?_
            refine x_iconst C (v := 1) dX11_node_51 (by decide) ?_
            refine x_icmp_ne C (tgt := 64) dX11_node_52 (by decide) h (fun hc42 h => ?_) (fun hc42 h => ?_)
            · refine x_aload_n C dX11_node_64 rfl (q := 0) rfl ?_
              refine m_get C cl_X11 6 (by decide) fl_X11_7_X11 rfl rfl dX11_node_65 ?_
              refine x_iload_n C dX11_node_68 rfl (q := 1) rfl ?_
              refine m_bald C rfl (fun _ _ => rfl) dX11_node_69 h (fun k43 hk43 h => ?_)
              refine x_letI h (fun v44 h => ?_)
              refine x_if_eq C (tgt := 77) dX11_node_70 (by decide) h (fun hc45 h => ?_) (fun hc45 h => ?_)
              · refine x_iconst C (v := 0) dX11_node_77 (by decide) ?_
                cases h
                exact xr_i C hr dX11_node_78 (fun _ h => h)
              · refine x_iconst C (v := 1) dX11_node_73 (by decide) ?_
                refine x_goto C (tgt := 78) dX11_node_74 (by decide) ?_
                cases h
                exact xr_i C hr dX11_node_78 (fun _ h => h)
            · refine x_aload_n C dX11_node_55 rfl (q := 0) rfl ?_
              refine m_get C cl_X11 7 (by decide) fl_X11_13_X11 rfl rfl dX11_node_56 ?_
              refine x_iload_n C dX11_node_59 rfl (q := 1) rfl ?_
              refine m_iald C rfl (fun _ _ => rfl) dX11_node_60 h (fun k46 hk46 h => ?_)
              refine x_letI h (fun v47 h => ?_)
              refine x_goto C (tgt := 78) dX11_node_61 (by decide) ?_
              cases h
              exact xr_i C hr dX11_node_78 (fun _ h => h)
        · refine x_iload_n C dX11_node_35 rfl (q := 1) rfl ?_
          refine x_aload_n C dX11_node_36 rfl (q := 0) rfl ?_
          refine m_get C cl_X11 0 (by decide) fl_X11_97_X11 rfl rfl dX11_node_37 ?_
          refine x_icmp_ge C (tgt := 45) dX11_node_40 (by decide) h (fun hc48 h => ?_) (fun hc48 h => ?_)
          · refine x_iload_n C dX11_node_45 rfl (q := 2) rfl ?_
            refine x_iconst C (v := 2) dX11_node_46 (by decide) ?_
            refine x_icmp_ge C (tgt := 79) dX11_node_47 (by decide) h (fun hc49 h => ?_) (fun hc49 h => ?_)
            · refine x_iconst C (v := 0) dX11_node_79 (by decide) ?_
              refine x_istore_n C (L' := [(3, .int 0), (0, .ref (xaM G 0)), (1, .int x1), (2, .int x2)]) dX11_node_80 rfl (by decide) rfl ?_
              refine x_iconst C (v := 0) dX11_node_81 (by decide) ?_
              refine x_istore C (L' := [(4, .int 0), (3, .int 0), (0, .ref (xaM G 0)), (1, .int x1), (2, .int x2)]) dX11_node_82 (by decide) rfl ?_
              obtain ⟨v52, hv54, h⟩ := bnd1_some h
              refine x_join (Ω' := (xRep G z σ τ)) (pc' := 180) (L' := [(3, .int v52)]) (st' := []) ?_ (fun hj53 => ?_)
              · refine x_iload_n C dX11_node_180 rfl (q := 0) rfl ?_
                cases h
                exact xr_i C hr dX11_node_181 (fun _ h => h)
              · have hl81 : ∀ (n : Nat) (y50 : Int32) (y51 : Int32), f_X11_node_L84_2 z τ x1 x2 n y50 y51 = some (v52) → XW p l e rm_X11_node s m args below meth c 0 0 6 (xbs G) (xQ below args s (xbs G) (some (.int rF)) (xRep G z σ τ) 0 0) (xRep G z σ τ) 84 [(0, .ref (xaM G 0)), (1, .int x1), (2, .int x2), (3, .int y50), (4, .int y51)] [] := by
                  intro n
                  induction n with
                  | zero =>
                    intro y50 y51 h
                    exact absurd h (by rw [f_X11_node_L84_2]; intro q; cases q)
                  | succ n ih =>
                    intro y50 y51 h
                    rw [f_X11_node_L84_2] at h
                    refine x_iload C dX11_node_84 (q := 4) rfl ?_
                    refine x_aload_n C dX11_node_86 rfl (q := 0) rfl ?_
                    refine m_get C cl_X11 2 (by decide) fl_X11_104_X11 rfl rfl dX11_node_87 ?_
                    refine x_icmp_ge C (tgt := 180) dX11_node_90 (by decide) h (fun hc55 h => ?_) (fun hc55 h => ?_)
                    · cases h
                      exact x_sub [3] rfl hj53
                    · refine x_iload_n C dX11_node_93 rfl (q := 2) rfl ?_
                      refine x_iconst C (v := 2) dX11_node_94 (by decide) ?_
                      refine x_icmp_ne C (tgt := 124) dX11_node_95 (by decide) h (fun hc56 h => ?_) (fun hc56 h => ?_)
                      · refine x_bipush C (v := 16) dX11_node_124 (by decide) ?_
                        refine x_iload_n C dX11_node_126 rfl (q := 1) rfl ?_
                        refine x_aload_n C dX11_node_127 rfl (q := 0) rfl ?_
                        refine m_get C cl_X11 0 (by decide) fl_X11_97_X11 rfl rfl dX11_node_128 ?_
                        refine x_isub C dX11_node_131 ?_
                        refine x_imul C dX11_node_132 ?_
                        refine x_iload C dX11_node_133 (q := 4) rfl ?_
                        refine x_iadd C dX11_node_135 ?_
                        refine x_letI h (fun v57 h => ?_)
                        refine x_istore C (L' := [(5, .int v57), (0, .ref (xaM G 0)), (1, .int x1), (2, .int x2), (3, .int y50), (4, .int y51)]) dX11_node_136 (by decide) rfl ?_
                        refine x_iload_n C dX11_node_138 rfl (q := 4) rfl ?_
                        refine x_iload_n C dX11_node_139 rfl (q := 3) rfl ?_
                        refine x_iconst C (v := 3) dX11_node_140 (by decide) ?_
                        refine x_icmp_ne C (tgt := 157) dX11_node_141 (by decide) h (fun hc58 h => ?_) (fun hc58 h => ?_)
                        · refine x_aload_n C dX11_node_157 rfl (q := 1) rfl ?_
                          refine m_get C cl_X11 21 (by decide) fl_X11_57_X11 rfl rfl dX11_node_158 ?_
                          refine x_iload C dX11_node_161 (q := 0) rfl ?_
                          refine m_iald C rfl (fun _ _ => rfl) dX11_node_163 h (fun k59 hk59 h => ?_)
                          refine x_letI h (fun v60 h => ?_)
                          refine x_if_eq C (tgt := 171) dX11_node_164 (by decide) h (fun hc61 h => ?_) (fun hc61 h => ?_)
                          · refine x_iconst C (v := 0) dX11_node_171 (by decide) ?_
                            refine x_iadd C dX11_node_172 ?_
                            refine x_letI h (fun v62 h => ?_)
                            refine x_istore_n C (L' := [(3, .int v62), (5, .int v57), (0, .ref (xaM G 0)), (1, .int x1), (2, .int x2), (4, .int y51)]) dX11_node_173 rfl (by decide) rfl ?_
                            refine x_iincL C (w := 1) (L' := fun v63 => [(4, .int v63), (3, .int v62), (5, .int v57), (0, .ref (xaM G 0)), (1, .int x1), (2, .int x2)]) dX11_node_174 (k := 5) rfl (by decide) (by decide) (fun _ => rfl) h (fun v63 h => ?_)
                            refine x_goto C (tgt := 84) dX11_node_177 (by decide) ?_
                            exact x_sub [3, 4, 5, 1, 0] rfl (ih _ _ h)
                          · refine x_iconst C (v := 1) dX11_node_167 (by decide) ?_
                            refine x_goto C (tgt := 172) dX11_node_168 (by decide) ?_
                            refine x_iadd C dX11_node_172 ?_
                            refine x_letI h (fun v64 h => ?_)
                            refine x_istore_n C (L' := [(3, .int v64), (5, .int v57), (0, .ref (xaM G 0)), (1, .int x1), (2, .int x2), (4, .int y51)]) dX11_node_173 rfl (by decide) rfl ?_
                            refine x_iincL C (w := 1) (L' := fun v65 => [(4, .int v65), (3, .int v64), (5, .int v57), (0, .ref (xaM G 0)), (1, .int x1), (2, .int x2)]) dX11_node_174 (k := 5) rfl (by decide) (by decide) (fun _ => rfl) h (fun v65 h => ?_)
                            refine x_goto C (tgt := 84) dX11_node_177 (by decide) ?_
                            exact x_sub [3, 4, 5, 1, 0] rfl (ih _ _ h)
                        · refine x_aload_n C dX11_node_144 rfl (q := 1) rfl ?_
                          refine m_get C cl_X11 19 (by decide) fl_X11_51_X11 rfl rfl dX11_node_145 ?_
                          refine x_iload C dX11_node_148 (q := 0) rfl ?_
                          refine m_iald C rfl (fun _ _ => rfl) dX11_node_150 h (fun k66 hk66 h => ?_)
                          refine x_letI h (fun v67 h => ?_)
                          refine x_if_ne C (tgt := 171) dX11_node_151 (by decide) h (fun hc68 h => ?_) (fun hc68 h => ?_)
                          · refine x_iconst C (v := 0) dX11_node_171 (by decide) ?_
                            refine x_iadd C dX11_node_172 ?_
                            refine x_letI h (fun v69 h => ?_)
                            refine x_istore_n C (L' := [(3, .int v69), (5, .int v57), (0, .ref (xaM G 0)), (1, .int x1), (2, .int x2), (4, .int y51)]) dX11_node_173 rfl (by decide) rfl ?_
                            refine x_iincL C (w := 1) (L' := fun v70 => [(4, .int v70), (3, .int v69), (5, .int v57), (0, .ref (xaM G 0)), (1, .int x1), (2, .int x2)]) dX11_node_174 (k := 5) rfl (by decide) (by decide) (fun _ => rfl) h (fun v70 h => ?_)
                            refine x_goto C (tgt := 84) dX11_node_177 (by decide) ?_
                            exact x_sub [3, 4, 5, 1, 0] rfl (ih _ _ h)
                          · refine x_goto C (tgt := 167) dX11_node_154 (by decide) ?_
                            refine x_iconst C (v := 1) dX11_node_167 (by decide) ?_
                            refine x_goto C (tgt := 172) dX11_node_168 (by decide) ?_
                            refine x_iadd C dX11_node_172 ?_
                            refine x_letI h (fun v71 h => ?_)
                            refine x_istore_n C (L' := [(3, .int v71), (5, .int v57), (0, .ref (xaM G 0)), (1, .int x1), (2, .int x2), (4, .int y51)]) dX11_node_173 rfl (by decide) rfl ?_
                            refine x_iincL C (w := 1) (L' := fun v72 => [(4, .int v72), (3, .int v71), (5, .int v57), (0, .ref (xaM G 0)), (1, .int x1), (2, .int x2)]) dX11_node_174 (k := 5) rfl (by decide) (by decide) (fun _ => rfl) h (fun v72 h => ?_)
                            refine x_goto C (tgt := 84) dX11_node_177 (by decide) ?_
                            exact x_sub [3, 4, 5, 1, 0] rfl (ih _ _ h)
                      · refine x_iload_n C dX11_node_98 rfl (q := 3) rfl ?_
                        refine x_aload_n C dX11_node_99 rfl (q := 0) rfl ?_
                        refine m_get C cl_X11 16 (by decide) fl_X11_42_X11 rfl rfl dX11_node_100 ?_
                        refine x_bipush C (v := 16) dX11_node_103 (by decide) ?_
                        refine x_iload_n C dX11_node_105 rfl (q := 1) rfl ?_
                        refine x_imul C dX11_node_106 ?_
                        refine x_iload C dX11_node_107 (q := 4) rfl ?_
                        refine x_iadd C dX11_node_109 ?_
                        refine m_bald C rfl (fun _ _ => rfl) dX11_node_110 h (fun k73 hk73 h => ?_)
                        refine x_letI h (fun v74 h => ?_)
                        obtain ⟨v75, hv77, h⟩ := bnd1_some h
                        refine x_join (Ω' := (xRep G z σ τ)) (pc' := 119) (L' := [(0, .ref (xaM G 0)), (1, .int x1), (2, .int x2), (4, .int y51)]) (st' := [.int v75, .int y50]) ?_ (fun hj76 => ?_)
                        · refine x_iadd C dX11_node_119 ?_
                          refine x_letI h (fun v79 h => ?_)
                          refine x_istore_n C (L' := [(3, .int v79), (0, .ref (xaM G 0)), (1, .int x1), (2, .int x2), (4, .int y51)]) dX11_node_120 rfl (by decide) rfl ?_
                          refine x_goto C (tgt := 174) dX11_node_121 (by decide) ?_
                          refine x_iincL C (w := 1) (L' := fun v80 => [(4, .int v80), (3, .int v79), (0, .ref (xaM G 0)), (1, .int x1), (2, .int x2)]) dX11_node_174 (k := 4) rfl (by decide) (by decide) (fun _ => rfl) h (fun v80 h => ?_)
                          refine x_goto C (tgt := 84) dX11_node_177 (by decide) ?_
                          exact x_sub [2, 3, 4, 1, 0] rfl (ih _ _ h)
                        · replace h := hv77
                          clear hv77
                          refine x_if_eq C (tgt := 118) dX11_node_111 (by decide) h (fun hc78 h => ?_) (fun hc78 h => ?_)
                          · refine x_iconst C (v := 0) dX11_node_118 (by decide) ?_
                            cases h
                            exact x_sub [0, 1, 2, 4] rfl hj76
                          · refine x_iconst C (v := 1) dX11_node_114 (by decide) ?_
                            refine x_goto C (tgt := 119) dX11_node_115 (by decide) ?_
                            cases h
                            exact x_sub [0, 1, 2, 4] rfl hj76
                exact x_sub [2, 3, 4, 1, 0] rfl (hl81 FU _ _ hv54)
            · refine x_iload_n C dX11_node_50 rfl (q := 2) rfl ?_
              refine x_iconst C (v := 1) dX11_node_51 (by decide) ?_
              refine x_icmp_ne C (tgt := 64) dX11_node_52 (by decide) h (fun hc82 h => ?_) (fun hc82 h => ?_)
              · refine x_aload_n C dX11_node_64 rfl (q := 0) rfl ?_
                refine m_get C cl_X11 6 (by decide) fl_X11_7_X11 rfl rfl dX11_node_65 ?_
                refine x_iload_n C dX11_node_68 rfl (q := 1) rfl ?_
                refine m_bald C rfl (fun _ _ => rfl) dX11_node_69 h (fun k83 hk83 h => ?_)
                refine x_letI h (fun v84 h => ?_)
                refine x_if_eq C (tgt := 77) dX11_node_70 (by decide) h (fun hc85 h => ?_) (fun hc85 h => ?_)
                · refine x_iconst C (v := 0) dX11_node_77 (by decide) ?_
                  cases h
                  exact xr_i C hr dX11_node_78 (fun _ h => h)
                · refine x_iconst C (v := 1) dX11_node_73 (by decide) ?_
                  refine x_goto C (tgt := 78) dX11_node_74 (by decide) ?_
                  cases h
                  exact xr_i C hr dX11_node_78 (fun _ h => h)
              · refine x_aload_n C dX11_node_55 rfl (q := 0) rfl ?_
                refine m_get C cl_X11 7 (by decide) fl_X11_13_X11 rfl rfl dX11_node_56 ?_
                refine x_iload_n C dX11_node_59 rfl (q := 1) rfl ?_
                refine m_iald C rfl (fun _ _ => rfl) dX11_node_60 h (fun k86 hk86 h => ?_)
                refine x_letI h (fun v87 h => ?_)
                refine x_goto C (tgt := 78) dX11_node_61 (by decide) ?_
                cases h
                exact xr_i C hr dX11_node_78 (fun _ h => h)
          · refine x_iconst C (v := (-1)) dX11_node_43 (by decide) ?_
            cases h
            exact xr_i C hr dX11_node_44 (fun _ h => h)
      · refine x_iload_n C dX11_node_22 rfl (q := 1) rfl ?_
        refine x_aload_n C dX11_node_23 rfl (q := 0) rfl ?_
        refine m_get C cl_X11 0 (by decide) fl_X11_97_X11 rfl rfl dX11_node_24 ?_
        refine x_icmp_ge C (tgt := 43) dX11_node_27 (by decide) h (fun hc88 h => ?_) (fun hc88 h => ?_)
        · refine x_iconst C (v := (-1)) dX11_node_43 (by decide) ?_
          cases h
          exact xr_i C hr dX11_node_44 (fun _ h => h)
        · refine x_iload_n C dX11_node_30 rfl (q := 2) rfl ?_
          refine x_iconst C (v := 2) dX11_node_31 (by decide) ?_
          refine x_icmp_le C (tgt := 45) dX11_node_32 (by decide) h (fun hc89 h => ?_) (fun hc89 h => ?_)
          · refine x_iload_n C dX11_node_45 rfl (q := 2) rfl ?_
            refine x_iconst C (v := 2) dX11_node_46 (by decide) ?_
            refine x_icmp_ge C (tgt := 79) dX11_node_47 (by decide) h (fun hc90 h => ?_) (fun hc90 h => ?_)
            · refine x_iconst C (v := 0) dX11_node_79 (by decide) ?_
              refine x_istore_n C (L' := [(3, .int 0), (0, .ref (xaM G 0)), (1, .int x1), (2, .int x2)]) dX11_node_80 rfl (by decide) rfl ?_
              refine x_iconst C (v := 0) dX11_node_81 (by decide) ?_
              refine x_istore C (L' := [(4, .int 0), (3, .int 0), (0, .ref (xaM G 0)), (1, .int x1), (2, .int x2)]) dX11_node_82 (by decide) rfl ?_
              obtain ⟨v93, hv95, h⟩ := bnd1_some h
              refine x_join (Ω' := (xRep G z σ τ)) (pc' := 180) (L' := [(3, .int v93)]) (st' := []) ?_ (fun hj94 => ?_)
              · refine x_iload_n C dX11_node_180 rfl (q := 0) rfl ?_
                cases h
                exact xr_i C hr dX11_node_181 (fun _ h => h)
              · have hl122 : ∀ (n : Nat) (y91 : Int32) (y92 : Int32), f_X11_node_L84_3 z τ x1 x2 n y91 y92 = some (v93) → XW p l e rm_X11_node s m args below meth c 0 0 6 (xbs G) (xQ below args s (xbs G) (some (.int rF)) (xRep G z σ τ) 0 0) (xRep G z σ τ) 84 [(0, .ref (xaM G 0)), (1, .int x1), (2, .int x2), (3, .int y91), (4, .int y92)] [] := by
                  intro n
                  induction n with
                  | zero =>
                    intro y91 y92 h
                    exact absurd h (by rw [f_X11_node_L84_3]; intro q; cases q)
                  | succ n ih =>
                    intro y91 y92 h
                    rw [f_X11_node_L84_3] at h
                    refine x_iload C dX11_node_84 (q := 4) rfl ?_
                    refine x_aload_n C dX11_node_86 rfl (q := 0) rfl ?_
                    refine m_get C cl_X11 2 (by decide) fl_X11_104_X11 rfl rfl dX11_node_87 ?_
                    refine x_icmp_ge C (tgt := 180) dX11_node_90 (by decide) h (fun hc96 h => ?_) (fun hc96 h => ?_)
                    · cases h
                      exact x_sub [3] rfl hj94
                    · refine x_iload_n C dX11_node_93 rfl (q := 2) rfl ?_
                      refine x_iconst C (v := 2) dX11_node_94 (by decide) ?_
                      refine x_icmp_ne C (tgt := 124) dX11_node_95 (by decide) h (fun hc97 h => ?_) (fun hc97 h => ?_)
                      · refine x_bipush C (v := 16) dX11_node_124 (by decide) ?_
                        refine x_iload_n C dX11_node_126 rfl (q := 1) rfl ?_
                        refine x_aload_n C dX11_node_127 rfl (q := 0) rfl ?_
                        refine m_get C cl_X11 0 (by decide) fl_X11_97_X11 rfl rfl dX11_node_128 ?_
                        refine x_isub C dX11_node_131 ?_
                        refine x_imul C dX11_node_132 ?_
                        refine x_iload C dX11_node_133 (q := 4) rfl ?_
                        refine x_iadd C dX11_node_135 ?_
                        refine x_letI h (fun v98 h => ?_)
                        refine x_istore C (L' := [(5, .int v98), (0, .ref (xaM G 0)), (1, .int x1), (2, .int x2), (3, .int y91), (4, .int y92)]) dX11_node_136 (by decide) rfl ?_
                        refine x_iload_n C dX11_node_138 rfl (q := 4) rfl ?_
                        refine x_iload_n C dX11_node_139 rfl (q := 3) rfl ?_
                        refine x_iconst C (v := 3) dX11_node_140 (by decide) ?_
                        refine x_icmp_ne C (tgt := 157) dX11_node_141 (by decide) h (fun hc99 h => ?_) (fun hc99 h => ?_)
                        · refine x_aload_n C dX11_node_157 rfl (q := 1) rfl ?_
                          refine m_get C cl_X11 21 (by decide) fl_X11_57_X11 rfl rfl dX11_node_158 ?_
                          refine x_iload C dX11_node_161 (q := 0) rfl ?_
                          refine m_iald C rfl (fun _ _ => rfl) dX11_node_163 h (fun k100 hk100 h => ?_)
                          refine x_letI h (fun v101 h => ?_)
                          refine x_if_eq C (tgt := 171) dX11_node_164 (by decide) h (fun hc102 h => ?_) (fun hc102 h => ?_)
                          · refine x_iconst C (v := 0) dX11_node_171 (by decide) ?_
                            refine x_iadd C dX11_node_172 ?_
                            refine x_letI h (fun v103 h => ?_)
                            refine x_istore_n C (L' := [(3, .int v103), (5, .int v98), (0, .ref (xaM G 0)), (1, .int x1), (2, .int x2), (4, .int y92)]) dX11_node_173 rfl (by decide) rfl ?_
                            refine x_iincL C (w := 1) (L' := fun v104 => [(4, .int v104), (3, .int v103), (5, .int v98), (0, .ref (xaM G 0)), (1, .int x1), (2, .int x2)]) dX11_node_174 (k := 5) rfl (by decide) (by decide) (fun _ => rfl) h (fun v104 h => ?_)
                            refine x_goto C (tgt := 84) dX11_node_177 (by decide) ?_
                            exact x_sub [3, 4, 5, 1, 0] rfl (ih _ _ h)
                          · refine x_iconst C (v := 1) dX11_node_167 (by decide) ?_
                            refine x_goto C (tgt := 172) dX11_node_168 (by decide) ?_
                            refine x_iadd C dX11_node_172 ?_
                            refine x_letI h (fun v105 h => ?_)
                            refine x_istore_n C (L' := [(3, .int v105), (5, .int v98), (0, .ref (xaM G 0)), (1, .int x1), (2, .int x2), (4, .int y92)]) dX11_node_173 rfl (by decide) rfl ?_
                            refine x_iincL C (w := 1) (L' := fun v106 => [(4, .int v106), (3, .int v105), (5, .int v98), (0, .ref (xaM G 0)), (1, .int x1), (2, .int x2)]) dX11_node_174 (k := 5) rfl (by decide) (by decide) (fun _ => rfl) h (fun v106 h => ?_)
                            refine x_goto C (tgt := 84) dX11_node_177 (by decide) ?_
                            exact x_sub [3, 4, 5, 1, 0] rfl (ih _ _ h)
                        · refine x_aload_n C dX11_node_144 rfl (q := 1) rfl ?_
                          refine m_get C cl_X11 19 (by decide) fl_X11_51_X11 rfl rfl dX11_node_145 ?_
                          refine x_iload C dX11_node_148 (q := 0) rfl ?_
                          refine m_iald C rfl (fun _ _ => rfl) dX11_node_150 h (fun k107 hk107 h => ?_)
                          refine x_letI h (fun v108 h => ?_)
                          refine x_if_ne C (tgt := 171) dX11_node_151 (by decide) h (fun hc109 h => ?_) (fun hc109 h => ?_)
                          · refine x_iconst C (v := 0) dX11_node_171 (by decide) ?_
                            refine x_iadd C dX11_node_172 ?_
                            refine x_letI h (fun v110 h => ?_)
                            refine x_istore_n C (L' := [(3, .int v110), (5, .int v98), (0, .ref (xaM G 0)), (1, .int x1), (2, .int x2), (4, .int y92)]) dX11_node_173 rfl (by decide) rfl ?_
                            refine x_iincL C (w := 1) (L' := fun v111 => [(4, .int v111), (3, .int v110), (5, .int v98), (0, .ref (xaM G 0)), (1, .int x1), (2, .int x2)]) dX11_node_174 (k := 5) rfl (by decide) (by decide) (fun _ => rfl) h (fun v111 h => ?_)
                            refine x_goto C (tgt := 84) dX11_node_177 (by decide) ?_
                            exact x_sub [3, 4, 5, 1, 0] rfl (ih _ _ h)
                          · refine x_goto C (tgt := 167) dX11_node_154 (by decide) ?_
                            refine x_iconst C (v := 1) dX11_node_167 (by decide) ?_
                            refine x_goto C (tgt := 172) dX11_node_168 (by decide) ?_
                            refine x_iadd C dX11_node_172 ?_
                            refine x_letI h (fun v112 h => ?_)
                            refine x_istore_n C (L' := [(3, .int v112), (5, .int v98), (0, .ref (xaM G 0)), (1, .int x1), (2, .int x2), (4, .int y92)]) dX11_node_173 rfl (by decide) rfl ?_
                            refine x_iincL C (w := 1) (L' := fun v113 => [(4, .int v113), (3, .int v112), (5, .int v98), (0, .ref (xaM G 0)), (1, .int x1), (2, .int x2)]) dX11_node_174 (k := 5) rfl (by decide) (by decide) (fun _ => rfl) h (fun v113 h => ?_)
                            refine x_goto C (tgt := 84) dX11_node_177 (by decide) ?_
                            exact x_sub [3, 4, 5, 1, 0] rfl (ih _ _ h)
                      · refine x_iload_n C dX11_node_98 rfl (q := 3) rfl ?_
                        refine x_aload_n C dX11_node_99 rfl (q := 0) rfl ?_
                        refine m_get C cl_X11 16 (by decide) fl_X11_42_X11 rfl rfl dX11_node_100 ?_
                        refine x_bipush C (v := 16) dX11_node_103 (by decide) ?_
                        refine x_iload_n C dX11_node_105 rfl (q := 1) rfl ?_
                        refine x_imul C dX11_node_106 ?_
                        refine x_iload C dX11_node_107 (q := 4) rfl ?_
                        refine x_iadd C dX11_node_109 ?_
                        refine m_bald C rfl (fun _ _ => rfl) dX11_node_110 h (fun k114 hk114 h => ?_)
                        refine x_letI h (fun v115 h => ?_)
                        obtain ⟨v116, hv118, h⟩ := bnd1_some h
                        refine x_join (Ω' := (xRep G z σ τ)) (pc' := 119) (L' := [(0, .ref (xaM G 0)), (1, .int x1), (2, .int x2), (4, .int y92)]) (st' := [.int v116, .int y91]) ?_ (fun hj117 => ?_)
                        · refine x_iadd C dX11_node_119 ?_
                          refine x_letI h (fun v120 h => ?_)
                          refine x_istore_n C (L' := [(3, .int v120), (0, .ref (xaM G 0)), (1, .int x1), (2, .int x2), (4, .int y92)]) dX11_node_120 rfl (by decide) rfl ?_
                          refine x_goto C (tgt := 174) dX11_node_121 (by decide) ?_
                          refine x_iincL C (w := 1) (L' := fun v121 => [(4, .int v121), (3, .int v120), (0, .ref (xaM G 0)), (1, .int x1), (2, .int x2)]) dX11_node_174 (k := 4) rfl (by decide) (by decide) (fun _ => rfl) h (fun v121 h => ?_)
                          refine x_goto C (tgt := 84) dX11_node_177 (by decide) ?_
                          exact x_sub [2, 3, 4, 1, 0] rfl (ih _ _ h)
                        · replace h := hv118
                          clear hv118
                          refine x_if_eq C (tgt := 118) dX11_node_111 (by decide) h (fun hc119 h => ?_) (fun hc119 h => ?_)
                          · refine x_iconst C (v := 0) dX11_node_118 (by decide) ?_
                            cases h
                            exact x_sub [0, 1, 2, 4] rfl hj117
                          · refine x_iconst C (v := 1) dX11_node_114 (by decide) ?_
                            refine x_goto C (tgt := 119) dX11_node_115 (by decide) ?_
                            cases h
                            exact x_sub [0, 1, 2, 4] rfl hj117
                exact x_sub [2, 3, 4, 1, 0] rfl (hl122 FU _ _ hv95)
            · refine x_iload_n C dX11_node_50 rfl (q := 2) rfl ?_
              refine x_iconst C (v := 1) dX11_node_51 (by decide) ?_
              refine x_icmp_ne C (tgt := 64) dX11_node_52 (by decide) h (fun hc123 h => ?_) (fun hc123 h => ?_)
              · refine x_aload_n C dX11_node_64 rfl (q := 0) rfl ?_
                refine m_get C cl_X11 6 (by decide) fl_X11_7_X11 rfl rfl dX11_node_65 ?_
                refine x_iload_n C dX11_node_68 rfl (q := 1) rfl ?_
                refine m_bald C rfl (fun _ _ => rfl) dX11_node_69 h (fun k124 hk124 h => ?_)
                refine x_letI h (fun v125 h => ?_)
                refine x_if_eq C (tgt := 77) dX11_node_70 (by decide) h (fun hc126 h => ?_) (fun hc126 h => ?_)
                · refine x_iconst C (v := 0) dX11_node_77 (by decide) ?_
                  cases h
                  exact xr_i C hr dX11_node_78 (fun _ h => h)
                · refine x_iconst C (v := 1) dX11_node_73 (by decide) ?_
                  refine x_goto C (tgt := 78) dX11_node_74 (by decide) ?_
                  cases h
                  exact xr_i C hr dX11_node_78 (fun _ h => h)
              · refine x_aload_n C dX11_node_55 rfl (q := 0) rfl ?_
                refine m_get C cl_X11 7 (by decide) fl_X11_13_X11 rfl rfl dX11_node_56 ?_
                refine x_iload_n C dX11_node_59 rfl (q := 1) rfl ?_
                refine m_iald C rfl (fun _ _ => rfl) dX11_node_60 h (fun k127 hk127 h => ?_)
                refine x_letI h (fun v128 h => ?_)
                refine x_goto C (tgt := 78) dX11_node_61 (by decide) ?_
                cases h
                exact xr_i C hr dX11_node_78 (fun _ h => h)
          · refine x_iload_n C dX11_node_35 rfl (q := 1) rfl ?_
            refine x_aload_n C dX11_node_36 rfl (q := 0) rfl ?_
            refine m_get C cl_X11 0 (by decide) fl_X11_97_X11 rfl rfl dX11_node_37 ?_
            refine x_icmp_ge C (tgt := 45) dX11_node_40 (by decide) h (fun hc129 h => ?_) (fun hc129 h => ?_)
            · refine x_iload_n C dX11_node_45 rfl (q := 2) rfl ?_
              refine x_iconst C (v := 2) dX11_node_46 (by decide) ?_
              refine x_icmp_ge C (tgt := 79) dX11_node_47 (by decide) h (fun hc130 h => ?_) (fun hc130 h => ?_)
              · refine x_iconst C (v := 0) dX11_node_79 (by decide) ?_
                refine x_istore_n C (L' := [(3, .int 0), (0, .ref (xaM G 0)), (1, .int x1), (2, .int x2)]) dX11_node_80 rfl (by decide) rfl ?_
                refine x_iconst C (v := 0) dX11_node_81 (by decide) ?_
                refine x_istore C (L' := [(4, .int 0), (3, .int 0), (0, .ref (xaM G 0)), (1, .int x1), (2, .int x2)]) dX11_node_82 (by decide) rfl ?_
                obtain ⟨v133, hv135, h⟩ := bnd1_some h
                refine x_join (Ω' := (xRep G z σ τ)) (pc' := 180) (L' := [(3, .int v133)]) (st' := []) ?_ (fun hj134 => ?_)
                · refine x_iload_n C dX11_node_180 rfl (q := 0) rfl ?_
                  cases h
                  exact xr_i C hr dX11_node_181 (fun _ h => h)
                · have hl162 : ∀ (n : Nat) (y131 : Int32) (y132 : Int32), f_X11_node_L84_4 z τ x1 x2 n y131 y132 = some (v133) → XW p l e rm_X11_node s m args below meth c 0 0 6 (xbs G) (xQ below args s (xbs G) (some (.int rF)) (xRep G z σ τ) 0 0) (xRep G z σ τ) 84 [(0, .ref (xaM G 0)), (1, .int x1), (2, .int x2), (3, .int y131), (4, .int y132)] [] := by
                    intro n
                    induction n with
                    | zero =>
                      intro y131 y132 h
                      exact absurd h (by rw [f_X11_node_L84_4]; intro q; cases q)
                    | succ n ih =>
                      intro y131 y132 h
                      rw [f_X11_node_L84_4] at h
                      refine x_iload C dX11_node_84 (q := 4) rfl ?_
                      refine x_aload_n C dX11_node_86 rfl (q := 0) rfl ?_
                      refine m_get C cl_X11 2 (by decide) fl_X11_104_X11 rfl rfl dX11_node_87 ?_
                      refine x_icmp_ge C (tgt := 180) dX11_node_90 (by decide) h (fun hc136 h => ?_) (fun hc136 h => ?_)
                      · cases h
                        exact x_sub [3] rfl hj134
                      · refine x_iload_n C dX11_node_93 rfl (q := 2) rfl ?_
                        refine x_iconst C (v := 2) dX11_node_94 (by decide) ?_
                        refine x_icmp_ne C (tgt := 124) dX11_node_95 (by decide) h (fun hc137 h => ?_) (fun hc137 h => ?_)
                        · refine x_bipush C (v := 16) dX11_node_124 (by decide) ?_
                          refine x_iload_n C dX11_node_126 rfl (q := 1) rfl ?_
                          refine x_aload_n C dX11_node_127 rfl (q := 0) rfl ?_
                          refine m_get C cl_X11 0 (by decide) fl_X11_97_X11 rfl rfl dX11_node_128 ?_
                          refine x_isub C dX11_node_131 ?_
                          refine x_imul C dX11_node_132 ?_
                          refine x_iload C dX11_node_133 (q := 4) rfl ?_
                          refine x_iadd C dX11_node_135 ?_
                          refine x_letI h (fun v138 h => ?_)
                          refine x_istore C (L' := [(5, .int v138), (0, .ref (xaM G 0)), (1, .int x1), (2, .int x2), (3, .int y131), (4, .int y132)]) dX11_node_136 (by decide) rfl ?_
                          refine x_iload_n C dX11_node_138 rfl (q := 4) rfl ?_
                          refine x_iload_n C dX11_node_139 rfl (q := 3) rfl ?_
                          refine x_iconst C (v := 3) dX11_node_140 (by decide) ?_
                          refine x_icmp_ne C (tgt := 157) dX11_node_141 (by decide) h (fun hc139 h => ?_) (fun hc139 h => ?_)
                          · refine x_aload_n C dX11_node_157 rfl (q := 1) rfl ?_
                            refine m_get C cl_X11 21 (by decide) fl_X11_57_X11 rfl rfl dX11_node_158 ?_
                            refine x_iload C dX11_node_161 (q := 0) rfl ?_
                            refine m_iald C rfl (fun _ _ => rfl) dX11_node_163 h (fun k140 hk140 h => ?_)
                            refine x_letI h (fun v141 h => ?_)
                            refine x_if_eq C (tgt := 171) dX11_node_164 (by decide) h (fun hc142 h => ?_) (fun hc142 h => ?_)
                            · refine x_iconst C (v := 0) dX11_node_171 (by decide) ?_
                              refine x_iadd C dX11_node_172 ?_
                              refine x_letI h (fun v143 h => ?_)
                              refine x_istore_n C (L' := [(3, .int v143), (5, .int v138), (0, .ref (xaM G 0)), (1, .int x1), (2, .int x2), (4, .int y132)]) dX11_node_173 rfl (by decide) rfl ?_
                              refine x_iincL C (w := 1) (L' := fun v144 => [(4, .int v144), (3, .int v143), (5, .int v138), (0, .ref (xaM G 0)), (1, .int x1), (2, .int x2)]) dX11_node_174 (k := 5) rfl (by decide) (by decide) (fun _ => rfl) h (fun v144 h => ?_)
                              refine x_goto C (tgt := 84) dX11_node_177 (by decide) ?_
                              exact x_sub [3, 4, 5, 1, 0] rfl (ih _ _ h)
                            · refine x_iconst C (v := 1) dX11_node_167 (by decide) ?_
                              refine x_goto C (tgt := 172) dX11_node_168 (by decide) ?_
                              refine x_iadd C dX11_node_172 ?_
                              refine x_letI h (fun v145 h => ?_)
                              refine x_istore_n C (L' := [(3, .int v145), (5, .int v138), (0, .ref (xaM G 0)), (1, .int x1), (2, .int x2), (4, .int y132)]) dX11_node_173 rfl (by decide) rfl ?_
                              refine x_iincL C (w := 1) (L' := fun v146 => [(4, .int v146), (3, .int v145), (5, .int v138), (0, .ref (xaM G 0)), (1, .int x1), (2, .int x2)]) dX11_node_174 (k := 5) rfl (by decide) (by decide) (fun _ => rfl) h (fun v146 h => ?_)
                              refine x_goto C (tgt := 84) dX11_node_177 (by decide) ?_
                              exact x_sub [3, 4, 5, 1, 0] rfl (ih _ _ h)
                          · refine x_aload_n C dX11_node_144 rfl (q := 1) rfl ?_
                            refine m_get C cl_X11 19 (by decide) fl_X11_51_X11 rfl rfl dX11_node_145 ?_
                            refine x_iload C dX11_node_148 (q := 0) rfl ?_
                            refine m_iald C rfl (fun _ _ => rfl) dX11_node_150 h (fun k147 hk147 h => ?_)
                            refine x_letI h (fun v148 h => ?_)
                            refine x_if_ne C (tgt := 171) dX11_node_151 (by decide) h (fun hc149 h => ?_) (fun hc149 h => ?_)
                            · refine x_iconst C (v := 0) dX11_node_171 (by decide) ?_
                              refine x_iadd C dX11_node_172 ?_
                              refine x_letI h (fun v150 h => ?_)
                              refine x_istore_n C (L' := [(3, .int v150), (5, .int v138), (0, .ref (xaM G 0)), (1, .int x1), (2, .int x2), (4, .int y132)]) dX11_node_173 rfl (by decide) rfl ?_
                              refine x_iincL C (w := 1) (L' := fun v151 => [(4, .int v151), (3, .int v150), (5, .int v138), (0, .ref (xaM G 0)), (1, .int x1), (2, .int x2)]) dX11_node_174 (k := 5) rfl (by decide) (by decide) (fun _ => rfl) h (fun v151 h => ?_)
                              refine x_goto C (tgt := 84) dX11_node_177 (by decide) ?_
                              exact x_sub [3, 4, 5, 1, 0] rfl (ih _ _ h)
                            · refine x_goto C (tgt := 167) dX11_node_154 (by decide) ?_
                              refine x_iconst C (v := 1) dX11_node_167 (by decide) ?_
                              refine x_goto C (tgt := 172) dX11_node_168 (by decide) ?_
                              refine x_iadd C dX11_node_172 ?_
                              refine x_letI h (fun v152 h => ?_)
                              refine x_istore_n C (L' := [(3, .int v152), (5, .int v138), (0, .ref (xaM G 0)), (1, .int x1), (2, .int x2), (4, .int y132)]) dX11_node_173 rfl (by decide) rfl ?_
                              refine x_iincL C (w := 1) (L' := fun v153 => [(4, .int v153), (3, .int v152), (5, .int v138), (0, .ref (xaM G 0)), (1, .int x1), (2, .int x2)]) dX11_node_174 (k := 5) rfl (by decide) (by decide) (fun _ => rfl) h (fun v153 h => ?_)
                              refine x_goto C (tgt := 84) dX11_node_177 (by decide) ?_
                              exact x_sub [3, 4, 5, 1, 0] rfl (ih _ _ h)
                        · refine x_iload_n C dX11_node_98 rfl (q := 3) rfl ?_
                          refine x_aload_n C dX11_node_99 rfl (q := 0) rfl ?_
                          refine m_get C cl_X11 16 (by decide) fl_X11_42_X11 rfl rfl dX11_node_100 ?_
                          refine x_bipush C (v := 16) dX11_node_103 (by decide) ?_
                          refine x_iload_n C dX11_node_105 rfl (q := 1) rfl ?_
                          refine x_imul C dX11_node_106 ?_
                          refine x_iload C dX11_node_107 (q := 4) rfl ?_
                          refine x_iadd C dX11_node_109 ?_
                          refine m_bald C rfl (fun _ _ => rfl) dX11_node_110 h (fun k154 hk154 h => ?_)
                          refine x_letI h (fun v155 h => ?_)
                          obtain ⟨v156, hv158, h⟩ := bnd1_some h
                          refine x_join (Ω' := (xRep G z σ τ)) (pc' := 119) (L' := [(0, .ref (xaM G 0)), (1, .int x1), (2, .int x2), (4, .int y132)]) (st' := [.int v156, .int y131]) ?_ (fun hj157 => ?_)
                          · refine x_iadd C dX11_node_119 ?_
                            refine x_letI h (fun v160 h => ?_)
                            refine x_istore_n C (L' := [(3, .int v160), (0, .ref (xaM G 0)), (1, .int x1), (2, .int x2), (4, .int y132)]) dX11_node_120 rfl (by decide) rfl ?_
                            refine x_goto C (tgt := 174) dX11_node_121 (by decide) ?_
                            refine x_iincL C (w := 1) (L' := fun v161 => [(4, .int v161), (3, .int v160), (0, .ref (xaM G 0)), (1, .int x1), (2, .int x2)]) dX11_node_174 (k := 4) rfl (by decide) (by decide) (fun _ => rfl) h (fun v161 h => ?_)
                            refine x_goto C (tgt := 84) dX11_node_177 (by decide) ?_
                            exact x_sub [2, 3, 4, 1, 0] rfl (ih _ _ h)
                          · replace h := hv158
                            clear hv158
                            refine x_if_eq C (tgt := 118) dX11_node_111 (by decide) h (fun hc159 h => ?_) (fun hc159 h => ?_)
                            · refine x_iconst C (v := 0) dX11_node_118 (by decide) ?_
                              cases h
                              exact x_sub [0, 1, 2, 4] rfl hj157
                            · refine x_iconst C (v := 1) dX11_node_114 (by decide) ?_
                              refine x_goto C (tgt := 119) dX11_node_115 (by decide) ?_
                              cases h
                              exact x_sub [0, 1, 2, 4] rfl hj157
                  exact x_sub [2, 3, 4, 1, 0] rfl (hl162 FU _ _ hv135)
              · refine x_iload_n C dX11_node_50 rfl (q := 2) rfl ?_
                refine x_iconst C (v := 1) dX11_node_51 (by decide) ?_
                refine x_icmp_ne C (tgt := 64) dX11_node_52 (by decide) h (fun hc163 h => ?_) (fun hc163 h => ?_)
                · refine x_aload_n C dX11_node_64 rfl (q := 0) rfl ?_
                  refine m_get C cl_X11 6 (by decide) fl_X11_7_X11 rfl rfl dX11_node_65 ?_
                  refine x_iload_n C dX11_node_68 rfl (q := 1) rfl ?_
                  refine m_bald C rfl (fun _ _ => rfl) dX11_node_69 h (fun k164 hk164 h => ?_)
                  refine x_letI h (fun v165 h => ?_)
                  refine x_if_eq C (tgt := 77) dX11_node_70 (by decide) h (fun hc166 h => ?_) (fun hc166 h => ?_)
                  · refine x_iconst C (v := 0) dX11_node_77 (by decide) ?_
                    cases h
                    exact xr_i C hr dX11_node_78 (fun _ h => h)
                  · refine x_iconst C (v := 1) dX11_node_73 (by decide) ?_
                    refine x_goto C (tgt := 78) dX11_node_74 (by decide) ?_
                    cases h
                    exact xr_i C hr dX11_node_78 (fun _ h => h)
                · refine x_aload_n C dX11_node_55 rfl (q := 0) rfl ?_
                  refine m_get C cl_X11 7 (by decide) fl_X11_13_X11 rfl rfl dX11_node_56 ?_
                  refine x_iload_n C dX11_node_59 rfl (q := 1) rfl ?_
                  refine m_iald C rfl (fun _ _ => rfl) dX11_node_60 h (fun k167 hk167 h => ?_)
                  refine x_letI h (fun v168 h => ?_)
                  refine x_goto C (tgt := 78) dX11_node_61 (by decide) ?_
                  cases h
                  exact xr_i C hr dX11_node_78 (fun _ h => h)
            · refine x_iconst C (v := (-1)) dX11_node_43 (by decide) ?_
              cases h
              exact xr_i C hr dX11_node_44 (fun _ h => h)
def f_X11_entry (z : Nat → Nat) (τ : Tg) (x1 : Int32) (x2 : Int32) (x3 : Int32) : Option Int32 :=
  bnd1 (f_X11_isNode z τ x1) fun r2 => if r2 = 0 then (some ((-1))) else (gdx x1 (mlen 7) fun k4 => letv (τ.1 7 k4) fun v5 => bnd1 (f_X11_in x2 0 (v5 - 1)) fun r7 => if r7 = 0 then (some ((-1))) else (bnd1 (f_X11_in x3 0 3) fun r10 => if r10 = 0 then (some ((-1))) else (gdx (((800 * x1) + (4 * x2)) + x3) (mlen 8) fun k12 => letv (τ.1 8 k12) fun v13 => some (v13))))
def rm_X11_entry : Room := { frames := 2, cells := 0, slots := 0, locals := 43 }
set_option maxRecDepth 100000 in
set_option maxHeartbeats 4000000 in
theorem m_X11_entry {l : Launch} {G : xG} {z : Nat → Nat} {σ : Sg} {τ : Tg} {x1 : Int32} {x2 : Int32} {x3 : Int32} {rF : Int32} (h : f_X11_entry z τ x1 x2 x3 = some (rF)) : xMet l (xD G) (xcA G) (xbs G) yX11_entry cX11_entry 4 (Option.some Jvm.ClassFile.FieldType.int) rm_X11_entry [.ref (xaM G 0), .int x1, .int x2, .int x3] (xRep G z σ τ) (xRep G z σ τ) (some (.int rF)) 0 0 := by
  refine xMet.of RX11 rfl (by decide +kernel) (Nat.le_of_ble_eq_true rfl) ?_
  intro p e s m args below meth c C hr hnm
  unfold f_X11_entry at h
  refine x_sub (L' := [(0, .ref (xaM G 0)), (1, .int x1), (2, .int x2), (3, .int x3)]) [0, 1, 2, 3] rfl ?_
  refine x_aload_n C dX11_entry_0 rfl (q := 0) rfl ?_
  refine x_iload_n C dX11_entry_1 rfl (q := 1) rfl ?_
  obtain ⟨r2, hq1, h⟩ := bnd1_some h
  refine x_callV_i C (m_X11_isNode hq1) wv_X11_211 (m_recv C.2.2.2 cl_X11 rfl) rfl (Nat.le_of_ble_eq_true rfl) ⟨⟨rfl, rfl⟩, Nat.le_of_ble_eq_true rfl, Nat.le_of_ble_eq_true rfl⟩ dX11_entry_2 rfl ?_
  refine x_if_eq C (tgt := 52) dX11_entry_5 (by decide) h (fun hc3 h => ?_) (fun hc3 h => ?_)
  · refine x_iconst C (v := (-1)) dX11_entry_52 (by decide) ?_
    cases h
    exact xr_i C hr dX11_entry_53 (fun _ h => h)
  · refine x_iload_n C dX11_entry_8 rfl (q := 2) rfl ?_
    refine x_iconst C (v := 0) dX11_entry_9 (by decide) ?_
    refine x_aload_n C dX11_entry_10 rfl (q := 0) rfl ?_
    refine m_get C cl_X11 7 (by decide) fl_X11_13_X11 rfl rfl dX11_entry_11 ?_
    refine x_iload_n C dX11_entry_14 rfl (q := 1) rfl ?_
    refine m_iald C rfl (fun _ _ => rfl) dX11_entry_15 h (fun k4 hk4 h => ?_)
    refine x_letI h (fun v5 h => ?_)
    refine x_iconst C (v := 1) dX11_entry_16 (by decide) ?_
    refine x_isub C dX11_entry_17 ?_
    obtain ⟨r7, hq6, h⟩ := bnd1_some h
    refine x_callS_i C (m_X11_in hq6) ws_X11_120 rfl (Nat.le_of_ble_eq_true rfl) ⟨⟨rfl, rfl⟩, Nat.le_of_ble_eq_true rfl, Nat.le_of_ble_eq_true rfl⟩ dX11_entry_18 rfl ?_
    refine x_if_eq C (tgt := 52) dX11_entry_21 (by decide) h (fun hc8 h => ?_) (fun hc8 h => ?_)
    · refine x_iconst C (v := (-1)) dX11_entry_52 (by decide) ?_
      cases h
      exact xr_i C hr dX11_entry_53 (fun _ h => h)
    · refine x_iload_n C dX11_entry_24 rfl (q := 3) rfl ?_
      refine x_iconst C (v := 0) dX11_entry_25 (by decide) ?_
      refine x_iconst C (v := 3) dX11_entry_26 (by decide) ?_
      obtain ⟨r10, hq9, h⟩ := bnd1_some h
      refine x_callS_i C (m_X11_in hq9) ws_X11_120 rfl (Nat.le_of_ble_eq_true rfl) ⟨⟨rfl, rfl⟩, Nat.le_of_ble_eq_true rfl, Nat.le_of_ble_eq_true rfl⟩ dX11_entry_27 rfl ?_
      refine x_if_eq C (tgt := 52) dX11_entry_30 (by decide) h (fun hc11 h => ?_) (fun hc11 h => ?_)
      · refine x_iconst C (v := (-1)) dX11_entry_52 (by decide) ?_
        cases h
        exact xr_i C hr dX11_entry_53 (fun _ h => h)
      · refine x_aload_n C dX11_entry_33 rfl (q := 0) rfl ?_
        refine m_get C cl_X11 8 (by decide) fl_X11_17_X11 rfl rfl dX11_entry_34 ?_
        refine x_sipush C (v := 800) dX11_entry_37 (by decide) ?_
        refine x_iload_n C dX11_entry_40 rfl (q := 1) rfl ?_
        refine x_imul C dX11_entry_41 ?_
        refine x_iconst C (v := 4) dX11_entry_42 (by decide) ?_
        refine x_iload_n C dX11_entry_43 rfl (q := 2) rfl ?_
        refine x_imul C dX11_entry_44 ?_
        refine x_iadd C dX11_entry_45 ?_
        refine x_iload_n C dX11_entry_46 rfl (q := 3) rfl ?_
        refine x_iadd C dX11_entry_47 ?_
        refine m_iald C rfl (fun _ _ => rfl) dX11_entry_48 h (fun k12 hk12 h => ?_)
        refine x_letI h (fun v13 h => ?_)
        refine x_goto C (tgt := 53) dX11_entry_49 (by decide) ?_
        cases h
        exact xr_i C hr dX11_entry_53 (fun _ h => h)
def f_X11_ballot (z : Nat → Nat) (τ : Tg) (x1 : Int32) (x2 : Int32) (x3 : Int32) : Option Int32 :=
  bnd1 (f_X11_isAcceptor z τ x1) fun r2 => if r2 = 0 then (some ((-1))) else (bnd1 (f_X11_isTxn z τ x2) fun r5 => if r5 = 0 then (some ((-1))) else (bnd1 (f_X11_in x3 0 3) fun r8 => if r8 = 0 then (some ((-1))) else (letv ((16 * (x1 - (nI (z 0)))) + x2) fun v10 => if x3 = 0 then (gdx v10 (mlen 19) fun k22 => letv (τ.1 19 k22) fun v23 => some (v23)) else (if x3 = 1 then (gdx v10 (mlen 20) fun k20 => letv (τ.1 20 k20) fun v21 => some (v21)) else (if x3 = 2 then (gdx v10 (mlen 21) fun k18 => letv (τ.1 21 k18) fun v19 => some (v19)) else (gdx v10 (mlen 22) fun k14 => letv (τ.1 22 k14) fun v15 => bnd1 (f_X11_bits v15) fun r17 => some (r17)))))))
def rm_X11_ballot : Room := { frames := 2, cells := 0, slots := 0, locals := 43 }
set_option maxRecDepth 100000 in
set_option maxHeartbeats 4000000 in
theorem m_X11_ballot {l : Launch} {G : xG} {z : Nat → Nat} {σ : Sg} {τ : Tg} {x1 : Int32} {x2 : Int32} {x3 : Int32} {rF : Int32} (h : f_X11_ballot z τ x1 x2 x3 = some (rF)) : xMet l (xD G) (xcA G) (xbs G) yX11_ballot cX11_ballot 5 (Option.some Jvm.ClassFile.FieldType.int) rm_X11_ballot [.ref (xaM G 0), .int x1, .int x2, .int x3] (xRep G z σ τ) (xRep G z σ τ) (some (.int rF)) 0 0 := by
  refine xMet.of RX11 rfl (by decide +kernel) (Nat.le_of_ble_eq_true rfl) ?_
  intro p e s m args below meth c C hr hnm
  unfold f_X11_ballot at h
  refine x_sub (L' := [(0, .ref (xaM G 0)), (1, .int x1), (2, .int x2), (3, .int x3)]) [0, 1, 2, 3] rfl ?_
  refine x_aload_n C dX11_ballot_0 rfl (q := 0) rfl ?_
  refine x_iload_n C dX11_ballot_1 rfl (q := 1) rfl ?_
  obtain ⟨r2, hq1, h⟩ := bnd1_some h
  refine x_callV_i C (m_X11_isAcceptor hq1) wv_X11_208 (m_recv C.2.2.2 cl_X11 rfl) rfl (Nat.le_of_ble_eq_true rfl) ⟨⟨rfl, rfl⟩, Nat.le_of_ble_eq_true rfl, Nat.le_of_ble_eq_true rfl⟩ dX11_ballot_2 rfl ?_
  refine x_if_eq C (tgt := 25) dX11_ballot_5 (by decide) h (fun hc3 h => ?_) (fun hc3 h => ?_)
  · refine x_iconst C (v := (-1)) dX11_ballot_25 (by decide) ?_
    cases h
    exact xr_i C hr dX11_ballot_26 (fun _ h => h)
  · refine x_aload_n C dX11_ballot_8 rfl (q := 0) rfl ?_
    refine x_iload_n C dX11_ballot_9 rfl (q := 2) rfl ?_
    obtain ⟨r5, hq4, h⟩ := bnd1_some h
    refine x_callV_i C (m_X11_isTxn hq4) wv_X11_132 (m_recv C.2.2.2 cl_X11 rfl) rfl (Nat.le_of_ble_eq_true rfl) ⟨⟨rfl, rfl⟩, Nat.le_of_ble_eq_true rfl, Nat.le_of_ble_eq_true rfl⟩ dX11_ballot_10 rfl ?_
    refine x_if_eq C (tgt := 25) dX11_ballot_13 (by decide) h (fun hc6 h => ?_) (fun hc6 h => ?_)
    · refine x_iconst C (v := (-1)) dX11_ballot_25 (by decide) ?_
      cases h
      exact xr_i C hr dX11_ballot_26 (fun _ h => h)
    · refine x_iload_n C dX11_ballot_16 rfl (q := 3) rfl ?_
      refine x_iconst C (v := 0) dX11_ballot_17 (by decide) ?_
      refine x_iconst C (v := 3) dX11_ballot_18 (by decide) ?_
      obtain ⟨r8, hq7, h⟩ := bnd1_some h
      refine x_callS_i C (m_X11_in hq7) ws_X11_120 rfl (Nat.le_of_ble_eq_true rfl) ⟨⟨rfl, rfl⟩, Nat.le_of_ble_eq_true rfl, Nat.le_of_ble_eq_true rfl⟩ dX11_ballot_19 rfl ?_
      refine x_if_ne C (tgt := 27) dX11_ballot_22 (by decide) h (fun hc9 h => ?_) (fun hc9 h => ?_)
      · refine x_bipush C (v := 16) dX11_ballot_27 (by decide) ?_
        refine x_iload_n C dX11_ballot_29 rfl (q := 1) rfl ?_
        refine x_aload_n C dX11_ballot_30 rfl (q := 0) rfl ?_
        refine m_get C cl_X11 0 (by decide) fl_X11_97_X11 rfl rfl dX11_ballot_31 ?_
        refine x_isub C dX11_ballot_34 ?_
        refine x_imul C dX11_ballot_35 ?_
        refine x_iload_n C dX11_ballot_36 rfl (q := 2) rfl ?_
        refine x_iadd C dX11_ballot_37 ?_
        refine x_letI h (fun v10 h => ?_)
        refine x_istore C (L' := [(4, .int v10), (0, .ref (xaM G 0)), (1, .int x1), (2, .int x2), (3, .int x3)]) dX11_ballot_38 (by decide) rfl ?_
        refine x_iload_n C dX11_ballot_40 rfl (q := 4) rfl ?_
        refine x_if_ne C (tgt := 54) dX11_ballot_41 (by decide) h (fun hc11 h => ?_) (fun hc11 h => ?_)
        · refine x_iload_n C dX11_ballot_54 rfl (q := 4) rfl ?_
          refine x_iconst C (v := 1) dX11_ballot_55 (by decide) ?_
          refine x_icmp_ne C (tgt := 69) dX11_ballot_56 (by decide) h (fun hc12 h => ?_) (fun hc12 h => ?_)
          · refine x_iload_n C dX11_ballot_69 rfl (q := 4) rfl ?_
            refine x_iconst C (v := 2) dX11_ballot_70 (by decide) ?_
            refine x_icmp_ne C (tgt := 84) dX11_ballot_71 (by decide) h (fun hc13 h => ?_) (fun hc13 h => ?_)
            · refine x_aload_n C dX11_ballot_84 rfl (q := 1) rfl ?_
              refine m_get C cl_X11 22 (by decide) fl_X11_60_X11 rfl rfl dX11_ballot_85 ?_
              refine x_iload C dX11_ballot_88 (q := 0) rfl ?_
              refine m_iald C rfl (fun _ _ => rfl) dX11_ballot_90 h (fun k14 hk14 h => ?_)
              refine x_letI h (fun v15 h => ?_)
              obtain ⟨r17, hq16, h⟩ := bnd1_some h
              refine x_callS_i C (m_X11_bits hq16) ws_X11_124 rfl (Nat.le_of_ble_eq_true rfl) ⟨⟨rfl, rfl⟩, Nat.le_of_ble_eq_true rfl, Nat.le_of_ble_eq_true rfl⟩ dX11_ballot_91 rfl ?_
              cases h
              exact xr_i C hr dX11_ballot_94 (fun _ h => h)
            · refine x_aload_n C dX11_ballot_74 rfl (q := 1) rfl ?_
              refine m_get C cl_X11 21 (by decide) fl_X11_57_X11 rfl rfl dX11_ballot_75 ?_
              refine x_iload C dX11_ballot_78 (q := 0) rfl ?_
              refine m_iald C rfl (fun _ _ => rfl) dX11_ballot_80 h (fun k18 hk18 h => ?_)
              refine x_letI h (fun v19 h => ?_)
              refine x_goto C (tgt := 94) dX11_ballot_81 (by decide) ?_
              cases h
              exact xr_i C hr dX11_ballot_94 (fun _ h => h)
          · refine x_aload_n C dX11_ballot_59 rfl (q := 1) rfl ?_
            refine m_get C cl_X11 20 (by decide) fl_X11_54_X11 rfl rfl dX11_ballot_60 ?_
            refine x_iload C dX11_ballot_63 (q := 0) rfl ?_
            refine m_iald C rfl (fun _ _ => rfl) dX11_ballot_65 h (fun k20 hk20 h => ?_)
            refine x_letI h (fun v21 h => ?_)
            refine x_goto C (tgt := 94) dX11_ballot_66 (by decide) ?_
            cases h
            exact xr_i C hr dX11_ballot_94 (fun _ h => h)
        · refine x_aload_n C dX11_ballot_44 rfl (q := 1) rfl ?_
          refine m_get C cl_X11 19 (by decide) fl_X11_51_X11 rfl rfl dX11_ballot_45 ?_
          refine x_iload C dX11_ballot_48 (q := 0) rfl ?_
          refine m_iald C rfl (fun _ _ => rfl) dX11_ballot_50 h (fun k22 hk22 h => ?_)
          refine x_letI h (fun v23 h => ?_)
          refine x_goto C (tgt := 94) dX11_ballot_51 (by decide) ?_
          cases h
          exact xr_i C hr dX11_ballot_94 (fun _ h => h)
      · refine x_iconst C (v := (-1)) dX11_ballot_25 (by decide) ?_
        cases h
        exact xr_i C hr dX11_ballot_26 (fun _ h => h)
def f_X11_accepted (z : Nat → Nat) (τ : Tg) (x1 : Int32) (x2 : Int32) (x3 : Int32) (x4 : Int32) : Option Int32 :=
  bnd1 (f_X11_isAcceptor z τ x1) fun r2 => if r2 = 0 then (some ((-1))) else (bnd1 (f_X11_isTxn z τ x2) fun r5 => if r5 = 0 then (some ((-1))) else (bnd1 (f_X11_in x3 0 ((nI (z 0)) - 1)) fun r8 => if r8 = 0 then (some ((-1))) else (bnd1 (f_X11_in x4 0 2) fun r11 => if r11 = 0 then (some ((-1))) else (letv (((64 * (x1 - (nI (z 0)))) + (4 * x2)) + x3) fun v13 => if x4 = 0 then (gdx v13 (mlen 23) fun k24 => letv (τ.1 23 k24) fun v25 => some (v25)) else (if x4 = 1 then (gdx v13 (mlen 24) fun k22 => letv (τ.1 24 k22) fun v23 => some (v23)) else (gdx v13 (mlen 25) fun k16 => letv (τ.1 25 k16) fun v17 => gdx v13 (mlen 26) fun k18 => letv (τ.1 26 k18) fun v19 => bnd1 (f_X11_bits (v17 ||| v19)) fun r21 => some (r21)))))))
def rm_X11_accepted : Room := { frames := 2, cells := 0, slots := 0, locals := 43 }
set_option maxRecDepth 100000 in
set_option maxHeartbeats 4000000 in
theorem m_X11_accepted {l : Launch} {G : xG} {z : Nat → Nat} {σ : Sg} {τ : Tg} {x1 : Int32} {x2 : Int32} {x3 : Int32} {x4 : Int32} {rF : Int32} (h : f_X11_accepted z τ x1 x2 x3 x4 = some (rF)) : xMet l (xD G) (xcA G) (xbs G) yX11_accepted cX11_accepted 6 (Option.some Jvm.ClassFile.FieldType.int) rm_X11_accepted [.ref (xaM G 0), .int x1, .int x2, .int x3, .int x4] (xRep G z σ τ) (xRep G z σ τ) (some (.int rF)) 0 0 := by
  refine xMet.of RX11 rfl (by decide +kernel) (Nat.le_of_ble_eq_true rfl) ?_
  intro p e s m args below meth c C hr hnm
  unfold f_X11_accepted at h
  refine x_sub (L' := [(0, .ref (xaM G 0)), (1, .int x1), (2, .int x2), (3, .int x3), (4, .int x4)]) [0, 1, 2, 3, 4] rfl ?_
  refine x_aload_n C dX11_accepted_0 rfl (q := 0) rfl ?_
  refine x_iload_n C dX11_accepted_1 rfl (q := 1) rfl ?_
  obtain ⟨r2, hq1, h⟩ := bnd1_some h
  refine x_callV_i C (m_X11_isAcceptor hq1) wv_X11_208 (m_recv C.2.2.2 cl_X11 rfl) rfl (Nat.le_of_ble_eq_true rfl) ⟨⟨rfl, rfl⟩, Nat.le_of_ble_eq_true rfl, Nat.le_of_ble_eq_true rfl⟩ dX11_accepted_2 rfl ?_
  refine x_if_eq C (tgt := 40) dX11_accepted_5 (by decide) h (fun hc3 h => ?_) (fun hc3 h => ?_)
  · refine x_iconst C (v := (-1)) dX11_accepted_40 (by decide) ?_
    cases h
    exact xr_i C hr dX11_accepted_41 (fun _ h => h)
  · refine x_aload_n C dX11_accepted_8 rfl (q := 0) rfl ?_
    refine x_iload_n C dX11_accepted_9 rfl (q := 2) rfl ?_
    obtain ⟨r5, hq4, h⟩ := bnd1_some h
    refine x_callV_i C (m_X11_isTxn hq4) wv_X11_132 (m_recv C.2.2.2 cl_X11 rfl) rfl (Nat.le_of_ble_eq_true rfl) ⟨⟨rfl, rfl⟩, Nat.le_of_ble_eq_true rfl, Nat.le_of_ble_eq_true rfl⟩ dX11_accepted_10 rfl ?_
    refine x_if_eq C (tgt := 40) dX11_accepted_13 (by decide) h (fun hc6 h => ?_) (fun hc6 h => ?_)
    · refine x_iconst C (v := (-1)) dX11_accepted_40 (by decide) ?_
      cases h
      exact xr_i C hr dX11_accepted_41 (fun _ h => h)
    · refine x_iload_n C dX11_accepted_16 rfl (q := 3) rfl ?_
      refine x_iconst C (v := 0) dX11_accepted_17 (by decide) ?_
      refine x_aload_n C dX11_accepted_18 rfl (q := 0) rfl ?_
      refine m_get C cl_X11 0 (by decide) fl_X11_97_X11 rfl rfl dX11_accepted_19 ?_
      refine x_iconst C (v := 1) dX11_accepted_22 (by decide) ?_
      refine x_isub C dX11_accepted_23 ?_
      obtain ⟨r8, hq7, h⟩ := bnd1_some h
      refine x_callS_i C (m_X11_in hq7) ws_X11_120 rfl (Nat.le_of_ble_eq_true rfl) ⟨⟨rfl, rfl⟩, Nat.le_of_ble_eq_true rfl, Nat.le_of_ble_eq_true rfl⟩ dX11_accepted_24 rfl ?_
      refine x_if_eq C (tgt := 40) dX11_accepted_27 (by decide) h (fun hc9 h => ?_) (fun hc9 h => ?_)
      · refine x_iconst C (v := (-1)) dX11_accepted_40 (by decide) ?_
        cases h
        exact xr_i C hr dX11_accepted_41 (fun _ h => h)
      · refine x_iload C dX11_accepted_30 (q := 4) rfl ?_
        refine x_iconst C (v := 0) dX11_accepted_32 (by decide) ?_
        refine x_iconst C (v := 2) dX11_accepted_33 (by decide) ?_
        obtain ⟨r11, hq10, h⟩ := bnd1_some h
        refine x_callS_i C (m_X11_in hq10) ws_X11_120 rfl (Nat.le_of_ble_eq_true rfl) ⟨⟨rfl, rfl⟩, Nat.le_of_ble_eq_true rfl, Nat.le_of_ble_eq_true rfl⟩ dX11_accepted_34 rfl ?_
        refine x_if_ne C (tgt := 42) dX11_accepted_37 (by decide) h (fun hc12 h => ?_) (fun hc12 h => ?_)
        · refine x_bipush C (v := 64) dX11_accepted_42 (by decide) ?_
          refine x_iload_n C dX11_accepted_44 rfl (q := 1) rfl ?_
          refine x_aload_n C dX11_accepted_45 rfl (q := 0) rfl ?_
          refine m_get C cl_X11 0 (by decide) fl_X11_97_X11 rfl rfl dX11_accepted_46 ?_
          refine x_isub C dX11_accepted_49 ?_
          refine x_imul C dX11_accepted_50 ?_
          refine x_iconst C (v := 4) dX11_accepted_51 (by decide) ?_
          refine x_iload_n C dX11_accepted_52 rfl (q := 2) rfl ?_
          refine x_imul C dX11_accepted_53 ?_
          refine x_iadd C dX11_accepted_54 ?_
          refine x_iload_n C dX11_accepted_55 rfl (q := 3) rfl ?_
          refine x_iadd C dX11_accepted_56 ?_
          refine x_letI h (fun v13 h => ?_)
          refine x_istore C (L' := [(5, .int v13), (0, .ref (xaM G 0)), (1, .int x1), (2, .int x2), (3, .int x3), (4, .int x4)]) dX11_accepted_57 (by decide) rfl ?_
          refine x_iload C dX11_accepted_59 (q := 5) rfl ?_
          refine x_if_ne C (tgt := 74) dX11_accepted_61 (by decide) h (fun hc14 h => ?_) (fun hc14 h => ?_)
          · refine x_iload C dX11_accepted_74 (q := 5) rfl ?_
            refine x_iconst C (v := 1) dX11_accepted_76 (by decide) ?_
            refine x_icmp_ne C (tgt := 90) dX11_accepted_77 (by decide) h (fun hc15 h => ?_) (fun hc15 h => ?_)
            · refine x_aload_n C dX11_accepted_90 rfl (q := 1) rfl ?_
              refine m_get C cl_X11 25 (by decide) fl_X11_69_X11 rfl rfl dX11_accepted_91 ?_
              refine x_iload C dX11_accepted_94 (q := 0) rfl ?_
              refine m_iald C rfl (fun _ _ => rfl) dX11_accepted_96 h (fun k16 hk16 h => ?_)
              refine x_letI h (fun v17 h => ?_)
              refine x_aload_n C dX11_accepted_97 rfl (q := 1) rfl ?_
              refine m_get C cl_X11 26 (by decide) fl_X11_72_X11 rfl rfl dX11_accepted_98 ?_
              refine x_iload C dX11_accepted_101 (q := 0) rfl ?_
              refine m_iald C rfl (fun _ _ => rfl) dX11_accepted_103 h (fun k18 hk18 h => ?_)
              refine x_letI h (fun v19 h => ?_)
              refine x_ior C dX11_accepted_104 ?_
              obtain ⟨r21, hq20, h⟩ := bnd1_some h
              refine x_callS_i C (m_X11_bits hq20) ws_X11_124 rfl (Nat.le_of_ble_eq_true rfl) ⟨⟨rfl, rfl⟩, Nat.le_of_ble_eq_true rfl, Nat.le_of_ble_eq_true rfl⟩ dX11_accepted_105 rfl ?_
              cases h
              exact xr_i C hr dX11_accepted_108 (fun _ h => h)
            · refine x_aload_n C dX11_accepted_80 rfl (q := 1) rfl ?_
              refine m_get C cl_X11 24 (by decide) fl_X11_66_X11 rfl rfl dX11_accepted_81 ?_
              refine x_iload C dX11_accepted_84 (q := 0) rfl ?_
              refine m_iald C rfl (fun _ _ => rfl) dX11_accepted_86 h (fun k22 hk22 h => ?_)
              refine x_letI h (fun v23 h => ?_)
              refine x_goto C (tgt := 108) dX11_accepted_87 (by decide) ?_
              cases h
              exact xr_i C hr dX11_accepted_108 (fun _ h => h)
          · refine x_aload_n C dX11_accepted_64 rfl (q := 1) rfl ?_
            refine m_get C cl_X11 23 (by decide) fl_X11_63_X11 rfl rfl dX11_accepted_65 ?_
            refine x_iload C dX11_accepted_68 (q := 0) rfl ?_
            refine m_iald C rfl (fun _ _ => rfl) dX11_accepted_70 h (fun k24 hk24 h => ?_)
            refine x_letI h (fun v25 h => ?_)
            refine x_goto C (tgt := 108) dX11_accepted_71 (by decide) ?_
            cases h
            exact xr_i C hr dX11_accepted_108 (fun _ h => h)
        · refine x_iconst C (v := (-1)) dX11_accepted_40 (by decide) ?_
          cases h
          exact xr_i C hr dX11_accepted_41 (fun _ h => h)
def f_X11_count_L69 (z : Nat → Nat) (τ : Tg) (x1 : Int32) : Nat → Int32 → Int32 → Option Int32
  | 0, _, _ => none
  | n + 1, y8, y9 => if (nI (z 2)) ≤ y9 then (some (y8)) else (gdx y9 (mlen 12) fun k14 => letv (τ.1 12 k14) fun v15 => if v15 = x1 then (letv (y8 + 1) fun v19 => letv (y9 + 1) fun v20 => f_X11_count_L69 z τ x1 n v19 v20) else (letv (y8 + 0) fun v17 => letv (y9 + 1) fun v18 => f_X11_count_L69 z τ x1 n v17 v18))
def f_X11_count_L69_2 (z : Nat → Nat) (τ : Tg) (x1 : Int32) : Nat → Int32 → Int32 → Option Int32
  | 0, _, _ => none
  | n + 1, y23, y24 => if (nI (z 2)) ≤ y24 then (some (y23)) else (gdx y24 (mlen 12) fun k29 => letv (τ.1 12 k29) fun v30 => if v30 = x1 then (letv (y23 + 1) fun v34 => letv (y24 + 1) fun v35 => f_X11_count_L69_2 z τ x1 n v34 v35) else (letv (y23 + 0) fun v32 => letv (y24 + 1) fun v33 => f_X11_count_L69_2 z τ x1 n v32 v33))
def f_X11_count (z : Nat → Nat) (τ : Tg) (x1 : Int32) : Option Int32 :=
  if x1 = 0 then (letv (τ.1 0 32) fun v2 => some (v2)) else (if x1 = 1 then (letv (τ.1 0 33) fun v4 => some (v4)) else (if x1 = 2 then (letv (τ.1 0 34) fun v6 => some (v6)) else (if x1 = 3 then (bnd1 (f_X11_count_L69 z τ x1 FU 0 0) fun (v10 : Int32) => some (v10)) else (if x1 = 4 then (bnd1 (f_X11_count_L69_2 z τ x1 FU 0 0) fun (v25 : Int32) => some (v25)) else (if x1 = 5 then (some (nI (z 0))) else (if x1 = 6 then (some (nI (z 1))) else (if x1 = 7 then (some (nI (z 2))) else (if x1 = 8 then (some (nI (z 3))) else (some ((-1)))))))))))
def rm_X11_count : Room := { frames := 0, cells := 0, slots := 0, locals := 0 }
set_option maxRecDepth 100000 in
set_option maxHeartbeats 4000000 in
theorem m_X11_count {l : Launch} {G : xG} {z : Nat → Nat} {σ : Sg} {τ : Tg} {x1 : Int32} {rF : Int32} (h : f_X11_count z τ x1 = some (rF)) : xMet l (xD G) (xcA G) (xbs G) yX11_count cX11_count 4 (Option.some Jvm.ClassFile.FieldType.int) rm_X11_count [.ref (xaM G 0), .int x1] (xRep G z σ τ) (xRep G z σ τ) (some (.int rF)) 0 0 := by
  refine xMet.of RX11 rfl (by decide +kernel) (Nat.le_of_ble_eq_true rfl) ?_
  intro p e s m args below meth c C hr hnm
  unfold f_X11_count at h
  refine x_sub (L' := [(0, .ref (xaM G 0)), (1, .int x1)]) [0, 1] rfl ?_
  refine x_iconst C (v := 0) dX11_count_0 (by decide) ?_
  refine x_istore_n C (L' := [(2, .int 0), (0, .ref (xaM G 0)), (1, .int x1)]) dX11_count_1 rfl (by decide) rfl ?_
  refine x_iload_n C dX11_count_2 rfl (q := 2) rfl ?_
  refine x_ite h (fun hc1 h => ?_) (fun hc1 h => ?_)
  · refine x_tableIn C (off := 49) (tgt := 52) dX11_count_3 0 hc1 (by decide) (by decide) rfl (by decide) ?_
    refine x_aload_n C dX11_count_52 rfl (q := 1) rfl ?_
    refine m_get C cl_X11 32 (by decide) fl_X11_154_X11 rfl rfl dX11_count_53 ?_
    refine x_letI h (fun v2 h => ?_)
    cases h
    exact xr_i C hr dX11_count_56 (fun _ h => h)
  · refine x_ite h (fun hc3 h => ?_) (fun hc3 h => ?_)
    · refine x_tableIn C (off := 54) (tgt := 57) dX11_count_3 1 hc3 (by decide) (by decide) rfl (by decide) ?_
      refine x_aload_n C dX11_count_57 rfl (q := 1) rfl ?_
      refine m_get C cl_X11 33 (by decide) fl_X11_160_X11 rfl rfl dX11_count_58 ?_
      refine x_letI h (fun v4 h => ?_)
      cases h
      exact xr_i C hr dX11_count_61 (fun _ h => h)
    · refine x_ite h (fun hc5 h => ?_) (fun hc5 h => ?_)
      · refine x_tableIn C (off := 59) (tgt := 62) dX11_count_3 2 hc5 (by decide) (by decide) rfl (by decide) ?_
        refine x_aload_n C dX11_count_62 rfl (q := 1) rfl ?_
        refine m_get C cl_X11 34 (by decide) fl_X11_169_X11 rfl rfl dX11_count_63 ?_
        refine x_letI h (fun v6 h => ?_)
        cases h
        exact xr_i C hr dX11_count_66 (fun _ h => h)
      · refine x_ite h (fun hc7 h => ?_) (fun hc7 h => ?_)
        · refine x_tableIn C (off := 64) (tgt := 67) dX11_count_3 3 hc7 (by decide) (by decide) rfl (by decide) ?_
          refine x_iconst C (v := 0) dX11_count_67 (by decide) ?_
          refine x_istore_n C (L' := [(3, .int 0), (2, .int 0), (0, .ref (xaM G 0)), (1, .int x1)]) dX11_count_68 rfl (by decide) rfl ?_
          obtain ⟨v10, hv12, h⟩ := bnd1_some h
          refine x_join (Ω' := (xRep G z σ τ)) (pc' := 101) (L' := [(2, .int v10)]) (st' := []) ?_ (fun hj11 => ?_)
          · refine x_iload_n C dX11_count_101 rfl (q := 0) rfl ?_
            cases h
            exact xr_i C hr dX11_count_102 (fun _ h => h)
          · have hl21 : ∀ (n : Nat) (y8 : Int32) (y9 : Int32), f_X11_count_L69 z τ x1 n y8 y9 = some (v10) → XW p l e rm_X11_count s m args below meth c 0 0 4 (xbs G) (xQ below args s (xbs G) (some (.int rF)) (xRep G z σ τ) 0 0) (xRep G z σ τ) 69 [(0, .ref (xaM G 0)), (1, .int x1), (2, .int y8), (3, .int y9)] [] := by
              intro n
              induction n with
              | zero =>
                intro y8 y9 h
                exact absurd h (by rw [f_X11_count_L69]; intro q; cases q)
              | succ n ih =>
                intro y8 y9 h
                rw [f_X11_count_L69] at h
                refine x_iload_n C dX11_count_69 rfl (q := 3) rfl ?_
                refine x_aload_n C dX11_count_70 rfl (q := 0) rfl ?_
                refine m_get C cl_X11 2 (by decide) fl_X11_104_X11 rfl rfl dX11_count_71 ?_
                refine x_icmp_ge C (tgt := 101) dX11_count_74 (by decide) h (fun hc13 h => ?_) (fun hc13 h => ?_)
                · cases h
                  exact x_sub [2] rfl hj11
                · refine x_iload_n C dX11_count_77 rfl (q := 2) rfl ?_
                  refine x_aload_n C dX11_count_78 rfl (q := 0) rfl ?_
                  refine m_get C cl_X11 12 (by decide) fl_X11_30_X11 rfl rfl dX11_count_79 ?_
                  refine x_iload_n C dX11_count_82 rfl (q := 3) rfl ?_
                  refine m_iald C rfl (fun _ _ => rfl) dX11_count_83 h (fun k14 hk14 h => ?_)
                  refine x_letI h (fun v15 h => ?_)
                  refine x_iload_n C dX11_count_84 rfl (q := 1) rfl ?_
                  refine x_icmp_ne C (tgt := 92) dX11_count_85 (by decide) h (fun hc16 h => ?_) (fun hc16 h => ?_)
                  · refine x_iconst C (v := 0) dX11_count_92 (by decide) ?_
                    refine x_iadd C dX11_count_93 ?_
                    refine x_letI h (fun v17 h => ?_)
                    refine x_istore_n C (L' := [(2, .int v17), (0, .ref (xaM G 0)), (1, .int x1), (3, .int y9)]) dX11_count_94 rfl (by decide) rfl ?_
                    refine x_iincL C (w := 1) (L' := fun v18 => [(3, .int v18), (2, .int v17), (0, .ref (xaM G 0)), (1, .int x1)]) dX11_count_95 (k := 3) rfl (by decide) (by decide) (fun _ => rfl) h (fun v18 h => ?_)
                    refine x_goto C (tgt := 69) dX11_count_98 (by decide) ?_
                    exact x_sub [2, 3, 1, 0] rfl (ih _ _ h)
                  · refine x_iconst C (v := 1) dX11_count_88 (by decide) ?_
                    refine x_goto C (tgt := 93) dX11_count_89 (by decide) ?_
                    refine x_iadd C dX11_count_93 ?_
                    refine x_letI h (fun v19 h => ?_)
                    refine x_istore_n C (L' := [(2, .int v19), (0, .ref (xaM G 0)), (1, .int x1), (3, .int y9)]) dX11_count_94 rfl (by decide) rfl ?_
                    refine x_iincL C (w := 1) (L' := fun v20 => [(3, .int v20), (2, .int v19), (0, .ref (xaM G 0)), (1, .int x1)]) dX11_count_95 (k := 3) rfl (by decide) (by decide) (fun _ => rfl) h (fun v20 h => ?_)
                    refine x_goto C (tgt := 69) dX11_count_98 (by decide) ?_
                    exact x_sub [2, 3, 1, 0] rfl (ih _ _ h)
            exact x_sub [2, 3, 1, 0] rfl (hl21 FU _ _ hv12)
        · refine x_ite h (fun hc22 h => ?_) (fun hc22 h => ?_)
          · refine x_tableIn C (off := 64) (tgt := 67) dX11_count_3 4 hc22 (by decide) (by decide) rfl (by decide) ?_
            refine x_iconst C (v := 0) dX11_count_67 (by decide) ?_
            refine x_istore_n C (L' := [(3, .int 0), (2, .int 0), (0, .ref (xaM G 0)), (1, .int x1)]) dX11_count_68 rfl (by decide) rfl ?_
            obtain ⟨v25, hv27, h⟩ := bnd1_some h
            refine x_join (Ω' := (xRep G z σ τ)) (pc' := 101) (L' := [(2, .int v25)]) (st' := []) ?_ (fun hj26 => ?_)
            · refine x_iload_n C dX11_count_101 rfl (q := 0) rfl ?_
              cases h
              exact xr_i C hr dX11_count_102 (fun _ h => h)
            · have hl36 : ∀ (n : Nat) (y23 : Int32) (y24 : Int32), f_X11_count_L69_2 z τ x1 n y23 y24 = some (v25) → XW p l e rm_X11_count s m args below meth c 0 0 4 (xbs G) (xQ below args s (xbs G) (some (.int rF)) (xRep G z σ τ) 0 0) (xRep G z σ τ) 69 [(0, .ref (xaM G 0)), (1, .int x1), (2, .int y23), (3, .int y24)] [] := by
                intro n
                induction n with
                | zero =>
                  intro y23 y24 h
                  exact absurd h (by rw [f_X11_count_L69_2]; intro q; cases q)
                | succ n ih =>
                  intro y23 y24 h
                  rw [f_X11_count_L69_2] at h
                  refine x_iload_n C dX11_count_69 rfl (q := 3) rfl ?_
                  refine x_aload_n C dX11_count_70 rfl (q := 0) rfl ?_
                  refine m_get C cl_X11 2 (by decide) fl_X11_104_X11 rfl rfl dX11_count_71 ?_
                  refine x_icmp_ge C (tgt := 101) dX11_count_74 (by decide) h (fun hc28 h => ?_) (fun hc28 h => ?_)
                  · cases h
                    exact x_sub [2] rfl hj26
                  · refine x_iload_n C dX11_count_77 rfl (q := 2) rfl ?_
                    refine x_aload_n C dX11_count_78 rfl (q := 0) rfl ?_
                    refine m_get C cl_X11 12 (by decide) fl_X11_30_X11 rfl rfl dX11_count_79 ?_
                    refine x_iload_n C dX11_count_82 rfl (q := 3) rfl ?_
                    refine m_iald C rfl (fun _ _ => rfl) dX11_count_83 h (fun k29 hk29 h => ?_)
                    refine x_letI h (fun v30 h => ?_)
                    refine x_iload_n C dX11_count_84 rfl (q := 1) rfl ?_
                    refine x_icmp_ne C (tgt := 92) dX11_count_85 (by decide) h (fun hc31 h => ?_) (fun hc31 h => ?_)
                    · refine x_iconst C (v := 0) dX11_count_92 (by decide) ?_
                      refine x_iadd C dX11_count_93 ?_
                      refine x_letI h (fun v32 h => ?_)
                      refine x_istore_n C (L' := [(2, .int v32), (0, .ref (xaM G 0)), (1, .int x1), (3, .int y24)]) dX11_count_94 rfl (by decide) rfl ?_
                      refine x_iincL C (w := 1) (L' := fun v33 => [(3, .int v33), (2, .int v32), (0, .ref (xaM G 0)), (1, .int x1)]) dX11_count_95 (k := 3) rfl (by decide) (by decide) (fun _ => rfl) h (fun v33 h => ?_)
                      refine x_goto C (tgt := 69) dX11_count_98 (by decide) ?_
                      exact x_sub [2, 3, 1, 0] rfl (ih _ _ h)
                    · refine x_iconst C (v := 1) dX11_count_88 (by decide) ?_
                      refine x_goto C (tgt := 93) dX11_count_89 (by decide) ?_
                      refine x_iadd C dX11_count_93 ?_
                      refine x_letI h (fun v34 h => ?_)
                      refine x_istore_n C (L' := [(2, .int v34), (0, .ref (xaM G 0)), (1, .int x1), (3, .int y24)]) dX11_count_94 rfl (by decide) rfl ?_
                      refine x_iincL C (w := 1) (L' := fun v35 => [(3, .int v35), (2, .int v34), (0, .ref (xaM G 0)), (1, .int x1)]) dX11_count_95 (k := 3) rfl (by decide) (by decide) (fun _ => rfl) h (fun v35 h => ?_)
                      refine x_goto C (tgt := 69) dX11_count_98 (by decide) ?_
                      exact x_sub [2, 3, 1, 0] rfl (ih _ _ h)
              exact x_sub [2, 3, 1, 0] rfl (hl36 FU _ _ hv27)
          · refine x_ite h (fun hc37 h => ?_) (fun hc37 h => ?_)
            · refine x_tableIn C (off := 100) (tgt := 103) dX11_count_3 5 hc37 (by decide) (by decide) rfl (by decide) ?_
              refine x_aload_n C dX11_count_103 rfl (q := 1) rfl ?_
              refine m_get C cl_X11 0 (by decide) fl_X11_97_X11 rfl rfl dX11_count_104 ?_
              cases h
              exact xr_i C hr dX11_count_107 (fun _ h => h)
            · refine x_ite h (fun hc38 h => ?_) (fun hc38 h => ?_)
              · refine x_tableIn C (off := 105) (tgt := 108) dX11_count_3 6 hc38 (by decide) (by decide) rfl (by decide) ?_
                refine x_aload_n C dX11_count_108 rfl (q := 1) rfl ?_
                refine m_get C cl_X11 1 (by decide) fl_X11_101_X11 rfl rfl dX11_count_109 ?_
                cases h
                exact xr_i C hr dX11_count_112 (fun _ h => h)
              · refine x_ite h (fun hc39 h => ?_) (fun hc39 h => ?_)
                · refine x_tableIn C (off := 110) (tgt := 113) dX11_count_3 7 hc39 (by decide) (by decide) rfl (by decide) ?_
                  refine x_aload_n C dX11_count_113 rfl (q := 1) rfl ?_
                  refine m_get C cl_X11 2 (by decide) fl_X11_104_X11 rfl rfl dX11_count_114 ?_
                  cases h
                  exact xr_i C hr dX11_count_117 (fun _ h => h)
                · refine x_ite h (fun hc40 h => ?_) (fun hc40 h => ?_)
                  · refine x_tableIn C (off := 115) (tgt := 118) dX11_count_3 8 hc40 (by decide) (by decide) rfl (by decide) ?_
                    refine x_aload_n C dX11_count_118 rfl (q := 1) rfl ?_
                    refine m_get C cl_X11 3 (by decide) fl_X11_107_X11 rfl rfl dX11_count_119 ?_
                    cases h
                    exact xr_i C hr dX11_count_122 (fun _ h => h)
                  · refine x_tableOut C (tgt := 123) dX11_count_3 (by have a0 := xI_ne (k := 0) 0 (by decide) hc1; have a1 := xI_ne (k := 1) 1 (by decide) hc3; have a2 := xI_ne (k := 2) 2 (by decide) hc5; have a3 := xI_ne (k := 3) 3 (by decide) hc7; have a4 := xI_ne (k := 4) 4 (by decide) hc22; have a5 := xI_ne (k := 5) 5 (by decide) hc37; have a6 := xI_ne (k := 6) 6 (by decide) hc38; have a7 := xI_ne (k := 7) 7 (by decide) hc39; have a8 := xI_ne (k := 8) 8 (by decide) hc40; omega) (by decide) ?_
                    refine x_iconst C (v := (-1)) dX11_count_123 (by decide) ?_
                    cases h
                    exact xr_i C hr dX11_count_124 (fun _ h => h)
