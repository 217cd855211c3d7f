/-! a leader hears that a vote was accepted, whole -/
section ACPT2
variable {z : Nat → Nat} {bb w : Nat} {σ : Sg} {τ : Tg}
theorem Rel.fin3 (hz : zOK z) (h : Rel z bb w σ τ) {a t : Nat} (ha : a < z 1) (ht : t < z 2) (r : Int32) : Rel z bb w (upI σ 27 a t 3 r) (tpI τ 21 (16 * a + t) r) := by
  have hzz := hz
  unfold zOK at hzz
  obtain ⟨a1, a2, a3, a4, a5, a6, a7, a8, a9, a10, a11, a12, a13, a14, a15, a16, a17⟩ := h
  refine ⟨a1, a2, a3, a4, a5, a6, a7, a8, a9, a10, a11, fun a' t' ha' ht' => ?_, a13, a14, a15, a16, a17⟩
  obtain ⟨b1, b2, b3, b4, b5, b6, b7⟩ := a12 a' t' ha' ht'
  have k : ∀ c, (upI σ 27 a t 3 r).1 27 a' t' c = if 27 = 27 ∧ a' = a ∧ t' = t ∧ c = 3 then r else σ.1 27 a' t' c := fun c => rfl
  have k21 : (tpI τ 21 (16 * a + t) r).1 21 (16 * a' + t') = if 21 = 21 ∧ 16 * a' + t' = 16 * a + t then r else τ.1 21 (16 * a' + t') := rfl
  have nc : ∀ c, ¬ c = 3 → ¬ (27 = 27 ∧ a' = a ∧ t' = t ∧ c = 3) := fun c hc r => hc r.2.2.2
  rw [k 1, k 2, k 3, k 4, k21, if_neg (nc 1 (by omega)), if_neg (nc 2 (by omega)), if_neg (nc 4 (by omega))]
  refine ⟨b1, b2, b3, b4, b5, ?_, b7⟩
  by_cases e : a' = a ∧ t' = t
  · obtain ⟨rfl, rfl⟩ := e
    simp
  · have n1 : ¬ (16 * a' + t' = 16 * a + t) := fun r => e (by omega)
    have n3 : ¬ (27 = 27 ∧ a' = a ∧ t' = t ∧ 3 = 3) := fun r => e ⟨r.2.1, r.2.2.1⟩
    have n4 : ¬ (21 = 21 ∧ 16 * a' + t' = 16 * a + t) := fun r => n1 r.2
    rw [if_neg n3, if_neg n4]
    exact b6
theorem p_concl (hz : zOK z) {σ0 : Sg} {τ0 : Tg} (h : Rel z bb w σ τ) {a t : Nat} (ha : a < z 1) (ht : t < z 2) {mi : Nat} (k13 : σ.1 13 mi = σ0.1 13 mi) (k36 : τ.1 36 = τ0.1 36) (hm1 : ∀ i, i < z 4 → ¬ mi = σ.2.2 12 i) (hm2 : ¬ mi = z 4) (f2 : σ.1 13 mi 0 2 = nI t) :
    Ps1 z bb mi σ0 τ0 (letv (σ.1 13 mi 0 2) fun v12 => bnd1 (f_X0_endOf z σ a t v12) fun r14 => if r14 = 0 then (some (σ)) else (letv (upI σ 27 a t 3 r14) fun s16 => letv (s16.1 13 mi 0 2) fun v17 => bnd1 (f_X0_postEnd z s16 a v17 r14) fun s19 => some (s19)))
      (bnd2 (f_X11_accept_L139 z τ (nI (z 0 + a)) (nI t) (nI (16 * a + t)) FU 1 0 0) fun (v46 : Int32) (v47 : Int32) => if v47 = 0 then (if v46 = 0 then (some (τ)) else (bnd1 (α := Int32) (if v47 = 0 then (some (3)) else (some (4))) fun (v103 : Int32) => gdx (nI (16 * a + t)) (mlen 21) fun k107 => letv (tpI τ 21 k107 v103) fun s108 => bnd1 (f_X11_accept_L254_3 z (nI (z 0 + a)) (nI t) (nI (16 * a + t)) FU 0 s108) fun (s111 : Tg) => gdx (nI (16 * a + t)) (mlen 21) fun k125 => letv (s111.1 21 k125) fun v126 => bnd2 (f_X11_post z s111 6 ((nI (z 0)) + (nI (z 1))) (nI t) 0 0 v126 (nI (z 0 + a))) fun r128 s129 => some (s129))) else (bnd1 (α := Int32) (if v47 = 0 then (some (3)) else (some (4))) fun (v74 : Int32) => gdx (nI (16 * a + t)) (mlen 21) fun k78 => letv (tpI τ 21 k78 v74) fun s79 => bnd1 (f_X11_accept_L254 z (nI (z 0 + a)) (nI t) (nI (16 * a + t)) FU 0 s79) fun (s82 : Tg) => gdx (nI (16 * a + t)) (mlen 21) fun k96 => letv (s82.1 21 k96) fun v97 => bnd2 (f_X11_post z s82 6 ((nI (z 0)) + (nI (z 1))) (nI t) 0 0 v97 (nI (z 0 + a))) fun r99 s100 => some (s100))) := by
  have hzz := hz
  unfold zOK at hzz
  obtain ⟨u, v, r, e1, e2, e3⟩ := endM_0 hz h ha ht (nI (z 0 + a)) FU 0 1 (Or.inr rfl) (Nat.zero_le _) (by have := FU_big; omega)
  have k21 : ∀ x, (tpI τ 21 (16 * a + t) x).1 21 (16 * a + t) = x := fun x => by simp [tpI]
  have fin : ∀ x : Int32, (x = 3 ∨ x = 4) → Ps1 z bb mi σ0 τ0 (letv (upI σ 27 a t 3 x) fun s16 => letv (s16.1 13 mi 0 2) fun v17 => bnd1 (f_X0_postEnd z s16 a v17 x) fun s19 => some (s19))
      (letv (tpI τ 21 (16 * a + t) x) fun s79 => bnd1 (f_X11_accept_L254 z (nI (z 0 + a)) (nI t) (nI (16 * a + t)) FU 0 s79) fun (s82 : Tg) => gdx (nI (16 * a + t)) (mlen 21) fun k96 => letv (s82.1 21 k96) fun v97 => bnd2 (f_X11_post z s82 6 ((nI (z 0)) + (nI (z 1))) (nI t) 0 0 v97 (nI (z 0 + a))) fun r99 s100 => some (s100)) := by
    intro x hx
    have f2' : (upI σ 27 a t 3 x).1 13 mi 0 2 = nI t := f2
    rw [letv_e, letv_e, letv_e, f2']
    obtain ⟨w', σ', τ', g1, g2, g3⟩ := p_postEnd hz (h.fin3 hz ha ht x) ha ht (mi := mi) (σ0 := σ0) (τ0 := τ0) k13 k36 hm1 hm2 hx (k21 x)
    rw [g1, g2, bnd1_e]
    exact ⟨w', σ', τ', rfl, rfl, g3⟩
  rw [letv_e, f2, show f_X0_endOf z σ a t (nI t) = some r from e2, bnd1_e, show f_X11_accept_L139 z τ (nI (z 0 + a)) (nI t) (nI (16 * a + t)) FU 1 0 0 = some (u, v) from e1, bnd2_e]
  simp only [acp_3]
  rcases e3 with ⟨rfl, rfl⟩ | ⟨rfl, rfl, rfl⟩ | ⟨rfl, rfl, rfl⟩
  · rw [if_neg (show ¬ (4 : Int32) = 0 by decide), if_neg (show ¬ (1 : Int32) = 0 by decide), if_neg (show ¬ (1 : Int32) = 0 by decide), bnd1_e, gdx_n (n := mlen 21) (show 16 * a + t < 80 by omega) (by decide)]
    exact fin 4 (Or.inr rfl)
  · simp only [if_true, bnd1_e, i10, if_false]
    rw [if_neg (show ¬ (3 : Int32) = 0 by decide), gdx_n (n := mlen 21) (show 16 * a + t < 80 by omega) (by decide)]
    exact fin 3 (Or.inl rfl)
  · simp only [if_true]
    exact ⟨w, σ, τ, rfl, rfl, h, k13, k36⟩
theorem bit31 : ∀ a2, a2 < 5 → nb 31 (1 <<< (nI a2 &&& 31)) := by
  intro a2 h
  rcases (show a2 = 0 ∨ a2 = 1 ∨ a2 = 2 ∨ a2 = 3 ∨ a2 = 4 by omega) with rfl | rfl | rfl | rfl | rfl
  · exact ⟨1, by omega, by decide⟩
  · exact ⟨2, by omega, by decide⟩
  · exact ⟨4, by omega, by decide⟩
  · exact ⟨8, by omega, by decide⟩
  · exact ⟨16, by omega, by decide⟩
theorem or0 (x : Int32) : x ||| 0 = x := by
  apply b_ext
  intro i hi
  rw [b_or, b_0, Bool.or_false]
theorem Rel.cnt1 (hz : zOK z) (h : Rel z bb w σ τ) {a t s : Nat} (ha : a < z 1) (ht : t < z 2) (hs : s < z 0) {bit : Int32} (hb : nb 31 bit) : Rel z bb w (upI σ 32 a t s (σ.1 32 a t s ||| bit)) (tpI (tpI τ 25 (4 * (16 * a + t) + s) (σ.1 32 a t s ||| bit)) 26 (4 * (16 * a + t) + s) (σ.1 33 a t s ||| 0)) := by
  have hzz := hz
  unfold zOK at hzz
  obtain ⟨a1, a2, a3, a4, a5, a6, a7, a8, a9, a10, a11, a12, a13, a14, a15, a16, a17⟩ := h
  refine ⟨a1, a2, a3, a4, a5, a6, a7, a8, a9, a10, a11, a12, a13, a14, fun a' t' s' ha' ht' hs' => ?_, a16, a17⟩
  obtain ⟨b1, b2, b3, b4⟩ := a15 a' t' s' ha' ht' hs'
  show (if 25 = 25 ∧ 4 * (16 * a' + t') + s' = 4 * (16 * a + t) + s then σ.1 32 a t s ||| bit else τ.1 25 (4 * (16 * a' + t') + s')) = (if 32 = 32 ∧ a' = a ∧ t' = t ∧ s' = s then σ.1 32 a t s ||| bit else σ.1 32 a' t' s') ∧ (if 26 = 26 ∧ 4 * (16 * a' + t') + s' = 4 * (16 * a + t) + s then σ.1 33 a t s ||| 0 else τ.1 26 (4 * (16 * a' + t') + s')) = σ.1 33 a' t' s' ∧ nb 31 (if 32 = 32 ∧ a' = a ∧ t' = t ∧ s' = s then σ.1 32 a t s ||| bit else σ.1 32 a' t' s') ∧ nb 31 (σ.1 33 a' t' s')
  by_cases e : a' = a ∧ t' = t ∧ s' = s
  · obtain ⟨rfl, rfl, rfl⟩ := e
    simp only [true_and, if_true, or0]
    exact ⟨or_nb b3 hb, b4⟩
  · have n1 : ¬ (4 * (16 * a' + t') + s' = 4 * (16 * a + t) + s) := fun r => e (by omega)
    have n2 : ¬ (32 = 32 ∧ a' = a ∧ t' = t ∧ s' = s) := fun r => e r.2
    have n4 : ¬ (25 = 25 ∧ 4 * (16 * a' + t') + s' = 4 * (16 * a + t) + s) := fun r => n1 r.2
    have n5 : ¬ (26 = 26 ∧ 4 * (16 * a' + t') + s' = 4 * (16 * a + t) + s) := fun r => n1 r.2
    rw [if_neg n2, if_neg n4, if_neg n5]
    exact ⟨b1, b2, b3, b4⟩
theorem Rel.cnt2 (hz : zOK z) (h : Rel z bb w σ τ) {a t s : Nat} (ha : a < z 1) (ht : t < z 2) (hs : s < z 0) {bit : Int32} (hb : nb 31 bit) : Rel z bb w (upI σ 33 a t s (σ.1 33 a t s ||| bit)) (tpI (tpI τ 25 (4 * (16 * a + t) + s) (σ.1 32 a t s ||| 0)) 26 (4 * (16 * a + t) + s) (σ.1 33 a t s ||| bit)) := by
  have hzz := hz
  unfold zOK at hzz
  obtain ⟨a1, a2, a3, a4, a5, a6, a7, a8, a9, a10, a11, a12, a13, a14, a15, a16, a17⟩ := h
  refine ⟨a1, a2, a3, a4, a5, a6, a7, a8, a9, a10, a11, a12, a13, a14, fun a' t' s' ha' ht' hs' => ?_, a16, a17⟩
  obtain ⟨b1, b2, b3, b4⟩ := a15 a' t' s' ha' ht' hs'
  show (if 25 = 25 ∧ 4 * (16 * a' + t') + s' = 4 * (16 * a + t) + s then σ.1 32 a t s ||| 0 else τ.1 25 (4 * (16 * a' + t') + s')) = σ.1 32 a' t' s' ∧ (if 26 = 26 ∧ 4 * (16 * a' + t') + s' = 4 * (16 * a + t) + s then σ.1 33 a t s ||| bit else τ.1 26 (4 * (16 * a' + t') + s')) = (if 33 = 33 ∧ a' = a ∧ t' = t ∧ s' = s then σ.1 33 a t s ||| bit else σ.1 33 a' t' s') ∧ nb 31 (σ.1 32 a' t' s') ∧ nb 31 (if 33 = 33 ∧ a' = a ∧ t' = t ∧ s' = s then σ.1 33 a t s ||| bit else σ.1 33 a' t' s')
  by_cases e : a' = a ∧ t' = t ∧ s' = s
  · obtain ⟨rfl, rfl, rfl⟩ := e
    simp only [true_and, if_true, or0]
    exact ⟨b3, or_nb b4 hb⟩
  · have n1 : ¬ (4 * (16 * a' + t') + s' = 4 * (16 * a + t) + s) := fun r => e (by omega)
    have n2 : ¬ (33 = 33 ∧ a' = a ∧ t' = t ∧ s' = s) := fun r => e r.2
    have n4 : ¬ (25 = 25 ∧ 4 * (16 * a' + t') + s' = 4 * (16 * a + t) + s) := fun r => n1 r.2
    have n5 : ¬ (26 = 26 ∧ 4 * (16 * a' + t') + s' = 4 * (16 * a + t) + s) := fun r => n1 r.2
    rw [if_neg n2, if_neg n4, if_neg n5]
    exact ⟨b1, b2, b3, b4⟩
theorem p_hacc (hz : zOK z) (h : Rel z bb w σ τ) {a t s b a2 : Nat} (ha : a < z 1) (ht : t < z 2) (hs : s < z 0) (ha2 : a2 < z 1) {mi : Nat} (hm1 : ∀ i, i < z 4 → ¬ mi = σ.2.2 12 i) (hm2 : ¬ mi = z 4) {v : Int32} (hv : v = 1 ∨ v = 2)
    (f2 : σ.1 13 mi 0 2 = nI t) (f3 : σ.1 13 mi 0 3 = nI b) (f4 : σ.1 13 mi 0 4 = nI s) (f5 : σ.1 13 mi 0 5 = v) (f6 : σ.1 13 mi 0 6 = nI (z 0 + a2)) (g3 : τ.1 36 3 = nI b) (g4 : τ.1 36 4 = nI s) (g5 : τ.1 36 5 = v) (g6 : τ.1 36 6 = nI (z 0 + a2)) :
    Ps1 z bb mi σ τ (f_X0_hearAccepted z σ a mi t) (f_X11_accept z τ (nI (z 0 + a)) (nI t) (nI (16 * a + t))) := by
  have hzz := hz
  unfold zOK at hzz
  have i80 : 16 * a + t < 80 := by omega
  have i320 : 4 * (16 * a + t) + s < 320 := by omega
  obtain ⟨p1, p2, p3, p4, p5, p6, p7⟩ := h.2.2.2.2.2.2.2.2.2.2.2.1 a t ha ht
  obtain ⟨y1, y2, y3, y4⟩ := h.2.2.2.2.2.2.2.2.2.2.2.2.2.2.1 a t s ha ht hs
  have hbit := bit31 a2 (by omega)
  unfold f_X0_hearAccepted f_X11_accept
  have hL : f_X9_listensFor z σ a t (nI b) = some (if σ.1 27 a t 2 = nI b ∧ σ.1 27 a t 3 = 0 then 1 else 0) := by
    unfold f_X9_listensFor
    rw [letv_e]
    by_cases c1 : σ.1 27 a t 2 = nI b
    · rw [if_pos c1, letv_e]
      by_cases c2 : σ.1 27 a t 3 = 0
      · rw [if_pos c2, if_pos ⟨c1, c2⟩]
      · rw [if_neg c2, if_neg (fun r => c2 r.2)]
    · rw [if_neg c1, if_neg (fun r => c1 r.1)]
  rw [letv_e, f3, hL, bnd1_e, gdx_l (n := mlen 36) 4 (by decide) (by decide), letv_e (τ.1 36 4), g4, gdx_n (n := mlen 20) (show 16 * a + t < 80 from i80) (by decide), letv_e (τ.1 20 (16 * a + t)), p5, gdx_l (n := mlen 36) 3 (by decide) (by decide), letv_e (τ.1 36 3), g3]
  by_cases c1 : σ.1 27 a t 2 = nI b
  · rw [if_pos c1, gdx_n (n := mlen 21) (show 16 * a + t < 80 from i80) (by decide), letv_e (τ.1 21 (16 * a + t)), p6]
    by_cases c2 : σ.1 27 a t 3 = 0
    · rw [if_pos c2, if_pos (show σ.1 27 a t 2 = nI b ∧ σ.1 27 a t 3 = 0 from ⟨c1, c2⟩), if_neg (show ¬ (1 : Int32) = 0 by decide), letv_e, letv_e, letv_e, f4, f5, f6, show f_X0_bitOf z σ a (nI (z 0 + a2)) = some (1 <<< (nI a2 &&& 31)) by unfold f_X0_bitOf; rw [pk_sub (by omega), show z 0 + a2 - z 0 = a2 by omega], bnd1_e]
      rw [gdx_l (n := mlen 36) 6 (by decide) (by decide), letv_e (τ.1 36 6), g6, pk_sub (by omega), show z 0 + a2 - z 0 = a2 by omega]
      generalize hbt : (1 : Int32) <<< (nI a2 &&& 31) = bit at hbit
      rw [letv_e bit, mul4, nI_add, letv_e (nI (4 * (16 * a + t) + s)), gdx_n (n := mlen 25) (show 4 * (16 * a + t) + s < 320 from i320) (by decide), letv_e (τ.1 25 (4 * (16 * a + t) + s)), gdx_n (n := mlen 26) (show 4 * (16 * a + t) + s < 320 from i320) (by decide), letv_e (τ.1 26 (4 * (16 * a + t) + s)), y1, y2]
      unfold f_X9_countVoter
      rw [gdx_n hs (by omega), letv_e, gdx_n hs (by omega), letv_e]
      by_cases c3 : (σ.1 32 a t s ||| σ.1 33 a t s) &&& bit = 0
      · rw [if_pos c3, if_pos c3, gdx_n (n := mlen 25) (show 4 * (16 * a + t) + s < 320 from i320) (by decide), letv_e (τ.1 25 (4 * (16 * a + t) + s)), gdx_l (n := mlen 36) 5 (by decide) (by decide), letv_e (τ.1 36 5), g5, y1]
        rcases hv with rfl | rfl
        · have e26 : ∀ x, (tpI τ 25 (4 * (16 * a + t) + s) x).1 26 (4 * (16 * a + t) + s) = σ.1 33 a t s := fun x => y2
          have e36 : ∀ x, (tpI τ 25 (4 * (16 * a + t) + s) x).1 36 5 = 1 := fun x => g5
          simp only [if_true, bnd1_e]
          rw [gdx_n hs (by omega), letv_e (σ.1 32 a t s), gdx_n hs (by omega), letv_e, gdx_n (n := mlen 25) (show 4 * (16 * a + t) + s < 320 from i320) (by decide), letv_e (tpI _ _ _ _), gdx_n (n := mlen 26) (show 4 * (16 * a + t) + s < 320 from i320) (by decide), letv_e ((tpI _ _ _ _).1 26 _), gdx_l (n := mlen 36) 5 (by decide) (by decide), letv_e ((tpI _ _ _ _).1 36 _), e26, e36]
          simp only [i12, if_false, bnd1_e]
          rw [gdx_n (n := mlen 26) (show 4 * (16 * a + t) + s < 320 from i320) (by decide), letv_e (tpI _ _ _ _), bnd1_e]
          exact p_concl hz (h.cnt1 hz ha ht hs hbit) ha ht rfl rfl hm1 hm2 f2
        · have e26 : ∀ x, (tpI τ 25 (4 * (16 * a + t) + s) x).1 26 (4 * (16 * a + t) + s) = σ.1 33 a t s := fun x => y2
          have e36 : ∀ x, (tpI τ 25 (4 * (16 * a + t) + s) x).1 36 5 = 2 := fun x => g5
          simp only [i21, if_false, bnd1_e]
          rw [gdx_n hs (by omega), letv_e (σ.1 33 a t s), gdx_n hs (by omega), letv_e, gdx_n (n := mlen 25) (show 4 * (16 * a + t) + s < 320 from i320) (by decide), letv_e (tpI _ _ _ _), gdx_n (n := mlen 26) (show 4 * (16 * a + t) + s < 320 from i320) (by decide), letv_e ((tpI _ _ _ _).1 26 _), gdx_l (n := mlen 36) 5 (by decide) (by decide), letv_e ((tpI _ _ _ _).1 36 _), e26, e36]
          simp only [if_true, bnd1_e]
          rw [gdx_n (n := mlen 26) (show 4 * (16 * a + t) + s < 320 from i320) (by decide), letv_e (tpI _ _ _ _), bnd1_e]
          exact p_concl hz (h.cnt2 hz ha ht hs hbit) ha ht rfl rfl hm1 hm2 f2
      · rw [if_neg c3, if_neg c3, bnd1_e, bnd1_e]
        exact p_concl hz h ha ht rfl rfl hm1 hm2 f2
    · rw [if_neg c2, if_neg (show ¬ (σ.1 27 a t 2 = nI b ∧ σ.1 27 a t 3 = 0) from fun r => c2 r.2), if_pos rfl]
      exact ⟨w, σ, τ, rfl, rfl, h, rfl, rfl⟩
  · rw [if_neg c1, if_neg (show ¬ (σ.1 27 a t 2 = nI b ∧ σ.1 27 a t 3 = 0) from fun r => c1 r.1), if_pos rfl]
    exact ⟨w, σ, τ, rfl, rfl, h, rfl, rfl⟩
end ACPT2
