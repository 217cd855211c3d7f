/-! the pure part: numbers, evaluation of the functions -/
/-! rows on bits, shifts and unsigned numbers, to paste: each family out of a closed proof of our own, whole with what it rests on; each by itself clean at Lean in its own claim (generation 39, form 5). Take a family whole -/
/-! ===== Int32 by its bits: bt x i ===== -/
def bt (x : Int32) (i : Nat) : Bool := x.toBitVec.getLsbD i
theorem b_ext {x y : Int32} (h : ∀ i, i < 32 → bt x i = bt y i) : x = y := Int32.toBitVec_inj.mp (BitVec.eq_of_getLsbD_eq (fun i hi => h i hi))
theorem b_or (x y : Int32) (i : Nat) : bt (x ||| y) i = (bt x i || bt y i) := by unfold bt; rw [Int32.toBitVec_or, BitVec.getLsbD_or]
theorem b_and (x y : Int32) (i : Nat) : bt (x &&& y) i = (bt x i && bt y i) := by unfold bt; rw [Int32.toBitVec_and, BitVec.getLsbD_and]
theorem b_xor (x y : Int32) (i : Nat) : bt (x ^^^ y) i = (bt x i ^^ bt y i) := by unfold bt; rw [Int32.toBitVec_xor, BitVec.getLsbD_xor]
theorem b_big {x : Int32} {i : Nat} (h : 32 ≤ i) : bt x i = false := BitVec.getLsbD_of_ge _ _ h
theorem b_255 (i : Nat) : bt 255 i = decide (i < 8) := by
  rcases Nat.lt_or_ge i 32 with h | h
  · exact (by decide +kernel : ∀ i, i < 32 → bt 255 i = decide (i < 8)) i h
  · rw [b_big h, decide_eq_false (by omega)]
theorem b_65535 (i : Nat) : bt 65535 i = decide (i < 16) := by
  rcases Nat.lt_or_ge i 32 with h | h
  · exact (by decide +kernel : ∀ i, i < 32 → bt 65535 i = decide (i < 16)) i h
  · rw [b_big h, decide_eq_false (by omega)]
theorem b_m1 : ∀ i, i < 32 → bt (-1) i = true := by decide +kernel
theorem b_0 (i : Nat) : bt 0 i = false := BitVec.getLsbD_zero
theorem s_l : ∀ n, n < 32 → ((nI n &&& 31).toBitVec.smod 32).toNat = n := by decide +kernel
theorem s_u : ∀ n, n < 32 → (((nI n).toUInt32 &&& Int32.toUInt32 31).toBitVec % 32).toNat = n := by decide +kernel
theorem b_shl (n : Nat) (hn : n < 32) (x : Int32) {i : Nat} (hi : i < 32) : bt (x <<< (nI n &&& 31)) i = (decide (n ≤ i) && bt x (i - n)) := by
  unfold bt
  rw [Int32.toBitVec_shiftLeft]
  show (x.toBitVec <<< ((nI n &&& 31).toBitVec.smod 32).toNat).getLsbD i = _
  rw [s_l n hn, BitVec.getLsbD_shiftLeft]
  rcases Nat.lt_or_ge i n with h | h
  · simp [h, Nat.not_le.mpr h]
  · simp [hi, h, Nat.not_lt.mpr h]
theorem b_ushr (n : Nat) (hn : n < 32) (x : Int32) (i : Nat) : bt ((x.toUInt32 >>> ((nI n).toUInt32 &&& Int32.toUInt32 31)).toInt32) i = bt x (n + i) := by
  show (x.toUInt32 >>> ((nI n).toUInt32 &&& Int32.toUInt32 31)).toBitVec.getLsbD i = x.toUInt32.toBitVec.getLsbD (n + i)
  rw [UInt32.toBitVec_shiftRight]
  show (x.toUInt32.toBitVec >>> (((nI n).toUInt32 &&& Int32.toUInt32 31).toBitVec % 32).toNat).getLsbD i = _
  rw [s_u n hn, BitVec.getLsbD_ushiftRight]
theorem b_sshr (n : Nat) (hn : n < 32) (x : Int32) {i : Nat} (hi : i < 32) : bt (x >>> (nI n &&& 31)) i = if n + i < 32 then bt x (n + i) else bt x 31 := by
  unfold bt
  rw [Int32.toBitVec_shiftRight]
  show (x.toBitVec.sshiftRight ((nI n &&& 31).toBitVec.smod 32).toNat).getLsbD i = _
  rw [s_l n hn, BitVec.getLsbD_sshiftRight, BitVec.msb_eq_getLsbD_last]
  simp [hi]
theorem b_shl8 (x : Int32) {i : Nat} (hi : i < 32) : bt (x <<< ((8 : Int32) &&& 31)) i = (decide (8 ≤ i) && bt x (i - 8)) := b_shl 8 (by omega) x hi
theorem b_shl16 (x : Int32) {i : Nat} (hi : i < 32) : bt (x <<< ((16 : Int32) &&& 31)) i = (decide (16 ≤ i) && bt x (i - 16)) := b_shl 16 (by omega) x hi
theorem b_shl24 (x : Int32) {i : Nat} (hi : i < 32) : bt (x <<< ((24 : Int32) &&& 31)) i = (decide (24 ≤ i) && bt x (i - 24)) := b_shl 24 (by omega) x hi
theorem b_sshr8 (x : Int32) {i : Nat} (hi : i < 32) : bt (x >>> ((8 : Int32) &&& 31)) i = if 8 + i < 32 then bt x (8 + i) else bt x 31 := b_sshr 8 (by omega) x hi
/-! ===== nI under and, xor, >>>, one bit, 65535 ===== -/

theorem letv_e {α β : Type} (v : α) (K : α → β) : letv v K = K v := rfl
theorem bnd1_e {α γ : Type} (a : α) (K : α → Option γ) : bnd1 (some a) K = K a := rfl
theorem bnd2_e {α β γ : Type} (a : α) (b : β) (K : α → β → Option γ) : bnd2 (some (a, b)) K = K a b := rfl
theorem gdx_n {α : Type} {k n : Nat} {K : Nat → Option α} (h : k < n) (hn : n < 2147483648) : gdx (nI k) n K = K k := by
  unfold gdx
  rw [nI_clamp (by omega), if_neg]
  intro q
  rcases q with q | q
  · exact nI_pos (by omega) q
  · omega
theorem gdx_0 {α : Type} {n : Nat} {K : Nat → Option α} (h : 0 < n) (hn : n < 2147483648) : gdx 0 n K = K 0 := gdx_n (k := 0) h hn
theorem gdx_l {α : Type} (k : Nat) {n : Nat} {K : Nat → Option α} (h : k < n) (hn : n < 2147483648) : gdx (OfNat.ofNat k) n K = K k := gdx_n (k := k) h hn
theorem gdr_n {α : Type} {v n : Nat} {K : Nat → Option α} (h : v < n) : gdr v n K = K v := if_pos h
theorem gnz_n {α : Type} {n : Nat} {K : Option α} (h : 0 < n) (hn : n < 2147483648) : gnz (nI n) K = K := if_neg (nI_ne0 h hn)
theorem gdb_0 {α : Type} {K : Option α} : gdb 0 K = K := if_pos (Or.inl rfl)
theorem gdb_1 {α : Type} {K : Option α} : gdb 1 K = K := if_pos (Or.inr rfl)
theorem gdd_t {α : Type} {P : Prop} [Decidable P] {K : Option α} (h : P) : gdd P K = K := if_pos h
theorem mul4 (a : Nat) : 4 * nI a = nI (4 * a) := pk_mul 4 a
theorem mul7 (a : Nat) : 7 * nI a = nI (7 * a) := pk_mul 7 a
theorem mul8 (a : Nat) : 8 * nI a = nI (8 * a) := pk_mul 8 a
theorem mul10 (a : Nat) : 10 * nI a = nI (10 * a) := pk_mul 10 a
theorem mul16 (a : Nat) : 16 * nI a = nI (16 * a) := pk_mul 16 a
theorem mul32 (a : Nat) : 32 * nI a = nI (32 * a) := pk_mul 32 a
theorem mul64 (a : Nat) : 64 * nI a = nI (64 * a) := pk_mul 64 a
theorem mul800 (a : Nat) : 800 * nI a = nI (800 * a) := pk_mul 800 a
theorem add1 (a : Nat) : nI a + 1 = nI (a + 1) := nI_add a 1
theorem add2 (a : Nat) : nI a + 2 = nI (a + 2) := nI_add a 2
theorem add3 (a : Nat) : nI a + 3 = nI (a + 3) := nI_add a 3
theorem add4 (a : Nat) : nI a + 4 = nI (a + 4) := nI_add a 4
theorem add5 (a : Nat) : nI a + 5 = nI (a + 5) := nI_add a 5
theorem add6 (a : Nat) : nI a + 6 = nI (a + 6) := nI_add a 6
theorem add7 (a : Nat) : nI a + 7 = nI (a + 7) := nI_add a 7
theorem add8 (a : Nat) : nI a + 8 = nI (a + 8) := nI_add a 8
theorem add16 (a : Nat) : nI a + 16 = nI (a + 16) := nI_add a 16
theorem sub1 {a : Nat} (h : 1 ≤ a) : nI a - 1 = nI (a - 1) := pk_sub (b := 1) h
theorem ml6 : mlen 6 = 9 := rfl
theorem ml7 : mlen 7 = 9 := rfl
theorem ml8 : mlen 8 = 7200 := rfl
theorem ml9 : mlen 9 = 32 := rfl
theorem ml10 : mlen 10 = 32 := rfl
theorem ml11 : mlen 11 = 32 := rfl
theorem ml12 : mlen 12 = 16 := rfl
theorem ml13 : mlen 13 = 16 := rfl
theorem ml14 : mlen 14 = 512 := rfl
theorem ml15 : mlen 15 = 512 := rfl
theorem ml16 : mlen 16 = 64 := rfl
theorem ml17 : mlen 17 = 64 := rfl
theorem ml18 : mlen 18 = 64 := rfl
theorem ml19 : mlen 19 = 80 := rfl
theorem ml20 : mlen 20 = 80 := rfl
theorem ml21 : mlen 21 = 80 := rfl
theorem ml22 : mlen 22 = 80 := rfl
theorem ml23 : mlen 23 = 320 := rfl
theorem ml24 : mlen 24 = 320 := rfl
theorem ml25 : mlen 25 = 320 := rfl
theorem ml26 : mlen 26 = 320 := rfl
theorem ml27 : mlen 27 = 320 := rfl
theorem ml28 : mlen 28 = 320 := rfl
theorem ml30 : mlen 30 = 1400 := rfl
theorem ml31 : mlen 31 = 1600 := rfl
theorem ml36 : mlen 36 = 7 := rfl
theorem ml37 : mlen 37 = 8 := rfl
theorem FU_big : 99999 < FU := by decide +kernel
/-- the sizes -/
def zOK (z : Nat → Nat) : Prop := 1 ≤ z 0 ∧ z 0 ≤ 4 ∧ 1 ≤ z 1 ∧ z 1 ≤ 5 ∧ 1 ≤ z 2 ∧ z 2 ≤ 16 ∧ 1 ≤ z 3 ∧ z 3 ≤ 32 ∧ 1 ≤ z 4 ∧ z 4 ≤ 200 ∧ 1 ≤ z 5 ∧ z 5 ≤ 200 ∧ z 1 % 2 = 1
theorem fU {f i j k : Nat} {v : Int32} {σ : Sg} {f' : Nat} (h : f' ≠ f) : (upI σ f i j k v).1 f' = σ.1 f' := by
  funext i' j' k'
  simp only [upI]
  rw [if_neg (fun q => h q.1)]
theorem bt_one (s : Nat) (hs : s < 32) (i : Nat) (hi : i < 32) : bt (1 <<< (nI s &&& 31)) i = decide (i = s) := by
  rw [b_shl s hs 1 hi]
  have h1 : ∀ j, j < 32 → bt 1 j = decide (j = 0) := by decide +kernel
  rw [h1 _ (by omega)]
  by_cases h : i = s
  · subst h; simp
  · by_cases h2 : s ≤ i
    · have : ¬ i - s = 0 := by omega
      simp [h, h2, this]
    · simp [h, h2]
theorem bt_zero {x : Int32} : x = 0 ↔ ∀ i, i < 32 → bt x i = false := by
  constructor
  · intro h i _
    rw [h]; exact b_0 i
  · intro h
    exact b_ext (fun i hi => by rw [h i hi, b_0])
/-- the class's test of a bit, and the reference's -/
theorem bit_X (v : Int32) {s : Nat} (hs : s < 32) : (v &&& (1 <<< (nI s &&& 31))) = 0 ↔ bt v s = false := by
  rw [bt_zero]
  constructor
  · intro h
    have := h s hs
    rw [b_and, bt_one s hs s hs] at this
    simpa using this
  · intro h i hi
    rw [b_and, bt_one s hs i hi]
    by_cases q : i = s
    · subst q; simp [h]
    · simp [q]
theorem bit_M1 (v : Int32) {s : Nat} (hs : s < 32) : ((v >>> (nI s &&& 31)) &&& 1) = 1 ↔ bt v s = true := by
  have h1 : ∀ j, j < 32 → bt 1 j = decide (j = 0) := by decide +kernel
  have key : ((v >>> (nI s &&& 31)) &&& 1) = if bt v s = true then 1 else 0 := by
    apply b_ext
    intro i hi
    rw [b_and, h1 i hi, b_sshr s hs v hi]
    by_cases q : i = 0
    · subst q
      rw [if_pos (by omega)]
      cases hb : bt v s <;> simp [hb, h1, b_0]
    · cases hb : bt v s <;> simp [q, h1 i hi, b_0]
  rw [key]
  cases bt v s <;> simp
theorem bit_M0 (v : Int32) {s : Nat} (hs : s < 32) : ((v >>> (nI s &&& 31)) &&& 1) = 0 ↔ bt v s = false := by
  have h1 : ∀ j, j < 32 → bt 1 j = decide (j = 0) := by decide +kernel
  have key : ((v >>> (nI s &&& 31)) &&& 1) = if bt v s = true then 1 else 0 := by
    apply b_ext
    intro i hi
    rw [b_and, h1 i hi, b_sshr s hs v hi]
    by_cases q : i = 0
    · subst q
      rw [if_pos (by omega)]
      cases hb : bt v s <;> simp [hb, h1, b_0]
    · cases hb : bt v s <;> simp [q, h1 i hi, b_0]
  rw [key]
  cases bt v s <;> simp
theorem i10 : ((1 : Int32) = 0) = False := eq_false (by decide)
theorem i01 : ((0 : Int32) = 1) = False := eq_false (by decide)
theorem i20 : ((2 : Int32) = 0) = False := eq_false (by decide)
theorem i21 : ((2 : Int32) = 1) = False := eq_false (by decide)
theorem i12 : ((1 : Int32) = 2) = False := eq_false (by decide)
theorem i02 : ((0 : Int32) = 2) = False := eq_false (by decide)
theorem i30 : ((3 : Int32) = 0) = False := eq_false (by decide)
theorem i31 : ((3 : Int32) = 1) = False := eq_false (by decide)
theorem i40 : ((4 : Int32) = 0) = False := eq_false (by decide)
theorem i41 : ((4 : Int32) = 1) = False := eq_false (by decide)
theorem im0 : ((-1 : Int32) = 0) = False := eq_false (by decide)
theorem im1 : ((-1 : Int32) = 1) = False := eq_false (by decide)
theorem im2 : ((-1 : Int32) = 2) = False := eq_false (by decide)
