/-! NUMBERS AND BITS -/
/-! ===== Int32 by its bits: bt x i ===== -/
def bt (x : Int32) (i : Nat) : Bool := x.toBitVec.getLsbD i
theorem b_ext {x y : Int32} (h : ∀ i, i < 32 → bt x i = bt y i) : x = y := Int32.toBitVec_inj.mp (BitVec.eq_of_getLsbD_eq (fun i hi => h i hi))
theorem b_or (x y : Int32) (i : Nat) : bt (x ||| y) i = (bt x i || bt y i) := by unfold bt; rw [Int32.toBitVec_or, BitVec.getLsbD_or]
theorem b_and (x y : Int32) (i : Nat) : bt (x &&& y) i = (bt x i && bt y i) := by unfold bt; rw [Int32.toBitVec_and, BitVec.getLsbD_and]
theorem b_xor (x y : Int32) (i : Nat) : bt (x ^^^ y) i = (bt x i ^^ bt y i) := by unfold bt; rw [Int32.toBitVec_xor, BitVec.getLsbD_xor]
theorem b_big {x : Int32} {i : Nat} (h : 32 ≤ i) : bt x i = false := BitVec.getLsbD_of_ge _ _ h
theorem b_255 (i : Nat) : bt 255 i = decide (i < 8) := by
  rcases Nat.lt_or_ge i 32 with h | h
  · exact (by decide +kernel : ∀ i, i < 32 → bt 255 i = decide (i < 8)) i h
  · rw [b_big h, decide_eq_false (by omega)]
theorem b_65535 (i : Nat) : bt 65535 i = decide (i < 16) := by
  rcases Nat.lt_or_ge i 32 with h | h
  · exact (by decide +kernel : ∀ i, i < 32 → bt 65535 i = decide (i < 16)) i h
  · rw [b_big h, decide_eq_false (by omega)]
theorem b_m1 : ∀ i, i < 32 → bt (-1) i = true := by decide +kernel
theorem b_0 (i : Nat) : bt 0 i = false := BitVec.getLsbD_zero
theorem s_l : ∀ n, n < 32 → ((nI n &&& 31).toBitVec.smod 32).toNat = n := by decide +kernel
theorem s_u : ∀ n, n < 32 → (((nI n).toUInt32 &&& Int32.toUInt32 31).toBitVec % 32).toNat = n := by decide +kernel
theorem b_shl (n : Nat) (hn : n < 32) (x : Int32) {i : Nat} (hi : i < 32) : bt (x <<< (nI n &&& 31)) i = (decide (n ≤ i) && bt x (i - n)) := by
  unfold bt
  rw [Int32.toBitVec_shiftLeft]
  show (x.toBitVec <<< ((nI n &&& 31).toBitVec.smod 32).toNat).getLsbD i = _
  rw [s_l n hn, BitVec.getLsbD_shiftLeft]
  rcases Nat.lt_or_ge i n with h | h
  · simp [h, Nat.not_le.mpr h]
  · simp [hi, h, Nat.not_lt.mpr h]
theorem b_ushr (n : Nat) (hn : n < 32) (x : Int32) (i : Nat) : bt ((x.toUInt32 >>> ((nI n).toUInt32 &&& Int32.toUInt32 31)).toInt32) i = bt x (n + i) := by
  show (x.toUInt32 >>> ((nI n).toUInt32 &&& Int32.toUInt32 31)).toBitVec.getLsbD i = x.toUInt32.toBitVec.getLsbD (n + i)
  rw [UInt32.toBitVec_shiftRight]
  show (x.toUInt32.toBitVec >>> (((nI n).toUInt32 &&& Int32.toUInt32 31).toBitVec % 32).toNat).getLsbD i = _
  rw [s_u n hn, BitVec.getLsbD_ushiftRight]
theorem b_sshr (n : Nat) (hn : n < 32) (x : Int32) {i : Nat} (hi : i < 32) : bt (x >>> (nI n &&& 31)) i = if n + i < 32 then bt x (n + i) else bt x 31 := by
  unfold bt
  rw [Int32.toBitVec_shiftRight]
  show (x.toBitVec.sshiftRight ((nI n &&& 31).toBitVec.smod 32).toNat).getLsbD i = _
  rw [s_l n hn, BitVec.getLsbD_sshiftRight, BitVec.msb_eq_getLsbD_last]
  simp [hi]
theorem b_shl8 (x : Int32) {i : Nat} (hi : i < 32) : bt (x <<< ((8 : Int32) &&& 31)) i = (decide (8 ≤ i) && bt x (i - 8)) := b_shl 8 (by omega) x hi
theorem b_shl16 (x : Int32) {i : Nat} (hi : i < 32) : bt (x <<< ((16 : Int32) &&& 31)) i = (decide (16 ≤ i) && bt x (i - 16)) := b_shl 16 (by omega) x hi
theorem b_shl24 (x : Int32) {i : Nat} (hi : i < 32) : bt (x <<< ((24 : Int32) &&& 31)) i = (decide (24 ≤ i) && bt x (i - 24)) := b_shl 24 (by omega) x hi
theorem b_sshr8 (x : Int32) {i : Nat} (hi : i < 32) : bt (x >>> ((8 : Int32) &&& 31)) i = if 8 + i < 32 then bt x (8 + i) else bt x 31 := b_sshr 8 (by omega) x hi

theorem q_toInt {n : Nat} (h : n < 2 ^ 31) : (nI n).toInt = (n : Int) := nI_toInt h
theorem q_lt {a b : Nat} (ha : a < 2 ^ 31) (hb : b < 2 ^ 31) : (nI a < nI b) ↔ a < b := by
  rw [Int32.lt_iff_toInt_lt, nI_toInt ha, nI_toInt hb]; omega
theorem q_nle {a b : Nat} (ha : a < 2 ^ 31) (hb : b < 2 ^ 31) : (nI a ≤ nI b) ↔ a ≤ b := by
  rw [Int32.le_iff_toInt_le, nI_toInt ha, nI_toInt hb]; omega
theorem q_eq {a b : Nat} (ha : a < 2 ^ 31) (hb : b < 2 ^ 31) : (nI a = nI b) ↔ a = b := by
  constructor
  · intro h
    have := congrArg Int32.toInt h
    rw [nI_toInt ha, nI_toInt hb] at this
    omega
  · rintro rfl; rfl
theorem q_addI (a b : Nat) : nI a + nI b = nI (a + b) := by
  unfold nI
  exact (Int32.ofNat_add a b).symm
/-- a number between bounds is a count -/
theorem q_idx {x : Int32} {n : Nat} (hn : n < 2 ^ 31) (h0 : 0 ≤ x) (h1 : x < nI n) : ∃ k, k < n ∧ x = nI k := by
  have a0 := Int32.le_iff_toInt_le.mp h0
  have a1 := Int32.lt_iff_toInt_lt.mp h1
  rw [nI_toInt hn] at a1
  have e0 : (0 : Int32).toInt = 0 := rfl
  rw [e0] at a0
  refine ⟨x.toInt.toNat, by omega, ?_⟩
  apply Int32.toInt_inj.mp
  rw [nI_toInt (by omega)]
  omega
theorem q_idx2 {x : Int32} {n : Nat} (hn : n < 2 ^ 31) (h0 : 0 ≤ x) (h1 : x ≤ nI n) : ∃ k, k ≤ n ∧ x = nI k := by
  have a0 := Int32.le_iff_toInt_le.mp h0
  have a1 := Int32.le_iff_toInt_le.mp h1
  rw [nI_toInt hn] at a1
  have e0 : (0 : Int32).toInt = 0 := rfl
  rw [e0] at a0
  refine ⟨x.toInt.toNat, by omega, ?_⟩
  apply Int32.toInt_inj.mp
  rw [nI_toInt (by omega)]
  omega
theorem q_clamp {n : Nat} (h : n < 2 ^ 31) : (nI n).toNatClampNeg = n := nI_clamp h
theorem q_nneg {n : Nat} (h : n < 2 ^ 31) : ¬ nI n < 0 := nI_pos h
/-- a set of the first n numbers, as bits -/
def q_bits : Nat → (Nat → Bool) → Int32
  | 0, _ => 0
  | n + 1, p => if p n = true then q_bits n p ||| ((1 : Int32) <<< (nI n &&& 31)) else q_bits n p
theorem bt_1 (i : Nat) : bt 1 i = decide (i = 0) := by
  rcases Nat.lt_or_ge i 32 with h | h
  · exact (by decide +kernel : ∀ i, i < 32 → bt 1 i = decide (i = 0)) i h
  · rw [b_big h, decide_eq_false (by omega)]
theorem bt_one {n : Nat} (hn : n < 32) {i : Nat} (hi : i < 32) : bt ((1 : Int32) <<< (nI n &&& 31)) i = decide (i = n) := by
  rw [b_shl n hn 1 hi, bt_1]
  by_cases h : i = n
  · subst h; simp
  · simp [h]; omega
theorem bt_bits {n : Nat} (hn : n ≤ 32) (p : Nat → Bool) {i : Nat} (hi : i < 32) : bt (q_bits n p) i = (decide (i < n) && p i) := by
  induction n with
  | zero => rw [q_bits, b_0]; simp
  | succ n ih =>
    rw [q_bits]
    have ih := ih (by omega)
    by_cases hp : p n = true
    · rw [if_pos hp, b_or, ih, bt_one (by omega) hi]
      by_cases h : i = n
      · subst h; simp [hp]
      · have : decide (i < n + 1) = decide (i < n) := by congr 1; apply propext; omega
        simp [h, this]
    · rw [if_neg hp, ih]
      by_cases h : i = n
      · subst h; simp [hp]
      · have : decide (i < n + 1) = decide (i < n) := by congr 1; apply propext; omega
        rw [this]
theorem q_bits_congr {n : Nat} {p q : Nat → Bool} (h : ∀ i, i < n → p i = q i) : q_bits n p = q_bits n q := by
  induction n with
  | zero => rfl
  | succ n ih => rw [q_bits, q_bits, h n (by omega), ih (fun i hi => h i (by omega))]
theorem q_bits_and {n : Nat} (hn : n ≤ 32) (p q : Nat → Bool) : q_bits n p &&& q_bits n q = q_bits n (fun i => p i && q i) := by
  apply b_ext
  intro i hi
  rw [b_and, bt_bits hn _ hi, bt_bits hn _ hi, bt_bits hn _ hi]
  cases decide (i < n) <;> simp
theorem q_bits_or {n : Nat} (hn : n ≤ 32) (p q : Nat → Bool) : q_bits n p ||| q_bits n q = q_bits n (fun i => p i || q i) := by
  apply b_ext
  intro i hi
  rw [b_or, bt_bits hn _ hi, bt_bits hn _ hi, bt_bits hn _ hi]
  cases decide (i < n) <;> simp
theorem q_bits_inj {n : Nat} (hn : n ≤ 32) {p q : Nat → Bool} (h : q_bits n p = q_bits n q) : ∀ i, i < n → p i = q i := by
  intro i hi
  have := congrArg (fun x => bt x i) h
  simpa [bt_bits hn _ (show i < 32 by omega), hi] using this
/-- one bit, shifted down: by either shift -/
theorem bt_sshr1 (x : Int32) {n : Nat} (hn : n < 31) : (x >>> (nI n &&& 31)) &&& 1 = if bt x n = true then 1 else 0 := by
  apply b_ext
  intro i hi
  rw [b_and, bt_1, b_sshr n (by omega) x hi]
  by_cases h : i = 0
  · subst h
    rw [if_pos (by omega)]
    by_cases hb : bt x n = true
    · simp [hb, bt_1]
    · simp [hb, b_0]
  · by_cases hb : bt x n = true
    · simp [h, hb, bt_1]
    · simp [h, hb, b_0]
theorem bt_ushr1 (x : Int32) {n : Nat} (hn : n < 32) : ((x.toUInt32 >>> ((nI n).toUInt32 &&& Int32.toUInt32 31)).toInt32) &&& 1 = if bt x n = true then 1 else 0 := by
  apply b_ext
  intro i hi
  rw [b_and, bt_1, b_ushr n hn x i]
  by_cases h : i = 0
  · subst h
    by_cases hb : bt x n = true
    · simp [hb, bt_1]
    · simp [hb, b_0]
  · by_cases hb : bt x n = true
    · simp [h, hb, bt_1]
    · simp [h, hb, b_0]
theorem q_b10 {p : Prop} [Decidable p] : ((if p then (1 : Int32) else 0) = 0) ↔ ¬ p := by by_cases h : p <;> simp [h]
theorem q_b11 {p : Prop} [Decidable p] : ((if p then (1 : Int32) else 0) = 1) ↔ p := by by_cases h : p <;> simp [h]
theorem q_d_ne {d : Nat → Nat → Int32} {o k a b : Nat} {v : Int32} (h : a ≠ o ∨ b ≠ k) : q_d d o k v a b = d a b := by
  unfold q_d
  by_cases h1 : a = o
  · rw [if_pos h1]
    rcases h with h | h
    · exact absurd h1 h
    · rw [if_neg h]
  · rw [if_neg h1]
theorem q_d_eq {d : Nat → Nat → Int32} {o k : Nat} {v : Int32} : q_d d o k v o k = v := by unfold q_d; rw [if_pos rfl, if_pos rfl]
