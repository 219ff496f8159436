/-! COUNTS OF BITS, SETS AS NUMBERS -/
def q_cnt : Nat → Int32 → Nat
  | 0, _ => 0
  | n + 1, x => q_cnt n x + (if bt x n = true then 1 else 0)
theorem q_cnt_le (n : Nat) (x : Int32) : q_cnt n x ≤ n := by
  induction n with
  | zero => exact Nat.le_refl _
  | succ n ih =>
    rw [q_cnt]
    by_cases h : bt x n = true
    · rw [if_pos h]; omega
    · rw [if_neg h]; omega
theorem q_cnt0 {n : Nat} {x : Int32} : q_cnt n x = 0 ↔ ∀ i, i < n → bt x i = false := by
  induction n with
  | zero => exact ⟨fun _ i hi => by omega, fun _ => rfl⟩
  | succ n ih =>
    rw [q_cnt]
    constructor
    · intro h i hi
      have h1 : q_cnt n x = 0 := by omega
      rcases Nat.lt_or_ge i n with h2 | h2
      · exact ih.mp h1 i h2
      · have e : i = n := by omega
        subst e
        by_cases hb : bt x i = true
        · rw [if_pos hb] at h; omega
        · simpa using hb
    · intro h
      rw [ih.mpr (fun i hi => h i (by omega)), if_neg (by rw [h n (by omega)]; exact Bool.false_ne_true)]
theorem bt_nI (n : Nat) {i : Nat} (hi : i < 32) : bt (nI n) i = n.testBit i := by
  unfold bt nI
  show (BitVec.ofNat 32 n).getLsbD i = _
  rw [BitVec.getLsbD_ofNat]
  simp [hi]
theorem q_asN {x : Int32} {n : Nat} (h : ∀ i, n ≤ i → i < 32 → bt x i = false) : ∃ k, k < 2 ^ n ∧ x = nI k := by
  refine ⟨x.toBitVec.toNat, ?_, ?_⟩
  · apply Nat.lt_pow_two_of_testBit
    intro i hi
    rw [BitVec.testBit_toNat]
    rcases Nat.lt_or_ge i 32 with h2 | h2
    · exact h i hi h2
    · exact BitVec.getLsbD_of_ge _ _ h2
  · apply Int32.toBitVec_inj.mp
    unfold nI
    show x.toBitVec = BitVec.ofNat 32 _
    rw [BitVec.ofNat_toNat]
    simp
theorem q_Nbt {n k : Nat} (hk : k < 2 ^ n) {i : Nat} (hn : n ≤ i) (hi : i < 32) : bt (nI k) i = false := by
  rw [bt_nI k hi]
  exact Nat.testBit_lt_two_pow (Nat.lt_of_lt_of_le hk (Nat.pow_le_pow_right (by omega) hn))
/-- only the first n bits -/
def q_lo (n : Nat) (x : Int32) : Prop := ∀ i, n ≤ i → i < 32 → bt x i = false
theorem q_lo.mono {n m : Nat} {x : Int32} (h : q_lo n x) (e : n ≤ m) : q_lo m x := fun i h1 h2 => h i (by omega) h2
theorem q_lo_bits {n m : Nat} (hn : n ≤ m) (hm : m ≤ 32) (p : Nat → Bool) : q_lo m (q_bits n p) := fun i h1 h2 => by
  rw [bt_bits (by omega) p h2, decide_eq_false (by omega), Bool.false_and]
theorem q_lo_and {n : Nat} {x y : Int32} (h : q_lo n x) : q_lo n (x &&& y) := fun i h1 h2 => by rw [b_and, h i h1 h2, Bool.false_and]
theorem q_lo_and2 {n : Nat} {x y : Int32} (h : q_lo n y) : q_lo n (x &&& y) := fun i h1 h2 => by rw [b_and, h i h1 h2, Bool.and_false]
theorem q_lo_N {n k : Nat} (hk : k < 2 ^ n) : q_lo n (nI k) := fun _ h1 h2 => q_Nbt hk h1 h2
theorem q_lo_eq {n : Nat} {x : Int32} (h : q_lo n x) (hn : n ≤ 32) : x = q_bits n (bt x) := by
  apply b_ext
  intro i hi
  rw [bt_bits hn _ hi]
  by_cases h1 : i < n
  · simp [h1]
  · simp [h1, h i (by omega) hi]
theorem q_cnt_lo {n m : Nat} {x : Int32} (h : q_lo n x) (e : n ≤ m) (hm : m ≤ 32) : q_cnt m x = q_cnt n x := by
  induction m with
  | zero => have : n = 0 := by omega
            rw [this]
  | succ m ih =>
    rcases Nat.eq_or_lt_of_le e with e1 | e1
    · rw [e1]
    · rw [q_cnt, ih (by omega) (by omega), if_neg (by rw [h m (by omega) (by omega)]; exact Bool.false_ne_true), Nat.add_zero]
theorem q_cnt_z {n : Nat} {x : Int32} (h : q_lo n x) (hn : n ≤ 32) : q_cnt n x = 0 ↔ x = 0 := by
  rw [q_cnt0]
  constructor
  · intro h2
    apply b_ext
    intro i hi
    rw [b_0]
    rcases Nat.lt_or_ge i n with h3 | h3
    · exact h2 i h3
    · exact h i h3 hi
  · rintro rfl i _
    exact b_0 i
/-- the number of bits by adding in parallel -/
def q_us (x n : Int32) : Int32 := (x.toUInt32 >>> (n.toUInt32 &&& Int32.toUInt32 31)).toInt32
def q_bc (x : Int32) : Int32 :=
  let a := x - (q_us x 1 &&& 1431655765)
  let b := (a &&& 858993459) + (q_us a 2 &&& 858993459)
  let c := (b + q_us b 4) &&& 252645135
  let e := c + q_us c 8
  (e + q_us e 16) &&& 63
theorem q_bc_all : ∀ a, a < 64 → ∀ b, b < 64 → q_bc (nI (64 * a + b)) = nI (q_cnt 12 (nI (64 * a + b))) := by decide +kernel
theorem q_bc_eq {x : Int32} (h : q_lo 12 x) : q_bc x = nI (q_cnt 12 x) := by
  obtain ⟨k, hk, rfl⟩ := q_asN h
  have := q_bc_all (k / 64) (by omega) (k % 64) (by omega)
  rwa [show 64 * (k / 64) + k % 64 = k from by omega] at this
/-- powers of two -/
theorem q_one_shl : ∀ n, n ≤ 12 → (1 : Int32) <<< (nI n &&& 31) = nI (2 ^ n) := by decide +kernel
theorem q_below : ∀ n, n ≤ 12 → (1 : Int32) <<< (nI n &&& 31) - 1 = nI (2 ^ n - 1) := by decide +kernel
theorem q_below6 : (1 : Int32) <<< ((6 : Int32) &&& 31) - 1 = 63 := by decide +kernel
theorem q_below8 : (1 : Int32) <<< ((8 : Int32) &&& 31) - 1 = 255 := by decide +kernel
theorem q_below_bt {n i : Nat} (hn : n ≤ 12) (hi : i < 32) : bt (nI (2 ^ n - 1)) i = decide (i < n) := by
  rw [bt_nI _ hi, Nat.testBit_two_pow_sub_one]
theorem q_below_bits {n : Nat} (hn : n ≤ 12) : nI (2 ^ n - 1) = q_bits n (fun _ => true) := by
  apply b_ext
  intro i hi
  rw [q_below_bt hn hi, bt_bits (by omega) _ hi, Bool.and_true]
theorem q_pow_le {n m : Nat} (h : n ≤ m) : 2 ^ n ≤ 2 ^ m := Nat.pow_le_pow_right (by omega) h
theorem q_pow12 {n : Nat} (h : n ≤ 12) : 2 ^ n ≤ 4096 := q_pow_le h
theorem q_pow6 {n : Nat} (h : n ≤ 6) : 2 ^ n ≤ 64 := q_pow_le h
theorem q_pow1 (n : Nat) : 1 ≤ 2 ^ n := Nat.one_le_two_pow
/-- subsets -/
theorem b_not (x : Int32) {i : Nat} (hi : i < 32) : bt (x ^^^ -1) i = !bt x i := by rw [b_xor, b_m1 i hi, Bool.xor_true]
theorem b_nt (x : Int32) {i : Nat} (hi : i < 32) : bt (q_nt x) i = !bt x i := b_not x hi
theorem q_sub {a b : Int32} : a &&& (b ^^^ -1) = 0 ↔ ∀ i, i < 32 → bt a i = true → bt b i = true := by
  constructor
  · intro h i hi ha
    have := congrArg (fun x => bt x i) h
    simp only [b_and, b_not b hi, ha, b_0, Bool.true_and] at this
    simpa using this
  · intro h
    apply b_ext
    intro i hi
    rw [b_and, b_not b hi, b_0]
    cases ha : bt a i with
    | false => rfl
    | true => rw [h i hi ha]; rfl
theorem q_sub_below {a : Int32} {n : Nat} (hn : n ≤ 12) : a &&& (nI (2 ^ n - 1) ^^^ -1) = 0 ↔ (0 ≤ a ∧ a ≤ nI (2 ^ n - 1)) := by
  have hp := q_pow12 hn
  have hp1 := q_pow1 n
  rw [q_sub]
  constructor
  · intro h
    obtain ⟨k, hk, rfl⟩ := q_asN (x := a) (n := n) (fun i h1 h2 => by
      cases hb : bt a i with
      | false => rfl
      | true => have := h i h2 hb; rw [q_below_bt hn h2] at this; simp at this; omega)
    exact ⟨(q_nle (a := 0) (by omega) (by omega)).mpr (Nat.zero_le _), (q_nle (by omega) (by omega)).mpr (by omega)⟩
  · rintro ⟨h1, h2⟩ i hi hb
    obtain ⟨k, hk, rfl⟩ := q_idx2 (by omega) h1 h2
    rw [q_below_bt hn hi]
    rcases Nat.lt_or_ge i n with h3 | h3
    · exact decide_eq_true h3
    · rw [q_Nbt (n := n) (by omega) h3 hi] at hb; cases hb
theorem q_sub63 {a : Int32} : a &&& ((63 : Int32) ^^^ -1) = 0 ↔ (0 ≤ a ∧ a ≤ 63) := q_sub_below (n := 6) (by omega)
theorem q_sub_bits {a : Int32} {n : Nat} {p : Nat → Bool} (hn : n ≤ 10) (h : a &&& (q_bits n p ^^^ -1) = 0) : q_lo n a := fun i h1 h2 => by
  cases hb : bt a i with
  | false => rfl
  | true => have := q_sub.mp h i h2 hb; rw [bt_bits (by omega) _ h2] at this; simp at this; omega
theorem q_lo_rng {a : Int32} {n : Nat} (hn : n ≤ 12) (h : q_lo n a) : 0 ≤ a ∧ a ≤ nI (2 ^ n - 1) := by
  have hp := q_pow12 hn
  have hp1 := q_pow1 n
  obtain ⟨k, hk, rfl⟩ := q_asN h
  exact ⟨(q_nle (a := 0) (by omega) (by omega)).mpr (Nat.zero_le _), (q_nle (by omega) (by omega)).mpr (by omega)⟩
/-- one more bit, by either way of joining it -/
theorem b_pow {n : Nat} (hn : n ≤ 30) {i : Nat} (hi : i < 32) : bt (nI (2 ^ n)) i = decide (i = n) := by
  rw [← n_shl1 hn]; exact bt_one (by omega) hi
theorem q_bits_t {n : Nat} {p : Nat → Bool} (hn : n ≤ 30) (h : p n = true) : q_bits n p ||| nI (2 ^ n) = q_bits (n + 1) p := by rw [q_bits, if_pos h, ← n_shl1 hn]; rfl
theorem q_bits_f {n : Nat} {p : Nat → Bool} (h : p n = false) : q_bits (n + 1) p = q_bits n p := by rw [q_bits, if_neg (by rw [h]; exact Bool.false_ne_true)]
theorem q_bits_ite {n : Nat} {p : Nat → Bool} {c : Prop} [Decidable c] (hn : n ≤ 30) (h : c ↔ p n = true) : (if c then q_bits n p ||| nI (2 ^ n) = q_bits (n + 1) p else q_bits n p = q_bits (n + 1) p) := by
  by_cases hc : c
  · rw [if_pos hc]; exact q_bits_t hn (h.mp hc)
  · rw [if_neg hc]; exact (q_bits_f (by cases hp : p n with | false => rfl | true => exact absurd (h.mpr hp) hc)).symm
theorem q_bits_d {n : Nat} {p : Nat → Bool} {c : Prop} [Decidable c] (hn : n ≤ 30) (h : c ↔ p n = true) : q_bits n p ||| (if c then nI (2 ^ n) else nI 0) = q_bits (n + 1) p := by
  by_cases hc : c
  · rw [if_pos hc, q_bits_t hn (h.mp hc)]
  · rw [if_neg hc, q_bits_f (by cases hp : p n with | false => rfl | true => exact absurd (h.mpr hp) hc)]
    exact Int32.or_zero
theorem n_and1 {x : Int32} {n : Nat} (hn : n < 31) : ((x >>> (nI n &&& 31)) &&& nI 1) = if bt x n = true then nI 1 else nI 0 := bt_sshr1 x hn
theorem n_or0 {x : Int32} : x ||| nI 0 = x := Int32.or_zero
theorem n_add0 {x : Int32} : x + nI 0 = x := Int32.add_zero x
theorem q_bits_none {n : Nat} {p : Nat → Bool} (h : ∀ i, p i = false) : q_bits n p = nI 0 := by
  induction n with
  | zero => rfl
  | succ n ih => rw [q_bits_f (h n), ih]
theorem n_bits0 {p : Nat → Bool} : q_bits 0 p = nI 0 := rfl
theorem n_sub63 {a : Int32} : a &&& q_nt (nI 63) = nI 0 ↔ (nI 0 ≤ a ∧ a ≤ nI 63) := q_sub63
theorem n_subB {a : Int32} {n : Nat} (hn : n ≤ 12) : a &&& q_nt (nI (2 ^ n - 1)) = nI 0 ↔ (nI 0 ≤ a ∧ a ≤ nI (2 ^ n - 1)) := q_sub_below hn
