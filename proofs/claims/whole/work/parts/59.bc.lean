/-! HOW MANY BITS A LONG HAS, counted in parallel -/
def q_mk8 (m : Nat) : Nat → Nat
  | 0 => 0
  | K + 1 => m + 256 * q_mk8 m K
def q_val : (Nat → Nat) → Nat → Nat
  | _, 0 => 0
  | g, K + 1 => g 0 + 256 * q_val (fun k => g (k + 1)) K
def q_f1b (a : Nat) : Nat := a - (a / 2 &&& 85)
def q_f2b (a : Nat) : Nat := (a &&& 51) + (a / 4 &&& 51)
def q_f3b (a : Nat) : Nat := a % 16 + a / 16
theorem land_b {a m h M : Nat} (ha : a < 256) (hm : m < 256) : (a + 256 * h) &&& (m + 256 * M) = (a &&& m) + 256 * (h &&& M) := by
  have e : ∀ x y : Nat, x + 256 * y = 2 ^ 8 * y + x := fun x y => by omega
  have hl : (a &&& m) < 2 ^ 8 := Nat.and_lt_two_pow a (show m < 2 ^ 8 by omega)
  rw [e, e, e]
  apply Nat.eq_of_testBit_eq
  intro j
  rw [Nat.testBit_and, Nat.testBit_two_pow_mul_add _ (show a < 2 ^ 8 by omega), Nat.testBit_two_pow_mul_add _ (show m < 2 ^ 8 by omega), Nat.testBit_two_pow_mul_add _ hl]
  by_cases hj : j < 8
  · rw [if_pos hj, if_pos hj, if_pos hj, Nat.testBit_and]
  · rw [if_neg hj, if_neg hj, if_neg hj, Nat.testBit_and]
theorem bc_c1 : ∀ a, a < 256 → ∀ c, c < 2 → (a / 2 + 128 * c) &&& 85 = a / 2 &&& 85 := by decide +kernel
theorem bc_c2 : ∀ a, a < 256 → ∀ c, c < 4 → (a / 4 + 64 * c) &&& 51 = a / 4 &&& 51 := by decide +kernel
theorem bc_c3 : ∀ a, a < 69 → a % 16 ≤ 4 → ∀ c, c < 5 → (a + a / 16 + 16 * c) &&& 15 = a % 16 + a / 16 := by decide +kernel
def q_pc (n m : Nat) : Nat := q_sumN m (fun b => if n.testBit b = true then 1 else 0)
theorem bc_c4 : ∀ b, b < 256 → q_f1b b < 256 ∧ q_f2b (q_f1b b) < 69 ∧ q_f2b (q_f1b b) % 16 ≤ 4 ∧ q_f3b (q_f2b (q_f1b b)) = q_pc b 8 := by decide +kernel
theorem bc_1 : ∀ K (g : Nat → Nat), (∀ k, g k < 256) → q_val g K - (q_val g K / 2 &&& q_mk8 85 K) = q_val (fun k => q_f1b (g k)) K := by
  intro K
  induction K with
  | zero => intro g _; simp [q_val, q_mk8]
  | succ K ih =>
    intro g hg
    have ih := ih (fun k => g (k + 1)) (fun k => hg (k + 1))
    have h0 := hg 0
    rw [q_val, q_mk8, q_val]
    rw [← ih]
    clear ih
    generalize q_val (fun k => g (k + 1)) K = h
    generalize g 0 = a at *
    have e1 : (a + 256 * h) / 2 = (a / 2 + 128 * (h % 2)) + 256 * (h / 2) := by omega
    rw [e1, land_b (by omega) (by omega), bc_c1 a h0 _ (by omega)]
    unfold q_f1b
    have l1 : (a / 2 &&& 85) ≤ a / 2 := Nat.and_le_left
    have l2 : (h / 2 &&& q_mk8 85 K) ≤ h / 2 := Nat.and_le_left
    generalize (a / 2 &&& 85) = u at *
    generalize (h / 2 &&& q_mk8 85 K) = v at *
    omega
theorem bc_2 : ∀ K (g : Nat → Nat), (∀ k, g k < 256) → (q_val g K &&& q_mk8 51 K) + (q_val g K / 4 &&& q_mk8 51 K) = q_val (fun k => q_f2b (g k)) K := by
  intro K
  induction K with
  | zero => intro g _; simp [q_val, q_mk8]
  | succ K ih =>
    intro g hg
    have ih := ih (fun k => g (k + 1)) (fun k => hg (k + 1))
    have h0 := hg 0
    rw [q_val, q_mk8, q_val]
    rw [← ih]
    clear ih
    generalize q_val (fun k => g (k + 1)) K = h
    generalize g 0 = a at *
    have e1 : (a + 256 * h) / 4 = (a / 4 + 64 * (h % 4)) + 256 * (h / 4) := by omega
    rw [e1, land_b h0 (by omega), land_b (by omega) (by omega), bc_c2 a h0 _ (by omega)]
    unfold q_f2b
    generalize (a &&& 51) = u1
    generalize (a / 4 &&& 51) = u2
    generalize (h &&& q_mk8 51 K) = v1
    generalize (h / 4 &&& q_mk8 51 K) = v2
    omega
theorem bc_m16 : ∀ K (g : Nat → Nat), (∀ k, g k < 69 ∧ g k % 16 ≤ 4) → q_val g K % 16 < 5 := by
  intro K g hg
  cases K with
  | zero => show 0 % 16 < 5; omega
  | succ K =>
    rw [q_val]
    have := hg 0
    omega
theorem bc_3 : ∀ K (g : Nat → Nat), (∀ k, g k < 69 ∧ g k % 16 ≤ 4) → (q_val g K + q_val g K / 16) &&& q_mk8 15 K = q_val (fun k => q_f3b (g k)) K := by
  intro K
  induction K with
  | zero => intro g _; simp [q_val, q_mk8]
  | succ K ih =>
    intro g hg
    have ih := ih (fun k => g (k + 1)) (fun k => hg (k + 1))
    have h16 := bc_m16 K (fun k => g (k + 1)) (fun k => hg (k + 1))
    have h0 := hg 0
    rw [q_val, q_mk8, q_val]
    rw [← ih]
    clear ih
    generalize q_val (fun k => g (k + 1)) K = h at *
    generalize g 0 = a at *
    have e1 : a + 256 * h + (a + 256 * h) / 16 = (a + a / 16 + 16 * (h % 16)) + 256 * (h + h / 16) := by omega
    rw [e1, land_b (by omega) (by omega), bc_c3 a h0.1 h0.2 _ h16]
    rfl
theorem bc_val : ∀ K n, n < 256 ^ K → q_val (fun k => n / 256 ^ k % 256) K = n := by
  intro K
  induction K with
  | zero => intro n h; rw [Nat.pow_zero] at h; show 0 = n; omega
  | succ K ih =>
    intro n h
    rw [Nat.pow_succ] at h
    have h2 : n / 256 < 256 ^ K := by omega
    have ih := ih (n / 256) h2
    have e : (fun k => n / 256 ^ (k + 1) % 256) = (fun k => n / 256 / 256 ^ k % 256) := by
      funext k
      rw [Nat.div_div_eq_div_mul, Nat.pow_succ, Nat.mul_comm]
    rw [q_val, e, ih, Nat.pow_zero, Nat.div_one]
    omega
theorem q_sumN_add (a b : Nat) (f : Nat → Nat) : q_sumN (a + b) f = q_sumN a f + q_sumN b (fun i => f (a + i)) := by
  induction b with
  | zero => rfl
  | succ b ih => rw [← Nat.add_assoc, q_sumN, q_sumN, ih]; omega
theorem bc_pc : ∀ K n, q_pc n (8 * K) = q_sumN K (fun k => q_pc (n / 256 ^ k % 256) 8) := by
  intro K
  induction K with
  | zero => intro n; rfl
  | succ K ih =>
    intro n
    have e1 : 8 * (K + 1) = 8 * K + 8 := by omega
    rw [e1, q_sumN, ← ih n]
    unfold q_pc
    rw [q_sumN_add]
    congr 1
    refine q_sumN_congr fun i hi => ?_
    have e2 : (256 : Nat) ^ K = 2 ^ (8 * K) := by rw [Nat.pow_mul]
    have e3 : (256 : Nat) = 2 ^ 8 := rfl
    have e4 : (n / 256 ^ K % 256).testBit i = n.testBit (8 * K + i) := by
      rw [e2, e3, Nat.testBit_mod_two_pow, Nat.testBit_div_two_pow, Nat.add_comm i]
      simp [hi]
    rw [e4]
theorem bc_d {n a h : Nat} (e : n = a + 256 * h) (ha : a < 256) : n / 256 = h := by omega
theorem bc_g {x y a b h k : Nat} (e1 : x = a + 256 * h) (e2 : y = b + 256 * k) : x + y = (a + b) + 256 * (h + k) := by omega
theorem bc_g0 {t p q : Nat} (e : t = p + 256 * q) : t + q = (p + q) + 256 * q := by omega
theorem bc_h {u a h p : Nat} (e : u = a + 256 * h) : u + p = (a + p) + 256 * h := by omega
theorem bc_l {u a h B : Nat} (e : u = a + 256 * h) (ha : a < 256) (hh : h < B) : u < 256 * B := by omega
theorem bc_m {n s h : Nat} (e : n = s + 256 * h) (hs : s < 128) : n % 128 = s := by omega
theorem bc_s2 {a b : Nat} (ha : a ≤ 8) (hb : b ≤ 8) : a + b ≤ 16 := by omega
theorem bc_s4 {a b : Nat} (ha : a ≤ 16) (hb : b ≤ 16) : a + b ≤ 32 := by omega
theorem bc_s8 (F : Nat → Nat) : q_sumN 8 F = F 0 + F 1 + (F 2 + F 3) + (F 4 + F 5 + (F 6 + F 7)) := by
  simp only [q_sumN]
  omega
theorem bc_fin {p0 p1 p2 p3 p4 p5 p6 p7 : Nat} (h0 : p0 ≤ 8) (h1 : p1 ≤ 8) (h2 : p2 ≤ 8) (h3 : p3 ≤ 8) (h4 : p4 ≤ 8) (h5 : p5 ≤ 8) (h6 : p6 ≤ 8) (h7 : p7 ≤ 8) {n3 n4 n5 n6 : Nat} (e3 : n3 = p0 + 256 * (p1 + 256 * (p2 + 256 * (p3 + 256 * (p4 + 256 * (p5 + 256 * (p6 + 256 * p7))))))) (e4 : n4 = n3 + n3 / 256) (e5 : n5 = n4 + n4 / 65536) (e6 : n6 = n5 + n5 / 4294967296) : n6 % 128 = p0 + p1 + (p2 + p3) + (p4 + p5 + (p6 + p7)) ∧ n4 < 2 ^ 64 ∧ n5 < 2 ^ 64 ∧ n6 < 2 ^ 64 := by
  obtain ⟨t6, t6e⟩ : ∃ t, t = p6 + 256 * p7 := ⟨_, rfl⟩
  obtain ⟨t5, t5e⟩ : ∃ t, t = p5 + 256 * t6 := ⟨_, rfl⟩
  obtain ⟨t4, t4e⟩ : ∃ t, t = p4 + 256 * t5 := ⟨_, rfl⟩
  obtain ⟨t3, t3e⟩ : ∃ t, t = p3 + 256 * t4 := ⟨_, rfl⟩
  obtain ⟨t2, t2e⟩ : ∃ t, t = p2 + 256 * t3 := ⟨_, rfl⟩
  obtain ⟨t1, t1e⟩ : ∃ t, t = p1 + 256 * t2 := ⟨_, rfl⟩
  rw [← t6e, ← t5e, ← t4e, ← t3e, ← t2e, ← t1e] at e3
  have q : ∀ {a}, a ≤ 8 → a < 256 := fun h => Nat.lt_of_le_of_lt h (by decide)
  have q2 : ∀ {a b}, a ≤ 8 → b ≤ 8 → a + b < 256 := fun h k => Nat.lt_of_le_of_lt (bc_s2 h k) (by decide)
  have q4 : ∀ {a b}, a ≤ 16 → b ≤ 16 → a + b < 256 := fun h k => Nat.lt_of_le_of_lt (bc_s4 h k) (by decide)
  rw [bc_d e3 (q h0)] at e4
  have g6 := bc_g0 t6e
  have g5 := bc_g t5e t6e
  have g4 := bc_g t4e t5e
  have g3 := bc_g t3e t4e
  have g2 := bc_g t2e t3e
  have g1 := bc_g t1e t2e
  have g0 := e4.trans (bc_g e3 t1e)
  have b4 : n4 / 65536 = t2 + t3 := by
    rw [show (65536 : Nat) = 256 * 256 from rfl, ← Nat.div_div_eq_div_mul, bc_d g0 (q2 h0 h1), bc_d g1 (q2 h1 h2)]
  rw [b4] at e5
  have k5 := bc_h (p := p7) g5
  have k4 := bc_g g4 g6
  have k3 := bc_g g3 g5
  have k2 := bc_g g2 g4
  have k1 := bc_g g1 g3
  have k0 := e5.trans (bc_g g0 g2)
  have l3 : n5 / 4294967296 = t4 + t5 + (t6 + p7) := by
    rw [show (4294967296 : Nat) = 256 * 256 * 256 * 256 from rfl, ← Nat.div_div_eq_div_mul, ← Nat.div_div_eq_div_mul, ← Nat.div_div_eq_div_mul, bc_d k0 (q4 (bc_s2 h0 h1) (bc_s2 h2 h3)), bc_d k1 (q4 (bc_s2 h1 h2) (bc_s2 h3 h4)), bc_d k2 (q4 (bc_s2 h2 h3) (bc_s2 h4 h5)), bc_d k3 (q4 (bc_s2 h3 h4) (bc_s2 h5 h6))]
  rw [l3] at e6
  have m0 := e6.trans (bc_g k0 k4)
  have c6 := bc_l g6 (q2 h6 h7) (show p7 < 9 from Nat.lt_succ_of_le h7)
  have c5 := bc_l g5 (q2 h5 h6) c6
  have c4 := bc_l g4 (q2 h4 h5) c5
  have c3 := bc_l g3 (q2 h3 h4) c4
  have c2 := bc_l g2 (q2 h2 h3) c3
  have c1 := bc_l g1 (q2 h1 h2) c2
  have c0 := bc_l g0 (q2 h0 h1) c1
  have d0 := bc_l k0 (q4 (bc_s2 h0 h1) (bc_s2 h2 h3)) (Nat.add_lt_add c1 c3)
  refine ⟨bc_m m0 (Nat.lt_of_le_of_lt (Nat.add_le_add (bc_s4 (bc_s2 h0 h1) (bc_s2 h2 h3)) (bc_s4 (bc_s2 h4 h5) (bc_s2 h6 h7))) (by decide)), Nat.lt_of_lt_of_le c0 (by decide), Nat.lt_of_lt_of_le d0 (by decide), ?_⟩
  rw [e6]
  exact Nat.lt_of_lt_of_le (Nat.add_lt_add d0 (Nat.add_lt_add c4 c6)) (by decide)
def q_N (x : Int64) : Nat := x.toBitVec.toNat
theorem qN_lt (x : Int64) : q_N x < 2 ^ 64 := BitVec.isLt _
theorem qN_and (x y : Int64) : q_N (x &&& y) = q_N x &&& q_N y := by unfold q_N; rw [Int64.toBitVec_and, BitVec.toNat_and]
theorem qN_lsr (x : Int64) {k : Nat} (hk : k < 64) : q_N (q_lsr x k) = q_N x / 2 ^ k := by
  show (x.toUInt64 >>> ((nI k).toInt64.toUInt64 &&& Int64.toUInt64 63)).toBitVec.toNat = x.toUInt64.toBitVec.toNat / 2 ^ k
  rw [UInt64.toBitVec_shiftRight]
  show (x.toUInt64.toBitVec >>> (((nI k).toInt64.toUInt64 &&& Int64.toUInt64 63).toBitVec % 64).toNat).toNat = _
  rw [s64_u k hk, BitVec.toNat_ushiftRight, Nat.shiftRight_eq_div_pow]
theorem qN_sub {x y : Int64} (h : q_N y ≤ q_N x) : q_N (x - y) = q_N x - q_N y := by
  have h1 := qN_lt x
  unfold q_N at *
  rw [Int64.toBitVec_sub, BitVec.toNat_sub]
  omega
theorem qN_add {x y : Int64} (h : q_N x + q_N y < 2 ^ 64) : q_N (x + y) = q_N x + q_N y := by
  unfold q_N at *
  rw [Int64.toBitVec_add, BitVec.toNat_add]
  exact Nat.mod_eq_of_lt h
theorem qN_lo (x : Int64) : x.toInt32 &&& nI 127 = nI (q_N x % 128) := by
  apply b_ext
  intro j hj
  have e1 : q_N x % 128 = q_N x % 2 ^ 7 := rfl
  have e2 : bt (nI 127) j = decide (j < 7) := (by decide +kernel : ∀ j, j < 32 → bt (nI 127) j = decide (j < 7)) j hj
  rw [b_and, b_j32 x hj, e2, bt_nI _ hj, e1, Nat.testBit_mod_two_pow]
  exact Bool.and_comm _ _
theorem bc_main (x : Int64) {a b c e f g : Int64} (ha : a = x - (q_lsr x 1 &&& 6148914691236517205)) (hb : b = (a &&& 3689348814741910323) + (q_lsr a 2 &&& 3689348814741910323)) (hc : c = (b + q_lsr b 4) &&& 1085102592571150095) (he : e = c + q_lsr c 8) (hf : f = e + q_lsr e 16) (hg : g = f + q_lsr f 32) : g.toInt32 &&& nI 127 = nI (q_pc (q_N x) 64) := by
  have m1 : q_N 6148914691236517205 = q_mk8 85 8 := by decide +kernel
  have m2 : q_N 3689348814741910323 = q_mk8 51 8 := by decide +kernel
  have m3 : q_N 1085102592571150095 = q_mk8 15 8 := by decide +kernel
  have hx := qN_lt x
  generalize hn : q_N x = n at *
  obtain ⟨d, hd⟩ : ∃ d : Nat → Nat, d = fun k => n / 256 ^ k % 256 := ⟨_, rfl⟩
  have d1 : ∀ k, d k < 256 := fun k => by rw [hd]; exact Nat.mod_lt _ (by omega)
  have nv : q_val d 8 = n := by rw [hd]; exact bc_val 8 n (by omega)
  have c4 := fun k => bc_c4 (d k) (d1 k)
  have na : q_N a = q_val (fun k => q_f1b (d k)) 8 := by
    rw [← bc_1 8 d d1, nv, ha, qN_sub, qN_and, qN_lsr x (by omega), hn, m1]
    rw [qN_and, qN_lsr x (by omega), hn, m1]
    exact Nat.le_trans Nat.and_le_left (Nat.div_le_self _ _)
  have nb : q_N b = q_val (fun k => q_f2b (q_f1b (d k))) 8 := by
    have key := bc_2 8 (fun k => q_f1b (d k)) (fun k => (c4 k).1)
    rw [← na] at key
    rw [hb, qN_add, qN_and, qN_and, qN_lsr a (by omega), m2]
    · exact key
    · rw [qN_and, qN_and, qN_lsr a (by omega), m2]
      have key2 : (q_N a &&& q_mk8 51 8) + (q_N a / 2 ^ 2 &&& q_mk8 51 8) = q_val (fun k => q_f2b (q_f1b (d k))) 8 := key
      rw [key2]
      have u0 := (c4 0).2.1; have u1 := (c4 1).2.1; have u2 := (c4 2).2.1; have u3 := (c4 3).2.1; have u4 := (c4 4).2.1; have u5 := (c4 5).2.1; have u6 := (c4 6).2.1; have u7 := (c4 7).2.1
      show q_f2b (q_f1b (d 0)) + 256 * (q_f2b (q_f1b (d 1)) + 256 * (q_f2b (q_f1b (d 2)) + 256 * (q_f2b (q_f1b (d 3)) + 256 * (q_f2b (q_f1b (d 4)) + 256 * (q_f2b (q_f1b (d 5)) + 256 * (q_f2b (q_f1b (d 6)) + 256 * (q_f2b (q_f1b (d 7)) + 256 * 0))))))) < _
      omega
  have nbl : q_N b < 2 ^ 63 := by
    rw [nb]
    have u0 := (c4 0).2.1; have u1 := (c4 1).2.1; have u2 := (c4 2).2.1; have u3 := (c4 3).2.1; have u4 := (c4 4).2.1; have u5 := (c4 5).2.1; have u6 := (c4 6).2.1; have u7 := (c4 7).2.1
    show q_f2b (q_f1b (d 0)) + 256 * (q_f2b (q_f1b (d 1)) + 256 * (q_f2b (q_f1b (d 2)) + 256 * (q_f2b (q_f1b (d 3)) + 256 * (q_f2b (q_f1b (d 4)) + 256 * (q_f2b (q_f1b (d 5)) + 256 * (q_f2b (q_f1b (d 6)) + 256 * (q_f2b (q_f1b (d 7)) + 256 * 0))))))) < _
    omega
  have nc : q_N c = q_val (fun k => q_pc (d k) 8) 8 := by
    have key := bc_3 8 (fun k => q_f2b (q_f1b (d k))) (fun k => ⟨(c4 k).2.1, (c4 k).2.2.1⟩)
    have e9 : (fun k => q_f3b (q_f2b (q_f1b (d k)))) = fun k => q_pc (d k) 8 := funext fun k => (c4 k).2.2.2
    rw [e9, ← nb] at key
    rw [hc, qN_and, qN_add, qN_lsr b (by omega), m3]
    · exact key
    · rw [qN_lsr b (by omega)]
      have : q_N b / 2 ^ 4 ≤ q_N b := Nat.div_le_self _ _
      omega
  have p8 : ∀ k, q_pc (d k) 8 ≤ 8 := fun k => by
    have := q_sumN_le (n := 8) (m := 1) (f := fun b => if (d k).testBit b = true then 1 else 0) (fun i _ => by split <;> omega)
    unfold q_pc
    omega
  have e3 : q_N c = q_pc (d 0) 8 + 256 * (q_pc (d 1) 8 + 256 * (q_pc (d 2) 8 + 256 * (q_pc (d 3) 8 + 256 * (q_pc (d 4) 8 + 256 * (q_pc (d 5) 8 + 256 * (q_pc (d 6) 8 + 256 * q_pc (d 7) 8)))))) := nc
  obtain ⟨r1, r2, r3, r4⟩ := bc_fin (p8 0) (p8 1) (p8 2) (p8 3) (p8 4) (p8 5) (p8 6) (p8 7) e3 rfl rfl rfl
  have q4 : q_N e = q_N c + q_N c / 256 := by
    rw [he, qN_add, qN_lsr c (by omega)]
    rw [qN_lsr c (by omega)]
    exact r2
  have q5 : q_N f = q_N e + q_N e / 65536 := by
    rw [hf, qN_add, qN_lsr e (by omega)]
    rw [qN_lsr e (by omega), q4]
    exact r3
  have q6 : q_N g = q_N f + q_N f / 4294967296 := by
    rw [hg, qN_add, qN_lsr f (by omega)]
    rw [qN_lsr f (by omega), q5, q4]
    exact r4
  rw [qN_lo, q6, q5, q4, r1]
  have e64 : q_pc n 64 = q_sumN 8 (fun k => q_pc (n / 256 ^ k % 256) 8) := bc_pc 8 n
  rw [e64, bc_s8, hd]
theorem px_lsubA {h : q_H} {x y : Int64} {K : Value → Prop} : q_on (o_lsub h (.long x) (.long y)) K ↔ K (.long (x - y)) := px_of rfl
theorem px_l2iA {h : q_H} {x : Int64} {K : Value → Prop} : q_on (o_l2i h (.long x)) K ↔ K (.int x.toInt32) := px_of rfl
theorem c_lbc {h : q_H} {x : Int64} {Q : Option Value → q_H → Prop} : wM m_jl_bitCount [.long x] h Q ↔ Q (some (.int (nI (q_pc (q_N x) 64)))) h := by
  have bm := bc_main x rfl rfl rfl rfl rfl rfl
  refine wM_iff ?_; unfold m_jl_bitCount; simp only [uM_meth, q_loc, q_ent, q_wid, List.length_cons, List.length_nil, List.replicate, List.append_nil, List.cons_append, List.nil_append, Nat.add_zero, Nat.zero_add, Nat.le_refl, Nat.reduceAdd, Nat.reduceLeDiff, Nat.reduceSub, and_self, true_and, xB_fold, Lz_0, Lz_1, Lz_2, Lz_3, Lz_4, Lz_5, Lz_6, Lz_7, Lz_8, Lz_9, Lz_10, Lz_11, Lz_12, Lz_13, Lz_14, Lz_15, Lz_16, Lz_17, Lz_18, Lz_19, Lz_23, Lz_24, Lz_30, Lz_32, Lz_40, Lz_41, Lz_42, Lz_43, Lz_45, Lz_48, Lz_57, Lz_59, Lz_60, Lz_61, Lz_63, Lz_64, Lz_97, Lz_99, Lz_100, Lz_110, Lz_120, Lz_122, Lz_127, Lz_160, Lz_200, Lz_255, Lz_256, Lz_300, Lz_301, Lz_302, Lz_303, Lz_304, Lz_305, Lz_306, Lz_311, Lz_312, Lz_599, Lz_768, Lz_999, Lz_1000, Lz_1023, Lz_1200, Lz_9999, Lz_99999, Lz_100000]; (try dsimp only); simp (maxSteps := 1000000) (disch := first | omega | rfl) only [↓px_lsr, ↓px_lsubA, ↓px_l2iA, ↓reduceIte, ↓q_pickN, ↓q_pick0, ↓q_pick1, ↓q_pick2, ↓q_pick3, ↓q_pick4, ↓q_pick5, ↓q_pick6, ↓q_pick7, ↓q_pick8, ↓q_pick9, ↓q_pick10, ↓q_pick11, ↓sp_within, ↓sp_in, ↓sp_has, ↓sp_bitsBelow, ↓sp_isSubset, ↓sp_max, ↓wr_x, ↓wr_m, ↓wr_now, ↓wr_kept, ↓wr_reader, ↓wr_draft, ↓wr_mach, ↓wr_sum, ↓wr_lamp, ↓wr_house, ↓wr_label, ↓wr_text, ↓wr_sheet, ↓wr_ask, ↓wr_kask, ↓c_isRooms, ↓c_isRoom, ↓c_isSheet, ↓r_areRooms, ↓r_ones, ↓px_lrA, ↓px_lrB, ↓px_lrH, ↓px_lcmp, ↓c_lotAfter, ↓px_ineg1, ↓px_ineg2, ↓px_isubg, ↓sp_min, ↓c_tellNames, ↓px_skA, ↓px_skG, ↓sp_abs, ↓r_size, ↓ph_x_13, ↓ph_x_14, ↓ph_x_15, ↓ph_x_16, ↓ph_x_17, ↓ph_now_2, ↓ph_now_3, ↓ph_reader_1, ↓ph_m_4, ↓ph_m_7, ↓ph_m_14, ↓ph_m_16, ↓ph_m_22, ↓ph_m_26, ↓ph_m_29, ↓pz_x, ↓pz_m, ↓uX_K, ↓uX_Str, ↓uX_1, ↓uX_2, ↓uA_nil, ↓uA_cons, ↓uX_M, ↓uC_1, ↓uC_2, ↓uC_T, ↓uT_Skip, ↓uT_Seq, ↓uT_2, ↓uT_3, ↓uT_2u, ↓uT_3u, ↓uT_M, ↓uT_Mp, ↓uT_Ret0, ↓uT_Ret, ↓uT_RetZ, ↓uT_RetL, ↓uT_RetR, ↓uT_Sw, ↓uX_Li, ↓uX_Lj, ↓uX_La, ↓uX_If, ↓uX_B, ↓uC_And, ↓uC_Or, ↓uT_If, ↓uT_ite, ↓uT_Sti, ↓uT_Sta, ↓uT_Stl, ↓uT_Inc, ↓uT_Dec, ↓gi_0, ↓gi_s, ↓gj_0, ↓gj_s, ↓ga_0, ↓ga_s, ↓sk_0, ↓sk_i, ↓sk_a, ↓sk_n, ↓sk_j, ↓sk2_0, ↓sk2_i, ↓sk2_a, ↓sk2_n, ↓sk2_j, ↓px_some, ↓px_int, ↓px_ref, ↓px_long, ↓px_iadd, ↓px_imul, ↓px_isub, ↓px_iand, ↓px_ior, ↓px_ixor, ↓px_ishl, ↓px_ishr, ↓px_iushr, ↓px_idiv, ↓px_irem, ↓px_i2l, ↓px_ladd, ↓px_lmul, ↓px_lor, ↓px_land, Option.some.injEq, Value.int.injEq, Value.ref.injEq, Value.long.injEq, exists_eq_left', exists_eq_left, List.getElem?_cons_zero, List.getElem?_cons_succ, decide_eq_true_eq, decide_eq_false_iff_not, q_loc, q_ent, q_wid, q_st, q_st2, List.length_cons, List.length_nil, List.replicate, List.append_nil, List.cons_append, List.nil_append, o_iadd, o_isub, o_imul, o_iand, o_ior, o_ixor, o_ishl, o_ishr, o_iushr, o_ladd, o_lsub, o_lmul, o_land, o_lor, o_lshl, o_lshr, o_lushr, o_lcmp, o_ineg, o_i2l, o_l2i, o_i2b, o_i2s, o_i2c, q_addI, q_mulI, q_nle, q_lt, q_eq, if_true, if_false, true_and, and_true, false_and, and_false, and_self, true_implies, false_implies, implies_true, not_true_eq_false, not_false_eq_true, decide_true, decide_false, Bool.true_eq_false, Bool.false_eq_true, eq_self, reduceCtorEq, false_or, or_false, true_or, or_true, forall_eq, forall_eq', forall_const, Prod.mk.injEq, List.cons.injEq, exists_prop, Bool.decide_eq_true, Bool.decide_eq_false, Classical.not_not, decide_not, Bool.not_eq_true', Bool.not_eq_false', Bool.not_eq_true, Bool.not_eq_false, Nat.add_zero, Nat.zero_add, Nat.mul_zero, Nat.le_refl, Nat.reduceAdd, Nat.reduceMul, q_oor, q_onot, q_d_eq, ite_self, px_some, ne_eq, Nat.not_lt_zero, sl_said, sl_mnames, sl_mstack, Lz_0, Lz_1, Lz_2, Lz_3, Lz_4, Lz_5, Lz_6, Lz_7, Lz_8, Lz_9, Lz_10, Lz_11, Lz_12, Lz_13, Lz_14, Lz_15, Lz_16, Lz_17, Lz_18, Lz_19, Lz_23, Lz_24, Lz_30, Lz_32, Lz_40, Lz_41, Lz_42, Lz_43, Lz_45, Lz_48, Lz_57, Lz_59, Lz_60, Lz_61, Lz_63, Lz_64, Lz_97, Lz_99, Lz_100, Lz_110, Lz_120, Lz_122, Lz_127, Lz_160, Lz_200, Lz_255, Lz_256, Lz_300, Lz_301, Lz_302, Lz_303, Lz_304, Lz_305, Lz_306, Lz_311, Lz_312, Lz_599, Lz_768, Lz_999, Lz_1000, Lz_1023, Lz_1200, Lz_9999, Lz_99999, Lz_100000, n_shl1, n_sub, n_pow1, n_b0, n_b1, n_em1, n_em2, n_em3, n_em4, n_ne, n_ne2, n_nn, n_lneg, n_ltneg, n_negl, n_neglt, n_nt, n10, n01, q_ix_nI, q_inw2, Nat.zero_le, Nat.reduceEqDiff, Nat.reduceLeDiff, Nat.reduceLT, Nat.reduceSub, Nat.reducePow, Nat.reduceDiv, Nat.reduceMod, n_and1, n_or0, n_sub63, n_subB, n_tm, n_tm0, exists_and_left, exists_and_right, n_tm2, n_maxI, Nat.add_sub_cancel]
  exact bm
