/-! THE PURE HALF: numbers written as literals, loops of a known length, small methods -/
theorem L_eqk (k : Nat) : (@OfNat.ofNat Int32 k Int32.instOfNat) = nI k := rfl
theorem L_le {k n : Nat} (hk : Nat.blt k 2147483648 = true) (hn : n < 2 ^ 31) : (@OfNat.ofNat Int32 k Int32.instOfNat ≤ nI n) ↔ @OfNat.ofNat Nat k (instOfNatNat k) ≤ n := by have hk := Nat.lt_of_lt_of_le (Nat.le_of_ble_eq_true hk) (by decide : 2147483648 ≤ 2 ^ 31); rw [L_eqk, q_nle hk hn]; exact Iff.rfl
theorem L_le2 {k n : Nat} (hk : Nat.blt k 2147483648 = true) (hn : n < 2 ^ 31) : (nI n ≤ @OfNat.ofNat Int32 k Int32.instOfNat) ↔ n ≤ @OfNat.ofNat Nat k (instOfNatNat k) := by have hk := Nat.lt_of_lt_of_le (Nat.le_of_ble_eq_true hk) (by decide : 2147483648 ≤ 2 ^ 31); rw [L_eqk, q_nle hn hk]; exact Iff.rfl
theorem L_lt {k n : Nat} (hk : Nat.blt k 2147483648 = true) (hn : n < 2 ^ 31) : (@OfNat.ofNat Int32 k Int32.instOfNat < nI n) ↔ @OfNat.ofNat Nat k (instOfNatNat k) < n := by have hk := Nat.lt_of_lt_of_le (Nat.le_of_ble_eq_true hk) (by decide : 2147483648 ≤ 2 ^ 31); rw [L_eqk, q_lt hk hn]; exact Iff.rfl
theorem L_lt2 {k n : Nat} (hk : Nat.blt k 2147483648 = true) (hn : n < 2 ^ 31) : (nI n < @OfNat.ofNat Int32 k Int32.instOfNat) ↔ n < @OfNat.ofNat Nat k (instOfNatNat k) := by have hk := Nat.lt_of_lt_of_le (Nat.le_of_ble_eq_true hk) (by decide : 2147483648 ≤ 2 ^ 31); rw [L_eqk, q_lt hn hk]; exact Iff.rfl
theorem L_eq {k n : Nat} (hk : Nat.blt k 2147483648 = true) (hn : n < 2 ^ 31) : (nI n = @OfNat.ofNat Int32 k Int32.instOfNat) ↔ n = @OfNat.ofNat Nat k (instOfNatNat k) := by have hk := Nat.lt_of_lt_of_le (Nat.le_of_ble_eq_true hk) (by decide : 2147483648 ≤ 2 ^ 31); rw [L_eqk, q_eq hn hk]; exact Iff.rfl
theorem L_eq2 {k n : Nat} (hk : Nat.blt k 2147483648 = true) (hn : n < 2 ^ 31) : (@OfNat.ofNat Int32 k Int32.instOfNat = nI n) ↔ @OfNat.ofNat Nat k (instOfNatNat k) = n := by have hk := Nat.lt_of_lt_of_le (Nat.le_of_ble_eq_true hk) (by decide : 2147483648 ≤ 2 ^ 31); rw [L_eqk, q_eq hk hn]; exact Iff.rfl
theorem L_add (k n : Nat) : nI n + @OfNat.ofNat Int32 k Int32.instOfNat = nI (n + @OfNat.ofNat Nat k (instOfNatNat k)) := q_addI n k
theorem L_0add (k n : Nat) : @OfNat.ofNat Int32 k Int32.instOfNat + nI n = nI (@OfNat.ofNat Nat k (instOfNatNat k) + n) := q_addI k n
theorem q_mulI (a b : Nat) : nI a * nI b = nI (a * b) := by
  unfold nI
  exact (Int32.ofNat_mul a b).symm
theorem L_mul (k n : Nat) : @OfNat.ofNat Int32 k Int32.instOfNat * nI n = nI (@OfNat.ofNat Nat k (instOfNatNat k) * n) := q_mulI k n
theorem L_mul2 (k n : Nat) : nI n * @OfNat.ofNat Int32 k Int32.instOfNat = nI (n * @OfNat.ofNat Nat k (instOfNatNat k)) := q_mulI n k
theorem q_neI {n k : Nat} (hk0 : Nat.blt k 2147483648 = true) (hn : n < 2 ^ 31) : (nI n = -(@OfNat.ofNat Int32 (k + 1) Int32.instOfNat)) ↔ False := by
  have hk := Nat.lt_of_lt_of_le (Nat.le_of_ble_eq_true hk0) (by decide : 2147483648 ≤ 2 ^ 31)
  constructor
  · intro h
    have := congrArg Int32.toInt h
    rw [nI_toInt hn, Int32.toInt_neg, L_eqk] at this
    rcases Nat.lt_or_ge (k + 1) (2 ^ 31) with h1 | h1
    · rw [nI_toInt h1] at this
      have e : (-((k + 1 : Nat) : Int)).bmod (2 ^ 32) = -((k + 1 : Nat) : Int) := by
        apply Int.bmod_eq_of_le <;> omega
      rw [e] at this
      omega
    · have e2 : k + 1 = 2 ^ 31 := by omega
      rw [e2] at this
      have e3 : (-(nI (2 ^ 31)).toInt).bmod (2 ^ 32) = -2147483648 := by decide +kernel
      rw [e3] at this
      omega
  · exact False.elim
theorem q_z01 : ((0 : Int32) = 1) ↔ False := by decide
theorem q_z02 : ((1 : Int32) = 0) ↔ False := by decide
theorem q_oor (a b : Bool) : ((a || b) = true) ↔ (a = true ∨ b = true) := by cases a <;> cases b <;> decide
theorem q_onot (a : Bool) : ((!a) = true) ↔ ¬ a = true := by cases a <;> decide
theorem q_ofnat (x : Int32) (h : 0 ≤ x) : x = nI x.toInt.toNat := by
  have a0 := Int32.le_iff_toInt_le.mp h
  have e0 : (0 : Int32).toInt = 0 := rfl
  rw [e0] at a0
  apply Int32.toInt_inj.mp
  have : x.toInt < 2 ^ 31 := Int32.toInt_lt x
  rw [nI_toInt (by omega)]
  omega
theorem wM_to {m : q_M} {vs : List Value} {h h0 : q_H} {r0 : Option Value} (k : wM m vs h (fun r h1 => r = r0 ∧ h1 = h0)) : m vs h = some (r0, h0) := by
  obtain ⟨r, h1, e, rfl, rfl⟩ := k
  exact e
theorem wM_iff {m : q_M} {vs : List Value} {h h0 : q_H} {r0 : Option Value} {Q : Option Value → q_H → Prop} (k : wM m vs h (fun r h1 => r = r0 ∧ h1 = h0)) : wM m vs h Q ↔ Q r0 h0 := wM_eq (wM_to k)
/-- a loop of n rounds whose states are known -/
theorem wT_fe {c : q_C} {f : q_T} {σ : q_S} {N : q_S → Prop} {R : Option Value → q_H → Prop} (st : Nat → q_S) (n : Nat) (hn : n < 5000) (e0 : σ = st 0) (hs : ∀ i, i < n → wC c (st i) (fun b σ1 => b = true ∧ wT f σ1 (fun σ2 => σ2 = st (i + 1)) R)) (he : wC c (st n) (fun b σ1 => b = false ∧ N σ1)) : wT (sWh c f) σ N R := by
  refine wT_for (fun i σ => σ = st i) n hn e0 ?_ ?_
  · rintro i σ hi rfl
    exact hs i hi
  · rintro σ rfl
    exact he
theorem wC_b {c : q_C} {σ : q_S} {b0 : Bool} {Q : Bool → q_S → Prop} (e : c σ = some (b0, σ)) (q : Q b0 σ) : wC c σ Q := ⟨b0, σ, e, q⟩
/-- a set of n numbers as bits, step by step -/
theorem q_bits_s {n : Nat} {p : Nat → Bool} : q_bits (n + 1) p = if p n = true then q_bits n p ||| ((1 : Int32) <<< (nI n &&& 31)) else q_bits n p := rfl
/-- sums -/
def q_sumN : Nat → (Nat → Nat) → Nat
  | 0, _ => 0
  | n + 1, f => q_sumN n f + f n
def q_sumI : Nat → (Nat → Int32) → Int32
  | 0, _ => 0
  | n + 1, f => q_sumI n f + f n
theorem q_sumN_congr {n : Nat} {f g : Nat → Nat} (h : ∀ i, i < n → f i = g i) : q_sumN n f = q_sumN n g := by
  induction n with
  | zero => rfl
  | succ n ih => rw [q_sumN, q_sumN, h n (by omega), ih (fun i hi => h i (by omega))]
theorem q_sumI_congr {n : Nat} {f g : Nat → Int32} (h : ∀ i, i < n → f i = g i) : q_sumI n f = q_sumI n g := by
  induction n with
  | zero => rfl
  | succ n ih => rw [q_sumI, q_sumI, h n (by omega), ih (fun i hi => h i (by omega))]
theorem q_sumIN {n : Nat} {f : Nat → Nat} : q_sumI n (fun i => nI (f i)) = nI (q_sumN n f) := by
  induction n with
  | zero => rfl
  | succ n ih => rw [q_sumI, q_sumN, ih, q_addI]
theorem q_sumN_le {n m : Nat} {f : Nat → Nat} (h : ∀ i, i < n → f i ≤ m) : q_sumN n f ≤ m * n := by
  induction n with
  | zero => exact Nat.zero_le _
  | succ n ih =>
    have h1 := ih (fun i hi => h i (by omega))
    have h2 := h n (by omega)
    rw [q_sumN, Nat.mul_succ]
    omega
/-! switches -/
theorem wT_ite {p : Prop} [Decidable p] {a b : q_T} {σ : q_S} {N : q_S → Prop} {R : Option Value → q_H → Prop} : wT (if p then a else b) σ N R ↔ (p → wT a σ N R) ∧ (¬ p → wT b σ N R) := by
  by_cases h : p <;> simp [h]
def q_pick (lo : Int) (as : List q_T) (dd : q_T) (x : Int32) : q_T := if lo ≤ x.toInt ∧ x.toInt < lo + as.length then as.getD (x.toInt - lo).toNat dd else dd
theorem wT_Sw2 {f : q_X} {lo : Int} {as : List q_T} {dd : q_T} {σ : q_S} {N : q_S → Prop} {R : Option Value → q_H → Prop} : wT (sSw f lo as dd) σ N R ↔ wX f σ (fun v σ1 => ∃ x, v = .int x ∧ wT (q_pick lo as dd x) σ1 N R) := by
  have key : ∀ σ1 x, f σ = some (.int x, σ1) → sSw f lo as dd σ = q_pick lo as dd x σ1 := by
    intro σ1 x e
    unfold sSw q_pick
    rw [e]
    by_cases hx : lo ≤ x.toInt ∧ x.toInt < lo + as.length
    · simp only [hx, and_self, if_true]
    · simp only [hx, if_false]
  constructor
  · intro h
    cases e : f σ with
    | none => exfalso; unfold wT sSw at h; rw [e] at h; rcases h with ⟨_, h, _⟩ | ⟨_, _, h, _⟩ <;> cases h
    | some z =>
      obtain ⟨v, σ1⟩ := z
      cases v with
      | int x => exact ⟨_, _, e, x, rfl, by unfold wT at h ⊢; rw [key _ _ e] at h; exact h⟩
      | _ => exfalso; unfold wT sSw at h; rw [e] at h; rcases h with ⟨_, h, _⟩ | ⟨_, _, h, _⟩ <;> cases h
  · rintro ⟨v, σ1, e, x, rfl, q⟩
    unfold wT at q ⊢
    rw [key _ _ e]
    exact q
theorem q_pickN {lo : Int} {dd : q_T} {x : Int32} : q_pick lo [] dd x = dd := by
  unfold q_pick
  by_cases h : lo ≤ x.toInt ∧ x.toInt < lo + (([] : List q_T).length : Int)
  · rw [if_pos h]; rfl
  · rw [if_neg h]
theorem q_pickC {lo : Int} {a : q_T} {as : List q_T} {dd : q_T} {x : Int32} : q_pick lo (a :: as) dd x = if x.toInt = lo then a else q_pick (lo + 1) as dd x := by
  unfold q_pick
  by_cases h : x.toInt = lo
  · rw [if_pos h, if_pos (by rw [List.length_cons]; omega), h, Int.sub_self]
    rfl
  · rw [if_neg h]
    by_cases h2 : lo ≤ x.toInt ∧ x.toInt < lo + ((a :: as).length : Int)
    · rw [if_pos h2, if_pos (by rw [List.length_cons] at h2; omega)]
      have e : (x.toInt - lo).toNat = (x.toInt - (lo + 1)).toNat + 1 := by omega
      rw [e, List.getD_cons_succ]
    · rw [if_neg h2, if_neg (by rw [List.length_cons] at h2; omega)]
theorem q_ti {x : Int32} {k : Nat} (hk : k < 2 ^ 31) : (x.toInt = (k : Int)) ↔ x = nI k := by
  rw [← nI_toInt hk]
  exact Int32.toInt_inj
theorem q_pick0 {a : q_T} {as : List q_T} {dd : q_T} {x : Int32} : q_pick 0 (a :: as) dd x = if x = 0 then a else q_pick 1 as dd x := by
  rw [q_pickC]
  have e : (x.toInt = 0) ↔ x = 0 := q_ti (x := x) (k := 0) (by decide)
  by_cases h : x = 0
  · rw [if_pos h, if_pos (e.mpr h)]
  · rw [if_neg h, if_neg (fun h2 => h (e.mp h2))]; rfl
theorem q_pick1 {a : q_T} {as : List q_T} {dd : q_T} {x : Int32} : q_pick 1 (a :: as) dd x = if x = 1 then a else q_pick 2 as dd x := by
  rw [q_pickC]
  have e : (x.toInt = 1) ↔ x = 1 := q_ti (x := x) (k := 1) (by decide)
  by_cases h : x = 1
  · rw [if_pos h, if_pos (e.mpr h)]
  · rw [if_neg h, if_neg (fun h2 => h (e.mp h2))]; rfl
theorem q_pick2 {a : q_T} {as : List q_T} {dd : q_T} {x : Int32} : q_pick 2 (a :: as) dd x = if x = 2 then a else q_pick 3 as dd x := by
  rw [q_pickC]
  have e : (x.toInt = 2) ↔ x = 2 := q_ti (x := x) (k := 2) (by decide)
  by_cases h : x = 2
  · rw [if_pos h, if_pos (e.mpr h)]
  · rw [if_neg h, if_neg (fun h2 => h (e.mp h2))]; rfl
theorem q_pick3 {a : q_T} {as : List q_T} {dd : q_T} {x : Int32} : q_pick 3 (a :: as) dd x = if x = 3 then a else q_pick 4 as dd x := by
  rw [q_pickC]
  have e : (x.toInt = 3) ↔ x = 3 := q_ti (x := x) (k := 3) (by decide)
  by_cases h : x = 3
  · rw [if_pos h, if_pos (e.mpr h)]
  · rw [if_neg h, if_neg (fun h2 => h (e.mp h2))]; rfl
theorem q_pick4 {a : q_T} {as : List q_T} {dd : q_T} {x : Int32} : q_pick 4 (a :: as) dd x = if x = 4 then a else q_pick 5 as dd x := by
  rw [q_pickC]
  have e : (x.toInt = 4) ↔ x = 4 := q_ti (x := x) (k := 4) (by decide)
  by_cases h : x = 4
  · rw [if_pos h, if_pos (e.mpr h)]
  · rw [if_neg h, if_neg (fun h2 => h (e.mp h2))]; rfl
theorem q_pick5 {a : q_T} {as : List q_T} {dd : q_T} {x : Int32} : q_pick 5 (a :: as) dd x = if x = 5 then a else q_pick 6 as dd x := by
  rw [q_pickC]
  have e : (x.toInt = 5) ↔ x = 5 := q_ti (x := x) (k := 5) (by decide)
  by_cases h : x = 5
  · rw [if_pos h, if_pos (e.mpr h)]
  · rw [if_neg h, if_neg (fun h2 => h (e.mp h2))]; rfl
theorem q_pick6 {a : q_T} {as : List q_T} {dd : q_T} {x : Int32} : q_pick 6 (a :: as) dd x = if x = 6 then a else q_pick 7 as dd x := by
  rw [q_pickC]
  have e : (x.toInt = 6) ↔ x = 6 := q_ti (x := x) (k := 6) (by decide)
  by_cases h : x = 6
  · rw [if_pos h, if_pos (e.mpr h)]
  · rw [if_neg h, if_neg (fun h2 => h (e.mp h2))]; rfl
theorem q_pick7 {a : q_T} {as : List q_T} {dd : q_T} {x : Int32} : q_pick 7 (a :: as) dd x = if x = 7 then a else q_pick 8 as dd x := by
  rw [q_pickC]
  have e : (x.toInt = 7) ↔ x = 7 := q_ti (x := x) (k := 7) (by decide)
  by_cases h : x = 7
  · rw [if_pos h, if_pos (e.mpr h)]
  · rw [if_neg h, if_neg (fun h2 => h (e.mp h2))]; rfl
theorem q_pick8 {a : q_T} {as : List q_T} {dd : q_T} {x : Int32} : q_pick 8 (a :: as) dd x = if x = 8 then a else q_pick 9 as dd x := by
  rw [q_pickC]
  have e : (x.toInt = 8) ↔ x = 8 := q_ti (x := x) (k := 8) (by decide)
  by_cases h : x = 8
  · rw [if_pos h, if_pos (e.mpr h)]
  · rw [if_neg h, if_neg (fun h2 => h (e.mp h2))]; rfl
theorem q_pick9 {a : q_T} {as : List q_T} {dd : q_T} {x : Int32} : q_pick 9 (a :: as) dd x = if x = 9 then a else q_pick 10 as dd x := by
  rw [q_pickC]
  have e : (x.toInt = 9) ↔ x = 9 := q_ti (x := x) (k := 9) (by decide)
  by_cases h : x = 9
  · rw [if_pos h, if_pos (e.mpr h)]
  · rw [if_neg h, if_neg (fun h2 => h (e.mp h2))]; rfl
theorem q_pick10 {a : q_T} {as : List q_T} {dd : q_T} {x : Int32} : q_pick 10 (a :: as) dd x = if x = 10 then a else q_pick 11 as dd x := by
  rw [q_pickC]
  have e : (x.toInt = 10) ↔ x = 10 := q_ti (x := x) (k := 10) (by decide)
  by_cases h : x = 10
  · rw [if_pos h, if_pos (e.mpr h)]
  · rw [if_neg h, if_neg (fun h2 => h (e.mp h2))]; rfl
theorem q_pick11 {a : q_T} {as : List q_T} {dd : q_T} {x : Int32} : q_pick 11 (a :: as) dd x = if x = 11 then a else q_pick 12 as dd x := by
  rw [q_pickC]
  have e : (x.toInt = 11) ↔ x = 11 := q_ti (x := x) (k := 11) (by decide)
  by_cases h : x = 11
  · rw [if_pos h, if_pos (e.mpr h)]
  · rw [if_neg h, if_neg (fun h2 => h (e.mp h2))]; rfl
/-! the small methods -/
section
variable {h : q_H} {Q : Option Value → q_H → Prop}
theorem sp_within {v a b : Int32} : wM m_w_within [.int v, .int a, .int b] h Q ↔ Q (some (.int (if a ≤ v ∧ v ≤ b then 1 else 0))) h := by
  refine wM_eq ?_
  by_cases h1 : a ≤ v <;> by_cases h2 : v ≤ b <;> simp [m_w_within, q_meth, q_loc, q_ent, q_wid, sRet, xIf, cAnd, c2, xLi, xK, h1, h2]
theorem sp_in {v a b : Int32} : wM m_r_in [.int v, .int a, .int b] h Q ↔ Q (some (.int (if a ≤ v ∧ v ≤ b then 1 else 0))) h := by
  refine wM_eq ?_
  by_cases h1 : a ≤ v <;> by_cases h2 : v ≤ b <;> simp [m_r_in, q_meth, q_loc, q_ent, q_wid, sRet, xIf, cAnd, c2, xLi, xK, h1, h2]
theorem sp_has {x : Int32} {n : Nat} (hn : n < 32) : wM m_w_has [.int x, .int (nI n)] h Q ↔ Q (some (.int (if bt x n = true then 1 else 0))) h := by
  refine wM_eq ?_
  have e := bt_ushr1 x hn
  by_cases h1 : bt x n = true <;> simp [m_w_has, q_meth, q_loc, q_ent, q_wid, sRet, xIf, c1, x2, o_iand, o_iushr, xLi, xK, e, h1]
theorem sp_bitsBelow {x : Int32} : wM m_w_bitsBelow [.int x] h Q ↔ Q (some (.int ((1 : Int32) <<< (x &&& 31) - 1))) h := by
  refine wM_eq ?_
  simp [m_w_bitsBelow, q_meth, q_loc, q_ent, q_wid, sRet, x2, o_isub, o_ishl, xLi, xK]
theorem sp_isSubset {a b : Int32} : wM m_w_isSubset [.int a, .int b] h Q ↔ Q (some (.int (if a &&& (b ^^^ -1) = 0 then 1 else 0))) h := by
  refine wM_eq ?_
  have e : b ^^^ -1 = ~~~b := by simp
  rw [e]
  by_cases h1 : a &&& ~~~b = 0 <;> simp [m_w_isSubset, q_meth, q_loc, q_ent, q_wid, sRet, xIf, c1, x2, o_iand, o_ixor, xLi, xK, h1]
theorem sp_max {a b : Int32} : wM m_max [.int a, .int b] h Q ↔ Q (some (.int (if a < b then b else a))) h := by
  refine wM_eq ?_
  simp [m_max]
end
