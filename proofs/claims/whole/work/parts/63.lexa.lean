/-! WORDS AND NUMBERS OF THE TAPE: what a token is -/
def q_en (P : Int32 → Bool) (b : Nat → Int32) (B : Nat) : Nat → Nat → Nat
  | 0, a => a
  | n + 1, a => if a < B ∧ P (b a) = true then q_en P b B n (a + 1) else a
/-- up to where all are such -/
def q_eN (P : Int32 → Bool) (b : Nat → Int32) (B a : Nat) : Nat := q_en P b B (B - a) a
section
variable {P : Int32 → Bool} {b : Nat → Int32} {B a : Nat}
theorem q_eN_s (h : a < B) (hp : P (b a) = true) : q_eN P b B a = q_eN P b B (a + 1) := by
  unfold q_eN
  rw [show B - a = (B - (a + 1)) + 1 by omega, q_en, if_pos ⟨h, hp⟩]
theorem q_eN_0 (h : ¬ (a < B ∧ P (b a) = true)) : q_eN P b B a = a := by
  unfold q_eN
  cases B - a with
  | zero => rfl
  | succ n => rw [q_en, if_neg h]
theorem q_eN_all : ∀ n a, B - a ≤ n → (a ≤ q_eN P b B a ∧ (a ≤ B → q_eN P b B a ≤ B) ∧ (∀ i, a ≤ i → i < q_eN P b B a → P (b i) = true) ∧ ¬ (q_eN P b B a < B ∧ P (b (q_eN P b B a)) = true)) := by
  intro n
  induction n with
  | zero =>
    intro a ha
    have h : ¬ (a < B ∧ P (b a) = true) := fun h => by omega
    rw [q_eN_0 h]
    exact ⟨Nat.le_refl _, fun h => h, fun i h1 h2 => by omega, h⟩
  | succ n ih =>
    intro a ha
    by_cases h : a < B ∧ P (b a) = true
    · rw [q_eN_s h.1 h.2]
      obtain ⟨h1, h2, h3, h4⟩ := ih (a + 1) (by omega)
      refine ⟨by omega, fun _ => h2 (by omega), fun i k1 k2 => ?_, h4⟩
      rcases Nat.lt_or_ge a i with k3 | k3
      · exact h3 i k3 k2
      · have e : i = a := by omega
        rw [e]; exact h.2
    · rw [q_eN_0 h]
      exact ⟨Nat.le_refl _, fun h => h, fun i h1 h2 => by omega, h⟩
theorem q_eN_le : a ≤ q_eN P b B a := (q_eN_all (B - a) a (Nat.le_refl _)).1
theorem q_eN_B (h : a ≤ B) : q_eN P b B a ≤ B := (q_eN_all (B - a) a (Nat.le_refl _)).2.1 h
theorem q_eN_in : ∀ i, a ≤ i → i < q_eN P b B a → P (b i) = true := (q_eN_all (B - a) a (Nat.le_refl _)).2.2.1
theorem q_eN_st : ¬ (q_eN P b B a < B ∧ P (b (q_eN P b B a)) = true) := (q_eN_all (B - a) a (Nat.le_refl _)).2.2.2
end
def q_isB (x : Int32) : Bool := decide (x = nI 32 ∨ x = nI 10)
def q_isL (x : Int32) : Bool := decide (nI 97 ≤ x ∧ x ≤ nI 122)
def q_isD (x : Int32) : Bool := decide (nI 48 ≤ x ∧ x ≤ nI 57)
/-- the words, in the class's order -/
def q_wd (k : Nat) : List Nat := [[103, 108, 111, 119], [116, 111, 110, 101], [108, 111, 97, 100], [111, 114], [97, 110, 100], [110, 111, 116], [112, 111, 119, 101, 114], [114, 111, 119], [104, 111, 117, 114], [114, 111, 111, 109], [109, 111, 114, 101], [102, 97, 114]].getD k []
def q_isW (b : Nat → Int32) (c e k : Nat) : Bool := decide (e - c = (q_wd k).length ∧ ∀ i, i < (q_wd k).length → b (c + i) = nI ((q_wd k).getD i 0))
def q_wt (b : Nat → Int32) (c e : Nat) : Nat → Nat
  | 0 => 1
  | k + 1 => if q_isW b c e k = true then 300 + k else q_wt b c e k
/-- the number that the first n digits are -/
def q_dv (b : Nat → Int32) (c : Nat) : Nat → Int32
  | 0 => nI 0
  | n + 1 => q_dv b c n * nI 10 + b (c + n) - nI 48
def q_isS (x : Int32) : Bool := decide (x = nI 40 ∨ x = nI 41 ∨ x = nI 59 ∨ x = nI 43 ∨ x = nI 45 ∨ x = nI 42 ∨ x = nI 60 ∨ x = nI 61)
/-- a token from a place on: where it begins, which it is, where it ends -/
def q_A.tpl (A : q_A) (p : Nat) : Nat := q_eN q_isB A.tape A.B p
def q_A.tok (A : q_A) (p : Nat) : Nat :=
  if A.B ≤ A.tpl p then 0 else if q_isL (A.tape (A.tpl p)) = true then q_wt A.tape (A.tpl p) (q_eN q_isL A.tape A.B (A.tpl p)) 12
  else if q_isD (A.tape (A.tpl p)) = true then (if 4 < q_eN q_isD A.tape A.B (A.tpl p) - A.tpl p then 1 else 2)
  else if q_isS (A.tape (A.tpl p)) = true then (A.tape (A.tpl p)).toInt.toNat else 1
def q_A.ten (A : q_A) (p : Nat) : Nat :=
  if A.B ≤ A.tpl p then A.tpl p else if q_isL (A.tape (A.tpl p)) = true then q_eN q_isL A.tape A.B (A.tpl p)
  else if q_isD (A.tape (A.tpl p)) = true then q_eN q_isD A.tape A.B (A.tpl p) else A.tpl p + 1
def q_A.tnm (A : q_A) (p : Nat) : Int32 := q_dv A.tape (A.tpl p) (q_eN q_isD A.tape A.B (A.tpl p) - A.tpl p)
/-- where the tokens are -/
def q_A.ps (A : q_A) : Nat → Nat
  | 0 => 0
  | j + 1 => A.ten (A.ps j)
theorem q_A.tpl_le (A : q_A) (p : Nat) : p ≤ A.tpl p := q_eN_le
theorem q_A.tpl_B (A : q_A) {p : Nat} (h : p ≤ A.B) : A.tpl p ≤ A.B := q_eN_B h
theorem q_A.ten_B (A : q_A) {p : Nat} (h : p ≤ A.B) : A.ten p ≤ A.B ∧ p ≤ A.ten p ∧ (A.tok p ≠ 0 → p < A.ten p) := by
  have h1 := A.tpl_le p
  have h2 := A.tpl_B h
  unfold q_A.ten q_A.tok
  by_cases e1 : A.B ≤ A.tpl p
  · rw [if_pos e1, if_pos e1]
    exact ⟨h2, h1, fun h => absurd rfl h⟩
  · rw [if_neg e1, if_neg e1]
    by_cases e2 : q_isL (A.tape (A.tpl p)) = true
    · rw [if_pos e2, q_eN_s (by omega) e2]
      have k1 := q_eN_le (P := q_isL) (b := A.tape) (B := A.B) (a := A.tpl p + 1)
      have k2 := q_eN_B (P := q_isL) (b := A.tape) (B := A.B) (a := A.tpl p + 1) (by omega)
      exact ⟨k2, by omega, fun _ => by omega⟩
    · rw [if_neg e2, if_neg e2]
      by_cases e3 : q_isD (A.tape (A.tpl p)) = true
      · rw [if_pos e3, q_eN_s (by omega) e3]
        have k1 := q_eN_le (P := q_isD) (b := A.tape) (B := A.B) (a := A.tpl p + 1)
        have k2 := q_eN_B (P := q_isD) (b := A.tape) (B := A.B) (a := A.tpl p + 1) (by omega)
        exact ⟨k2, by omega, fun _ => by omega⟩
      · rw [if_neg e3]
        exact ⟨by omega, by omega, fun _ => by omega⟩
theorem q_A.ps_B (A : q_A) : ∀ j, A.ps j ≤ A.B := by
  intro j
  induction j with
  | zero => exact Nat.zero_le _
  | succ j ih => exact (A.ten_B ih).1
theorem q_wt_r (b : Nat → Int32) (c e : Nat) : ∀ n, q_wt b c e n = 1 ∨ ∃ k, k < n ∧ q_wt b c e n = 300 + k := by
  intro n
  induction n with
  | zero => exact Or.inl rfl
  | succ n ih =>
    rw [q_wt]
    split
    · exact Or.inr ⟨n, by omega, rfl⟩
    · rcases ih with h | ⟨k, h1, h2⟩
      · exact Or.inl h
      · exact Or.inr ⟨k, by omega, h2⟩
theorem q_isS_n {x : Int32} (h : q_isS x = true) : x = nI x.toInt.toNat ∧ (x.toInt.toNat = 40 ∨ x.toInt.toNat = 41 ∨ x.toInt.toNat = 59 ∨ x.toInt.toNat = 43 ∨ x.toInt.toNat = 45 ∨ x.toInt.toNat = 42 ∨ x.toInt.toNat = 60 ∨ x.toInt.toNat = 61) := by
  have h := of_decide_eq_true h
  rcases h with rfl | rfl | rfl | rfl | rfl | rfl | rfl | rfl <;> decide
/-- which tokens there are -/
theorem q_A.tok_r (A : q_A) (p : Nat) : A.tok p = 0 ∨ A.tok p = 1 ∨ A.tok p = 2 ∨ (A.tok p = 40 ∨ A.tok p = 41 ∨ A.tok p = 59 ∨ A.tok p = 43 ∨ A.tok p = 45 ∨ A.tok p = 42 ∨ A.tok p = 60 ∨ A.tok p = 61) ∨ ∃ k, k < 12 ∧ A.tok p = 300 + k := by
  unfold q_A.tok
  by_cases e1 : A.B ≤ A.tpl p
  · rw [if_pos e1]; exact Or.inl rfl
  · rw [if_neg e1]
    by_cases e2 : q_isL (A.tape (A.tpl p)) = true
    · rw [if_pos e2]
      rcases q_wt_r A.tape (A.tpl p) (q_eN q_isL A.tape A.B (A.tpl p)) 12 with h | h
      · exact Or.inr (Or.inl h)
      · exact Or.inr (Or.inr (Or.inr (Or.inr h)))
    · rw [if_neg e2]
      by_cases e3 : q_isD (A.tape (A.tpl p)) = true
      · rw [if_pos e3]
        split
        · exact Or.inr (Or.inl rfl)
        · exact Or.inr (Or.inr (Or.inl rfl))
      · rw [if_neg e3]
        by_cases e4 : q_isS (A.tape (A.tpl p)) = true
        · rw [if_pos e4]
          exact Or.inr (Or.inr (Or.inr (Or.inl (q_isS_n e4).2)))
        · rw [if_neg e4]; exact Or.inr (Or.inl rfl)
