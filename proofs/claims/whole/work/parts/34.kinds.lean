/-! KINDS: both sides -/
theorem wT_fr {c : q_C} {f : q_T} {σ : q_S} {N : q_S → Prop} {R : Option Value → q_H → Prop} (I : Nat → q_S → Prop) (n : Nat) (hn : n < 4999) (h0 : I 0 σ) (hs : ∀ i σ, i < n → I i σ → wC c σ (fun b σ1 => b = true ∧ wT f σ1 (I (i + 1)) R)) (he : ∀ σ, I n σ → wC c σ (fun b σ1 => (b = true → wT f σ1 (fun _ => False) R) ∧ (b = false → N σ1))) : wT (sWh c f) σ N R := by
  have key : ∀ (k i : Nat) (σ : q_S), i + k = n → I i σ → ∀ fuel, k < fuel → wT (q_wh c f fuel) σ N R := by
    intro k
    induction k with
    | zero =>
      intro i σ e hI fuel hf
      obtain ⟨fuel, rfl⟩ : ∃ z, fuel = z + 1 := ⟨fuel - 1, by omega⟩
      have e : i = n := by omega
      subst e
      obtain ⟨b, σ1, e1, k1, k2⟩ := he σ hI
      cases b with
      | false => exact Or.inl ⟨σ1, by unfold q_wh; rw [e1]; rfl, k2 rfl⟩
      | true =>
        rcases k1 rfl with ⟨σ2, e2, q⟩ | ⟨v, h, e2, q⟩
        · exact q.elim
        · exact Or.inr ⟨v, h, by unfold q_wh; rw [e1]; simp only [e2, if_true], q⟩
    | succ k ih =>
      intro i σ e hI fuel hf
      obtain ⟨fuel, rfl⟩ : ∃ z, fuel = z + 1 := ⟨fuel - 1, by omega⟩
      obtain ⟨b, σ1, e1, rfl, q⟩ := hs i σ (by omega) hI
      rcases q with ⟨σ2, e2, q⟩ | ⟨v, h, e2, q⟩
      · rcases ih (i + 1) σ2 (by omega) q fuel (by omega) with ⟨σ3, e3, q⟩ | ⟨v, h, e3, q⟩
        · exact Or.inl ⟨σ3, by unfold q_wh; rw [e1]; simp only [e2, if_true]; exact e3, q⟩
        · exact Or.inr ⟨v, h, by unfold q_wh; rw [e1]; simp only [e2, if_true]; exact e3, q⟩
      · exact Or.inr ⟨v, h, by unfold q_wh; rw [e1]; simp only [e2, if_true], q⟩
  exact key n 0 σ (by omega) h0 q_fuel (by unfold q_fuel; omega)
theorem uT_fr {c : q_C} {f : q_T} {L : q_L} {h : q_H} {N : q_L → q_H → Prop} {R : Option Value → q_H → Prop} (I : Nat → q_L → q_H → Prop) (n : Nat) (hn : n < 4999) (h0 : I 0 L h) (hs : ∀ i L h, i < n → I i L h → uC c L h (fun b L1 h1 => b = true ∧ uT f L1 h1 (I (i + 1)) R)) (he : ∀ L h, I n L h → uC c L h (fun b L1 h1 => if b = true then uT f L1 h1 (fun _ _ => False) R else N L1 h1)) : uT (sWh c f) L h N R := by
  refine wT_fr (fun i σ => I i σ.1 σ.2) n hn h0 (fun i σ hi hI => hs i σ.1 σ.2 hi hI) (fun σ hI => (he σ.1 σ.2 hI).mono ?_)
  intro b σ1 k
  cases b with
  | true => exact ⟨fun _ => k, fun h => by cases h⟩
  | false => exact ⟨fun h => (by cases h), fun _ => k⟩
def q_A.sh (A : q_A) (r : Int32) (s h : Nat) : Int32 := A.lit h (nI s) A.on A.hour &&& A.there r
def q_A.kd (A : q_A) (r : Int32) (s : Nat) (sub : Int32) (h : Nat) : Int32 := q_bits A.H (fun o => bt sub o && decide (A.sh r s o = A.sh r s h))
/-- no earlier one of some shows what o shows -/
def q_A.nw (A : q_A) (r : Int32) (s : Nat) (sub : Int32) : Nat → Nat → Bool
  | 0, _ => true
  | i + 1, o => A.nw r s sub i o && !(bt sub i && decide (A.sh r s i = A.sh r s o))
theorem q_A.nw_c (A : q_A) (r : Int32) (s : Nat) (sub : Int32) {o p : Nat} (e : A.sh r s o = A.sh r s p) : ∀ i, A.nw r s sub i o = A.nw r s sub i p := by
  intro i
  induction i with
  | zero => rfl
  | succ i ih => rw [q_A.nw, q_A.nw, ih, e]
theorem q_A.nw_iff (A : q_A) (r : Int32) (s : Nat) (sub : Int32) (o : Nat) : ∀ i, A.nw r s sub i o = true ↔ ∀ h, h < i → ¬ (bt sub h = true ∧ A.sh r s h = A.sh r s o) := by
  intro i
  induction i with
  | zero => exact ⟨fun _ h hh => by omega, fun _ => rfl⟩
  | succ i ih =>
    rw [q_A.nw, Bool.and_eq_true, ih]
    constructor
    · rintro ⟨h1, h2⟩ h hh
      rcases Nat.lt_or_ge h i with h3 | h3
      · exact h1 h h3
      · have : h = i := by omega
        subst this
        rintro ⟨h4, h5⟩
        rw [h4, decide_eq_true h5] at h2
        cases h2
    · intro z
      refine ⟨fun h hh => z h (by omega), ?_⟩
      have := z i (by omega)
      cases hb : bt sub i with
      | false => rfl
      | true =>
        rw [decide_eq_false (fun h5 => this ⟨hb, h5⟩)]
        rfl
def q_A.lf (A : q_A) (r : Int32) (s : Nat) (sub : Int32) (i : Nat) : Int32 := q_bits A.H (fun o => bt sub o && A.nw r s sub i o)
theorem q_A.lf_bt (A : q_A) (hO : q_Ok A) (r : Int32) (s : Nat) (sub : Int32) (i : Nat) {o : Nat} (ho : o < A.H) : bt (A.lf r s sub i) o = (bt sub o && A.nw r s sub i o) := by
  have oH := hO.H
  unfold q_A.lf
  rw [bt_bits (by omega) _ (by omega)]
  simp [ho]
theorem q_A.lf_0 (A : q_A) (hO : q_Ok A) (r : Int32) (s : Nat) {sub : Int32} (hs : q_lo A.H sub) : A.lf r s sub 0 = sub := by
  have oH := hO.H
  rw [q_lo_eq hs (by omega)]
  refine q_bits_congr fun o ho => ?_
  rw [bt_bits (by omega) _ (by omega)]
  simp [ho, q_A.nw]
/-- taking a kind out of what is left -/
theorem q_A.lf_kd (A : q_A) (hO : q_Ok A) (r : Int32) (s : Nat) (sub : Int32) {i : Nat} (hi : i < A.H) (hn : A.nw r s sub i i = true) : q_bits A.H (fun o => bt (A.lf r s sub i) o && decide (A.sh r s o = A.sh r s i)) = A.kd r s sub i := by
  refine q_bits_congr fun o ho => ?_
  rw [A.lf_bt hO r s sub i ho]
  by_cases e : A.sh r s o = A.sh r s i
  · rw [A.nw_c r s sub e, hn, Bool.and_true]
  · simp [e]
def q_A.gm (A : q_A) (r : Int32) (s : Nat) (sub : Int32) : Nat → Nat
  | 0 => 0
  | i + 1 => if bt sub i = true then max (A.gm r s sub i) (q_cnt 12 (A.kd r s sub i)) else A.gm r s sub i
def q_A.gr (A : q_A) (r : Int32) (s : Nat) (sub : Int32) : Nat := A.gm r s sub A.H
theorem q_A.gm_le (A : q_A) (r : Int32) (s : Nat) (sub : Int32) : ∀ i, A.gm r s sub i ≤ 12 := by
  intro i
  induction i with
  | zero => exact Nat.zero_le _
  | succ i ih =>
    have := q_cnt_le 12 (A.kd r s sub i)
    rw [q_A.gm]
    split <;> omega
theorem q_A.gm_ge (A : q_A) (r : Int32) (s : Nat) (sub : Int32) {h : Nat} (hb : bt sub h = true) : ∀ i, h < i → q_cnt 12 (A.kd r s sub h) ≤ A.gm r s sub i := by
  intro i
  induction i with
  | zero => intro h; omega
  | succ i ih =>
    intro hi
    rw [q_A.gm]
    rcases Nat.lt_or_ge h i with h1 | h1
    · have := ih h1
      split <;> omega
    · have : h = i := by omega
      subst this
      rw [if_pos hb]; omega
theorem q_A.gm_skip (A : q_A) (r : Int32) (s : Nat) (sub : Int32) {i : Nat} (hn : (bt sub i && A.nw r s sub i i) = false) : A.gm r s sub (i + 1) = A.gm r s sub i := by
  rw [q_A.gm]
  cases hb : bt sub i with
  | false => rfl
  | true =>
    rw [hb, Bool.true_and] at hn
    have : ¬ ∀ h, h < i → ¬ (bt sub h = true ∧ A.sh r s h = A.sh r s i) := fun z => by
      rw [(A.nw_iff r s sub i i).mpr z] at hn; cases hn
    simp only [Classical.not_forall, Classical.not_not] at this
    obtain ⟨h, hh, h1, h2⟩ := this
    have e : A.kd r s sub i = A.kd r s sub h := by unfold q_A.kd; rw [h2]
    have := A.gm_ge r s sub h1 i hh
    rw [if_pos rfl, e]
    omega
theorem q_A.lf_skip (A : q_A) (r : Int32) (s : Nat) (sub : Int32) {i : Nat} (hn : (bt sub i && A.nw r s sub i i) = false) : A.lf r s sub (i + 1) = A.lf r s sub i := by
  refine q_bits_congr fun o _ => ?_
  rw [q_A.nw]
  by_cases e : A.sh r s i = A.sh r s o
  · rw [← A.nw_c r s sub e]
    cases hb : bt sub i with
    | false => simp
    | true => rw [hb, Bool.true_and] at hn; rw [hn]; simp
  · simp [e]
theorem q_A.lf_take (A : q_A) (hO : q_Ok A) (r : Int32) (s : Nat) (sub : Int32) {i : Nat} (hb : bt sub i = true) : A.lf r s sub i &&& q_nt (A.kd r s sub i) = A.lf r s sub (i + 1) := by
  have oH := hO.H
  apply b_ext
  intro o ho
  rw [b_and, b_nt _ ho]
  unfold q_A.lf q_A.kd
  rw [bt_bits (by omega) _ ho, bt_bits (by omega) _ ho, bt_bits (by omega) _ ho, q_A.nw, hb]
  have : decide (A.sh r s i = A.sh r s o) = decide (A.sh r s o = A.sh r s i) := decide_eq_decide.mpr eq_comm
  rw [this]
  cases decide (o < A.H) <;> cases bt sub o <;> cases A.nw r s sub i o <;> cases decide (A.sh r s o = A.sh r s i) <;> rfl
theorem q_A.kd_lo (A : q_A) (hO : q_Ok A) (r : Int32) (s : Nat) (sub : Int32) (h : Nat) : q_lo A.H (A.kd r s sub h) := q_lo_bits (Nat.le_refl _) (by have := hO.H; omega) _
theorem q_A.kd_bt (A : q_A) (hO : q_Ok A) (r : Int32) (s : Nat) (sub : Int32) (h : Nat) {o : Nat} (ho : o < A.H) : bt (A.kd r s sub h) o = (bt sub o && decide (A.sh r s o = A.sh r s h)) := by
  have oH := hO.H
  unfold q_A.kd
  rw [bt_bits (by omega) _ (by omega)]
  simp [ho]
theorem q_A.lets_lo2 (A : q_A) (hO : q_Ok A) : q_lo A.H A.lets := q_lo_bits (Nat.le_refl _) (by have := hO.H; omega) _
/-- how many kinds -/
def q_A.kc (A : q_A) (r : Int32) (s : Nat) (sub : Int32) : Nat → Nat
  | 0 => 0
  | i + 1 => A.kc r s sub i + (if (bt sub i && A.nw r s sub i i) = true then 1 else 0)
theorem q_A.kc_le (A : q_A) (r : Int32) (s : Nat) (sub : Int32) : ∀ i, A.kc r s sub i ≤ i := by
  intro i
  induction i with
  | zero => exact Nat.le_refl _
  | succ i ih => rw [q_A.kc]; split <;> omega
/-- the set by which the greatest kind is least, of the first sets, and how many that are -/
def q_A.nx (A : q_A) (r : Int32) (sub : Int32) (m : Nat) : Nat → Nat × Nat
  | 0 => (0, 13)
  | i + 1 => if q_cnt 12 (nI i) ≤ m ∧ (A.gr r i sub < (A.nx r sub m i).2 ∨ (A.gr r i sub = (A.nx r sub m i).2 ∧ q_cnt 12 (nI i) < q_cnt 12 (nI (A.nx r sub m i).1))) then (i, A.gr r i sub) else A.nx r sub m i
theorem q_A.nx_1 (A : q_A) (r : Int32) (sub : Int32) (m : Nat) : ∀ i, A.nx r sub m (i + 1) = ((A.nx r sub m (i + 1)).1, A.gr r (A.nx r sub m (i + 1)).1 sub) ∧ (A.nx r sub m (i + 1)).1 ≤ i := by
  intro i
  induction i with
  | zero =>
    have h : A.nx r sub m 1 = (0, A.gr r 0 sub) := by
      rw [q_A.nx, if_pos]
      have := A.gm_le r 0 sub A.H
      refine ⟨?_, Or.inl ?_⟩
      · rw [show q_cnt 12 (nI 0) = 0 from by decide]; exact Nat.zero_le _
      · show A.gm r 0 sub A.H < 13
        omega
    rw [h]
    exact ⟨rfl, Nat.le_refl _⟩
  | succ i ih =>
    rw [q_A.nx]
    split
    · exact ⟨rfl, Nat.le_refl _⟩
    · exact ⟨ih.1, by omega⟩
theorem q_A.nx_0 (A : q_A) (r : Int32) (sub : Int32) (m : Nat) : A.nx r sub m 1 = (0, A.gr r 0 sub) := by
  have h := A.nx_1 r sub m 0
  have e : (A.nx r sub m (0 + 1)).1 = 0 := Nat.le_zero.mp h.2
  show A.nx r sub m (0 + 1) = _
  rw [h.1, e]
theorem q_A.nx_lt (A : q_A) (r : Int32) (sub : Int32) (m : Nat) {n i : Nat} (h0 : 0 < n) (hi : i ≤ n) : (A.nx r sub m i).1 < n := by
  cases i with
  | zero => exact h0
  | succ i => have := (A.nx_1 r sub m i).2; omega
theorem q_A.nx_le (A : q_A) (r : Int32) (sub : Int32) (m : Nat) (i : Nat) : (A.nx r sub m i).2 ≤ 13 := by
  cases i with
  | zero => exact Nat.le_refl _
  | succ i => rw [(A.nx_1 r sub m i).1]; exact Nat.le_trans (A.gm_le r _ sub A.H) (by decide)
def q_A.nS (A : q_A) (r : Int32) (sub : Int32) (m : Nat) : Nat := (A.nx r sub m (2 ^ A.F)).1
theorem q_A.nS_lt (A : q_A) (r : Int32) (sub : Int32) (m : Nat) : A.nS r sub m < 2 ^ A.F := A.nx_lt r sub m (q_pow1 _) (Nat.le_refl _)
theorem q_A.nx_all (A : q_A) (r : Int32) (sub : Int32) (m : Nat) : (A.nx r sub m (2 ^ A.F)).2 = A.gr r (A.nS r sub m) sub := by
  have h := q_pow1 A.F
  have e : 2 ^ A.F = 2 ^ A.F - 1 + 1 := by omega
  unfold q_A.nS
  rw [e, (A.nx_1 r sub m (2 ^ A.F - 1)).1]
