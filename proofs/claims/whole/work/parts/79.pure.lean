/-! TEXTS: the class's reading of a part against the reference's, token by token (no machine in it) -/
def q_go (A : q_A) (j : Nat) (s : (Bool × Bool) × (List Nat × List Nat)) (j' : Nat) (s' : (Bool × Bool) × (List Nat × List Nat)) : Prop := j ≤ j' ∧ ∀ N, q_trun A (N + (j' - j)) j s = q_trun A N j' s'
def q_bad (A : q_A) (j : Nat) (s : (Bool × Bool) × (List Nat × List Nat)) (i : Nat) : Prop := j ≤ i ∧ ∀ N, (q_trun A (N + (i - j) + 1) j s).1 = false ∧ (q_trun A (N + (i - j) + 1) j s).2.1 = i
theorem q_go.rf {A : q_A} {j : Nat} {s : (Bool × Bool) × (List Nat × List Nat)} : q_go A j s j s := ⟨Nat.le_refl _, fun N => by rw [Nat.sub_self, Nat.add_zero]⟩
theorem q_go.tr {A : q_A} {a b c : Nat} {s s1 s2 : (Bool × Bool) × (List Nat × List Nat)} (h1 : q_go A a s b s1) (h2 : q_go A b s1 c s2) : q_go A a s c s2 := by
  obtain ⟨a1, a2⟩ := h1
  obtain ⟨b1, b2⟩ := h2
  exact ⟨by omega, fun N => by rw [show N + (c - a) = (N + (c - b)) + (b - a) by omega, a2, b2]⟩
theorem q_go.bad {A : q_A} {a b c : Nat} {s s1 : (Bool × Bool) × (List Nat × List Nat)} (h1 : q_go A a s b s1) (h2 : q_bad A b s1 c) : q_bad A a s c := by
  obtain ⟨a1, a2⟩ := h1
  obtain ⟨b1, b2⟩ := h2
  exact ⟨by omega, fun N => by rw [show N + (c - a) + 1 = (N + (c - b) + 1) + (b - a) by omega, a2]; exact b2 N⟩
theorem q_go.st {A : q_A} {j : Nat} {s s' : (Bool × Bool) × (List Nat × List Nat)} (h1 : ¬ (s.1.1 = false ∧ A.tok (A.ps j) = 59)) (h2 : q_mst (A.tok (A.ps j)) (A.num (A.ps j)) s = some s') : q_go A j s (j + 1) s' := ⟨by omega, fun N => by rw [show N + (j + 1 - j) = N + 1 by omega]; exact trun_s h1 h2⟩
theorem q_bad.st {A : q_A} {j : Nat} {s : (Bool × Bool) × (List Nat × List Nat)} (h1 : ¬ (s.1.1 = false ∧ A.tok (A.ps j) = 59)) (h2 : q_mst (A.tok (A.ps j)) (A.num (A.ps j)) s = none) : q_bad A j s j := ⟨Nat.le_refl _, fun N => by rw [Nat.sub_self, Nat.add_zero, trun_n h1 h2]; exact ⟨rfl, rfl⟩⟩
theorem q_bad.en {A : q_A} {j : Nat} {s : (Bool × Bool) × (List Nat × List Nat)} (h1 : s.1.1 = false) (h2 : A.tok (A.ps j) = 59) (h3 : (q_tuw 1 s.2.1 s.2.2).1 ≠ []) : q_bad A j s j := ⟨Nat.le_refl _, fun N => by rw [Nat.sub_self, Nat.add_zero, trun_e h1 h2]; exact ⟨decide_eq_false h3, rfl⟩⟩
/-- what is held begins below a rank -/
def q_tp (r : Nat) (H : List Nat) : Prop := ∀ c, H.head? = some c → q_trk c < r
theorem q_tp.le {r r2 : Nat} {H : List Nat} (h : q_tp r H) (e : r ≤ r2) : q_tp r2 H := fun c hc => Nat.lt_of_lt_of_le (h c hc) e
theorem q_tp_c {r c : Nat} {H : List Nat} (h : q_trk c < r) : q_tp r (c :: H) := fun x hx => by cases hx; exact h
theorem q_tuw_p {r : Nat} : ∀ {P H O : List Nat}, (∀ c, c ∈ P → r ≤ q_trk c) → q_tp r H → q_tuw r (P ++ H) O = (H, O ++ P) := by
  intro P
  induction P with
  | nil =>
    intro H O _ h
    rw [List.nil_append, List.append_nil]
    cases H with
    | nil => rfl
    | cons c H => rw [q_tuw, if_neg (Nat.not_le_of_lt (h c rfl))]
  | cons a P ih =>
    intro H O h1 h2
    rw [List.cons_append, q_tuw, if_pos (h1 a (List.mem_cons_self ..)), ih (fun c hc => h1 c (List.mem_cons_of_mem _ hc)) h2, List.append_assoc]
    rfl
theorem q_tuw_0 {r : Nat} {H O : List Nat} (h : q_tp r H) : q_tuw r H O = (H, O) := by
  have := q_tuw_p (r := r) (P := []) (O := O) (fun c hc => by cases hc) h
  rw [List.nil_append, List.append_nil] at this
  exact this
/-- a comparison's sign is held already -/
def q_has4 (P : List Nat) : Prop := ∃ P1 s P2, P = P1 ++ s :: P2 ∧ (∀ c, c ∈ P1 → 5 ≤ q_trk c) ∧ q_trk s = 4
theorem q_has4.ap {P : List Nat} (h : q_has4 P) (X : List Nat) : q_has4 (P ++ X) := by
  obtain ⟨P1, s, P2, rfl, h1, h2⟩ := h
  exact ⟨P1, s, P2 ++ X, by rw [List.append_assoc, List.cons_append], h1, h2⟩
theorem q_has4.bt {P : List Nat} (h : q_has4 P) {s : Nat} (hs : q_trk s = 4) (H O : List Nat) : q_bt s (P ++ H) O = none := by
  obtain ⟨P1, c, P2, rfl, h1, h2⟩ := h
  have e : q_tuw 5 ((P1 ++ c :: P2) ++ H) O = (c :: (P2 ++ H), O ++ P1) := by
    rw [List.append_assoc, List.cons_append]
    exact q_tuw_p h1 (q_tp_c (by omega))
  unfold q_bt
  rw [if_pos ⟨hs, c, by rw [e]; rfl, h2⟩]
theorem q_bt_4 {P H O : List Nat} (h1 : ∀ c, c ∈ P → 5 ≤ q_trk c) (h2 : q_tp 4 H) {s : Nat} (hs : q_trk s = 4) : q_bt s (P ++ H) O = some (s :: H, O ++ P) := by
  have e : q_tuw 5 (P ++ H) O = (H, O ++ P) := q_tuw_p h1 (h2.le (by omega))
  unfold q_bt
  rw [if_pos hs, e]
  rw [if_neg (by rintro ⟨_, c, hc, h4⟩; have := h2 c hc; omega)]
theorem q_bt_r {P H O : List Nat} {s r : Nat} (hs : q_trk s = r) (h4 : r ≠ 4) (h1 : ∀ c, c ∈ P → r ≤ q_trk c) (h2 : q_tp r H) : q_bt s (P ++ H) O = some (s :: H, O ++ P) := by
  unfold q_bt
  rw [if_neg (show ¬ q_trk s = 4 by omega), hs, q_tuw_p h1 h2]
  rw [if_neg (by rintro ⟨h, _⟩; omega)]
/-- what can't follow -/
def q_tS (k t : Nat) (P : List Nat) : Prop := t ≠ 42 ∧ (k ≤ 4 → t ≠ 43 ∧ t ≠ 45) ∧ (k ≤ 3 → t = 60 ∨ t = 61 → q_has4 P) ∧ (k ≤ 1 → t ≠ 304) ∧ (k = 0 → t ≠ 303)
/-- one of a kind read, both ways: r bounds the ranks of what is pending, S tells what can't follow -/
def q_opn (A : q_A) (r : Nat) (S : Nat → List Nat → Prop) (j : Nat) (s : (Bool × Bool) × (List Nat × List Nat)) (H O : List Nat) (res : Bool × Nat × List Nat) : Prop :=
  j ≤ res.2.1 ∧ (res.1 = false → q_bad A j s res.2.1) ∧ (res.1 = true → ∃ P Q mn, Q ++ P = res.2.2 ∧ (∀ c, c ∈ P → r ≤ q_trk c) ∧ S (A.tok (A.ps res.2.1)) P ∧ q_go A j s res.2.1 ((false, mn), (P ++ H, O ++ Q)))
theorem q_ps_m (A : q_A) (j : Nat) : ∀ n, A.ps j ≤ A.ps (j + n) := by
  intro n
  induction n with
  | zero => exact Nat.le_refl _
  | succ n ih => exact Nat.le_trans ih (A.tk_m (j + n))
theorem q_ps_l (A : q_A) {j i : Nat} (h : j ≤ i) : A.ps j ≤ A.ps i := by
  have := q_ps_m A j (i - j)
  rw [show j + (i - j) = i by omega] at this
  exact this
theorem q_sgn_mst {t v s : Nat} {mn : Bool} {H O : List Nat} {u : List Nat × List Nat} (h1 : t ≠ 41) (h2 : q_tsg t = s) (h3 : s ≠ 0) (h4 : q_bt s H O = some u) : q_mst t v ((false, mn), (H, O)) = some ((true, decide (s ≤ 12)), u) := by
  subst h2
  unfold q_mst
  rw [if_neg (show ¬ ((false, mn), (H, O)).1.1 = true from Bool.false_ne_true), if_neg h1, if_neg h3]
  dsimp only
  rw [h4]
theorem q_lpp_o {A : q_A} (hO : q_Ok A) {f : Nat → Bool × Nat × List Nat} {p : Nat → Bool} {r : Nat} {H : List Nat} {S : Nat → List Nat → Prop} (h4 : r ≠ 4) (hH : q_tp r H)
    (hp : ∀ t, p t = true → q_trk (q_tsg t) = r ∧ q_tsg t ≠ 0 ∧ t ≠ 41 ∧ t ≠ 59 ∧ t ≠ 0) (hS : ∀ t P X, S t P → S t (P ++ X))
    (hf : ∀ j t O, p t = true → q_opn A r S j ((true, decide (q_tsg t ≤ 12)), (q_tsg t :: H, O)) (q_tsg t :: H) O (f j)) :
    ∀ n j P Q O mn, (∀ c, c ∈ P → r ≤ q_trk c) → S (A.tok (A.ps j)) P → 160 ≤ n + A.ps j →
      q_opn A r (fun t P => S t P ∧ p t = false) j ((false, mn), (P ++ H, O ++ Q)) H O (q_lpp A f p n j (Q ++ P)) := by
  have oB := hO.B
  intro n
  induction n with
  | zero =>
    intro j P Q O mn h1 h2 h3
    refine ⟨Nat.le_refl _, fun h => (by cases h), fun _ => ⟨P, Q, mn, rfl, h1, ⟨h2, ?_⟩, q_go.rf⟩⟩
    have pB := A.ps_B (j + 1)
    cases e : p (A.tok (A.ps j)) with
    | false => exact e
    | true =>
      have := A.tk_s j (hp _ e).2.2.2.2
      omega
  | succ n ih =>
    intro j P Q O mn h1 h2 h3
    rw [q_lpp]
    by_cases e1 : p (A.tok (A.ps j)) = true
    · rw [if_pos e1]
      obtain ⟨p1, p2, p3, p4, p5⟩ := hp _ e1
      have tk := A.tk_s j p5
      have hb := q_bt_r (O := O ++ Q) p1 h4 h1 hH
      have g1 : q_go A j ((false, mn), (P ++ H, O ++ Q)) (j + 1) ((true, decide (q_tsg (A.tok (A.ps j)) ≤ 12)), (q_tsg (A.tok (A.ps j)) :: H, O ++ Q ++ P)) := q_go.st (fun h => p4 h.2) (q_sgn_mst p3 rfl p2 hb)
      obtain ⟨f0, f1, f2⟩ := hf (j + 1) (A.tok (A.ps j)) (O ++ Q ++ P) e1
      by_cases e2 : (f (j + 1)).1 = true
      · rw [if_pos e2]
        obtain ⟨P1, Q1, mn1, c1, r1, s1, g2⟩ := f2 e2
        have ps2 := q_ps_l A f0
        have i1 := ih (f (j + 1)).2.1 (P1 ++ [q_tsg (A.tok (A.ps j))]) (Q ++ P ++ Q1) O mn1 (by
          intro c hc
          rcases List.mem_append.mp hc with h | h
          · exact r1 c h
          · cases List.mem_singleton.mp h; omega) (hS _ _ _ s1) (by omega)
        have eC : Q ++ P ++ Q1 ++ (P1 ++ [q_tsg (A.tok (A.ps j))]) = Q ++ P ++ (f (j + 1)).2.2 ++ [q_tsg (A.tok (A.ps j))] := by
          rw [← c1]; simp only [List.append_assoc]
        rw [eC] at i1
        have eH : P1 ++ [q_tsg (A.tok (A.ps j))] ++ H = P1 ++ q_tsg (A.tok (A.ps j)) :: H := by simp only [List.append_assoc, List.cons_append, List.nil_append]
        have eO : O ++ (Q ++ P ++ Q1) = O ++ Q ++ P ++ Q1 := by simp only [List.append_assoc]
        rw [eH, eO] at i1
        obtain ⟨i0, i1, i2⟩ := i1
        have g3 := g1.tr g2
        refine ⟨by omega, fun h => g3.bad (i1 h), fun h => ?_⟩
        obtain ⟨P2, Q2, mn2, c2, r2, s2, g4⟩ := i2 h
        exact ⟨P2, Q2, mn2, c2, r2, s2, g3.tr g4⟩
      · rw [if_neg e2]
        have e3 : (f (j + 1)).1 = false := by cases h : (f (j + 1)).1 with | false => rfl | true => exact absurd h e2
        exact ⟨by have : j + 1 ≤ (f (j + 1)).2.1 := f0; show j ≤ (f (j + 1)).2.1; omega, fun _ => g1.bad (f1 e3), fun h => (by cases h)⟩
    · rw [if_neg e1]
      have e3 : p (A.tok (A.ps j)) = false := by cases h : p (A.tok (A.ps j)) with | false => rfl | true => exact absurd h e1
      exact ⟨Nat.le_refl _, fun h => (by cases h), fun _ => ⟨P, Q, mn, rfl, h1, ⟨h2, e3⟩, q_go.rf⟩⟩
