/-! TEXTS: the class's kinds against the reference's machine -/
section
variable {A : q_A} {n o j : Nat}
theorem q_par_0 : q_par A (n + 1) 0 o j = (if (q_par A n 1 o j).1 = true then q_lpp A (q_par A n 1 o) (fun t => decide (t = 303)) 160 (q_par A n 1 o j).2.1 (q_par A n 1 o j).2.2 else (false, (q_par A n 1 o j).2.1, [])) := by
  rw [q_par, if_pos rfl]
theorem q_par_1 : q_par A (n + 1) 1 o j = (if (q_par A n 2 o j).1 = true then q_lpp A (q_par A n 2 o) (fun t => decide (t = 304)) 160 (q_par A n 2 o j).2.1 (q_par A n 2 o j).2.2 else (false, (q_par A n 2 o j).2.1, [])) := by
  rw [q_par, if_neg (by omega), if_pos rfl]
theorem q_par_2 : q_par A (n + 1) 2 o j = (if A.tok (A.ps j) = 305 then (if 5 ≤ o then (false, j, []) else if (q_par A n 2 (o + 1) (j + 1)).1 = true then (true, (q_par A n 2 (o + 1) (j + 1)).2.1, (q_par A n 2 (o + 1) (j + 1)).2.2 ++ [13]) else (false, (q_par A n 2 (o + 1) (j + 1)).2.1, [])) else q_par A n 3 o j) := by
  rw [q_par, if_neg (by omega), if_neg (by omega), if_pos rfl]
theorem q_par_3 : q_par A (n + 1) 3 o j = (if (q_par A n 4 o j).1 = true then q_lpp A (q_par A n 4 o) (fun t => decide (t = 60 ∨ t = 61)) 1 (q_par A n 4 o j).2.1 (q_par A n 4 o j).2.2 else (false, (q_par A n 4 o j).2.1, [])) := by
  rw [q_par, if_neg (by omega), if_neg (by omega), if_neg (by omega), if_pos rfl]
theorem q_par_4 : q_par A (n + 1) 4 o j = (if (q_par A n 5 o j).1 = true then q_lpp A (q_par A n 5 o) (fun t => decide (t = 43 ∨ t = 45)) 160 (q_par A n 5 o j).2.1 (q_par A n 5 o j).2.2 else (false, (q_par A n 5 o j).2.1, [])) := by
  rw [q_par, if_neg (by omega), if_neg (by omega), if_neg (by omega), if_neg (by omega), if_pos rfl]
theorem q_par_5 : q_par A (n + 1) 5 o j = (if (q_par A n 6 o j).1 = true then q_lpp A (q_par A n 6 o) (fun t => decide (t = 42)) 160 (q_par A n 6 o j).2.1 (q_par A n 6 o j).2.2 else (false, (q_par A n 6 o j).2.1, [])) := by
  rw [q_par, if_neg (by omega), if_neg (by omega), if_neg (by omega), if_neg (by omega), if_neg (by omega), if_pos rfl]
theorem q_par_6 : q_par A (n + 1) 6 o j = (if A.tok (A.ps j) = 2 then (true, j + 1, [100000 + A.num (A.ps j)]) else if 306 ≤ A.tok (A.ps j) then (true, j + 1, [A.tok (A.ps j) - 306]) else if 5 ≤ o then (false, j, []) else if A.tok (A.ps j) = 45 then q_par A n 7 (o + 1) (j + 1) else if A.tok (A.ps j) = 40 then q_par A n 8 (o + 1) (j + 1) else (false, j, [])) := by
  rw [q_par, if_neg (by omega), if_neg (by omega), if_neg (by omega), if_neg (by omega), if_neg (by omega), if_neg (by omega), if_pos rfl]
theorem q_par_7 : q_par A (n + 1) 7 o j = (if (q_par A n 6 o j).1 = true then (true, (q_par A n 6 o j).2.1, (q_par A n 6 o j).2.2 ++ [19]) else (false, (q_par A n 6 o j).2.1, [])) := by
  rw [q_par, if_neg (by omega), if_neg (by omega), if_neg (by omega), if_neg (by omega), if_neg (by omega), if_neg (by omega), if_neg (by omega), if_pos rfl]
theorem q_par_8 : q_par A (n + 1) 8 o j = (if (q_par A n 0 o j).1 = true then (if A.tok (A.ps (q_par A n 0 o j).2.1) = 41 then (true, (q_par A n 0 o j).2.1 + 1, (q_par A n 0 o j).2.2) else (false, (q_par A n 0 o j).2.1, [])) else (false, (q_par A n 0 o j).2.1, [])) := by
  rw [q_par, if_neg (by omega), if_neg (by omega), if_neg (by omega), if_neg (by omega), if_neg (by omega), if_neg (by omega), if_neg (by omega), if_neg (by omega)]
end
/-- a kind (0 to 5) read, both ways -/
def q_agr (A : q_A) (n k o : Nat) : Prop := ∀ j H O mn, q_tnp H = o → q_tp ([1, 2, 4, 4, 5, 6].getD k 0) H → (k ≤ 2 → mn = true) → (mn = true → k ≤ 2 ∨ A.tok (A.ps j) ≠ 305) → q_opn A ([1, 2, 3, 4, 5, 6].getD k 0) (q_tS k) j ((true, mn), (H, O)) H O (q_par A n k o j)
/-- one read, both ways, from a state -/
def q_one (A : q_A) (j : Nat) (s : (Bool × Bool) × (List Nat × List Nat)) (H O : List Nat) (res : Bool × Nat × List Nat) : Prop :=
  j ≤ res.2.1 ∧ (res.1 = false → q_bad A j s res.2.1) ∧ (res.1 = true → ∃ mn, q_go A j s res.2.1 ((false, mn), q_tuw 7 H (O ++ res.2.2)))
def q_agr6 (A : q_A) (n o : Nat) : Prop := ∀ j H O mn, q_tnp H = o → (mn = true → A.tok (A.ps j) ≠ 305) → q_one A j ((true, mn), (H, O)) H O (q_par A n 6 o j)
def q_agr7 (A : q_A) (n o : Nat) : Prop := ∀ j H O, q_tnp (19 :: H) = o → q_one A j ((true, false), (19 :: H, O)) H O (q_par A n 7 o j)
def q_agr8 (A : q_A) (n o : Nat) : Prop := ∀ j H O, q_tnp (0 :: H) = o → q_one A j ((true, true), (0 :: H, O)) H O (q_par A n 8 o j)
theorem q_bf {b : Bool} (h : ¬ b = true) : b = false := by cases b with | false => rfl | true => exact absurd rfl h
theorem q_agr.lp {A : q_A} (hO : q_Ok A) {n o k2 r r2 j : Nat} {H O : List Nat} {mn : Bool} {S0 : Nat → List Nat → Prop} {p : Nat → Bool} (h4 : r ≠ 4) (hH : q_tp r H) (le : r ≤ r2)
    (hp : ∀ t, p t = true → q_trk (q_tsg t) = r ∧ q_tsg t ≠ 0 ∧ t ≠ 41 ∧ t ≠ 59 ∧ t ≠ 0) (hS : ∀ t P X, q_tS k2 t P → q_tS k2 t (P ++ X)) (h5 : ∀ t P, q_tS k2 t P ∧ p t = false → S0 t P)
    (hf : ∀ j t O, p t = true → q_opn A r2 (q_tS k2) j ((true, decide (q_tsg t ≤ 12)), (q_tsg t :: H, O)) (q_tsg t :: H) O (q_par A n k2 o j))
    (hi : q_opn A r2 (q_tS k2) j ((true, mn), (H, O)) H O (q_par A n k2 o j)) : q_opn A r S0 j ((true, mn), (H, O)) H O (if (q_par A n k2 o j).1 = true then q_lpp A (q_par A n k2 o) p 160 (q_par A n k2 o j).2.1 (q_par A n k2 o j).2.2 else (false, (q_par A n k2 o j).2.1, [])) := by
  obtain ⟨i0, i1, i2⟩ := hi
  by_cases e : (q_par A n k2 o j).1 = true
  · rw [if_pos e]
    obtain ⟨P, Q, mn1, c1, r1, s1, g1⟩ := i2 e
    have l := q_lpp_o hO (O := O) h4 hH hp hS (fun j t O ht => by
      obtain ⟨a0, a1, a2⟩ := hf j t O ht
      refine ⟨a0, a1, fun h => ?_⟩
      obtain ⟨P, Q, mn, x1, x2, x3, x4⟩ := a2 h
      exact ⟨P, Q, mn, x1, fun c hc => Nat.le_trans le (x2 c hc), x3, x4⟩) 160 (q_par A n k2 o j).2.1 P Q mn1 (fun c hc => Nat.le_trans le (r1 c hc)) s1 (by omega)
    rw [c1] at l
    obtain ⟨l0, l1, l2⟩ := l
    refine ⟨by omega, fun h => g1.bad (l1 h), fun h => ?_⟩
    obtain ⟨P2, Q2, mn2, c2, r2, s2, g2⟩ := l2 h
    exact ⟨P2, Q2, mn2, c2, r2, h5 _ _ s2, g1.tr g2⟩
  · rw [if_neg e]
    exact ⟨i0, fun _ => i1 (q_bf e), fun h => by cases h⟩
theorem q_tS.ap (k t : Nat) (P X : List Nat) (h : q_tS k t P) : q_tS k t (P ++ X) := by
  obtain ⟨h1, h2, h3, h4, h5⟩ := h
  exact ⟨h1, h2, fun a b => (h3 a b).ap X, h4, h5⟩
theorem q_agr_0 {A : q_A} (hO : q_Ok A) {n o : Nat} (ih : q_agr A n 1 o) : q_agr A (n + 1) 0 o := by
  intro j H O mn hn hH hm h305
  rw [q_par_0]
  refine q_agr.lp hO (r := 1) (r2 := 2) (by omega) hH (by omega) ?_ (q_tS.ap 1) ?_ ?_ (ih j H O mn hn (hH.le (by decide)) (fun _ => hm (by omega)) (fun _ => Or.inl (by omega)))
  · intro t h
    cases of_decide_eq_true h
    decide
  · rintro t P ⟨⟨h1, h2, h3, h4, h5⟩, h6⟩
    exact ⟨h1, fun _ => h2 (by omega), fun _ => h3 (by omega), fun _ => h4 (by omega), fun _ => of_decide_eq_false h6⟩
  · intro j t O h
    cases of_decide_eq_true h
    exact ih j (11 :: H) O true (by rw [q_tnp, hn]; rfl) (q_tp_c (by decide)) (fun _ => rfl) (fun _ => Or.inl (by omega))
theorem q_agr_1 {A : q_A} (hO : q_Ok A) {n o : Nat} (ih : q_agr A n 2 o) : q_agr A (n + 1) 1 o := by
  intro j H O mn hn hH hm h305
  rw [q_par_1]
  refine q_agr.lp hO (r := 2) (r2 := 3) (by omega) hH (by omega) ?_ (q_tS.ap 2) ?_ ?_ (ih j H O mn hn (hH.le (by decide)) (fun _ => hm (by omega)) (fun _ => Or.inl (by omega)))
  · intro t h
    cases of_decide_eq_true h
    decide
  · rintro t P ⟨⟨h1, h2, h3, h4, h5⟩, h6⟩
    exact ⟨h1, fun _ => h2 (by omega), fun _ => h3 (by omega), fun _ => of_decide_eq_false h6, fun h => by omega⟩
  · intro j t O h
    cases of_decide_eq_true h
    exact ih j (12 :: H) O true (by rw [q_tnp, hn]; rfl) (q_tp_c (by decide)) (fun _ => rfl) (fun _ => Or.inl (by omega))
theorem q_agr_4 {A : q_A} (hO : q_Ok A) {n o : Nat} (ih : q_agr A n 5 o) : q_agr A (n + 1) 4 o := by
  intro j H O mn hn hH hm h305
  rw [q_par_4]
  refine q_agr.lp hO (r := 5) (r2 := 6) (by omega) hH (by omega) ?_ (q_tS.ap 5) ?_ ?_ (ih j H O mn hn (hH.le (by decide)) (fun h => by omega) (fun h => Or.inr ((h305 h).resolve_left (by omega))))
  · intro t h
    rcases of_decide_eq_true h with rfl | rfl <;> decide
  · rintro t P ⟨⟨h1, h2, h3, h4, h5⟩, h6⟩
    have := of_decide_eq_false h6
    exact ⟨h1, fun _ => by omega, fun h => by omega, fun h => by omega, fun h => by omega⟩
  · intro j t O h
    rcases of_decide_eq_true h with rfl | rfl
    · exact ih j (16 :: H) O false (by rw [q_tnp, hn]; rfl) (q_tp_c (by decide)) (fun h => by omega) (fun h => by cases h)
    · exact ih j (17 :: H) O false (by rw [q_tnp, hn]; rfl) (q_tp_c (by decide)) (fun h => by omega) (fun h => by cases h)
theorem q_one.opn {A : q_A} {j : Nat} {s : (Bool × Bool) × (List Nat × List Nat)} {H O : List Nat} {res : Bool × Nat × List Nat} (h : q_one A j s H O res) (hH : q_tp 7 H) : q_opn A 7 (fun _ _ => True) j s H O res := by
  obtain ⟨h0, h1, h2⟩ := h
  refine ⟨h0, h1, fun e => ?_⟩
  obtain ⟨mn, g⟩ := h2 e
  rw [q_tuw_0 hH] at g
  exact ⟨[], res.2.2, mn, List.append_nil _, fun c hc => (by cases hc), trivial, g⟩
theorem q_agr_5 {A : q_A} (hO : q_Ok A) {n o : Nat} (ih : q_agr6 A n o) : q_agr A (n + 1) 5 o := by
  intro j H O mn hn hH hm h305
  rw [q_par_5]
  have hH : q_tp 6 H := hH
  obtain ⟨i0, i1, i2⟩ := (ih j H O mn hn (fun h => (h305 h).resolve_left (by omega))).opn (hH.le (by decide))
  show q_opn A 6 _ _ _ _ _ _
  by_cases e : (q_par A n 6 o j).1 = true
  · rw [if_pos e]
    obtain ⟨P, Q, mn1, c1, r1, s1, g1⟩ := i2 e
    have l := q_lpp_o hO (O := O) (r := 6) (S := fun _ _ => True) (f := q_par A n 6 o) (p := fun t => decide (t = 42)) (by omega) hH (by
      intro t h
      cases of_decide_eq_true h
      decide) (fun _ _ _ _ => trivial) (fun j t O ht => by
      cases of_decide_eq_true ht
      obtain ⟨a0, a1, a2⟩ := (ih j (18 :: H) O false (by rw [q_tnp, hn]; rfl) (fun h => by cases h)).opn (q_tp_c (by decide))
      refine ⟨a0, a1, fun h => ?_⟩
      obtain ⟨P, Q, mn, x1, x2, x3, x4⟩ := a2 h
      exact ⟨P, Q, mn, x1, fun c hc => Nat.le_trans (by omega) (x2 c hc), x3, x4⟩) 160 (q_par A n 6 o j).2.1 P Q mn1 (fun c hc => Nat.le_trans (by omega) (r1 c hc)) trivial (by omega)
    rw [c1] at l
    obtain ⟨l0, l1, l2⟩ := l
    refine ⟨by omega, fun h => g1.bad (l1 h), fun h => ?_⟩
    obtain ⟨P2, Q2, mn2, c2, r2, s2, g2⟩ := l2 h
    exact ⟨P2, Q2, mn2, c2, r2, ⟨of_decide_eq_false s2.2, fun h => by omega, fun h => by omega, fun h => by omega, fun h => by omega⟩, g1.tr g2⟩
  · rw [if_neg e]
    exact ⟨i0, fun _ => i1 (q_bf e), fun h => by cases h⟩
theorem q_agr_3 {A : q_A} {n o : Nat} (ih : q_agr A n 4 o) : q_agr A (n + 1) 3 o := by
  intro j H O mn hn hH hm h305
  rw [q_par_3]
  have hH : q_tp 4 H := hH
  obtain ⟨i0, i1, i2⟩ := ih j H O mn hn (hH.le (by decide)) (fun h => by omega) (fun h => Or.inr ((h305 h).resolve_left (by omega)))
  show q_opn A 4 _ _ _ _ _ _
  by_cases e : (q_par A n 4 o j).1 = true
  · rw [if_pos e]
    obtain ⟨P, Q, mn1, c1, r1, s1, g1⟩ := i2 e
    have r1 : ∀ c, c ∈ P → 5 ≤ q_trk c := r1
    obtain ⟨s10, s11, s12, s13, s14⟩ := s1
    rw [q_lpp]
    by_cases e1 : A.tok (A.ps (q_par A n 4 o j).2.1) = 60 ∨ A.tok (A.ps (q_par A n 4 o j).2.1) = 61
    · rw [if_pos (decide_eq_true e1)]
      generalize q_par A n 4 o j = a at *
      obtain ⟨b, j1, C⟩ := a
      dsimp only at e i0 i1 c1 s11 s12 s13 s14 s10 g1 e1 ⊢
      have hs : q_trk (q_tsg (A.tok (A.ps j1))) = 4 ∧ q_tsg (A.tok (A.ps j1)) ≠ 0 ∧ A.tok (A.ps j1) ≠ 41 ∧ A.tok (A.ps j1) ≠ 59 ∧ ¬ q_tsg (A.tok (A.ps j1)) ≤ 12 ∧ ¬ (q_tsg (A.tok (A.ps j1)) = 0 ∨ q_tsg (A.tok (A.ps j1)) = 13 ∨ q_tsg (A.tok (A.ps j1)) = 19) := by
        rcases e1 with e1 | e1 <;> rw [e1] <;> decide
      obtain ⟨x1, x2, x3, x4, x5, x6⟩ := hs
      have g2 : q_go A j1 ((false, mn1), (P ++ H, O ++ Q)) (j1 + 1) ((true, decide (q_tsg (A.tok (A.ps j1)) ≤ 12)), (q_tsg (A.tok (A.ps j1)) :: H, O ++ Q ++ P)) := q_go.st (fun h => x4 h.2) (q_sgn_mst x3 rfl x2 (q_bt_4 r1 hH x1))
      rw [decide_eq_false x5] at g2
      obtain ⟨k0, k1, k2⟩ := ih (j1 + 1) (q_tsg (A.tok (A.ps j1)) :: H) (O ++ Q ++ P) false (by rw [q_tnp, hn, if_neg x6, Nat.add_zero]) (q_tp_c (by rw [x1]; decide)) (fun h => by omega) (fun h => by cases h)
      have g3 := g1.tr g2
      by_cases e2 : (q_par A n 4 o (j1 + 1)).1 = true
      · rw [if_pos e2]
        obtain ⟨P1, Q1, mn2, c2, r2, ⟨s20, s21, s22, s23, s24⟩, g4⟩ := k2 e2
        have r2 : ∀ c, c ∈ P1 → 5 ≤ q_trk c := r2
        refine ⟨by show j ≤ (q_par A n 4 o (j1 + 1)).2.1; omega, fun h => (by cases h), fun _ => ⟨P1 ++ [q_tsg (A.tok (A.ps j1))], Q ++ P ++ Q1, mn2, ?_, ?_, ⟨s20, fun _ => s21 (by omega), fun _ _ => ⟨P1, _, [], rfl, r2, x1⟩, fun h => (by omega), fun h => (by omega)⟩, ?_⟩⟩
        · show _ = C ++ (q_par A n 4 o (j1 + 1)).2.2 ++ _
          rw [← c1, ← c2]
          simp only [List.append_assoc]
        · intro c hc
          rcases List.mem_append.mp hc with h | h
          · have := r2 c h; omega
          · cases List.mem_singleton.mp h; omega
        · have := g3.tr g4
          simp only [List.append_assoc, List.cons_append, List.nil_append] at this ⊢
          exact this
      · rw [if_neg e2]
        exact ⟨by show j ≤ (q_par A n 4 o (j1 + 1)).2.1; omega, fun _ => g3.bad (k1 (q_bf e2)), fun h => by cases h⟩
    · rw [if_neg (by rw [decide_eq_false e1]; exact Bool.false_ne_true)]
      exact ⟨i0, fun h => (by cases h), fun _ => ⟨P, Q, mn1, c1, fun c hc => Nat.le_trans (by omega) (r1 c hc), ⟨s10, fun _ => s11 (by omega), fun _ h => absurd h e1, fun h => by omega, fun h => by omega⟩, g1⟩⟩
  · rw [if_neg e]
    exact ⟨i0, fun _ => i1 (q_bf e), fun h => by cases h⟩
