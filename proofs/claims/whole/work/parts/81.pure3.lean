/-! TEXTS: the class's kinds against the reference's machine, the rest and all together -/
theorem q_mst_w {t v : Nat} {mn : Bool} {H O : List Nat} : q_mst t v ((true, mn), (H, O)) = (if t = 2 then some ((false, mn), q_tuw 7 H (O ++ [100000 + v]))
    else if 306 ≤ t then some ((false, mn), q_tuw 7 H (O ++ [t - 306]))
    else if t = 305 ∧ mn = true then (if q_tnp H = 5 then none else some ((true, true), (13 :: H, O)))
    else if t = 45 then (if q_tnp H = 5 then none else some ((true, false), (19 :: H, O)))
    else if t = 40 then (if q_tnp H = 5 then none else some ((true, true), (0 :: H, O)))
    else none) := rfl
theorem q_agr_2 {A : q_A} {n o : Nat} (ho : o ≤ 5) (ih3 : q_agr A n 3 o) (ih2 : o < 5 → q_agr A n 2 (o + 1)) : q_agr A (n + 1) 2 o := by
  intro j H O mn hn hH hm h305
  have hH : q_tp 4 H := hH
  have hm := hm (by omega)
  subst hm
  rw [q_par_2]
  show q_opn A 3 _ _ _ _ _ _
  by_cases z : A.tok (A.ps j) = 305
  · rw [if_pos z]
    by_cases z2 : 5 ≤ o
    · rw [if_pos z2]
      refine ⟨Nat.le_refl _, fun _ => q_bad.st (fun h => by cases h.1) ?_, fun h => by cases h⟩
      rw [z, q_mst_w, if_neg (by omega), if_neg (by omega), if_pos ⟨rfl, rfl⟩, if_pos (by omega)]
    · rw [if_neg z2]
      have g1 : q_go A j ((true, true), (H, O)) (j + 1) ((true, true), (13 :: H, O)) := by
        refine q_go.st (fun h => by cases h.1) ?_
        rw [z, q_mst_w, if_neg (by omega), if_neg (by omega), if_pos ⟨rfl, rfl⟩, if_neg (by omega)]
      obtain ⟨i0, i1, i2⟩ := ih2 (by omega) (j + 1) (13 :: H) O true (by rw [q_tnp, hn]; rfl) (q_tp_c (by decide)) (fun _ => rfl) (fun _ => Or.inl (by omega))
      by_cases e : (q_par A n 2 (o + 1) (j + 1)).1 = true
      · rw [if_pos e]
        obtain ⟨P, Q, mn1, c1, r1, ⟨s0, s1, s2, s3, s4⟩, g2⟩ := i2 e
        refine ⟨by show j ≤ (q_par A n 2 (o + 1) (j + 1)).2.1; omega, fun h => (by cases h), fun _ => ⟨P ++ [13], Q, mn1, ?_, ?_, ⟨s0, s1, fun a b => (s2 a b).ap _, s3, s4⟩, ?_⟩⟩
        · rw [← List.append_assoc, c1]
        · intro c hc
          rcases List.mem_append.mp hc with h | h
          · exact r1 c h
          · cases List.mem_singleton.mp h; decide
        · have := g1.tr g2
          simp only [List.append_assoc, List.cons_append, List.nil_append]
          exact this
      · rw [if_neg e]
        exact ⟨by show j ≤ (q_par A n 2 (o + 1) (j + 1)).2.1; omega, fun _ => g1.bad (i1 (q_bf e)), fun h => by cases h⟩
  · rw [if_neg z]
    obtain ⟨i0, i1, i2⟩ := ih3 j H O true hn hH (fun h => by omega) (fun _ => Or.inr z)
    refine ⟨i0, i1, fun e => ?_⟩
    obtain ⟨P, Q, mn1, c1, r1, ⟨s0, s1, s2, s3, s4⟩, g2⟩ := i2 e
    have r1 : ∀ c, c ∈ P → 4 ≤ q_trk c := r1
    exact ⟨P, Q, mn1, c1, fun c hc => by have := r1 c hc; omega, ⟨s0, fun _ => s1 (by omega), fun _ => s2 (by omega), fun h => by omega, fun h => by omega⟩, g2⟩
theorem q_agr_7 {A : q_A} {n o : Nat} (ih : q_agr6 A n o) : q_agr7 A (n + 1) o := by
  intro j H O hn
  rw [q_par_7]
  obtain ⟨i0, i1, i2⟩ := ih j (19 :: H) O false hn (fun h => by cases h)
  by_cases e : (q_par A n 6 o j).1 = true
  · rw [if_pos e]
    refine ⟨i0, fun h => (by cases h), fun _ => ?_⟩
    obtain ⟨mn, g⟩ := i2 e
    refine ⟨mn, ?_⟩
    rw [q_tuw, if_pos (by decide), List.append_assoc] at g
    exact g
  · rw [if_neg e]
    exact ⟨i0, fun _ => i1 (q_bf e), fun h => by cases h⟩
theorem q_tsg_0 {t : Nat} (h : q_tkk t = true) (h2 : t ≠ 42) (h3 : t ≠ 43 ∧ t ≠ 45) (h4 : t ≠ 304) (h5 : t ≠ 303) (h6 : ¬ (t = 60 ∨ t = 61)) : q_tsg t = 0 := by
  unfold q_tsg
  rw [if_neg h5, if_neg h4, if_neg (by omega), if_neg (by omega), if_neg h3.1, if_neg h3.2, if_neg h2]
/-- after a whole one a token that closes nothing is a fault -/
theorem q_stop {A : q_A} {j : Nat} {P H O : List Nat} {mn : Bool} (hs : q_tS 0 (A.tok (A.ps j)) P) (hP : ∀ c, c ∈ P → 1 ≤ q_trk c) (h1 : q_tp 1 H) (h41 : A.tok (A.ps j) = 41 → H = []) (h59 : A.tok (A.ps j) = 59 → H ≠ []) : q_bad A j ((false, mn), (P ++ H, O)) j := by
  have hk := (q_tkk_a A (A.ps j)).2
  obtain ⟨s0, s1, s2, s3, s4⟩ := hs
  have e := q_tuw_p (O := O) hP h1
  by_cases z : A.tok (A.ps j) = 59
  · refine q_bad.en rfl z ?_
    show (q_tuw 1 (P ++ H) O).1 ≠ []
    rw [e]
    exact h59 z
  · refine q_bad.st (fun h => z h.2) ?_
    unfold q_mst
    rw [if_neg (show ¬ ((false, mn), (P ++ H, O)).1.1 = true from Bool.false_ne_true)]
    dsimp only
    by_cases y : A.tok (A.ps j) = 41
    · rw [if_pos y, e, h41 y]
    · rw [if_neg y]
      by_cases x : A.tok (A.ps j) = 60 ∨ A.tok (A.ps j) = 61
      · have e4 : q_trk (q_tsg (A.tok (A.ps j))) = 4 := by rcases x with x | x <;> rw [x] <;> decide
        rw [if_neg (fun h => by rw [h] at e4; exact absurd e4 (by decide)), (s2 (by omega) x).bt e4]
      · rw [if_pos (q_tsg_0 hk s0 (s1 (by omega)) (s3 (by omega)) (s4 rfl) x)]
theorem q_agr_8 {A : q_A} {n o : Nat} (ih : q_agr A n 0 o) : q_agr8 A (n + 1) o := by
  intro j H O hn
  rw [q_par_8]
  obtain ⟨i0, i1, i2⟩ := ih j (0 :: H) O true hn (q_tp_c (by decide)) (fun _ => rfl) (fun _ => Or.inl (by omega))
  by_cases e : (q_par A n 0 o j).1 = true
  · rw [if_pos e]
    obtain ⟨P, Q, mn, c1, r1, s1, g1⟩ := i2 e
    have r1 : ∀ c, c ∈ P → 1 ≤ q_trk c := r1
    generalize q_par A n 0 o j = a at *
    obtain ⟨b, j1, C⟩ := a
    dsimp only at i0 c1 s1 g1 ⊢
    have t0 : q_tp 1 (0 :: H) := q_tp_c (by decide)
    by_cases z : A.tok (A.ps j1) = 41
    · rw [if_pos z]
      refine ⟨by show j ≤ j1 + 1; omega, fun h => (by cases h), fun _ => ⟨mn, ?_⟩⟩
      refine g1.tr (q_go.st (fun h => by rw [z] at h; exact absurd h.2 (by decide)) ?_)
      unfold q_mst
      rw [if_neg (show ¬ ((false, mn), (P ++ 0 :: H, O ++ Q)).1.1 = true from Bool.false_ne_true), if_pos z]
      dsimp only
      rw [q_tuw_p r1 t0, List.append_assoc, c1]
    · rw [if_neg z]
      refine ⟨i0, fun _ => g1.bad (q_stop s1 r1 t0 (fun h => absurd h z) (fun _ => List.cons_ne_nil _ _)), fun h => by cases h⟩
  · rw [if_neg e]
    exact ⟨i0, fun _ => i1 (q_bf e), fun h => by cases h⟩
theorem q_agr_6 {A : q_A} {n o : Nat} (ho : o ≤ 5) (ih7 : o < 5 → q_agr7 A n (o + 1)) (ih8 : o < 5 → q_agr8 A n (o + 1)) : q_agr6 A (n + 1) o := by
  intro j H O mn hn hm
  rw [q_par_6]
  have nw : ∀ {mn : Bool} {H O : List Nat}, ¬ (((true, mn), (H, O)) : (Bool × Bool) × (List Nat × List Nat)).1.1 = false := fun h => by cases h
  have n5 : ¬ (A.tok (A.ps j) = 305 ∧ mn = true) := fun h => hm h.2 h.1
  by_cases z1 : A.tok (A.ps j) = 2
  · rw [if_pos z1]
    refine ⟨by show j ≤ j + 1; omega, fun h => (by cases h), fun _ => ⟨mn, q_go.st (fun h => nw h.1) ?_⟩⟩
    rw [q_mst_w, if_pos z1]
  rw [if_neg z1]
  by_cases z2 : 306 ≤ A.tok (A.ps j)
  · rw [if_pos z2]
    refine ⟨by show j ≤ j + 1; omega, fun h => (by cases h), fun _ => ⟨mn, q_go.st (fun h => nw h.1) ?_⟩⟩
    rw [q_mst_w, if_neg z1, if_pos z2]
  rw [if_neg z2]
  by_cases z3 : 5 ≤ o
  · rw [if_pos z3]
    refine ⟨Nat.le_refl _, fun _ => q_bad.st (fun h => nw h.1) ?_, fun h => by cases h⟩
    rw [q_mst_w, if_neg z1, if_neg z2, if_neg n5]
    simp only [show q_tnp H = 5 by omega, if_true, ite_self]
  rw [if_neg z3]
  have n6 : ¬ q_tnp H = 5 := by omega
  by_cases z4 : A.tok (A.ps j) = 45
  · rw [if_pos z4]
    have g1 : q_go A j ((true, mn), (H, O)) (j + 1) ((true, false), (19 :: H, O)) := by
      refine q_go.st (fun h => nw h.1) ?_
      rw [q_mst_w, if_neg z1, if_neg z2, if_neg n5, if_pos z4, if_neg n6]
    obtain ⟨i0, i1, i2⟩ := ih7 (by omega) (j + 1) H O (by rw [q_tnp, hn]; rfl)
    refine ⟨by omega, fun h => g1.bad (i1 h), fun h => ?_⟩
    obtain ⟨mn2, g2⟩ := i2 h
    exact ⟨mn2, g1.tr g2⟩
  rw [if_neg z4]
  by_cases z5 : A.tok (A.ps j) = 40
  · rw [if_pos z5]
    have g1 : q_go A j ((true, mn), (H, O)) (j + 1) ((true, true), (0 :: H, O)) := by
      refine q_go.st (fun h => nw h.1) ?_
      rw [q_mst_w, if_neg z1, if_neg z2, if_neg n5, if_neg z4, if_pos z5, if_neg n6]
    obtain ⟨i0, i1, i2⟩ := ih8 (by omega) (j + 1) H O (by rw [q_tnp, hn]; rfl)
    refine ⟨by omega, fun h => g1.bad (i1 h), fun h => ?_⟩
    obtain ⟨mn2, g2⟩ := i2 h
    exact ⟨mn2, g1.tr g2⟩
  rw [if_neg z5]
  refine ⟨Nat.le_refl _, fun _ => q_bad.st (fun h => nw h.1) ?_, fun h => by cases h⟩
  rw [q_mst_w, if_neg z1, if_neg z2, if_neg n5, if_neg z4, if_neg z5]
theorem q_nd_1 (k o : Nat) : 1 ≤ q_nd k o ∨ 9 ≤ k := by
  by_cases h : 9 ≤ k
  · exact Or.inr h
  · left
    unfold q_nd
    have : k = 0 ∨ k = 1 ∨ k = 2 ∨ k = 3 ∨ k = 4 ∨ k = 5 ∨ k = 6 ∨ k = 7 ∨ k = 8 := by omega
    rcases this with rfl | rfl | rfl | rfl | rfl | rfl | rfl | rfl | rfl <;> simp
theorem q_nd_s {k o n : Nat} : q_nd k o = 9 * (5 - o) + [7, 6, 5, 4, 3, 2, 1, 2, 8].getD k 0 := rfl
theorem q_agr_a {A : q_A} (hO : q_Ok A) : ∀ n, (∀ k o, k ≤ 5 → o ≤ 5 → q_nd k o ≤ n → q_agr A n k o) ∧ (∀ o, o ≤ 5 → q_nd 6 o ≤ n → q_agr6 A n o) ∧ (∀ o, o ≤ 5 → q_nd 7 o ≤ n → q_agr7 A n o) ∧ (∀ o, o ≤ 5 → q_nd 8 o ≤ n → q_agr8 A n o) := by
  intro n
  induction n with
  | zero =>
    refine ⟨fun k o hk ho h => ?_, fun o ho h => ?_, fun o ho h => ?_, fun o ho h => ?_⟩
    · have := q_nd_1 k o; omega
    · have := q_nd_1 6 o; omega
    · have := q_nd_1 7 o; omega
    · have := q_nd_1 8 o; omega
  | succ n ih =>
    obtain ⟨i, i6, i7, i8⟩ := ih
    have d0 : ∀ o, q_nd 0 o = 9 * (5 - o) + 7 := fun _ => rfl
    have d1 : ∀ o, q_nd 1 o = 9 * (5 - o) + 6 := fun _ => rfl
    have d2 : ∀ o, q_nd 2 o = 9 * (5 - o) + 5 := fun _ => rfl
    have d3 : ∀ o, q_nd 3 o = 9 * (5 - o) + 4 := fun _ => rfl
    have d4 : ∀ o, q_nd 4 o = 9 * (5 - o) + 3 := fun _ => rfl
    have d5 : ∀ o, q_nd 5 o = 9 * (5 - o) + 2 := fun _ => rfl
    have d6 : ∀ o, q_nd 6 o = 9 * (5 - o) + 1 := fun _ => rfl
    have d7 : ∀ o, q_nd 7 o = 9 * (5 - o) + 2 := fun _ => rfl
    have d8 : ∀ o, q_nd 8 o = 9 * (5 - o) + 8 := fun _ => rfl
    refine ⟨fun k o hk ho h => ?_, fun o ho h => ?_, fun o ho h => ?_, fun o ho h => ?_⟩
    · have : k = 0 ∨ k = 1 ∨ k = 2 ∨ k = 3 ∨ k = 4 ∨ k = 5 := by omega
      rcases this with rfl | rfl | rfl | rfl | rfl | rfl
      · rw [d0] at h; exact q_agr_0 hO (i 1 o (by omega) ho (by rw [d1]; omega))
      · rw [d1] at h; exact q_agr_1 hO (i 2 o (by omega) ho (by rw [d2]; omega))
      · rw [d2] at h; exact q_agr_2 ho (i 3 o (by omega) ho (by rw [d3]; omega)) (fun h2 => i 2 (o + 1) (by omega) (by omega) (by rw [d2]; omega))
      · rw [d3] at h; exact q_agr_3 (i 4 o (by omega) ho (by rw [d4]; omega))
      · rw [d4] at h; exact q_agr_4 hO (i 5 o (by omega) ho (by rw [d5]; omega))
      · rw [d5] at h; exact q_agr_5 hO (i6 o ho (by rw [d6]; omega))
    · rw [d6] at h; exact q_agr_6 ho (fun h2 => i7 (o + 1) (by omega) (by rw [d7]; omega)) (fun h2 => i8 (o + 1) (by omega) (by rw [d8]; omega))
    · rw [d7] at h; exact q_agr_7 (i6 o ho (by rw [d6]; omega))
    · rw [d8] at h; exact q_agr_8 (i 0 o (by omega) ho (by rw [d0]; omega))
/-- a whole part, both ways -/
theorem q_part {A : q_A} (hO : q_Ok A) (j : Nat) (O : List Nat) : ∀ r, r = q_par A 60 0 0 j → j ≤ r.2.1 ∧ (¬ (r.1 = true ∧ A.tok (A.ps r.2.1) = 59) → q_bad A j (q_s0 O) r.2.1) ∧ (r.1 = true → A.tok (A.ps r.2.1) = 59 → ∀ N, q_trun A (N + (r.2.1 - j) + 1) j (q_s0 O) = (true, r.2.1, O ++ r.2.2)) := by
  rintro r rfl
  obtain ⟨i0, i1, i2⟩ := (q_agr_a hO 60).1 0 0 (by omega) (by omega) (by decide) j [] O true rfl (fun c h => by cases h) (fun _ => rfl) (fun _ => Or.inl (by omega))
  have i2 : _ → ∃ P Q mn, Q ++ P = _ ∧ (∀ c, c ∈ P → 1 ≤ q_trk c) ∧ _ := i2
  have n1 : q_tp 1 [] := fun c h => by cases h
  refine ⟨i0, fun h => ?_, fun h1 h2 N => ?_⟩
  · by_cases e : (q_par A 60 0 0 j).1 = true
    · have z : A.tok (A.ps (q_par A 60 0 0 j).2.1) ≠ 59 := fun z => h ⟨e, z⟩
      obtain ⟨P, Q, mn, c1, r1, s1, g1⟩ := i2 e
      exact g1.bad (q_stop s1 r1 n1 (fun _ => rfl) (fun h => absurd h z))
    · exact i1 (q_bf e)
  · obtain ⟨P, Q, mn, c1, r1, s1, g1⟩ := i2 h1
    obtain ⟨g0, g2⟩ := g1
    rw [show N + ((q_par A 60 0 0 j).2.1 - j) + 1 = (N + 1) + ((q_par A 60 0 0 j).2.1 - j) by omega]
    show q_trun A _ j ((true, true), ([], O)) = _
    rw [g2, trun_e rfl h2, q_tuw_p r1 n1, List.append_assoc, c1]
    rfl
