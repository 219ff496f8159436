/-! TEXTS: a part's codes are sound, and the reference's reading has rounds enough -/
/-- codes that leave one value more -/
def q_snd (r : Bool × Nat × List Nat) : Prop := r.1 = true → (∀ c, c ∈ r.2.2 → q_cok c) ∧ ∀ m L, q_dep m (r.2.2 ++ L) = q_dep (m + 1) L
theorem q_dep_v {m c : Nat} {L : List Nat} (h : 100000 ≤ c ∨ c < 6) : q_dep m (c :: L) = q_dep (m + 1) L := by rw [q_dep, if_pos h]
theorem q_dep_u {m c : Nat} {L : List Nat} (h : c = 13 ∨ c = 19) : q_dep (m + 1) (c :: L) = q_dep (m + 1) L := by rw [q_dep, if_neg (by omega), if_pos h, if_pos (by omega)]
theorem q_dep_b {m c : Nat} {L : List Nat} (h : 11 ≤ c ∧ c ≤ 18 ∧ c ≠ 13) : q_dep (m + 1 + 1) (c :: L) = q_dep (m + 1) L := by rw [q_dep, if_neg (by omega), if_neg (by omega), if_pos (by omega)]; rfl
theorem q_lpp_s {A : q_A} {f : Nat → Bool × Nat × List Nat} {p : Nat → Bool} (hf : ∀ i, q_snd (f i)) (hp : ∀ t, p t = true → q_tsg t ≠ 0) : ∀ n j C, q_snd (true, j, C) → q_snd (q_lpp A f p n j C) := by
  intro n
  induction n with
  | zero => exact fun j C h => h
  | succ n ih =>
    intro j C h
    rw [q_lpp]
    by_cases e1 : p (A.tok (A.ps j)) = true
    · rw [if_pos e1]
      by_cases e2 : (f (j + 1)).1 = true
      · rw [if_pos e2]
        have sr := q_tsg_r _ (hp _ e1)
        obtain ⟨a1, a2⟩ := h rfl
        obtain ⟨b1, b2⟩ := hf (j + 1) e2
        refine ih _ _ (fun _ => ⟨?_, ?_⟩)
        · intro c hc
          rcases List.mem_append.mp hc with hc | hc
          · rcases List.mem_append.mp hc with hc | hc
            · exact a1 c hc
            · exact b1 c hc
          · cases List.mem_singleton.mp hc
            exact Or.inr (Or.inr (by omega))
        · intro m L
          show q_dep m (C ++ (f (j + 1)).2.2 ++ [q_tsg (A.tok (A.ps j))] ++ L) = _
          rw [List.append_assoc, List.append_assoc]
          dsimp only at a2
          rw [a2, b2]
          exact q_dep_b sr
      · rw [if_neg e2]; intro h; cases h
    · rw [if_neg e1]; exact h
theorem q_snd_f {i : Nat} : q_snd (false, i, []) := fun h => by cases h
theorem q_snd.u {i i2 : Nat} {r : Bool × Nat × List Nat} {c : Nat} (h : q_snd r) (e : r.1 = true) (hc : c = 13 ∨ c = 19) : q_snd (true, i, r.2.2 ++ [c]) := by
  intro _
  obtain ⟨a1, a2⟩ := h e
  refine ⟨?_, ?_⟩
  · intro x hx
    rcases List.mem_append.mp hx with hx | hx
    · exact a1 x hx
    · cases List.mem_singleton.mp hx
      exact Or.inr (Or.inr (by omega))
  · intro m L
    show q_dep m (r.2.2 ++ [c] ++ L) = _
    rw [List.append_assoc, a2]
    exact q_dep_u hc
theorem q_par_s (A : q_A) : ∀ n k o j, q_snd (q_par A n k o j) := by
  intro n
  induction n with
  | zero => exact fun k o j => q_snd_f
  | succ n ih =>
    intro k o j
    have lp : ∀ k2 (p : Nat → Bool) N, (∀ t, p t = true → q_tsg t ≠ 0) → q_snd (if (q_par A n k2 o j).1 = true then q_lpp A (q_par A n k2 o) p N (q_par A n k2 o j).2.1 (q_par A n k2 o j).2.2 else (false, (q_par A n k2 o j).2.1, [])) := by
      intro k2 p N hp
      by_cases e : (q_par A n k2 o j).1 = true
      · rw [if_pos e]
        exact q_lpp_s (fun i => ih k2 o i) hp N _ _ (fun _ => ih k2 o j e)
      · rw [if_neg e]; exact q_snd_f
    by_cases k0 : k = 0
    · subst k0; rw [q_par_0]; exact lp 1 _ _ (fun t h => by cases of_decide_eq_true h; decide)
    by_cases k1 : k = 1
    · subst k1; rw [q_par_1]; exact lp 2 _ _ (fun t h => by cases of_decide_eq_true h; decide)
    by_cases k2 : k = 2
    · subst k2; rw [q_par_2]
      by_cases e : A.tok (A.ps j) = 305
      · rw [if_pos e]
        by_cases e2 : 5 ≤ o
        · rw [if_pos e2]; exact q_snd_f
        rw [if_neg e2]
        by_cases e3 : (q_par A n 2 (o + 1) (j + 1)).1 = true
        · rw [if_pos e3]; exact (ih 2 (o + 1) (j + 1)).u (i2 := 0) e3 (Or.inl rfl)
        · rw [if_neg e3]; exact q_snd_f
      · rw [if_neg e]; exact ih 3 o j
    by_cases k3 : k = 3
    · subst k3; rw [q_par_3]; exact lp 4 _ _ (fun t h => by rcases of_decide_eq_true h with rfl | rfl <;> decide)
    by_cases k4 : k = 4
    · subst k4; rw [q_par_4]; exact lp 5 _ _ (fun t h => by rcases of_decide_eq_true h with rfl | rfl <;> decide)
    by_cases k5 : k = 5
    · subst k5; rw [q_par_5]; exact lp 6 _ _ (fun t h => by cases of_decide_eq_true h; decide)
    by_cases k6 : k = 6
    · subst k6; rw [q_par_6]
      by_cases e1 : A.tok (A.ps j) = 2
      · rw [if_pos e1]
        have nb := (A.num_b _ e1).1
        generalize hv : 100000 + A.num (A.ps j) = v
        exact fun _ => ⟨fun c hc => Or.inl (by have := List.mem_singleton.mp hc; omega), fun m L => q_dep_v (c := v) (Or.inl (by omega))⟩
      rw [if_neg e1]
      by_cases e2 : 306 ≤ A.tok (A.ps j)
      · rw [if_pos e2]
        have := (q_tkk_a A (A.ps j)).1
        generalize hv : A.tok (A.ps j) - 306 = v
        exact fun _ => ⟨fun c hc => Or.inr (Or.inl (by have := List.mem_singleton.mp hc; omega)), fun m L => q_dep_v (c := v) (Or.inr (by omega))⟩
      rw [if_neg e2]
      by_cases e3 : 5 ≤ o
      · rw [if_pos e3]; exact q_snd_f
      rw [if_neg e3]
      by_cases e4 : A.tok (A.ps j) = 45
      · rw [if_pos e4]; exact ih 7 (o + 1) (j + 1)
      rw [if_neg e4]
      by_cases e5 : A.tok (A.ps j) = 40
      · rw [if_pos e5]; exact ih 8 (o + 1) (j + 1)
      rw [if_neg e5]; exact q_snd_f
    by_cases k7 : k = 7
    · subst k7; rw [q_par_7]
      by_cases e : (q_par A n 6 o j).1 = true
      · rw [if_pos e]; exact (ih 6 o j).u (i2 := 0) e (Or.inr rfl)
      · rw [if_neg e]; exact q_snd_f
    rw [q_par, if_neg k0, if_neg k1, if_neg k2, if_neg k3, if_neg k4, if_neg k5, if_neg k6, if_neg k7]
    by_cases e1 : (q_par A n 0 o j).1 = true
    · rw [if_pos e1]
      by_cases e2 : A.tok (A.ps (q_par A n 0 o j).2.1) = 41
      · rw [if_pos e2]; exact fun _ => ih 0 o j e1
      · rw [if_neg e2]; exact q_snd_f
    · rw [if_neg e1]; exact q_snd_f
theorem q_trun_m {A : q_A} (hO : q_Ok A) (m : Nat) : ∀ n j s, 161 ≤ n + A.ps j → q_trun A n j s = q_trun A (n + m) j s := by
  have oB := hO.B
  intro n
  induction n with
  | zero => intro j s h; have := A.ps_B j; omega
  | succ n ih =>
    intro j s h
    rw [show n + 1 + m = (n + m) + 1 by omega]
    by_cases h1 : s.1.1 = false ∧ A.tok (A.ps j) = 59
    · rw [trun_e h1.1 h1.2, trun_e h1.1 h1.2]
    · cases h2 : q_mst (A.tok (A.ps j)) (A.num (A.ps j)) s with
      | none => rw [trun_n h1 h2, trun_n h1 h2]
      | some s' =>
        rw [trun_s h1 h2, trun_s h1 h2]
        by_cases t0 : A.tok (A.ps j) = 0
        · rw [t0] at h2
          obtain ⟨⟨a, b⟩, u⟩ := s
          cases a <;> cases h2
        · have := A.tk_s j t0
          exact ih (j + 1) s' (by omega)
/-- the reference's reading of a part by the class's -/
theorem q_trun_p {A : q_A} (hO : q_Ok A) (j : Nat) (O : List Nat) (r : Bool × Nat × List Nat) (hr : r = q_par A 60 0 0 j) : (¬ (r.1 = true ∧ A.tok (A.ps r.2.1) = 59) → (q_trun A 162 j (q_s0 O)).1 = false ∧ (q_trun A 162 j (q_s0 O)).2.1 = r.2.1) ∧ (r.1 = true → A.tok (A.ps r.2.1) = 59 → q_trun A 162 j (q_s0 O) = (true, r.2.1, O ++ r.2.2)) := by
  obtain ⟨i0, i1, i2⟩ := q_part hO j O r hr
  have e := q_trun_m hO (r.2.1 - j) 162 j (q_s0 O) (by omega)
  refine ⟨fun h => ?_, fun h1 h2 => ?_⟩
  · have := (i1 h).2 161
    rw [show 161 + (r.2.1 - j) + 1 = 162 + (r.2.1 - j) by omega] at this
    rw [e]; exact this
  · have := i2 h1 h2 161
    rw [show 161 + (r.2.1 - j) + 1 = 162 + (r.2.1 - j) by omega] at this
    rw [e]; exact this
