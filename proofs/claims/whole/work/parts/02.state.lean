/-! WHAT A STATE IS: shapes of the objects (an object's place in the list is its number), ints and longs by object and place -/
def q_isN : Cond → Bool
  | .fieldLinkNest .. => true
  | .methodLinkNest .. => true
  | _ => false
def q_tb : List Cond := lw_tbl.filter goodWord
def q_nest : List Cond := tables_1.filter q_isN
theorem q_inT {w : Cond} (i : Nat) (h : lw_tbl[i]? = some w) (hg : goodWord w = true) : w ∈ q_tb := List.mem_filter.mpr ⟨List.mem_of_getElem? h, hg⟩
theorem q_inN {w : Cond} (i : Nat) (h : tables_1[i]? = some w) (hg : q_isN w = true) : w ∈ q_nest := List.mem_filter.mpr ⟨List.mem_of_getElem? h, hg⟩
abbrev q_Sh : Type := (Nat × Nat) ⊕ ((Nat × List (Option Nat)) ⊕ (Nat × List (Option (Option Nat))))
abbrev q_H : Type := List q_Sh × (Nat → Nat → Int32) × (Nat → Nat → Int64)
abbrev q_L : Type := List (Option Value)
abbrev q_S : Type := q_L × q_H
def q_sz : q_Sh → Nat
  | .inl (_, n) => n
  | .inr (.inl (_, r)) => r.length
  | .inr (.inr (_, f)) => f.length
def q_sl (h : List q_Sh) : Nat := (h.map q_sz).sum
def q_le (h h' : q_H) : Prop := h.1.length ≤ h'.1.length ∧ q_sl h.1 ≤ q_sl h'.1
theorem q_le.rf (h : q_H) : q_le h h := ⟨Nat.le_refl _, Nat.le_refl _⟩
theorem q_le.tr {a b c : q_H} (h1 : q_le a b) (h2 : q_le b c) : q_le a c := ⟨Nat.le_trans h1.1 h2.1, Nat.le_trans h1.2 h2.2⟩
def q_cv (ad : Nat → Nat) : Value → Value
  | .ref o => .ref (ad o)
  | v => v
theorem q_cv_cat (ad : Nat → Nat) (v : Value) : (q_cv ad v).category = v.category := by cases v <;> rfl
theorem q_cv_rf (ad : Nat → Nat) (r : Option Nat) : q_cv ad (va_rf r) = va_rf (r.map ad) := by cases r <;> rfl
def q_cat (st : List Value) : Nat := (st.map fun v => v.category).sum
theorem q_cat_cv (ad : Nat → Nat) (st : List Value) : ((st.map (q_cv ad)).map fun v => v.category).sum = q_cat st := by
  unfold q_cat
  rw [List.map_map]
  congr 1
  exact List.map_congr_left fun v _ => q_cv_cat ad v
/-- a field's value -/
def q_fv (ad : Nat → Nat) (d : Nat → Int32) (k : Nat) : Option (Option Nat) → Value
  | none => .int (d k)
  | some r => va_rf (r.map ad)
def q_fs (ad : Nat → Nat) (d : Nat → Int32) (fl : List (Option (Option Nat))) : List Value := fl.mapIdx (q_fv ad d)
def q_E (tys : List (ClassId × FieldType)) (ad : Nat → Nat) (d : Nat → Nat → Int32) (w : Nat → Nat → Int64) (o : Nat) : q_Sh → va_E
  | .inl (0, n) => .inl ((tys.getD 0 (0, .int)).1, n, .inl (d o))
  | .inl (_, n) => .inl ((tys.getD 1 (0, .int)).1, n, .inr (.inl (w o)))
  | .inr (.inl (t, r)) => .inl ((tys.getD t (0, .int)).1, r.length, .inr (.inr (.inr (.inr fun k => (r.getD k none).map ad))))
  | .inr (.inr (c, fl)) => .inr (c, q_fs ad (d o) fl)
def q_P (D : va_G) (cl : List vw_C) (tys : List (ClassId × FieldType)) (ad : Nat → Nat) (h : q_H) (H : Heap) : Prop :=
  ∀ (o : Nat) (sh : q_Sh), h.1[o]? = some sh → va_at D cl (ad o, q_E tys ad h.2.1 h.2.2 o sh) H
def q_I (D : va_G) (cl : List vw_C) (tys : List (ClassId × FieldType)) (ad : Nat → Nat) (b0 : Nat) (Hb : Heap) (h : q_H) (H : Heap) (locs : List Loc) : Prop :=
  q_P D cl tys ad h H ∧ H.size = b0 + h.1.length ∧ h.1.length ≤ 100000 ∧ (∀ q : Nat, q < b0 → H[q]? = Hb[q]?) ∧ ∀ x ∈ locs, b0 ≤ x.base
def q_lv (ad : Nat → Nat) (L : q_L) : List (Nat × Value) := (L.mapIdx fun i o => o.map fun v => (i, q_cv ad v)).filterMap id
theorem q_lv_mem {ad : Nat → Nat} {L : q_L} {q : Nat × Value} : q ∈ q_lv ad L ↔ ∃ (v : Value), L[q.1]? = some (some v) ∧ q.2 = q_cv ad v := by
  unfold q_lv
  rw [List.mem_filterMap]
  constructor
  · rintro ⟨o, h1, h2⟩
    obtain ⟨i, hi⟩ := List.getElem?_of_mem h1
    rw [List.getElem?_mapIdx] at hi
    cases hL : L[i]? with
    | none => rw [hL] at hi; cases hi
    | some u =>
      rw [hL] at hi
      have h2 : o = some q := h2
      subst h2
      cases u with
      | none => cases hi
      | some v =>
        have e : (i, q_cv ad v) = q := Option.some.inj (Option.some.inj hi)
        subst e
        exact ⟨v, hL, rfl⟩
  · rintro ⟨v, h1, h2⟩
    refine ⟨some q, ?_, rfl⟩
    refine List.mem_of_getElem? (i := q.1) ?_
    rw [List.getElem?_mapIdx, h1]
    show some (some (q.1, q_cv ad v)) = _
    rw [← h2]
/-- a local becomes a value of one slot; a long ahead of it is no more -/
def q_st : q_L → Nat → Value → q_L
  | [], _, _ => []
  | some (.long _) :: _ :: t, 1, v => none :: some v :: t
  | some (.double _) :: _ :: t, 1, v => none :: some v :: t
  | _ :: t, 0, v => some v :: t
  | a :: t, i + 1, v => a :: q_st t i v
/-- .. of two slots -/
def q_st2 : q_L → Nat → Value → q_L
  | _ :: _ :: t, 0, v => some v :: none :: t
  | some (.long _) :: _ :: _ :: t, 1, v => none :: some v :: none :: t
  | some (.double _) :: _ :: _ :: t, 1, v => none :: some v :: none :: t
  | a :: t, i + 1, v => a :: q_st2 t i v
  | L, _, _ => L
def q_d (d : Nat → Nat → Int32) (o k : Nat) (v : Int32) : Nat → Nat → Int32 := fun a b => if a = o then (if b = k then v else d a b) else d a b
def q_w (d : Nat → Nat → Int64) (o k : Nat) (v : Int64) : Nat → Nat → Int64 := fun a b => if a = o then (if b = k then v else d a b) else d a b
theorem q_st_len (L : q_L) (n : Nat) (v : Value) : (q_st L n v).length = L.length := by
  fun_induction q_st L n v <;> simp_all
theorem q_st2_len (L : q_L) (n : Nat) (v : Value) : (q_st2 L n v).length = L.length := by
  fun_induction q_st2 L n v <;> simp_all
theorem q_st_mem {L : q_L} {n : Nat} {v : Value} : n < L.length → ∀ {i : Nat} {u : Value}, (q_st L n v)[i]? = some (some u) → (i = n ∧ u = v) ∨ (i ≠ n ∧ L[i]? = some (some u) ∧ ¬ (i + 1 = n ∧ u.category = 2)) := by
  fun_induction q_st L n v with
  | case1 => intro hn i u h; simp at h
  | case2 x b t v =>
    intro hn i u h
    match i, h with
    | 0, h => simp at h
    | 1, h => simp at h; exact Or.inl ⟨rfl, h.symm⟩
    | i + 2, h => simp at h; exact Or.inr ⟨by omega, by simpa using h, by omega⟩
  | case3 x b t v =>
    intro hn i u h
    match i, h with
    | 0, h => simp at h
    | 1, h => simp at h; exact Or.inl ⟨rfl, h.symm⟩
    | i + 2, h => simp at h; exact Or.inr ⟨by omega, by simpa using h, by omega⟩
  | case4 a t v =>
    intro hn i u h
    match i, h with
    | 0, h => simp at h; exact Or.inl ⟨rfl, h.symm⟩
    | i + 1, h => simp at h; exact Or.inr ⟨by omega, by simpa using h, by omega⟩
  | case5 a t i0 v h1 h2 ih =>
    intro hn i u h
    match i, h with
    | 0, h =>
      simp at h
      subst h
      refine Or.inr ⟨by omega, by simp, fun hc => ?_⟩
      obtain ⟨hc1, hc2⟩ := hc
      cases t with
      | nil => simp at hn
      | cons b t =>
        cases u <;> simp [Value.category] at hc2
        · exact h1 _ b t rfl rfl (by omega)
        · exact h2 _ b t rfl rfl (by omega)
    | i + 1, h =>
      simp at h
      rcases ih (by simpa using hn) h with ⟨e1, e2⟩ | ⟨e1, e2, e3⟩
      · exact Or.inl ⟨by omega, e2⟩
      · exact Or.inr ⟨by omega, by simpa using e2, fun hc => e3 ⟨by omega, hc.2⟩⟩
theorem q_st2_mem {L : q_L} {n : Nat} {v : Value} : n + 1 < L.length → ∀ {i : Nat} {u : Value}, (q_st2 L n v)[i]? = some (some u) → (i = n ∧ u = v) ∨ (i ≠ n ∧ i ≠ n + 1 ∧ L[i]? = some (some u) ∧ ¬ (i + 1 = n ∧ u.category = 2)) := by
  fun_induction q_st2 L n v with
  | case1 a b t v =>
    intro hn i u h
    match i, h with
    | 0, h => simp at h; exact Or.inl ⟨rfl, h.symm⟩
    | 1, h => simp at h
    | i + 2, h => simp at h; exact Or.inr ⟨by omega, by omega, by simpa using h, by omega⟩
  | case2 x b b2 t v =>
    intro hn i u h
    match i, h with
    | 0, h => simp at h
    | 1, h => simp at h; exact Or.inl ⟨rfl, h.symm⟩
    | 2, h => simp at h
    | i + 3, h => simp at h; exact Or.inr ⟨by omega, by omega, by simpa using h, by omega⟩
  | case3 x b b2 t v =>
    intro hn i u h
    match i, h with
    | 0, h => simp at h
    | 1, h => simp at h; exact Or.inl ⟨rfl, h.symm⟩
    | 2, h => simp at h
    | i + 3, h => simp at h; exact Or.inr ⟨by omega, by omega, by simpa using h, by omega⟩
  | case4 a t i0 v h1 h2 ih =>
    intro hn i u h
    match i, h with
    | 0, h =>
      simp at h
      subst h
      refine Or.inr ⟨by omega, by omega, by simp, fun hc => ?_⟩
      obtain ⟨hc1, hc2⟩ := hc
      match t, hn with
      | [], hn => simp at hn
      | [b], hn => simp only [List.length_cons, List.length_nil] at hn; omega
      | b :: b2 :: t, hn =>
        cases u <;> simp [Value.category] at hc2
        · exact h1 _ b b2 t rfl rfl (by omega)
        · exact h2 _ b b2 t rfl rfl (by omega)
    | i + 1, h =>
      simp at h
      rcases ih (by simpa using hn) h with ⟨e1, e2⟩ | ⟨e1, e2, e3, e4⟩
      · exact Or.inl ⟨by omega, e2⟩
      · exact Or.inr ⟨by omega, by omega, by simpa using e3, fun hc => e4 ⟨by omega, hc.2⟩⟩
  | case5 L n v h1 h2 h3 h4 =>
    intro hn i u h
    match L, n, hn with
    | a :: b :: t, 0, hn => exact absurd rfl (h1 a b t rfl)
    | a :: t, i + 1, hn => exact absurd rfl (h4 a t i rfl)
theorem q_lget {ad : Nat → Nat} {ls : Array Slot} {nL n : Nat} {L : q_L} {v : Value} (h : lv_has ls nL (q_lv ad L)) (hx : L[n]? = some (some v)) : ls[n]? = some (.val (q_cv ad v)) := h.2.2 (n, q_cv ad v) (q_lv_mem.mpr ⟨v, hx, rfl⟩)
theorem q_lset {ad : Nat → Nat} {ls : Array Slot} {nL n : Nat} {L : q_L} {v : Value} (hn : n < L.length) (h : lv_has ls nL ((n, q_cv ad v) :: (q_lv ad L).filter (fun q => !(q.1 == n) && !(q.1 + 1 == n && q.2.category == 2)))) : lv_has ls nL (q_lv ad (q_st L n v)) := by
  refine ⟨h.1, h.2.1, fun q hq => h.2.2 q ?_⟩
  obtain ⟨u, h1, h2⟩ := q_lv_mem.mp hq
  rcases q_st_mem hn h1 with ⟨e1, e2⟩ | ⟨e1, e2, e3⟩
  · refine List.mem_cons.mpr (Or.inl ?_)
    rw [← e1, ← e2, ← h2]
  · refine List.mem_cons.mpr (Or.inr (List.mem_filter.mpr ⟨q_lv_mem.mpr ⟨u, e2, h2⟩, ?_⟩))
    rw [h2, q_cv_cat]
    simp only [Bool.and_eq_true, Bool.not_eq_true', beq_eq_false_iff_ne, ne_eq, e1, not_false_eq_true, true_and, Bool.and_eq_false_iff]
    by_cases hc : q.1 + 1 = n
    · exact Or.inr fun hc2 => e3 ⟨hc, hc2⟩
    · exact Or.inl hc
theorem q_lset2 {ad : Nat → Nat} {ls : Array Slot} {nL n : Nat} {L : q_L} {v : Value} (hn : n + 1 < L.length) (h : lv_has ls nL ((n, q_cv ad v) :: (q_lv ad L).filter (fun q => !(q.1 == n) && (!(q.1 == n + 1) && !(q.1 + 1 == n && q.2.category == 2))))) : lv_has ls nL (q_lv ad (q_st2 L n v)) := by
  refine ⟨h.1, h.2.1, fun q hq => h.2.2 q ?_⟩
  obtain ⟨u, h1, h2⟩ := q_lv_mem.mp hq
  rcases q_st2_mem hn h1 with ⟨e1, e2⟩ | ⟨e1, e2, e3, e4⟩
  · refine List.mem_cons.mpr (Or.inl ?_)
    rw [← e1, ← e2, ← h2]
  · refine List.mem_cons.mpr (Or.inr (List.mem_filter.mpr ⟨q_lv_mem.mpr ⟨u, e3, h2⟩, ?_⟩))
    rw [h2, q_cv_cat]
    simp only [Bool.and_eq_true, Bool.not_eq_true', beq_eq_false_iff_ne, ne_eq, e1, e2, not_false_eq_true, true_and, Bool.and_eq_false_iff]
    by_cases hc : q.1 + 1 = n
    · exact Or.inr fun hc2 => e4 ⟨hc, hc2⟩
    · exact Or.inl hc
theorem q_sl_set {h : List q_Sh} {o : Nat} {a b : q_Sh} (ha : h[o]? = some a) (hz : q_sz b = q_sz a) : q_sl (h.set o b) = q_sl h := by
  unfold q_sl
  rw [List.map_set, hz]
  congr 1
  apply List.ext_getElem?
  intro j
  rw [List.getElem?_set]
  by_cases e : o = j
  · subst e
    have hl := (List.getElem?_eq_some_iff.mp ha).1
    have h2 : (h.map q_sz)[o]? = some (q_sz a) := by rw [List.getElem?_map, ha]; rfl
    rw [if_pos rfl, h2, if_pos (by rw [List.length_map]; exact hl)]
  · rw [if_neg e]
theorem q_sl_push (h : List q_Sh) (a : q_Sh) : q_sl (h ++ [a]) = q_sl h + q_sz a := by
  simp [q_sl]
