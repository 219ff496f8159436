/-! THE PURE HALF: rules that say what a meaning leads to -/
def wX (f : q_X) (σ : q_S) (Q : Value → q_S → Prop) : Prop := ∃ v σ1, f σ = some (v, σ1) ∧ Q v σ1
def wA (fs : List q_X) (σ : q_S) (Q : List Value → q_S → Prop) : Prop := ∃ vs σ1, q_ev fs σ = some (vs, σ1) ∧ Q vs σ1
def wC (c : q_C) (σ : q_S) (Q : Bool → q_S → Prop) : Prop := ∃ b σ1, c σ = some (b, σ1) ∧ Q b σ1
def wM (m : q_M) (vs : List Value) (h : q_H) (Q : Option Value → q_H → Prop) : Prop := ∃ r h1, m vs h = some (r, h1) ∧ Q r h1
def wT (f : q_T) (σ : q_S) (N : q_S → Prop) (R : Option Value → q_H → Prop) : Prop := (∃ σ1, f σ = some (.inl σ1) ∧ N σ1) ∨ ∃ v h, f σ = some (.inr (v, h)) ∧ R v h
section
variable {σ : q_S} {Q : Value → q_S → Prop} {QA : List Value → q_S → Prop} {QC : Bool → q_S → Prop} {QM : Option Value → q_H → Prop} {N : q_S → Prop} {R : Option Value → q_H → Prop}
theorem wX.mono {f : q_X} {Q2 : Value → q_S → Prop} (h : wX f σ Q) (k : ∀ v σ1, Q v σ1 → Q2 v σ1) : wX f σ Q2 := by
  obtain ⟨v, σ1, e, q⟩ := h
  exact ⟨v, σ1, e, k _ _ q⟩
theorem wC.mono {f : q_C} {Q2 : Bool → q_S → Prop} (h : wC f σ QC) (k : ∀ v σ1, QC v σ1 → Q2 v σ1) : wC f σ Q2 := by
  obtain ⟨v, σ1, e, q⟩ := h
  exact ⟨v, σ1, e, k _ _ q⟩
theorem wM.mono {m : q_M} {vs : List Value} {h0 : q_H} {Q2 : Option Value → q_H → Prop} (h : wM m vs h0 QM) (k : ∀ v σ1, QM v σ1 → Q2 v σ1) : wM m vs h0 Q2 := by
  obtain ⟨v, σ1, e, q⟩ := h
  exact ⟨v, σ1, e, k _ _ q⟩
theorem wT.mono {f : q_T} {N2 : q_S → Prop} {R2 : Option Value → q_H → Prop} (h : wT f σ N R) (k : ∀ σ1, N σ1 → N2 σ1) (k2 : ∀ v h, R v h → R2 v h) : wT f σ N2 R2 := by
  rcases h with ⟨σ1, e, q⟩ | ⟨v, h, e, q⟩
  · exact Or.inl ⟨σ1, e, k _ q⟩
  · exact Or.inr ⟨v, h, e, k2 _ _ q⟩
theorem wM_eq {m : q_M} {vs : List Value} {h h1 : q_H} {r : Option Value} (e : m vs h = some (r, h1)) : wM m vs h QM ↔ QM r h1 := by
  constructor
  · rintro ⟨r2, h2, e2, q⟩
    rw [e] at e2
    cases e2
    exact q
  · exact fun q => ⟨_, _, e, q⟩
theorem wX_K {v : Value} : wX (xK v) σ Q ↔ Q v σ := by
  constructor
  · rintro ⟨v, σ1, e, q⟩; cases e; exact q
  · exact fun q => ⟨_, _, rfl, q⟩
theorem wX_Str {k : Nat} : wX (xStr k) σ Q ↔ Q (.ref (1000000 + k)) σ := by
  constructor
  · rintro ⟨v, σ1, e, q⟩; cases e; exact q
  · exact fun q => ⟨_, _, rfl, q⟩
theorem wX_Li {i : Nat} : wX (xLi i) σ Q ↔ ∃ x, σ.1[i]? = some (some (.int x)) ∧ Q (.int x) σ := by
  constructor
  · rintro ⟨v, σ1, e, q⟩
    unfold xLi at e
    split at e
    · next x hx => cases e; exact ⟨x, hx, q⟩
    · cases e
  · rintro ⟨x, e, q⟩
    exact ⟨_, _, by unfold xLi; rw [e], q⟩
theorem wX_Lj {i : Nat} : wX (xLj i) σ Q ↔ ∃ x, σ.1[i]? = some (some (.long x)) ∧ Q (.long x) σ := by
  constructor
  · rintro ⟨v, σ1, e, q⟩
    unfold xLj at e
    split at e
    · next x hx => cases e; exact ⟨x, hx, q⟩
    · cases e
  · rintro ⟨x, e, q⟩
    exact ⟨_, _, by unfold xLj; rw [e], q⟩
theorem wX_La {i : Nat} : wX (xLa i) σ Q ↔ ∃ x, σ.1[i]? = some (some (.ref x)) ∧ Q (.ref x) σ := by
  constructor
  · rintro ⟨v, σ1, e, q⟩
    unfold xLa at e
    split at e
    · next x hx => cases e; exact ⟨x, hx, q⟩
    · cases e
  · rintro ⟨x, e, q⟩
    exact ⟨_, _, by unfold xLa; rw [e], q⟩
theorem wX_1 {g : q_H → Value → Option Value} {f : q_X} : wX (x1 g f) σ Q ↔ wX f σ (fun v σ1 => ∃ u, g σ1.2 v = some u ∧ Q u σ1) := by
  constructor
  · rintro ⟨v, σ1, e, q⟩
    unfold x1 at e
    split at e
    · next v2 σ2 e2 =>
      split at e
      · next u e3 => cases e; exact ⟨_, _, e2, _, e3, q⟩
      · cases e
    · cases e
  · rintro ⟨v, σ1, e, u, e2, q⟩
    exact ⟨_, _, by unfold x1; rw [e]; simp only [e2], q⟩
theorem wX_2 {g : q_H → Value → Value → Option Value} {f1 f2 : q_X} : wX (x2 g f1 f2) σ Q ↔ wX f1 σ (fun v σ1 => wX f2 σ1 (fun t σ2 => ∃ u, g σ2.2 v t = some u ∧ Q u σ2)) := by
  constructor
  · rintro ⟨v, σ1, e, q⟩
    unfold x2 at e
    split at e
    · next v2 σ2 e2 =>
      split at e
      · next v3 σ3 e3 =>
        split at e
        · next u e4 => cases e; exact ⟨_, _, e2, _, _, e3, _, e4, q⟩
        · cases e
      · cases e
    · cases e
  · rintro ⟨v, σ1, e, v2, σ2, e2, u, e3, q⟩
    exact ⟨_, _, by unfold x2; rw [e]; simp only [e2, e3], q⟩
theorem wX_If {c : q_C} {f g : q_X} : wX (xIf c f g) σ Q ↔ wC c σ (fun b σ1 => (b = true → wX f σ1 Q) ∧ (b = false → wX g σ1 Q)) := by
  constructor
  · rintro ⟨v, σ1, e, q⟩
    unfold xIf at e
    split at e
    · next b σ2 e2 =>
      refine ⟨_, _, e2, fun hb => ?_, fun hb => ?_⟩
      · rw [if_pos hb] at e; exact ⟨_, _, e, q⟩
      · rw [if_neg (by rw [hb]; exact Bool.false_ne_true)] at e; exact ⟨_, _, e, q⟩
    · cases e
  · rintro ⟨b, σ1, e, k1, k2⟩
    cases b with
    | true => obtain ⟨v, σ2, e2, q⟩ := k1 rfl; exact ⟨v, σ2, by unfold xIf; rw [e]; simpa using e2, q⟩
    | false => obtain ⟨v, σ2, e2, q⟩ := k2 rfl; exact ⟨v, σ2, by unfold xIf; rw [e]; simpa using e2, q⟩
/-- two constants by a condition: one road -/
theorem wX_IfK {c : q_C} {a b : Int32} : wX (xIf c (xK (.int a)) (xK (.int b))) σ Q ↔ wC c σ (fun t σ1 => Q (.int (if t = true then a else b)) σ1) := by
  rw [wX_If]
  simp only [wX_K]
  constructor
  · rintro ⟨t, σ1, e, k1, k2⟩
    refine ⟨t, σ1, e, ?_⟩
    cases t with
    | true => exact k1 rfl
    | false => exact k2 rfl
  · rintro ⟨t, σ1, e, q⟩
    refine ⟨t, σ1, e, fun h => ?_, fun h => ?_⟩ <;> subst h <;> exact q
theorem wA_nil : wA [] σ QA ↔ QA [] σ := by
  constructor
  · rintro ⟨v, σ1, e, q⟩; cases e; exact q
  · exact fun q => ⟨_, _, rfl, q⟩
theorem wA_cons {f : q_X} {fs : List q_X} : wA (f :: fs) σ QA ↔ wX f σ (fun v σ1 => wA fs σ1 (fun vs σ2 => QA (v :: vs) σ2)) := by
  constructor
  · rintro ⟨v, σ1, e, q⟩
    unfold q_ev at e
    split at e
    · next v2 σ2 e2 =>
      split at e
      · next vs σ3 e3 => cases e; exact ⟨_, _, e2, _, _, e3, q⟩
      · cases e
    · cases e
  · rintro ⟨v, σ1, e, vs, σ2, e2, q⟩
    exact ⟨_, _, by unfold q_ev; rw [e]; simp only [e2], q⟩
theorem wX_M {m : q_M} {fs : List q_X} : wX (xM m fs) σ Q ↔ wA fs σ (fun vs σ1 => wM m vs σ1.2 (fun r h => ∃ v, r = some v ∧ Q v (σ1.1, h))) := by
  constructor
  · rintro ⟨v, σ1, e, q⟩
    unfold xM at e
    split at e
    · next vs σ2 e2 =>
      split at e
      · next u h e3 => cases e; exact ⟨_, _, e2, _, _, e3, _, rfl, q⟩
      · cases e
    · cases e
  · rintro ⟨vs, σ1, e, r, h, e2, v, rfl, q⟩
    exact ⟨_, _, by unfold xM; rw [e]; simp only [e2], q⟩
theorem wC_1 {r : Int32 → Bool} {f : q_X} : wC (c1 r f) σ QC ↔ wX f σ (fun v σ1 => ∃ x, v = .int x ∧ QC (r x) σ1) := by
  constructor
  · rintro ⟨b, σ1, e, q⟩
    unfold c1 at e
    split at e
    · next x σ2 e2 => cases e; exact ⟨_, _, e2, _, rfl, q⟩
    · cases e
  · rintro ⟨v, σ1, e, x, rfl, q⟩
    exact ⟨_, _, by unfold c1; rw [e], q⟩
theorem wC_2 {r : Int32 → Int32 → Bool} {f g : q_X} : wC (c2 r f g) σ QC ↔ wX f σ (fun v σ1 => ∃ x, v = .int x ∧ wX g σ1 (fun u σ2 => ∃ y, u = .int y ∧ QC (r x y) σ2)) := by
  constructor
  · rintro ⟨b, σ1, e, q⟩
    unfold c2 at e
    split at e
    · next x σ2 e2 =>
      split at e
      · next y σ3 e3 => cases e; exact ⟨_, _, e2, _, rfl, _, _, e3, _, rfl, q⟩
      · cases e
    · cases e
  · rintro ⟨v, σ1, e, x, rfl, u, σ2, e2, y, rfl, q⟩
    exact ⟨_, _, by unfold c2; rw [e]; simp only [e2], q⟩
theorem wC_And {a b : q_C} : wC (cAnd a b) σ QC ↔ wC a σ (fun x σ1 => (x = true → wC b σ1 QC) ∧ (x = false → QC false σ1)) := by
  constructor
  · rintro ⟨v, σ1, e, q⟩
    unfold cAnd at e
    split at e
    · next x σ2 e2 =>
      refine ⟨_, _, e2, fun hb => ?_, fun hb => ?_⟩
      · rw [if_pos hb] at e; exact ⟨_, _, e, q⟩
      · rw [if_neg (by rw [hb]; exact Bool.false_ne_true)] at e; cases e; exact q
    · cases e
  · rintro ⟨x, σ1, e, k1, k2⟩
    cases x with
    | true => obtain ⟨v, σ2, e2, q⟩ := k1 rfl; exact ⟨v, σ2, by unfold cAnd; rw [e]; simpa using e2, q⟩
    | false => exact ⟨false, σ1, by unfold cAnd; rw [e]; rfl, k2 rfl⟩
theorem wC_Or {a b : q_C} : wC (cOr a b) σ QC ↔ wC a σ (fun x σ1 => (x = true → QC true σ1) ∧ (x = false → wC b σ1 QC)) := by
  constructor
  · rintro ⟨v, σ1, e, q⟩
    unfold cOr at e
    split at e
    · next x σ2 e2 =>
      refine ⟨_, _, e2, fun hb => ?_, fun hb => ?_⟩
      · rw [if_pos hb] at e; cases e; exact q
      · rw [if_neg (by rw [hb]; exact Bool.false_ne_true)] at e; exact ⟨_, _, e, q⟩
    · cases e
  · rintro ⟨x, σ1, e, k1, k2⟩
    cases x with
    | true => exact ⟨true, σ1, by unfold cOr; rw [e]; rfl, k1 rfl⟩
    | false => obtain ⟨v, σ2, e2, q⟩ := k2 rfl; exact ⟨v, σ2, by unfold cOr; rw [e]; simpa using e2, q⟩
theorem wC_T : wC cT σ QC ↔ QC true σ := by
  constructor
  · rintro ⟨v, σ1, e, q⟩; cases e; exact q
  · exact fun q => ⟨_, _, rfl, q⟩
theorem wT_Skip : wT sSkip σ N R ↔ N σ := by
  constructor
  · rintro (⟨σ1, e, q⟩ | ⟨v, h, e, q⟩)
    · cases e; exact q
    · cases e
  · exact fun q => Or.inl ⟨_, rfl, q⟩
theorem wT_Seq {f g : q_T} : wT (sSeq f g) σ N R ↔ wT f σ (fun σ1 => wT g σ1 N R) R := by
  constructor
  · rintro (⟨σ1, e, q⟩ | ⟨v, h, e, q⟩) <;> unfold sSeq at e <;> split at e
    · next σ2 e2 => exact Or.inl ⟨_, e2, Or.inl ⟨_, e, q⟩⟩
    · next z hz => exact absurd e (hz _)
    · next σ2 e2 => exact Or.inl ⟨_, e2, Or.inr ⟨_, _, e, q⟩⟩
    · exact Or.inr ⟨_, _, e, q⟩
  · rintro (⟨σ1, e, (⟨σ2, e2, q⟩ | ⟨v, h, e2, q⟩)⟩ | ⟨v, h, e, q⟩)
    · exact Or.inl ⟨σ2, by unfold sSeq; rw [e]; exact e2, q⟩
    · exact Or.inr ⟨v, h, by unfold sSeq; rw [e]; exact e2, q⟩
    · exact Or.inr ⟨v, h, by unfold sSeq; rw [e], q⟩
theorem wT_If {c : q_C} {f g : q_T} : wT (sIf c f g) σ N R ↔ wC c σ (fun b σ1 => (b = true → wT f σ1 N R) ∧ (b = false → wT g σ1 N R)) := by
  constructor
  · intro h
    have key : ∀ z, sIf c f g σ = some z → ∃ b σ1, c σ = some (b, σ1) ∧ (b = true → f σ1 = some z) ∧ (b = false → g σ1 = some z) := by
      intro z e
      unfold sIf at e
      split at e
      · next b σ2 e2 =>
        refine ⟨_, _, e2, fun hb => ?_, fun hb => ?_⟩
        · rw [if_pos hb] at e; exact e
        · rw [if_neg (by rw [hb]; exact Bool.false_ne_true)] at e; exact e
      · cases e
    rcases h with ⟨σ1, e, q⟩ | ⟨v, h, e, q⟩
    · obtain ⟨b, σ2, e2, k1, k2⟩ := key _ e
      exact ⟨b, σ2, e2, fun hb => Or.inl ⟨_, k1 hb, q⟩, fun hb => Or.inl ⟨_, k2 hb, q⟩⟩
    · obtain ⟨b, σ2, e2, k1, k2⟩ := key _ e
      exact ⟨b, σ2, e2, fun hb => Or.inr ⟨_, _, k1 hb, q⟩, fun hb => Or.inr ⟨_, _, k2 hb, q⟩⟩
  · rintro ⟨b, σ1, e, k1, k2⟩
    have key : sIf c f g σ = if b = true then f σ1 else g σ1 := by unfold sIf; rw [e]
    cases b with
    | true =>
      rw [if_pos rfl] at key
      rcases k1 rfl with ⟨σ2, e2, q⟩ | ⟨v, h, e2, q⟩
      · exact Or.inl ⟨_, key.trans e2, q⟩
      · exact Or.inr ⟨_, _, key.trans e2, q⟩
    | false =>
      rw [if_neg Bool.false_ne_true] at key
      rcases k2 rfl with ⟨σ2, e2, q⟩ | ⟨v, h, e2, q⟩
      · exact Or.inl ⟨_, key.trans e2, q⟩
      · exact Or.inr ⟨_, _, key.trans e2, q⟩
theorem wT_Sti {i : Nat} {f : q_X} : wT (sSti i f) σ N R ↔ wX f σ (fun v σ1 => ∃ x, v = .int x ∧ N (q_st σ1.1 i (.int x), σ1.2)) := by
  constructor
  · rintro (⟨σ1, e, q⟩ | ⟨v, h, e, q⟩) <;> unfold sSti at e <;> split at e
    · next x σ2 e2 => cases e; exact ⟨_, _, e2, _, rfl, q⟩
    · cases e
    · cases e
    · cases e
  · rintro ⟨v, σ1, e, x, rfl, q⟩
    exact Or.inl ⟨_, by unfold sSti; rw [e], q⟩
theorem wT_Sta {i : Nat} {f : q_X} : wT (sSta i f) σ N R ↔ wX f σ (fun v σ1 => ∃ x, v = .ref x ∧ N (q_st σ1.1 i (.ref x), σ1.2)) := by
  constructor
  · rintro (⟨σ1, e, q⟩ | ⟨v, h, e, q⟩) <;> unfold sSta at e <;> split at e
    · next x σ2 e2 => cases e; exact ⟨_, _, e2, _, rfl, q⟩
    · cases e
    · cases e
    · cases e
  · rintro ⟨v, σ1, e, x, rfl, q⟩
    exact Or.inl ⟨_, by unfold sSta; rw [e], q⟩
theorem wT_Stl {i : Nat} {f : q_X} : wT (sStl i f) σ N R ↔ wX f σ (fun v σ1 => ∃ x, v = .long x ∧ N (q_st2 σ1.1 i (.long x), σ1.2)) := by
  constructor
  · rintro (⟨σ1, e, q⟩ | ⟨v, h, e, q⟩) <;> unfold sStl at e <;> split at e
    · next x σ2 e2 => cases e; exact ⟨_, _, e2, _, rfl, q⟩
    · cases e
    · cases e
    · cases e
  · rintro ⟨v, σ1, e, x, rfl, q⟩
    exact Or.inl ⟨_, by unfold sStl; rw [e], q⟩
theorem wT_Inc {i : Nat} {n : Int32} : wT (sInc i n) σ N R ↔ ∃ x, σ.1[i]? = some (some (.int x)) ∧ N (q_st σ.1 i (.int (x + n)), σ.2) := by
  constructor
  · rintro (⟨σ1, e, q⟩ | ⟨v, h, e, q⟩) <;> unfold sInc at e <;> split at e
    · next x e2 => cases e; exact ⟨_, e2, q⟩
    · cases e
    · cases e
    · cases e
  · rintro ⟨x, e, q⟩
    exact Or.inl ⟨_, by unfold sInc; rw [e], q⟩
theorem wT_2 {g : q_H → Value → Value → Option q_H} {f1 f2 : q_X} : wT (s2 g f1 f2) σ N R ↔ wX f1 σ (fun v σ1 => wX f2 σ1 (fun u σ2 => ∃ h, g σ2.2 v u = some h ∧ N (σ2.1, h))) := by
  constructor
  · rintro (⟨σ1, e, q⟩ | ⟨v, h, e, q⟩) <;> unfold s2 at e <;> (repeat' split at e) <;> cases e
    next e1 _ _ _ e2 _ _ e3 => exact ⟨_, _, e1, _, _, e2, _, e3, q⟩
  · rintro ⟨v, σ1, e, u, σ2, e2, h, e3, q⟩
    exact Or.inl ⟨_, by unfold s2; rw [e]; simp only [e2, e3], q⟩
theorem wT_3 {g : q_H → Value → Value → Value → Option q_H} {f1 f2 f3 : q_X} : wT (s3 g f1 f2 f3) σ N R ↔ wX f1 σ (fun v σ1 => wX f2 σ1 (fun u σ2 => wX f3 σ2 (fun t σ3 => ∃ h, g σ3.2 v u t = some h ∧ N (σ3.1, h)))) := by
  constructor
  · rintro (⟨σ1, e, q⟩ | ⟨v, h, e, q⟩) <;> unfold s3 at e <;> (repeat' split at e) <;> cases e
    next e1 _ _ _ e2 _ _ _ e3 _ _ e4 => exact ⟨_, _, e1, _, _, e2, _, _, e3, _, e4, q⟩
  · rintro ⟨v, σ1, e, u, σ2, e2, t, σ3, e3, h, e4, q⟩
    exact Or.inl ⟨_, by unfold s3; rw [e]; simp only [e2, e3, e4], q⟩
theorem wT_2u {gt : q_H → Value → Option Value} {op : q_H → Value → Value → Option Value} {pt : q_H → Value → Value → Option q_H} {f g : q_X} : wT (s2u gt op pt f g) σ N R ↔ wX f σ (fun v σ1 => ∃ a, gt σ1.2 v = some a ∧ wX g σ1 (fun u σ2 => ∃ z, op σ2.2 a u = some z ∧ ∃ h, pt σ2.2 v z = some h ∧ N (σ2.1, h))) := by
  constructor
  · rintro (⟨σ1, e, q⟩ | ⟨v, h, e, q⟩) <;> unfold s2u at e <;> (repeat' split at e) <;> cases e
    next e1 _ _ e2 _ _ _ e3 _ _ e4 _ _ e5 => exact ⟨_, _, e1, _, e2, _, _, e3, _, e4, _, e5, q⟩
  · rintro ⟨v, σ1, e, a, e2, u, σ2, e3, z, e4, h, e5, q⟩
    exact Or.inl ⟨_, by unfold s2u; rw [e]; simp only [e2, e3, e4, e5], q⟩
theorem wT_3u {gt : q_H → Value → Value → Option Value} {op : q_H → Value → Value → Option Value} {pt : q_H → Value → Value → Value → Option q_H} {f1 f2 g : q_X} : wT (s3u gt op pt f1 f2 g) σ N R ↔ wX f1 σ (fun v σ1 => wX f2 σ1 (fun t σ2 => ∃ a, gt σ2.2 v t = some a ∧ wX g σ2 (fun u σ3 => ∃ z, op σ3.2 a u = some z ∧ ∃ h, pt σ3.2 v t z = some h ∧ N (σ3.1, h)))) := by
  constructor
  · rintro (⟨σ1, e, q⟩ | ⟨v, h, e, q⟩) <;> unfold s3u at e <;> (repeat' split at e) <;> cases e
    next e1 _ _ _ e2 _ _ e3 _ _ _ e4 _ _ e5 _ _ e6 => exact ⟨_, _, e1, _, _, e2, _, e3, _, _, e4, _, e5, _, e6, q⟩
  · rintro ⟨v, σ1, e, t, σ2, e2, a, e3, u, σ3, e4, z, e5, h, e6, q⟩
    exact Or.inl ⟨_, by unfold s3u; rw [e]; simp only [e2, e3, e4, e5, e6], q⟩
theorem wT_M {m : q_M} {fs : List q_X} : wT (sM m fs) σ N R ↔ wA fs σ (fun vs σ1 => wM m vs σ1.2 (fun r h => r = none ∧ N (σ1.1, h))) := by
  constructor
  · rintro (⟨σ1, e, q⟩ | ⟨v, h, e, q⟩) <;> unfold sM at e <;> (repeat' split at e) <;> cases e
    next e1 _ _ e2 => exact ⟨_, _, e1, _, _, e2, rfl, q⟩
  · rintro ⟨vs, σ1, e, r, h, e2, rfl, q⟩
    exact Or.inl ⟨_, by unfold sM; rw [e]; simp only [e2], q⟩
theorem wT_Mp {m : q_M} {fs : List q_X} : wT (sMp (q_pI m) fs) σ N R ↔ wA fs σ (fun vs σ1 => wM m vs σ1.2 (fun r h => ∃ x, r = some (.int x) ∧ N (σ1.1, h))) := by
  have key : ∀ vs h0 u h, q_pI m vs h0 = some (u, h) ↔ ∃ x, u = some (.int x) ∧ m vs h0 = some (some (.int x), h) := by
    intro vs h0 u h
    unfold q_pI
    constructor
    · intro e
      split at e
      · next x h2 e2 => cases e; exact ⟨x, rfl, e2⟩
      · cases e
    · rintro ⟨x, rfl, e⟩
      rw [e]
  constructor
  · rintro (⟨σ1, e, q⟩ | ⟨v, h, e, q⟩) <;> unfold sMp at e <;> (repeat' split at e) <;> cases e
    next e1 _ _ _ e2 =>
      obtain ⟨x, e3, e4⟩ := (key _ _ _ _).mp e2
      exact ⟨_, _, e1, _, _, e4, _, rfl, q⟩
  · rintro ⟨vs, σ1, e, r, h, e2, x, rfl, q⟩
    exact Or.inl ⟨_, by unfold sMp; rw [e]; simp only [(key vs σ1.2 _ _).mpr ⟨x, rfl, e2⟩], q⟩
theorem wT_Ret0 : wT sRet0 σ N R ↔ R none σ.2 := by
  constructor
  · rintro (⟨σ1, e, q⟩ | ⟨v, h, e, q⟩)
    · cases e
    · cases e; exact q
  · exact fun q => Or.inr ⟨_, _, rfl, q⟩
theorem wT_Ret {f : q_X} : wT (sRet 0 f) σ N R ↔ wX f σ (fun v σ1 => ∃ x, v = .int x ∧ R (some (.int x)) σ1.2) := by
  constructor
  · rintro (⟨σ1, e, q⟩ | ⟨v, h, e, q⟩) <;> unfold sRet at e <;> (repeat' split at e) <;> first | cases e | skip
    · next x σ2 e2 _ => exact ⟨_, _, e2, _, rfl, q⟩
    all_goals simp_all
  · rintro ⟨v, σ1, e, x, rfl, q⟩
    exact Or.inr ⟨_, _, by unfold sRet; rw [e]; simp, q⟩
theorem wT_RetZ {f : q_X} : wT (sRet 1 f) σ N R ↔ wX f σ (fun v σ1 => ∃ x, v = .int x ∧ (x = 0 ∨ x = 1) ∧ R (some (.int x)) σ1.2) := by
  constructor
  · rintro (⟨σ1, e, q⟩ | ⟨v, h, e, q⟩) <;> unfold sRet at e <;> (repeat' split at e) <;> first | cases e | skip
    · next x σ2 e2 hx => exact ⟨_, _, e2, _, rfl, by simpa using hx, q⟩
    all_goals simp_all
  · rintro ⟨v, σ1, e, x, rfl, hx, q⟩
    exact Or.inr ⟨_, _, by unfold sRet; rw [e]; simp [hx], q⟩
theorem wT_RetL {f : q_X} : wT (sRet 2 f) σ N R ↔ wX f σ (fun v σ1 => ∃ x, v = .long x ∧ R (some (.long x)) σ1.2) := by
  constructor
  · rintro (⟨σ1, e, q⟩ | ⟨v, h, e, q⟩) <;> unfold sRet at e <;> (repeat' split at e) <;> first | cases e | skip
    · simp_all
    · next x σ2 e2 _ => exact ⟨_, _, e2, _, rfl, q⟩
    all_goals simp_all
  · rintro ⟨v, σ1, e, x, rfl, q⟩
    exact Or.inr ⟨_, _, by unfold sRet; rw [e]; simp, q⟩
theorem wT_RetR {f : q_X} : wT (sRet 3 f) σ N R ↔ wX f σ (fun v σ1 => ∃ x, v = .ref x ∧ R (some (.ref x)) σ1.2) := by
  constructor
  · rintro (⟨σ1, e, q⟩ | ⟨v, h, e, q⟩) <;> unfold sRet at e <;> (repeat' split at e) <;> first | cases e | skip
    · simp_all
    · simp_all
    · next x σ2 e2 _ => exact ⟨_, _, e2, _, rfl, q⟩
    all_goals simp_all
  · rintro ⟨v, σ1, e, x, rfl, q⟩
    exact Or.inr ⟨_, _, by unfold sRet; rw [e]; simp, q⟩
theorem wM_meth {a n : Nat} {f : q_T} {vs : List Value} {h : q_H} : wM (q_meth a n f) vs h QM ↔ (vs.length = a ∧ q_wid vs ≤ n) ∧ wT f (q_loc n vs, h) (fun _ => False) (fun r h1 => (h.1.length ≤ h1.1.length ∧ q_sl h.1 ≤ q_sl h1.1) ∧ QM r h1) := by
  constructor
  · rintro ⟨r, h1, e, q⟩
    unfold q_meth at e
    split at e
    · next hc =>
      split at e
      · next z e2 =>
        split at e
        · next hl => cases e; exact ⟨hc, Or.inr ⟨_, _, e2, hl, q⟩⟩
        · cases e
      · cases e
    · cases e
  · rintro ⟨hc, (⟨σ1, e, q⟩ | ⟨v, h1, e, hl, q⟩)⟩
    · exact q.elim
    · exact ⟨_, _, by unfold q_meth; rw [if_pos hc, e]; simp only [hl, and_self, if_true], q⟩
/-- a loop with a number of rounds known ahead, by what holds after i rounds; it may be left by a return -/
theorem wT_for {c : q_C} {f : q_T} (I : Nat → q_S → Prop) (n : Nat) (hn : n < 5000) (h0 : I 0 σ) (hs : ∀ i σ, i < n → I i σ → wC c σ (fun b σ1 => b = true ∧ wT f σ1 (I (i + 1)) R)) (he : ∀ σ, I n σ → wC c σ (fun b σ1 => b = false ∧ N σ1)) : wT (sWh c f) σ N R := by
  have key : ∀ (k i : Nat) (σ : q_S), i + k = n → I i σ → ∀ fuel, k < fuel → wT (q_wh c f fuel) σ N R := by
    intro k
    induction k with
    | zero =>
      intro i σ e hI fuel hf
      obtain ⟨fuel, rfl⟩ : ∃ z, fuel = z + 1 := ⟨fuel - 1, by omega⟩
      have e : i = n := by omega
      subst e
      obtain ⟨b, σ1, e1, rfl, q⟩ := he σ hI
      exact Or.inl ⟨σ1, by unfold q_wh; rw [e1]; rfl, q⟩
    | succ k ih =>
      intro i σ e hI fuel hf
      obtain ⟨fuel, rfl⟩ : ∃ z, fuel = z + 1 := ⟨fuel - 1, by omega⟩
      obtain ⟨b, σ1, e1, rfl, q⟩ := hs i σ (by omega) hI
      rcases q with ⟨σ2, e2, q⟩ | ⟨v, h, e2, q⟩
      · rcases ih (i + 1) σ2 (by omega) q fuel (by omega) with ⟨σ3, e3, q⟩ | ⟨v, h, e3, q⟩
        · exact Or.inl ⟨σ3, by unfold q_wh; rw [e1]; simp only [e2, if_true]; exact e3, q⟩
        · exact Or.inr ⟨v, h, by unfold q_wh; rw [e1]; simp only [e2, if_true]; exact e3, q⟩
      · exact Or.inr ⟨v, h, by unfold q_wh; rw [e1]; simp only [e2, if_true], q⟩
  exact key n 0 σ (by omega) h0 q_fuel (by unfold q_fuel; omega)
/-- a loop by a measure -/
theorem wT_wh {c : q_C} {f : q_T} (I : q_S → Prop) (μ : q_S → Nat) (hμ : μ σ < 5000) (h0 : I σ) (hs : ∀ σ, I σ → wC c σ (fun b σ1 => (b = true → wT f σ1 (fun σ2 => I σ2 ∧ μ σ2 < μ σ) R) ∧ (b = false → N σ1))) : wT (sWh c f) σ N R := by
  have key : ∀ (k : Nat) (σ : q_S), μ σ < k → I σ → wT (q_wh c f k) σ N R := by
    intro k
    induction k with
    | zero => intro σ h; omega
    | succ k ih =>
      intro σ h hI
      obtain ⟨b, σ1, e1, k1, k2⟩ := hs σ hI
      cases b with
      | false => exact Or.inl ⟨σ1, by unfold q_wh; rw [e1]; rfl, k2 rfl⟩
      | true =>
        rcases k1 rfl with ⟨σ2, e2, q, hm⟩ | ⟨v, h, e2, q⟩
        · rcases ih σ2 (by omega) q with ⟨σ3, e3, q⟩ | ⟨v, h, e3, q⟩
          · exact Or.inl ⟨σ3, by unfold q_wh; rw [e1]; simp only [e2, if_true]; exact e3, q⟩
          · exact Or.inr ⟨v, h, by unfold q_wh; rw [e1]; simp only [e2, if_true]; exact e3, q⟩
        · exact Or.inr ⟨v, h, by unfold q_wh; rw [e1]; simp only [e2, if_true], q⟩
  exact key q_fuel σ (by unfold q_fuel; omega) h0
end
