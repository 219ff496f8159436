/-! EXPRESSIONS AND STATEMENTS: what they mean, and that code does them -/
abbrev q_X : Type := q_S → Option (Value × q_S)
abbrev q_C : Type := q_S → Option (Bool × q_S)
abbrev q_T : Type := q_S → Option (q_S ⊕ (Option Value × q_H))
def xK (v : Value) : q_X := fun σ => some (v, σ)
def xLi (i : Nat) : q_X := fun σ => match σ.1[i]? with
  | some (some (.int x)) => some (.int x, σ)
  | _ => none
def xLj (i : Nat) : q_X := fun σ => match σ.1[i]? with
  | some (some (.long x)) => some (.long x, σ)
  | _ => none
def xLa (i : Nat) : q_X := fun σ => match σ.1[i]? with
  | some (some (.ref x)) => some (.ref x, σ)
  | _ => none
def x1 (g : q_H → Value → Option Value) (f : q_X) : q_X := fun σ => match f σ with
  | some (v, σ1) => match g σ1.2 v with
    | some u => some (u, σ1)
    | none => none
  | none => none
def x2 (g : q_H → Value → Value → Option Value) (f1 f2 : q_X) : q_X := fun σ => match f1 σ with
  | some (v, σ1) => match f2 σ1 with
    | some (u, σ2) => match g σ2.2 v u with
      | some z => some (z, σ2)
      | none => none
    | none => none
  | none => none
def xIf (c : q_C) (f g : q_X) : q_X := fun σ => match c σ with
  | some (b, σ1) => if b = true then f σ1 else g σ1
  | none => none
def q_ev : List q_X → q_S → Option (List Value × q_S)
  | [], σ => some ([], σ)
  | f :: fs, σ => match f σ with
    | some (v, σ1) => match q_ev fs σ1 with
      | some (vs, σ2) => some (v :: vs, σ2)
      | none => none
    | none => none
def xM (m : q_M) (fs : List q_X) : q_X := fun σ => match q_ev fs σ with
  | some (vs, σ1) => match m vs σ1.2 with
    | some (some v, h) => some (v, (σ1.1, h))
    | _ => none
  | none => none
/-- an object's method: the receiver is of that class -/
def q_R (ci : Nat) (m : q_M) : q_M := fun vs h => match vs with
  | .ref o :: _ => match h.1[o]? with
    | some (.inr (.inr (c, _))) => if c = ci then m vs h else none
    | _ => none
  | _ => none
def c1 (r : Int32 → Bool) (f : q_X) : q_C := fun σ => match f σ with
  | some (.int x, σ1) => some (r x, σ1)
  | _ => none
def c2 (r : Int32 → Int32 → Bool) (f g : q_X) : q_C := fun σ => match f σ with
  | some (.int x, σ1) => match g σ1 with
    | some (.int y, σ2) => some (r x y, σ2)
    | _ => none
  | _ => none
def cAnd (a b : q_C) : q_C := fun σ => match a σ with
  | some (x, σ1) => if x = true then b σ1 else some (false, σ1)
  | none => none
def cOr (a b : q_C) : q_C := fun σ => match a σ with
  | some (x, σ1) => if x = true then some (true, σ1) else b σ1
  | none => none
def cNot (a : q_C) : q_C := fun σ => match a σ with
  | some (x, σ1) => some (!x, σ1)
  | none => none
def sSkip : q_T := fun σ => some (.inl σ)
def sSeq (f g : q_T) : q_T := fun σ => match f σ with
  | some (.inl σ1) => g σ1
  | z => z
def sSt (i : Nat) (f : q_X) : q_T := fun σ => match f σ with
  | some (.int x, σ1) => some (.inl (q_st σ1.1 i (.int x), σ1.2))
  | some (.ref x, σ1) => some (.inl (q_st σ1.1 i (.ref x), σ1.2))
  | some (.long x, σ1) => some (.inl (q_st2 σ1.1 i (.long x), σ1.2))
  | _ => none
def sInc (i : Nat) (n : Int32) : q_T := fun σ => match σ.1[i]? with
  | some (some (.int x)) => some (.inl (q_st σ.1 i (.int (x + n)), σ.2))
  | _ => none
def s2 (g : q_H → Value → Value → Option q_H) (f1 f2 : q_X) : q_T := fun σ => match f1 σ with
  | some (v, σ1) => match f2 σ1 with
    | some (u, σ2) => match g σ2.2 v u with
      | some h => some (.inl (σ2.1, h))
      | none => none
    | none => none
  | none => none
def s3 (g : q_H → Value → Value → Value → Option q_H) (f1 f2 f3 : q_X) : q_T := fun σ => match f1 σ with
  | some (v, σ1) => match f2 σ1 with
    | some (u, σ2) => match f3 σ2 with
      | some (t, σ3) => match g σ3.2 v u t with
        | some h => some (.inl (σ3.1, h))
        | none => none
      | none => none
    | none => none
  | none => none
/-- a field by an operation with what it held -/
def s2u (gt : q_H → Value → Option Value) (op : q_H → Value → Value → Option Value) (pt : q_H → Value → Value → Option q_H) (f g : q_X) : q_T := fun σ => match f σ with
  | some (v, σ1) => match gt σ1.2 v with
    | some a => match g σ1 with
      | some (u, σ2) => match op σ2.2 a u with
        | some z => match pt σ2.2 v z with
          | some h => some (.inl (σ2.1, h))
          | none => none
        | none => none
      | none => none
    | none => none
  | none => none
/-- an array's place by an operation with what it held -/
def s3u (gt : q_H → Value → Value → Option Value) (op : q_H → Value → Value → Option Value) (pt : q_H → Value → Value → Value → Option q_H) (f1 f2 g : q_X) : q_T := fun σ => match f1 σ with
  | some (v, σ1) => match f2 σ1 with
    | some (t, σ2) => match gt σ2.2 v t with
      | some a => match g σ2 with
        | some (u, σ3) => match op σ3.2 a u with
          | some z => match pt σ3.2 v t z with
            | some h => some (.inl (σ3.1, h))
            | none => none
          | none => none
        | none => none
      | none => none
    | none => none
  | none => none
/-- a call whose answer, if there is one, is dropped -/
def sM (m : q_M) (fs : List q_X) : q_T := fun σ => match q_ev fs σ with
  | some (vs, σ1) => match m vs σ1.2 with
    | some (none, h) => some (.inl (σ1.1, h))
    | _ => none
  | none => none
def sMp (m : q_M) (fs : List q_X) : q_T := fun σ => match q_ev fs σ with
  | some (vs, σ1) => match m vs σ1.2 with
    | some (some _, h) => some (.inl (σ1.1, h))
    | _ => none
  | none => none
def sIf (c : q_C) (f g : q_T) : q_T := fun σ => match c σ with
  | some (b, σ1) => if b = true then f σ1 else g σ1
  | none => none
def q_wh (c : q_C) (f : q_T) : Nat → q_T
  | 0 => fun _ => none
  | n + 1 => fun σ => match c σ with
    | some (b, σ1) => if b = true then (match f σ1 with
      | some (.inl σ2) => q_wh c f n σ2
      | z => z) else some (.inl σ1)
    | none => none
def q_fuel : Nat := 5000
def sWh (c : q_C) (f : q_T) : q_T := fun σ => q_wh c f q_fuel σ
def cT : q_C := fun σ => some (true, σ)
def sRet (k : Nat) (f : q_X) : q_T := fun σ => match f σ with
  | some (.int x, σ1) => if k = 0 ∨ (k = 1 ∧ (x = 0 ∨ x = 1)) then some (.inr (some (.int x), σ1.2)) else none
  | some (.long x, σ1) => if k = 2 then some (.inr (some (.long x), σ1.2)) else none
  | some (.ref x, σ1) => if k = 3 then some (.inr (some (.ref x), σ1.2)) else none
  | _ => none
def sRet0 : q_T := fun σ => some (.inr (none, σ.2))
def sSw (f : q_X) (lo : Int) (as : List q_T) (d : q_T) : q_T := fun σ => match f σ with
  | some (.int x, σ1) => if lo ≤ x.toInt ∧ x.toInt < lo + as.length then as.getD (x.toInt - lo).toNat d σ1 else d σ1
  | _ => none
def q_wid : List Value → Nat
  | [] => 0
  | .long _ :: vs => q_wid vs + 2
  | .double _ :: vs => q_wid vs + 2
  | _ :: vs => q_wid vs + 1
def q_ent : List Value → q_L
  | [] => []
  | .long x :: vs => some (.long x) :: none :: q_ent vs
  | .double x :: vs => some (.double x) :: none :: q_ent vs
  | v :: vs => some v :: q_ent vs
def q_loc (n : Nat) (vs : List Value) : q_L := q_ent vs ++ List.replicate (n - q_wid vs) none
def q_meth (a n : Nat) (f : q_T) : q_M := fun vs h => if vs.length = a ∧ q_wid vs ≤ n then (match f (q_loc n vs, h) with
  | some (.inr z) => if h.1.length ≤ z.2.1.length ∧ q_sl h.1 ≤ q_sl z.2.1 then some z else none
  | _ => none) else none
theorem q_ent_mem {ad : Nat → Nat} : ∀ (vs : List Value) (b i : Nat) (v : Value), (q_ent vs)[i]? = some (some v) → (b + i, q_cv ad v) ∈ lv_args b (vs.map (q_cv ad)) := by
  intro vs
  induction vs with
  | nil => intro b i v h; simp [q_ent] at h
  | cons u vs ih =>
    intro b i v h
    cases u with
    | long x =>
      match i, h with
      | 0, h => simp [q_ent] at h; subst h; exact List.mem_cons_self
      | 1, h => simp [q_ent] at h
      | i + 2, h =>
        refine List.mem_cons_of_mem _ ?_
        have := ih (b + 2) i v (by simpa [q_ent] using h)
        rw [show b + (i + 2) = b + 2 + i by omega]
        exact this
    | double x =>
      match i, h with
      | 0, h => simp [q_ent] at h; subst h; exact List.mem_cons_self
      | 1, h => simp [q_ent] at h
      | i + 2, h =>
        refine List.mem_cons_of_mem _ ?_
        have := ih (b + 2) i v (by simpa [q_ent] using h)
        rw [show b + (i + 2) = b + 2 + i by omega]
        exact this
    | _ =>
      match i, h with
      | 0, h => simp [q_ent] at h; subst h; exact List.mem_cons_self
      | i + 1, h =>
        refine List.mem_cons_of_mem _ ?_
        have := ih (b + 1) i v (by simpa [q_ent] using h)
        rw [show b + (i + 1) = b + 1 + i by omega]
        exact this
theorem q_wid_sl (ad : Nat → Nat) (vs : List Value) : (lg_sl (vs.map (q_cv ad))).length = q_wid vs := by
  induction vs with
  | nil => rfl
  | cons u vs ih =>
    have e : lg_sl ((u :: vs).map (q_cv ad)) = (if (q_cv ad u).category = 2 then [Slot.val (q_cv ad u), .second] else [.val (q_cv ad u)]) ++ lg_sl (vs.map (q_cv ad)) := rfl
    rw [e, List.length_append, ih]
    cases u <;> simp [q_cv, Value.category, q_wid] <;> omega
theorem q_ent_len (vs : List Value) : (q_ent vs).length = q_wid vs := by
  induction vs with
  | nil => rfl
  | cons u vs ih => cases u <;> simp [q_ent, q_wid, ih]
theorem q_loc_len {n : Nat} {vs : List Value} (h : q_wid vs ≤ n) : (q_loc n vs).length = n := by
  unfold q_loc
  rw [List.length_append, List.length_replicate, q_ent_len]
  omega
theorem q_loc_has {ad : Nat → Nat} {n : Nat} {vs : List Value} {ls : Array Slot} (h : lv_has ls n (lv_args 0 (vs.map (q_cv ad)))) : lv_has ls n (q_lv ad (q_loc n vs)) := by
  refine ⟨h.1, h.2.1, fun q hq => h.2.2 q ?_⟩
  obtain ⟨v, h1, h2⟩ := q_lv_mem.mp hq
  unfold q_loc at h1
  by_cases e : q.1 < (q_ent vs).length
  · rw [List.getElem?_append_left e] at h1
    have := q_ent_mem (ad := ad) vs 0 q.1 v h1
    rw [Nat.zero_add, ← h2] at this
    exact this
  · rw [List.getElem?_append_right (by omega), List.getElem?_replicate] at h1
    split at h1 <;> simp at h1
section
variable {AT : Nat → q_S → List Value → Prop} {RT : Option Value → q_H → Prop} {lim : q_H → Prop} {b pc p1 p2 p3 T F n : Nat}
def q_XK (AT : Nat → q_S → List Value → Prop) (lim : q_H → Prop) (b pc p1 : Nat) (f : q_X) : Prop := ∀ σ v σ2, f σ = some (v, σ2) → q_le σ.2 σ2.2 ∧ ∀ st, q_cat st ≤ b → lim σ2.2 → AT p1 σ2 (v :: st) → AT pc σ st
def q_AK (AT : Nat → q_S → List Value → Prop) (lim : q_H → Prop) (b pc p1 : Nat) (fs : List q_X) : Prop := ∀ σ vs σ2, q_ev fs σ = some (vs, σ2) → q_le σ.2 σ2.2 ∧ ∀ st, q_cat st ≤ b → lim σ2.2 → AT p1 σ2 (vs.reverse ++ st) → AT pc σ st
def q_CK (AT : Nat → q_S → List Value → Prop) (lim : q_H → Prop) (b pc T F : Nat) (f : q_C) : Prop := ∀ σ v σ2, f σ = some (v, σ2) → q_le σ.2 σ2.2 ∧ ∀ st, q_cat st ≤ b → lim σ2.2 → (v = true → AT T σ2 st) → (v = false → AT F σ2 st) → AT pc σ st
def q_TK (AT : Nat → q_S → List Value → Prop) (RT : Option Value → q_H → Prop) (lim : q_H → Prop) (pc n : Nat) (f : q_T) : Prop := ∀ σ, (∀ σ2, f σ = some (.inl σ2) → q_le σ.2 σ2.2 ∧ (lim σ2.2 → AT n σ2 [] → AT pc σ [])) ∧ ∀ v h, f σ = some (.inr (v, h)) → q_le σ.2 h ∧ (lim h → RT v h → AT pc σ [])
def q_O1 (AT : Nat → q_S → List Value → Prop) (pc p1 : Nat) (g : q_H → Value → Option Value) : Prop := ∀ σ v u st, g σ.2 v = some u → AT p1 σ (u :: st) → AT pc σ (v :: st)
def q_O2 (AT : Nat → q_S → List Value → Prop) (pc p1 : Nat) (g : q_H → Value → Value → Option Value) : Prop := ∀ σ v t u st, g σ.2 v t = some u → AT p1 σ (u :: st) → AT pc σ (t :: v :: st)
def q_E2 (AT : Nat → q_S → List Value → Prop) (pc p1 : Nat) (g : q_H → Value → Value → Option q_H) : Prop := ∀ σ v t h st, g σ.2 v t = some h → q_le σ.2 h ∧ (AT p1 (σ.1, h) st → AT pc σ (t :: v :: st))
def q_E3 (AT : Nat → q_S → List Value → Prop) (pc p1 : Nat) (g : q_H → Value → Value → Value → Option q_H) : Prop := ∀ σ v t u h st, g σ.2 v t u = some h → q_le σ.2 h ∧ (AT p1 (σ.1, h) st → AT pc σ (u :: t :: v :: st))
def q_KK (AT : Nat → q_S → List Value → Prop) (lim : q_H → Prop) (pc p1 : Nat) (m : q_M) : Prop := ∀ σ vs r h st, m vs σ.2 = some (r, h) → q_le σ.2 h ∧ (q_cat st ≤ 8 → lim h → AT p1 (σ.1, h) (r.toList ++ st) → AT pc σ (vs.reverse ++ st))
def q_GK (AT : Nat → q_S → List Value → Prop) (pc p1 : Nat) : Prop := ∀ σ st, AT p1 σ st → AT pc σ st
theorem q_cat_cons (v : Value) (st : List Value) : q_cat (v :: st) = v.category + q_cat st := by simp [q_cat]
theorem q_cat_le (v : Value) : v.category ≤ 2 := by cases v <;> simp [Value.category]
theorem k_1 {f : q_X} {g : q_H → Value → Option Value} (hf : q_XK AT lim b pc p1 f) (hg : q_O1 AT p1 p2 g) : q_XK AT lim b pc p2 (x1 g f) := by
  intro σ v σ2 h
  unfold x1 at h
  split at h
  · next v1 σ1 e1 =>
    split at h
    · next u e2 =>
      cases h
      obtain ⟨a1, a2⟩ := hf _ _ _ e1
      exact ⟨a1, fun st hc hl K => a2 st hc hl (hg _ _ _ _ e2 K)⟩
    · cases h
  · cases h
theorem k_2 {f1 f2 : q_X} {g : q_H → Value → Value → Option Value} (lim_of : ∀ a c : q_H, q_le a c → lim c → lim a) (hf : q_XK AT lim b pc p1 f1) (hf2 : q_XK AT lim (b + 2) p1 p2 f2) (hg : q_O2 AT p2 p3 g) : q_XK AT lim b pc p3 (x2 g f1 f2) := by
  intro σ v σ2 h
  unfold x2 at h
  split at h
  · next v1 σ1 e1 =>
    split at h
    · next u s2 e2 =>
      split at h
      · next z e3 =>
        cases h
        obtain ⟨a1, a2⟩ := hf _ _ _ e1
        obtain ⟨b1, b2⟩ := hf2 _ _ _ e2
        exact ⟨a1.tr b1, fun st hc hl K => a2 st hc (lim_of _ _ b1 hl) (b2 _ (by rw [q_cat_cons]; have := q_cat_le v1; omega) hl (hg _ _ _ _ _ e3 K))⟩
      · cases h
    · cases h
  · cases h
theorem k_xif {c : q_C} {f g : q_X} (lim_of : ∀ a c : q_H, q_le a c → lim c → lim a) (hc : q_CK AT lim b pc T F c) (hf : q_XK AT lim b T p1 f) (hj : q_GK AT p1 p2) (hg : q_XK AT lim b F p2 g) : q_XK AT lim b pc p2 (xIf c f g) := by
  intro σ v σ2 h
  unfold xIf at h
  split at h
  · next x σ1 e1 =>
    obtain ⟨a1, a2⟩ := hc _ _ _ e1
    by_cases hx : x = true
    · rw [if_pos hx] at h
      obtain ⟨b1, b2⟩ := hf _ _ _ h
      exact ⟨a1.tr b1, fun st hc hl K => a2 st hc (lim_of _ _ b1 hl) (fun _ => b2 st hc hl (hj _ _ K)) (fun h0 => by rw [hx] at h0; cases h0)⟩
    · rw [if_neg hx] at h
      obtain ⟨b1, b2⟩ := hg _ _ _ h
      exact ⟨a1.tr b1, fun st hc hl K => a2 st hc (lim_of _ _ b1 hl) (fun h0 => absurd h0 hx) (fun _ => b2 st hc hl K)⟩
  · cases h
theorem k_nil : q_AK AT lim b pc pc [] := by
  intro σ vs σ2 h
  cases h
  exact ⟨q_le.rf _, fun st hc hl K => K⟩
theorem k_cons {f : q_X} {fs : List q_X} (lim_of : ∀ a c : q_H, q_le a c → lim c → lim a) (hf : q_XK AT lim b pc p1 f) (hfs : q_AK AT lim (b + 2) p1 p2 fs) : q_AK AT lim b pc p2 (f :: fs) := by
  intro σ vs σ2 h
  unfold q_ev at h
  split at h
  · next v1 σ1 e1 =>
    split at h
    · next us s2 e2 =>
      cases h
      obtain ⟨a1, a2⟩ := hf _ _ _ e1
      obtain ⟨b1, b2⟩ := hfs _ _ _ e2
      exact ⟨a1.tr b1, fun st hc hl K => a2 st hc (lim_of _ _ b1 hl) (b2 _ (by rw [q_cat_cons]; have := q_cat_le v1; omega) hl (by simpa using K))⟩
    · cases h
  · cases h
theorem k_xm {m : q_M} {fs : List q_X} (lim_of : ∀ a c : q_H, q_le a c → lim c → lim a) (hb : b ≤ 8) (hfs : q_AK AT lim b pc p1 fs) (hm : q_KK AT lim p1 p2 m) : q_XK AT lim b pc p2 (xM m fs) := by
  intro σ v σ2 h
  unfold xM at h
  split at h
  · next vs σ1 e1 =>
    split at h
    · next u h2 e2 =>
      cases h
      obtain ⟨a1, a2⟩ := hfs _ _ _ e1
      obtain ⟨b1, b2⟩ := hm _ _ _ _ [] e2
      exact ⟨a1.tr b1, fun st hc hl K => a2 st hc (lim_of _ _ b1 hl) ((hm _ _ _ _ st e2).2 (by omega) hl K)⟩
    · cases h
  · cases h
theorem k_smp {m : q_M} {fs : List q_X} (lim_of : ∀ a c : q_H, q_le a c → lim c → lim a) (hfs : q_AK AT lim 0 pc p1 fs) (hm : q_KK AT lim p1 p2 m) (hp : ∀ (σ : q_S) (vs : List Value) (v : Value) (h : q_H), m vs σ.2 = some (some v, h) → AT n (σ.1, h) [] → AT p2 (σ.1, h) [v]) : q_TK AT RT lim pc n (sMp m fs) := by
  intro σ
  unfold sMp
  split
  · next vs σ1 e1 =>
    split
    · next u h2 e2 =>
      obtain ⟨a1, a2⟩ := hfs _ _ _ e1
      obtain ⟨b1, b2⟩ := hm _ _ _ _ [] e2
      refine ⟨fun σ2 h => ?_, fun v h hh => by cases hh⟩
      cases h
      exact ⟨a1.tr b1, fun hl K => a2 [] (Nat.le_refl _) (lim_of _ _ b1 hl) (b2 (by simp [q_cat]) hl (hp _ _ _ _ e2 K))⟩
    · exact ⟨fun σ2 h => by (cases h), fun v h hh => by (cases hh)⟩
  · exact ⟨fun σ2 h => by (cases h), fun v h hh => by (cases hh)⟩
theorem k_sm {m : q_M} {fs : List q_X} (lim_of : ∀ a c : q_H, q_le a c → lim c → lim a) (hfs : q_AK AT lim 0 pc p1 fs) (hm : q_KK AT lim p1 n m) : q_TK AT RT lim pc n (sM m fs) := by
  intro σ
  unfold sM
  split
  · next vs σ1 e1 =>
    split
    · next h2 e2 =>
      obtain ⟨a1, a2⟩ := hfs _ _ _ e1
      obtain ⟨b1, b2⟩ := hm _ _ _ _ [] e2
      refine ⟨fun σ2 h => ?_, fun v h hh => by cases hh⟩
      cases h
      exact ⟨a1.tr b1, fun hl K => a2 [] (Nat.le_refl _) (lim_of _ _ b1 hl) (b2 (by simp [q_cat]) hl K)⟩
    · exact ⟨fun σ2 h => by (cases h), fun v h hh => by (cases hh)⟩
  · exact ⟨fun σ2 h => by (cases h), fun v h hh => by (cases hh)⟩
theorem k_and {a c : q_C} (lim_of : ∀ a c : q_H, q_le a c → lim c → lim a) (ha : q_CK AT lim b pc p1 F a) (hc : q_CK AT lim b p1 T F c) : q_CK AT lim b pc T F (cAnd a c) := by
  intro σ v σ2 h
  unfold cAnd at h
  split at h
  · next x σ1 e1 =>
    obtain ⟨a1, a2⟩ := ha _ _ _ e1
    by_cases hx : x = true
    · rw [if_pos hx] at h
      obtain ⟨b1, b2⟩ := hc _ _ _ h
      exact ⟨a1.tr b1, fun st hc hl KT KF => a2 st hc (lim_of _ _ b1 hl) (fun _ => b2 st hc hl KT KF) (fun h0 => by rw [hx] at h0; cases h0)⟩
    · rw [if_neg hx] at h
      cases h
      exact ⟨a1, fun st hc hl KT KF => a2 st hc hl (fun h0 => absurd h0 hx) (fun _ => KF rfl)⟩
  · cases h
theorem k_or {a c : q_C} (lim_of : ∀ a c : q_H, q_le a c → lim c → lim a) (ha : q_CK AT lim b pc T p1 a) (hc : q_CK AT lim b p1 T F c) : q_CK AT lim b pc T F (cOr a c) := by
  intro σ v σ2 h
  unfold cOr at h
  split at h
  · next x σ1 e1 =>
    obtain ⟨a1, a2⟩ := ha _ _ _ e1
    by_cases hx : x = true
    · rw [if_pos hx] at h
      cases h
      exact ⟨a1, fun st hc hl KT KF => a2 st hc hl (fun _ => KT rfl) (fun h0 => by rw [hx] at h0; cases h0)⟩
    · rw [if_neg hx] at h
      obtain ⟨b1, b2⟩ := hc _ _ _ h
      exact ⟨a1.tr b1, fun st hc hl KT KF => a2 st hc (lim_of _ _ b1 hl) (fun h0 => absurd h0 hx) (fun _ => b2 st hc hl KT KF)⟩
  · cases h
theorem k_not {a : q_C} (ha : q_CK AT lim b pc F T a) : q_CK AT lim b pc T F (cNot a) := by
  intro σ v σ2 h
  unfold cNot at h
  split at h
  · next x σ1 e1 =>
    cases h
    obtain ⟨a1, a2⟩ := ha _ _ _ e1
    exact ⟨a1, fun st hc hl KT KF => a2 st hc hl (fun h0 => KF (by rw [h0]; rfl)) (fun h0 => KT (by rw [h0]; rfl))⟩
  · cases h
theorem k_toT {a : q_C} (ha : q_CK AT lim b pc T F a) (hj : q_GK AT T n) : q_CK AT lim b pc n F a := fun σ v σ2 h => ⟨(ha σ v σ2 h).1, fun st hc hl KT KF => (ha σ v σ2 h).2 st hc hl (fun e => hj _ _ (KT e)) KF⟩
theorem k_toF {a : q_C} (ha : q_CK AT lim b pc T F a) (hj : q_GK AT F n) : q_CK AT lim b pc T n a := fun σ v σ2 h => ⟨(ha σ v σ2 h).1, fun st hc hl KT KF => (ha σ v σ2 h).2 st hc hl KT (fun e => hj _ _ (KF e))⟩
theorem k_cT (hj : q_GK AT pc T) : q_CK AT lim b pc T F cT := by
  intro σ v σ2 h
  cases h
  exact ⟨q_le.rf _, fun st hc hl KT KF => hj _ _ (KT rfl)⟩
theorem k_gid : q_GK AT pc pc := fun _ _ h => h
theorem k_skip : q_TK AT RT lim pc pc sSkip := fun σ => ⟨fun σ2 h => by cases h; exact ⟨q_le.rf _, fun hl K => K⟩, fun v h hh => by cases hh⟩
theorem k_seq {f g : q_T} (lim_of : ∀ a c : q_H, q_le a c → lim c → lim a) (hf : q_TK AT RT lim pc p1 f) (hg : q_TK AT RT lim p1 n g) : q_TK AT RT lim pc n (sSeq f g) := by
  intro σ
  unfold sSeq
  split
  · next σ1 e1 =>
    obtain ⟨a1, a2⟩ := (hf σ).1 _ e1
    refine ⟨fun σ2 h => ?_, fun v h hh => ?_⟩
    · obtain ⟨b1, b2⟩ := (hg σ1).1 _ h
      exact ⟨a1.tr b1, fun hl K => a2 (lim_of _ _ b1 hl) (b2 hl K)⟩
    · obtain ⟨b1, b2⟩ := (hg σ1).2 _ _ hh
      exact ⟨a1.tr b1, fun hl K => a2 (lim_of _ _ b1 hl) (b2 hl K)⟩
  · next z hz =>
    refine ⟨fun σ2 h => absurd h (hz σ2), fun v h hh => (hf σ).2 _ _ hh⟩
theorem k_goto {f : q_T} (hf : q_TK AT RT lim pc p1 f) (hj : q_GK AT p1 n) : q_TK AT RT lim pc n f := fun σ => ⟨fun σ2 h => ⟨((hf σ).1 σ2 h).1, fun hl K => ((hf σ).1 σ2 h).2 hl (hj _ _ K)⟩, (hf σ).2⟩
theorem k_sif {c : q_C} {f g : q_T} (lim_of : ∀ a c : q_H, q_le a c → lim c → lim a) (hc : q_CK AT lim 0 pc T F c) (hf : q_TK AT RT lim T n f) (hg : q_TK AT RT lim F n g) : q_TK AT RT lim pc n (sIf c f g) := by
  intro σ
  unfold sIf
  split
  · next x σ1 e1 =>
    obtain ⟨a1, a2⟩ := hc _ _ _ e1
    have z0 : q_cat [] ≤ 0 := Nat.le_refl _
    by_cases hx : x = true
    · rw [if_pos hx]
      refine ⟨fun σ2 h => ?_, fun v h hh => ?_⟩
      · obtain ⟨b1, b2⟩ := (hf σ1).1 _ h
        exact ⟨a1.tr b1, fun hl K => a2 [] z0 (lim_of _ _ b1 hl) (fun _ => b2 hl K) (fun h0 => by rw [hx] at h0; cases h0)⟩
      · obtain ⟨b1, b2⟩ := (hf σ1).2 _ _ hh
        exact ⟨a1.tr b1, fun hl K => a2 [] z0 (lim_of _ _ b1 hl) (fun _ => b2 hl K) (fun h0 => by rw [hx] at h0; cases h0)⟩
    · rw [if_neg hx]
      refine ⟨fun σ2 h => ?_, fun v h hh => ?_⟩
      · obtain ⟨b1, b2⟩ := (hg σ1).1 _ h
        exact ⟨a1.tr b1, fun hl K => a2 [] z0 (lim_of _ _ b1 hl) (fun h0 => absurd h0 hx) (fun _ => b2 hl K)⟩
      · obtain ⟨b1, b2⟩ := (hg σ1).2 _ _ hh
        exact ⟨a1.tr b1, fun hl K => a2 [] z0 (lim_of _ _ b1 hl) (fun h0 => absurd h0 hx) (fun _ => b2 hl K)⟩
  · exact ⟨fun σ2 h => by (cases h), fun v h hh => by (cases hh)⟩
theorem k_whn {c : q_C} {f : q_T} (lim_of : ∀ a c : q_H, q_le a c → lim c → lim a) (hc : q_CK AT lim 0 pc T F c) (hf : q_TK AT RT lim T pc f) (k : Nat) : q_TK AT RT lim pc F (q_wh c f k) := by
  induction k with
  | zero => exact fun σ => ⟨fun σ2 h => by (cases h), fun v h hh => by (cases hh)⟩
  | succ k ih =>
    intro σ
    unfold q_wh
    split
    · next x σ1 e1 =>
      obtain ⟨a1, a2⟩ := hc _ _ _ e1
      have z0 : q_cat [] ≤ 0 := Nat.le_refl _
      by_cases hx : x = true
      · rw [if_pos hx]
        split
        · next σ2 e2 =>
          obtain ⟨b1, b2⟩ := (hf σ1).1 _ e2
          refine ⟨fun σ3 h => ?_, fun v h hh => ?_⟩
          · obtain ⟨d1, d2⟩ := (ih σ2).1 _ h
            exact ⟨(a1.tr b1).tr d1, fun hl K => a2 [] z0 (lim_of _ _ (b1.tr d1) hl) (fun _ => b2 (lim_of _ _ d1 hl) (d2 hl K)) (fun h0 => by rw [hx] at h0; cases h0)⟩
          · obtain ⟨d1, d2⟩ := (ih σ2).2 _ _ hh
            exact ⟨(a1.tr b1).tr d1, fun hl K => a2 [] z0 (lim_of _ _ (b1.tr d1) hl) (fun _ => b2 (lim_of _ _ d1 hl) (d2 hl K)) (fun h0 => by rw [hx] at h0; cases h0)⟩
        · next z hz =>
          refine ⟨fun σ3 h => absurd h (hz σ3), fun v h hh => ?_⟩
          obtain ⟨b1, b2⟩ := (hf σ1).2 _ _ hh
          exact ⟨a1.tr b1, fun hl K => a2 [] z0 (lim_of _ _ b1 hl) (fun _ => b2 hl K) (fun h0 => by rw [hx] at h0; cases h0)⟩
      · rw [if_neg hx]
        refine ⟨fun σ2 h => ?_, fun v h hh => by cases hh⟩
        cases h
        exact ⟨a1, fun hl K => a2 [] z0 hl (fun h0 => absurd h0 hx) (fun _ => K)⟩
    · exact ⟨fun σ2 h => by (cases h), fun v h hh => by (cases hh)⟩
theorem k_wh {c : q_C} {f : q_T} (lim_of : ∀ a c : q_H, q_le a c → lim c → lim a) (hc : q_CK AT lim 0 pc T F c) (hf : q_TK AT RT lim T pc f) : q_TK AT RT lim pc F (sWh c f) := k_whn lim_of hc hf q_fuel
/-- for ever: only a return leaves it -/
theorem k_lp {f : q_T} (lim_of : ∀ a c : q_H, q_le a c → lim c → lim a) (hf : q_TK AT RT lim pc pc f) : q_TK AT RT lim pc n (sWh cT f) := by
  intro σ
  have h := k_whn (F := n) lim_of (k_cT (lim := lim) (b := 0) (F := n) (k_gid (AT := AT) (pc := pc))) hf q_fuel σ
  exact h
theorem k_s2 {f1 f2 : q_X} {g : q_H → Value → Value → Option q_H} (lim_of : ∀ a c : q_H, q_le a c → lim c → lim a) (hf : q_XK AT lim 0 pc p1 f1) (hf2 : q_XK AT lim 2 p1 p2 f2) (hg : q_E2 AT p2 n g) : q_TK AT RT lim pc n (s2 g f1 f2) := by
  intro σ
  refine ⟨fun σ2 h => ?_, fun v h hh => ?_⟩
  · unfold s2 at h
    split at h
    · next v1 σ1 e1 =>
      split at h
      · next u s2 e2 =>
        split at h
        · next z e3 =>
          cases h
          obtain ⟨a1, a2⟩ := hf _ _ _ e1
          obtain ⟨b1, b2⟩ := hf2 _ _ _ e2
          obtain ⟨d1, d2⟩ := hg _ _ _ _ [] e3
          exact ⟨(a1.tr b1).tr d1, fun hl K => a2 [] (Nat.le_refl _) (lim_of _ _ (b1.tr d1) hl) (b2 _ (by rw [q_cat_cons]; have := q_cat_le v1; simp [q_cat]; omega) (lim_of _ _ d1 hl) (d2 K))⟩
        · cases h
      · cases h
    · cases h
  · unfold s2 at hh
    split at hh
    · split at hh
      · split at hh <;> cases hh
      · cases hh
    · cases hh
theorem k_s3 {f1 f2 f3 : q_X} {g : q_H → Value → Value → Value → Option q_H} {p4 : Nat} (lim_of : ∀ a c : q_H, q_le a c → lim c → lim a) (hf : q_XK AT lim 0 pc p1 f1) (hf2 : q_XK AT lim 2 p1 p2 f2) (hf3 : q_XK AT lim 4 p2 p4 f3) (hg : q_E3 AT p4 n g) : q_TK AT RT lim pc n (s3 g f1 f2 f3) := by
  intro σ
  refine ⟨fun σ2 h => ?_, fun v h hh => ?_⟩
  · unfold s3 at h
    split at h
    · next v1 σ1 e1 =>
      split at h
      · next u t2 e2 =>
        split at h
        · next t t3 e3 =>
          split at h
          · next z e4 =>
            cases h
            obtain ⟨a1, a2⟩ := hf _ _ _ e1
            obtain ⟨b1, b2⟩ := hf2 _ _ _ e2
            obtain ⟨d1, d2⟩ := hf3 _ _ _ e3
            obtain ⟨g1, g2⟩ := hg _ _ _ _ _ [] e4
            exact ⟨((a1.tr b1).tr d1).tr g1, fun hl K => a2 [] (Nat.le_refl _) (lim_of _ _ ((b1.tr d1).tr g1) hl) (b2 _ (by rw [q_cat_cons]; have := q_cat_le v1; simp [q_cat]; omega) (lim_of _ _ (d1.tr g1) hl) (d2 _ (by rw [q_cat_cons, q_cat_cons]; have := q_cat_le v1; have := q_cat_le u; simp [q_cat]; omega) (lim_of _ _ g1 hl) (g2 K)))⟩
          · cases h
        · cases h
      · cases h
    · cases h
  · unfold s3 at hh
    split at hh
    · split at hh
      · split at hh
        · split at hh <;> cases hh
        · cases hh
      · cases hh
    · cases hh
theorem k_s2u {f g : q_X} {gt : q_H → Value → Option Value} {op : q_H → Value → Value → Option Value} {pt : q_H → Value → Value → Option q_H} {p4 p5 : Nat} (lim_of : ∀ a c : q_H, q_le a c → lim c → lim a) (hf : q_XK AT lim 0 pc p1 f) (hd : ∀ σ v st, (∃ u, gt σ.2 v = some u) → AT p2 σ (v :: v :: st) → AT p1 σ (v :: st)) (hgt : q_O1 AT p2 p3 gt) (hg : q_XK AT lim 4 p3 p4 g) (hop : q_O2 AT p4 p5 op) (hpt : q_E2 AT p5 n pt) : q_TK AT RT lim pc n (s2u gt op pt f g) := by
  intro σ
  refine ⟨fun σ2 h => ?_, fun v h hh => ?_⟩
  · unfold s2u at h
    split at h
    · next v1 σ1 e1 =>
      split at h
      · next a e2 =>
        split at h
        · next u t2 e3 =>
          split at h
          · next z e4 =>
            split at h
            · next h9 e5 =>
              cases h
              obtain ⟨a1, a2⟩ := hf _ _ _ e1
              obtain ⟨b1, b2⟩ := hg _ _ _ e3
              obtain ⟨d1, d2⟩ := hpt _ _ _ _ [] e5
              exact ⟨(a1.tr b1).tr d1, fun hl K => a2 [] (Nat.le_refl _) (lim_of _ _ (b1.tr d1) hl) (hd _ _ _ ⟨_, e2⟩ (hgt _ _ _ _ e2 (b2 _ (by rw [q_cat_cons, q_cat_cons]; have := q_cat_le v1; have := q_cat_le a; simp [q_cat]; omega) (lim_of _ _ d1 hl) (hop _ _ _ _ _ e4 (d2 K)))))⟩
            · cases h
          · cases h
        · cases h
      · cases h
    · cases h
  · unfold s2u at hh
    split at hh
    · split at hh
      · split at hh
        · split at hh
          · split at hh <;> cases hh
          · cases hh
        · cases hh
      · cases hh
    · cases hh
theorem k_s3u {f1 f2 g : q_X} {gt : q_H → Value → Value → Option Value} {op : q_H → Value → Value → Option Value} {pt : q_H → Value → Value → Value → Option q_H} {p4 p5 p6 : Nat} (lim_of : ∀ a c : q_H, q_le a c → lim c → lim a) (hf : q_XK AT lim 0 pc p1 f1) (hf2 : q_XK AT lim 2 p1 p2 f2) (hd : ∀ σ v t st, (∃ u, gt σ.2 v t = some u) → AT p3 σ (t :: v :: t :: v :: st) → AT p2 σ (t :: v :: st)) (hgt : q_O2 AT p3 p4 gt) (hg : q_XK AT lim 6 p4 p5 g) (hop : q_O2 AT p5 p6 op) (hpt : q_E3 AT p6 n pt) : q_TK AT RT lim pc n (s3u gt op pt f1 f2 g) := by
  intro σ
  refine ⟨fun σ2 h => ?_, fun v h hh => ?_⟩
  · unfold s3u at h
    split at h
    · next v1 σ1 e1 =>
      split at h
      · next t1 τ2 e2 =>
        split at h
        · next a e3 =>
          split at h
          · next u τ3 e4 =>
            split at h
            · next z e5 =>
              split at h
              · next h9 e6 =>
                cases h
                obtain ⟨a1, a2⟩ := hf _ _ _ e1
                obtain ⟨b1, b2⟩ := hf2 _ _ _ e2
                obtain ⟨c1, c2⟩ := hg _ _ _ e4
                obtain ⟨d1, d2⟩ := hpt _ _ _ _ _ [] e6
                exact ⟨((a1.tr b1).tr c1).tr d1, fun hl K => a2 [] (Nat.le_refl _) (lim_of _ _ ((b1.tr c1).tr d1) hl) (b2 _ (by rw [q_cat_cons]; have := q_cat_le v1; simp [q_cat]; omega) (lim_of _ _ (c1.tr d1) hl) (hd _ _ _ _ ⟨_, e3⟩ (hgt _ _ _ _ _ e3 (c2 _ (by rw [q_cat_cons, q_cat_cons, q_cat_cons]; have := q_cat_le v1; have := q_cat_le a; have := q_cat_le t1; simp [q_cat]; omega) (lim_of _ _ d1 hl) (hop _ _ _ _ _ e5 (d2 K))))))⟩
              · cases h
            · cases h
          · cases h
        · cases h
      · cases h
    · cases h
  · unfold s3u at hh
    split at hh
    · split at hh
      · split at hh
        · split at hh
          · split at hh
            · split at hh <;> cases hh
            · cases hh
          · cases hh
        · cases hh
      · cases hh
    · cases hh
end
