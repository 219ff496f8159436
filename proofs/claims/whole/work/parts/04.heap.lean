/-! THE HEAP'S ROWS: fields, arrays, new ones -/
def q_ty (tys : List (ClassId × FieldType)) : Prop := (∃ c, tys[0]? = some (c, .int)) ∧ (∃ c, tys[1]? = some (c, .long)) ∧ ∀ (t : Nat) (C : String), q_an[t]? = some C → ∃ c, tys[t + 2]? = some (c, .object C)
/-- what is known of a class of own objects -/
def q_CO (cl : List vw_C) (ci : Nat) (C : String) (T : u_T) (N : Nat) : Prop := cl[ci]? = some (C, T, N) ∧ (∀ w ∈ u_ws C T N, w ∈ q_tb) ∧ (∃ ty0 : Nat → FieldType, ∀ k, k < N → parseFieldDescriptor (T k).2.2.1 = some (ty0 k)) ∧ (∀ a, a < N → ∀ b, b < N → a ≠ b → (T a).2.1 ≠ (T b).2.1) ∧ (∀ k, k < N → (T k).1 = C)
def q_FL (own : String) (x : Nat) (C n d : String) : Prop := Cond.fieldLink own x C n d ∈ q_tb ∨ ∃ host, Cond.fieldLinkNest own x C n d host ∈ q_nest
def q_fa (d : Nat → Int32) (k : Nat) : Option (Option Nat) → Value
  | none => .int (d k)
  | some r => va_rf r
theorem q_fa_cv (ad : Nat → Nat) (d : Nat → Int32) (k : Nat) (f : Option (Option Nat)) : q_cv ad (q_fa d k f) = q_fv ad d k f := by
  cases f with
  | none => rfl
  | some r => exact q_cv_rf ad r
theorem q_fs_at (ad : Nat → Nat) (d : Nat → Int32) {fl : List (Option (Option Nat))} {k : Nat} {f : Option (Option Nat)} (h : fl[k]? = some f) : (q_fs ad d fl)[k]? = some (q_cv ad (q_fa d k f)) := by
  unfold q_fs
  rw [List.getElem?_mapIdx, h, q_fa_cv]
  rfl
theorem q_fs_len (ad : Nat → Nat) (d : Nat → Int32) (fl : List (Option (Option Nat))) : (q_fs ad d fl).length = fl.length := by
  unfold q_fs
  rw [List.length_mapIdx]
theorem q_fs_set (ad : Nat → Nat) (d : Nat → Nat → Int32) {fl : List (Option (Option Nat))} {o k : Nat} (v : Int32) (h : fl[k]? = some none) : (q_fs ad (d o) fl).set k (.int v) = q_fs ad (q_d d o k v o) fl := by
  apply List.ext_getElem?
  intro j
  unfold q_fs
  rw [List.getElem?_set, List.length_mapIdx, List.getElem?_mapIdx, List.getElem?_mapIdx]
  by_cases e : k = j
  · subst e
    rw [if_pos rfl, h, if_pos (List.getElem?_eq_some_iff.mp h).1]
    simp [q_fv, q_d]
  · rw [if_neg e]
    cases hj : fl[j]? with
    | none => rfl
    | some f =>
      cases f with
      | none => simp [q_fv, q_d, Ne.symm e]
      | some r => rfl
theorem q_fs_setR (ad : Nat → Nat) (d : Nat → Int32) {fl : List (Option (Option Nat))} {k : Nat} (r : Nat) {f : Option Nat} (h : fl[k]? = some (some f)) : (q_fs ad d fl).set k (.ref (ad r)) = q_fs ad d (fl.set k (some (some r))) := by
  apply List.ext_getElem?
  intro j
  unfold q_fs
  rw [List.getElem?_set, List.length_mapIdx, List.getElem?_mapIdx, List.getElem?_mapIdx, List.getElem?_set]
  by_cases e : k = j
  · subst e
    rw [if_pos rfl, if_pos rfl, if_pos (List.getElem?_eq_some_iff.mp h).1, if_pos (List.getElem?_eq_some_iff.mp h).1]
    simp [q_fv, va_rf]
  · rw [if_neg e, if_neg e]
section
variable {D : va_G} {cl : List vw_C} {tys : List (ClassId × FieldType)} {ad : Nat → Nat} {b0 : Nat} {Hb : Heap}
theorem q_P1 {h : q_H} {H : Heap} (hP : q_P D cl tys ad h H) {o : Nat} {sh : q_Sh} (hs : h.1[o]? = some sh) : va_P D cl [(ad o, q_E tys ad h.2.1 h.2.2 o sh)] H := by
  intro k q hq
  match k, hq with
  | 0, hq => cases hq; exact hP o sh hs
  | k + 1, hq => simp at hq
theorem q_adne (had : ∀ o, o < 100000 → ad o = b0 + o) {h : q_H} (hz : h.1.length ≤ 100000) {o o2 : Nat} {sh sh2 : q_Sh} (h1 : h.1[o]? = some sh) (h2 : h.1[o2]? = some sh2) (hne : o2 ≠ o) : ad o2 ≠ ad o := by
  have g1 := (List.getElem?_eq_some_iff.mp h1).1
  have g2 := (List.getElem?_eq_some_iff.mp h2).1
  rw [had o (by omega), had o2 (by omega)]
  omega
theorem q_lta (had : ∀ o, o < 100000 → ad o = b0 + o) {h : q_H} (hz : h.1.length ≤ 100000) {o : Nat} {sh : q_Sh} (h1 : h.1[o]? = some sh) : b0 ≤ ad o := by
  have g1 := (List.getElem?_eq_some_iff.mp h1).1
  rw [had o (by omega)]
  omega
/-- one object changed, all else stays -/
theorem q_I_upd (had : ∀ o, o < 100000 → ad o = b0 + o) {h h2 : q_H} {H H1 : Heap} {locs locs1 : List Loc} (hI : q_I D cl tys ad b0 Hb h H locs) {o : Nat} {sh : q_Sh} (hs : h.1[o]? = some sh) (hz : h2.1.length = h.1.length)
    (ho : ∀ o2, o2 ≠ o → h2.1[o2]? = h.1[o2]? ∧ h2.2.1 o2 = h.2.1 o2 ∧ h2.2.2 o2 = h.2.2 o2)
    (hn : ∀ sh2, h2.1[o]? = some sh2 → va_at D cl (ad o, q_E tys ad h2.2.1 h2.2.2 o sh2) H1) (e2 : H1.size = H.size) (e3 : ∀ q : Nat, q ≠ ad o → H1[q]? = H[q]?) (hl : ∀ x ∈ locs1, x ∈ locs ∨ x.base = ad o) : q_I D cl tys ad b0 Hb h2 H1 locs1 := by
  obtain ⟨i1, i2, i3, i4, i5⟩ := hI
  have hlo := q_lta had i3 hs
  refine ⟨fun o2 sh2 hs2 => ?_, by rw [e2, i2, hz], by rw [hz]; exact i3, fun q hq => (e3 q (by omega)).trans (i4 q hq), fun x hx => ?_⟩
  · by_cases e : o2 = o
    · subst e; exact hn sh2 hs2
    · obtain ⟨g1, g2, g3⟩ := ho o2 e
      rw [g1] at hs2
      have hk := (i1 o2 sh2 hs2).kept (e3 (ad o2) (q_adne had i3 hs hs2 e))
      have ee : q_E tys ad h2.2.1 h2.2.2 o2 sh2 = q_E tys ad h.2.1 h.2.2 o2 sh2 := by
        cases sh2 with
        | inl a => obtain ⟨t, n⟩ := a; match t with
          | 0 => simp only [q_E, g2]
          | t + 1 => simp only [q_E, g3]
        | inr a => cases a with
          | inl a => rfl
          | inr a => simp only [q_E, g2]
      rw [ee]
      exact hk
  · rcases hl x hx with g | g
    · exact i5 x g
    · rw [g]; exact hlo
end
section
variable {p : Program} {l : Launch} {e : Env} {R : Room} {s : State} {m : MethodId} {args : Array Value} {below : List Frame} {meth : Method} {c : Code} {Q : State → Prop} {cc : ByteArray} {nL n0 s0 : Nat} {own : String} {D : va_G} {cl : List vw_C} {tys : List (ClassId × FieldType)} {ad : Nat → Nat} {b0 : Nat} {Hb : Heap}
theorem q1_getfield (C : q_Cx p R s m args c cc nL own D cl tys ad b0 Hb n0 s0) {pc x o ci k N : Nat} {σ : q_S} {st : List Value} {cn : String} {T : u_T} {fl : List (Option (Option Nat))} {f : Option (Option Nat)} (hd : decode cc pc = .ok (.getfield x, 3)) (O : q_CO cl ci cn T N) (hk : k < N) (F : q_FL own x cn (T k).2.1 (T k).2.2.1) (hs : σ.2.1[o]? = some (.inr (.inr (ci, fl)))) (hf : fl[k]? = some f) (K : q_at p l e R s m args below meth c Q nL n0 s0 D cl tys ad b0 Hb (pc + 3) σ (q_fa (σ.2.2.1 o) k f :: st)) : q_at p l e R s m args below meth c Q nL n0 s0 D cl tys ad b0 Hb pc σ (.ref o :: st) := by
  intro H locs ls hL hI hl
  obtain ⟨o1, o2, ⟨ty0, o3⟩, o4, o5⟩ := O
  have hts := C.2.2.2.2.1
  have hv := q_fs_at ad (σ.2.2.1 o) hf
  have hsame : ∀ z, s.fieldFound? (T k).1 (T k).2.1 (T k).2.2.1 = some z → s.fieldFound? cn (T k).2.1 (T k).2.2.1 = some z := by rw [o5 k hk]; exact fun _ h => h
  rcases F with F | ⟨host, F⟩
  · exact va_get C.1 C.2.1 hts o2 C.2.2.2.1 C.2.2.2.2.2.1.1 (q_P1 hI.1 hs) 0 rfl o1 k hk (hts _ F) hsame hv hd (K H locs ls hL hI hl)
  · exact va_getN C.1 C.2.1 hts o2 C.2.2.2.1 C.2.2.2.2.2.1.1 (q_P1 hI.1 hs) 0 rfl o1 k hk ((C.2.2.2.2.2.1.2.1 _ F).use rfl) hsame hv hd (K H locs ls hL hI hl)
theorem q1_putfield (C : q_Cx p R s m args c cc nL own D cl tys ad b0 Hb n0 s0) {pc x o ci k N : Nat} {σ : q_S} {st : List Value} {cn : String} {T : u_T} {fl : List (Option (Option Nat))} {v : Int32} {ty : FieldType} (hd : decode cc pc = .ok (.putfield x, 3)) (O : q_CO cl ci cn T N) (hk : k < N) (F : q_FL own x cn (T k).2.1 (T k).2.2.1) (hfin : (T k).2.2.2 = false) (hty : parseFieldDescriptor (T k).2.2.1 = some ty) (hn : narrow ty (.int v) = .int v) (hfit : fits ty (.int v) = true) (hs : σ.2.1[o]? = some (.inr (.inr (ci, fl)))) (hf : fl[k]? = some none) (K : q_at p l e R s m args below meth c Q nL n0 s0 D cl tys ad b0 Hb (pc + 3) (σ.1, σ.2.1, q_d σ.2.2.1 o k v, σ.2.2.2) st) : q_at p l e R s m args below meth c Q nL n0 s0 D cl tys ad b0 Hb pc σ (.int v :: .ref o :: st) := by
  intro H locs ls hL hI hl
  obtain ⟨o1, o2, ⟨ty0, o3⟩, o4, o5⟩ := O
  have hts := C.2.2.2.2.1
  have hown := C.2.2.2.1
  have hK := C.2.2.2.2.2.1.1
  have had := C.2.2.2.2.2.2.1
  have hap := va_apart (own := own) hts o2 ty0 o3 o4 hK o1
  have hlen : k < (q_fs ad (σ.2.2.1 o) fl).length := by rw [q_fs_len]; exact (List.getElem?_eq_some_iff.mp hf).1
  obtain ⟨r, h1, cell, q1, q2, q3, q4⟩ := hI.1 o _ hs
  have hr : r = (cn, T, N) := Option.some.inj (h1.symm.trans o1)
  subst hr
  obtain ⟨hS, hfc, kC, hkC, hkind⟩ := hK.1 ci _ o1
  obtain ⟨cf, kf, fi, f, hi, hsl⟩ := hS k hk
  have hlay := hts _ (o2 _ (u_in_lay hk))
  unfold u_lay at hlay
  rw [if_neg (by rw [hfin]; decide)] at hlay
  have hst := (u_facts hfc hkC (u_lays hts o2 hk) hi).1
  have h6 := u_store hfc hkC hkind hlay hi hty hn hfit
  have hfound : s.fieldFound? cn (T k).2.1 (T k).2.2.1 = some (cf, kf, fi, f) := by rw [← o5 k hk]; exact hi
  have fin : ∀ H1 : Heap, H1[ad o]? = some (cell.setSlot f.slot (.int v)) → H1.size = H.size → (∀ q, q ≠ ad o → H1[q]? = H[q]?) → W p l e R s m args below meth c H1 (locs ++ [⟨ad o, f.slot⟩]) (σ.2.1.length - n0) (q_sl σ.2.1 - s0) Q (F0 m (pc + 3) ls (st.map (q_cv ad))) := by
    intro H1 e1 e2 e3
    rw [hsl] at e1 ⊢
    refine K H1 _ ls hL (q_I_upd had hI hs rfl (fun o2 hne => ⟨rfl, by funext b; simp [q_d, hne], rfl⟩) (fun sh2 hs2 => ?_) e2 e3 (fun x hx => (List.mem_append.mp hx).imp id (fun hx => by rw [List.mem_singleton.mp hx]))) hl
    cases hs.symm.trans hs2
    refine ⟨_, o1, ?_⟩
    show t_OB _ _ _ _ _ (vp_V (q_fs ad (q_d σ.2.2.1 o k v o) fl))
    rw [← q_fs_set ad σ.2.2.1 v hf]
    exact t_OB.to (V := updV (vp_V (q_fs ad (σ.2.2.1 o) fl)) k (.int v)) ⟨_, e1, q2, q3, t_set q4 hap hk (.int v)⟩ (fun j _ => vp_updV_set hlen (.int v) j)
  rcases F with F | ⟨host, F⟩
  · exact W.putK C.1 C.2.1 (f := f) ⟨hown, hts _ F, ⟨_, _, _, hfound⟩, hst⟩ (by rw [q2]; exact h6) q1 q3 (by rw [hsl]; exact k2_hasslot (q4 k hk)) rfl rfl hd fin
  · exact va_WputK C.1 C.2.1 hown ((C.2.2.2.2.2.1.2.1 _ F).use rfl) hfound hst (by rw [q2]; exact h6) q1 q3 (by rw [hsl]; exact k2_hasslot (q4 k hk)) rfl rfl hd fin
/-- a final field that holds a reference, in a constructor -/
theorem q1_putfieldR (C : q_Cx p R s m args c cc nL own D cl tys ad b0 Hb n0 s0) (hini : meth.name = "<init>") {pc x o ci k N r : Nat} {σ : q_S} {st : List Value} {T : u_T} {fl : List (Option (Option Nat))} {f0 : Option Nat} {ty : FieldType} (hd : decode cc pc = .ok (.putfield x, 3)) (O : q_CO cl ci own T N) (hk : k < N) (F : Cond.fieldLink own x own (T k).2.1 (T k).2.2.1 ∈ q_tb) (hfin : (T k).2.2.2 = true) (hty : parseFieldDescriptor (T k).2.2.1 = some ty) (hn : ∀ a, narrow ty (.ref a) = .ref a) (hfit : ∀ a, fits ty (.ref a) = true) (hs : σ.2.1[o]? = some (.inr (.inr (ci, fl)))) (hf : fl[k]? = some (some f0)) (K : q_at p l e R s m args below meth c Q nL n0 s0 D cl tys ad b0 Hb (pc + 3) (σ.1, σ.2.1.set o (.inr (.inr (ci, fl.set k (some (some r))))), σ.2.2) st) : q_at p l e R s m args below meth c Q nL n0 s0 D cl tys ad b0 Hb pc σ (.ref r :: .ref o :: st) := by
  intro H locs ls hL hI hl
  obtain ⟨o1, o2, ⟨ty0, o3⟩, o4, o5⟩ := O
  have hts := C.2.2.2.2.1
  have hown := C.2.2.2.1
  have hK := C.2.2.2.2.2.1.1
  have had := C.2.2.2.2.2.2.1
  have hap := va_apart (own := own) hts o2 ty0 o3 o4 hK o1
  have hlen : k < (q_fs ad (σ.2.2.1 o) fl).length := by rw [q_fs_len]; exact (List.getElem?_eq_some_iff.mp hf).1
  have holt := (List.getElem?_eq_some_iff.mp hs).1
  obtain ⟨r9, h1, cell, q1, q2, q3, q4⟩ := hI.1 o _ hs
  have hr : r9 = (own, T, N) := Option.some.inj (h1.symm.trans o1)
  subst hr
  obtain ⟨hS, hfc, kC, hkC, hkind⟩ := hK.1 ci _ o1
  obtain ⟨cf, kf, fi, f, hi, hsl⟩ := hS k hk
  have hlay := hts _ (o2 _ (u_in_lay hk))
  unfold u_lay at hlay
  rw [if_pos hfin] at hlay
  have hst := (u_facts hfc hkC (u_lays hts o2 hk) hi).1
  have hcf : m.cls = cf := by
    obtain ⟨_, _, c', _, _, _, -, -, hf', -, -, -, hown2, -⟩ := Cond.laysFinal_spec hlay
    have e1 : c' = cf := by have := hi.symm.trans hf'; simp at this; exact this.1.symm
    rw [o5 k hk] at hown2
    rw [← e1]; exact Option.some.inj (hown.symm.trans hown2)
  have h6 := u_fits hfc hkC hkind (Or.inr hlay) hi hty (hn (ad r)) (hfit (ad r))
  have hfound : s.fieldFound? own (T k).2.1 (T k).2.2.1 = some (cf, kf, fi, f) := by rw [← o5 k hk]; exact hi
  refine W.putFinK C.1 C.2.1 hown (hts _ F) hfound hst hcf hini (by rw [q2]; exact h6) q1 q3 (by rw [hsl]; exact k2_hasslot (q4 k hk)) rfl rfl hd fun H1 e1 e2 e3 => ?_
  rw [hsl] at e1 ⊢
  have hsl2 : q_sl (σ.2.1.set o (.inr (.inr (ci, fl.set k (some (some r)))))) = q_sl σ.2.1 := q_sl_set hs (by simp [q_sz])
  have K2 := K H1 (locs ++ [⟨ad o, D.2 ci k⟩]) ls ⟨hL.1, by rw [List.length_set]; exact hL.2.1, by rw [hsl2]; exact hL.2.2⟩ (q_I_upd had hI hs (by simp) (fun o2 hne => ⟨by show (σ.2.1.set o _)[o2]? = _; rw [List.getElem?_set_ne (Ne.symm hne)], rfl, rfl⟩) (fun sh2 hs2 => ?_) e2 e3 (fun x hx => (List.mem_append.mp hx).imp id (fun hx => by rw [List.mem_singleton.mp hx]))) hl
  · simp only [List.length_set, hsl2] at K2
    exact K2
  · have hs2 : (σ.2.1.set o (.inr (.inr (ci, fl.set k (some (some r))))))[o]? = some sh2 := hs2
    rw [List.getElem?_set_self holt] at hs2
    cases hs2
    refine ⟨_, o1, ?_⟩
    show t_OB _ _ _ _ _ (vp_V (q_fs ad (σ.2.2.1 o) (fl.set k (some (some r)))))
    rw [← q_fs_setR ad (σ.2.2.1 o) r hf]
    exact t_OB.to (V := updV (vp_V (q_fs ad (σ.2.2.1 o) fl)) k (.ref (ad r))) ⟨_, e1, q2, q3, t_set q4 hap hk (.ref (ad r))⟩ (fun j _ => vp_updV_set hlen (.ref (ad r)) j)
theorem q1_iaload (C : q_Cx p R s m args c cc nL own D cl tys ad b0 Hb n0 s0) (Y : q_ty tys) {pc o n : Nat} {i : Int32} {σ : q_S} {st : List Value} (hd : decode cc pc = .ok (.iaload, 1)) (hs : σ.2.1[o]? = some (.inl (0, n))) (hin : vp_in i n) (K : q_at p l e R s m args below meth c Q nL n0 s0 D cl tys ad b0 Hb (pc + 1) σ (.int (σ.2.2.1 o i.toNatClampNeg) :: st)) : q_at p l e R s m args below meth c Q nL n0 s0 D cl tys ad b0 Hb pc σ (.int i :: .ref o :: st) := by
  intro H locs ls hL hI hl
  obtain ⟨⟨cI, y0⟩, -, -⟩ := Y
  have hp := q_P1 hI.1 hs
  simp only [q_E, List.getD, y0, Option.getD_some] at hp
  exact va_iald C.1 C.2.1 C.2.2.2.2.2.1.1 hp 0 0 rfl y0 hin hd (K H locs ls hL hI hl)
theorem q1_laload (C : q_Cx p R s m args c cc nL own D cl tys ad b0 Hb n0 s0) (Y : q_ty tys) {pc o n : Nat} {i : Int32} {σ : q_S} {st : List Value} (hd : decode cc pc = .ok (.laload, 1)) (hs : σ.2.1[o]? = some (.inl (1, n))) (hin : vp_in i n) (K : q_at p l e R s m args below meth c Q nL n0 s0 D cl tys ad b0 Hb (pc + 1) σ (.long (σ.2.2.2 o i.toNatClampNeg) :: st)) : q_at p l e R s m args below meth c Q nL n0 s0 D cl tys ad b0 Hb pc σ (.int i :: .ref o :: st) := by
  intro H locs ls hL hI hl
  obtain ⟨-, ⟨cI, y0⟩, -⟩ := Y
  have hp := q_P1 hI.1 hs
  simp only [q_E, List.getD, y0, Option.getD_some] at hp
  exact va_lald C.1 C.2.1 C.2.2.2.2.2.1.1 hp 0 1 rfl y0 hin hd (K H locs ls hL hI hl)
theorem q1_aaload (C : q_Cx p R s m args c cc nL own D cl tys ad b0 Hb n0 s0) (Y : q_ty tys) {pc o t : Nat} {r : List (Option Nat)} {cn : String} {i : Int32} {σ : q_S} {st : List Value} (hd : decode cc pc = .ok (.aaload, 1)) (ht : q_an[t]? = some cn) (hs : σ.2.1[o]? = some (.inr (.inl (t + 2, r)))) (hin : vp_in i r.length) (K : q_at p l e R s m args below meth c Q nL n0 s0 D cl tys ad b0 Hb (pc + 1) σ (va_rf (r.getD i.toNatClampNeg none) :: st)) : q_at p l e R s m args below meth c Q nL n0 s0 D cl tys ad b0 Hb pc σ (.int i :: .ref o :: st) := by
  intro H locs ls hL hI hl
  obtain ⟨-, -, y0⟩ := Y
  obtain ⟨cI, y0⟩ := y0 t cn ht
  have hp := q_P1 hI.1 hs
  simp only [q_E, List.getD, y0, Option.getD_some] at hp
  have K2 := K H locs ls hL hI hl
  rw [List.map_cons, q_cv_rf] at K2
  exact va_aldq C.1 C.2.1 C.2.2.2.2.2.1.1 hp 0 (t + 2) rfl y0 hin hd K2
theorem q1_alenI (C : q_Cx p R s m args c cc nL own D cl tys ad b0 Hb n0 s0) (Y : q_ty tys) {pc o n : Nat} {σ : q_S} {st : List Value} (hd : decode cc pc = .ok (.arraylength, 1)) (hs : σ.2.1[o]? = some (.inl (0, n))) (K : q_at p l e R s m args below meth c Q nL n0 s0 D cl tys ad b0 Hb (pc + 1) σ (.int (Int32.ofNat n) :: st)) : q_at p l e R s m args below meth c Q nL n0 s0 D cl tys ad b0 Hb pc σ (.ref o :: st) := by
  intro H locs ls hL hI hl
  obtain ⟨⟨cI, y0⟩, -, -⟩ := Y
  have hp := q_P1 hI.1 hs
  simp only [q_E, List.getD, y0, Option.getD_some] at hp
  exact va_alen C.1 C.2.1 C.2.2.2.2.2.1.1 hp 0 0 rfl y0 rfl hd (K H locs ls hL hI hl)
theorem q1_iastore (C : q_Cx p R s m args c cc nL own D cl tys ad b0 Hb n0 s0) (Y : q_ty tys) {pc o n : Nat} {i v : Int32} {σ : q_S} {st : List Value} (hd : decode cc pc = .ok (.iastore, 1)) (hs : σ.2.1[o]? = some (.inl (0, n))) (hin : vp_in i n) (K : q_at p l e R s m args below meth c Q nL n0 s0 D cl tys ad b0 Hb (pc + 1) (σ.1, σ.2.1, q_d σ.2.2.1 o i.toNatClampNeg v, σ.2.2.2) st) : q_at p l e R s m args below meth c Q nL n0 s0 D cl tys ad b0 Hb pc σ (.int v :: .int i :: .ref o :: st) := by
  intro H locs ls hL hI hl
  obtain ⟨⟨cI, y0⟩, -, -⟩ := Y
  have had := C.2.2.2.2.2.2.1
  have ha := hI.1 o _ hs
  simp only [q_E, List.getD, y0, Option.getD_some] at ha
  refine W.iast C.1 C.2.1 ha ((C.2.2.2.2.2.1.1.2 0 _ y0).1 n (fun j => .int (σ.2.2.1 o j))) (fun q => by cases q) (by show ¬ (i < 0 ∨ (arrV _ _ _).slots.size ≤ _); rw [arrV_size]; exact hin) rfl rfl hd fun H1 e1 e2 e3 => ?_
  refine K H1 _ ls hL (q_I_upd had hI hs rfl (fun o2 hne => ⟨rfl, by funext b; simp [q_d, hne], rfl⟩) (fun sh2 hs2 => ?_) e2 e3 (fun x hx => (List.mem_append.mp hx).imp id (fun hx => by rw [List.mem_singleton.mp hx]))) hl
  cases hs.symm.trans hs2
  simp only [q_E, List.getD, y0, Option.getD_some]
  show H1[ad o]? = some (vp_cell _ _)
  rw [e1]
  rw [vp_cell_i, vp_cell_i, arrV_store]
  congr 2
  funext q
  by_cases hq : q = i.toNatClampNeg
  · subst hq
    simp [updV, q_d]
  · simp [updV, q_d, hq]
theorem q1_lastore (C : q_Cx p R s m args c cc nL own D cl tys ad b0 Hb n0 s0) (Y : q_ty tys) {pc o n : Nat} {i : Int32} {v : Int64} {σ : q_S} {st : List Value} (hd : decode cc pc = .ok (.lastore, 1)) (hs : σ.2.1[o]? = some (.inl (1, n))) (hin : vp_in i n) (K : q_at p l e R s m args below meth c Q nL n0 s0 D cl tys ad b0 Hb (pc + 1) (σ.1, σ.2.1, σ.2.2.1, q_w σ.2.2.2 o i.toNatClampNeg v) st) : q_at p l e R s m args below meth c Q nL n0 s0 D cl tys ad b0 Hb pc σ (.long v :: .int i :: .ref o :: st) := by
  intro H locs ls hL hI hl
  obtain ⟨-, ⟨cI, y0⟩, -⟩ := Y
  have had := C.2.2.2.2.2.2.1
  have ha := hI.1 o _ hs
  simp only [q_E, List.getD, y0, Option.getD_some] at ha
  refine W.last C.1 C.2.1 ha ((C.2.2.2.2.2.1.1.2 1 _ y0).1 n (fun j => .long (σ.2.2.2 o j))) (fun q => by cases q) (by show ¬ (i < 0 ∨ (arrV _ _ _).slots.size ≤ _); rw [arrV_size]; exact hin) rfl rfl hd fun H1 e1 e2 e3 => ?_
  refine K H1 _ ls hL (q_I_upd had hI hs rfl (fun o2 hne => ⟨rfl, rfl, by funext b; simp [q_w, hne]⟩) (fun sh2 hs2 => ?_) e2 e3 (fun x hx => (List.mem_append.mp hx).imp id (fun hx => by rw [List.mem_singleton.mp hx]))) hl
  cases hs.symm.trans hs2
  simp only [q_E, List.getD, y0, Option.getD_some]
  show H1[ad o]? = some (vp_cell _ _)
  rw [e1]
  rw [vp_cell_l, vp_cell_l, arrV_store]
  congr 2
  funext q
  by_cases hq : q = i.toNatClampNeg
  · subst hq
    simp [updV, q_w]
  · simp [updV, q_w, hq]
theorem q1_aastore (C : q_Cx p R s m args c cc nL own D cl tys ad b0 Hb n0 s0) (Y : q_ty tys) {pc o t v ci N : Nat} {r : List (Option Nat)} {cn : String} {T : u_T} {fl : List (Option (Option Nat))} {i : Int32} {σ : q_S} {st : List Value} (hd : decode cc pc = .ok (.aastore, 1)) (ht : q_an[t]? = some cn) (hs : σ.2.1[o]? = some (.inr (.inl (t + 2, r)))) (hv : σ.2.1[v]? = some (.inr (.inr (ci, fl)))) (hc : cl[ci]? = some (cn, T, N)) (hin : vp_in i r.length) (K : q_at p l e R s m args below meth c Q nL n0 s0 D cl tys ad b0 Hb (pc + 1) (σ.1, σ.2.1.set o (.inr (.inl (t + 2, r.set i.toNatClampNeg (some v)))), σ.2.2) st) : q_at p l e R s m args below meth c Q nL n0 s0 D cl tys ad b0 Hb pc σ (.ref v :: .int i :: .ref o :: st) := by
  intro H locs ls hL hI hl
  obtain ⟨-, -, y0⟩ := Y
  obtain ⟨cI, y0⟩ := y0 t cn ht
  have had := C.2.2.2.2.2.2.1
  have hK := C.2.2.2.2.2.1.1
  have ha := hI.1 o _ hs
  have holt := (List.getElem?_eq_some_iff.mp hs).1
  simp only [q_E, List.getD, y0, Option.getD_some] at ha
  have hlt : i.toNatClampNeg < r.length := Nat.not_le.mp fun q => hin (Or.inr q)
  have h0 : ¬ i < 0 := fun q => hin (Or.inl q)
  obtain ⟨r', hr', cellV, g1, g2, g3, -⟩ := hI.1 v _ hv
  have hcls := (hK.1 ci _ hc).2
  obtain ⟨kA, comp, k1, k2, k3, -⟩ := (hK.2 (t + 2) _ y0).2
  have hcomp : comp = D.1 ci := Option.some.inj (k3.symm.trans hcls.1)
  subst hcomp
  obtain ⟨kC, hkC, -⟩ := hcls.2
  refine W.aast C.1 C.2.1 ha (fun q h => by cases h) (fun h => by cases h) k1 k2 rfl hkC ⟨h0, by show _ < (arrV _ _ _).slots.size; rw [arrV_size]; exact hlt⟩ g1 (fun q h => by rw [g3] at h; cases h) (by rw [g2]; exact hkC) (by rw [g2]; exact va_assign hcls) rfl rfl hd fun H1 e1 e2 e3 => ?_
  have hsl2 : q_sl (σ.2.1.set o (.inr (.inl (t + 2, r.set i.toNatClampNeg (some v))))) = q_sl σ.2.1 := q_sl_set hs (by simp [q_sz])
  have K2 := K H1 (locs ++ [⟨ad o, i.toNatClampNeg⟩]) ls ⟨hL.1, by rw [List.length_set]; exact hL.2.1, by rw [hsl2]; exact hL.2.2⟩ (q_I_upd had hI hs (by simp) (fun o2 hne => ⟨by show (σ.2.1.set o _)[o2]? = _; rw [List.getElem?_set_ne (Ne.symm hne)], rfl, rfl⟩) (fun sh2 hs2 => ?_) e2 e3 (fun x hx => (List.mem_append.mp hx).imp id (fun hx => by rw [List.mem_singleton.mp hx]))) hl
  · simp only [List.length_set, hsl2] at K2
    exact K2
  · have hs2 : (σ.2.1.set o (.inr (.inl (t + 2, r.set i.toNatClampNeg (some v)))))[o]? = some sh2 := hs2
    rw [List.getElem?_set_self holt] at hs2
    cases hs2
    simp only [q_E, List.getD, y0, Option.getD_some]
    show H1[ad o]? = some (vp_cell _ _)
    rw [e1]
    rw [vp_cell_q, vp_cell_q, arrV_store, List.length_set]
    congr 2
    funext q
    by_cases hq : q = i.toNatClampNeg
    · subst hq
      simp [updV, va_rf, hlt]
    · simp [updV, hq, List.getElem?_set_ne (Ne.symm hq)]
end
