/-! NEW OBJECTS, CALLS, A METHOD'S START AND END -/
abbrev q_M : Type := List Value → q_H → Option (Option Value × q_H)
def q_z (d : Nat → Nat → Int32) (o : Nat) : Nat → Nat → Int32 := fun a b => if a = o then 0 else d a b
def q_zw (d : Nat → Nat → Int64) (o : Nat) : Nat → Nat → Int64 := fun a b => if a = o then 0 else d a b
def q_flok (T : u_T) (N : Nat) (fl : List (Option (Option Nat))) : Bool := fl.length == N && (List.range N).all fun j => match parseFieldDescriptor (T j).2.2.1 with
  | some ty => (fl[j]? == some none && defaultValue ty == .int 0) || (fl[j]? == some (some none) && defaultValue ty == .null)
  | none => false
def q_ML (own : String) (x : Nat) (y : MethodName) : Prop := Cond.methodLink own x y ∈ q_tb ∨ ∃ host, Cond.methodLinkNest own x y host ∈ q_nest
theorem q_nest_tab {w : Cond} (h : w ∈ q_nest) : w.onTables = true := by
  have h2 := (List.mem_filter.mp h).2
  cases w <;> first | rfl | simp [q_isN] at h2
theorem q_nest_warm {w : Cond} (h : w ∈ q_nest) {s U : State} (hW : s.WarmedH U.vm) (hZ : va_Nw w s) : va_Nw w U := by
  have h2 := (List.mem_filter.mp h).2
  cases w <;> first | exact hZ.warmF hW | exact hZ.warmM hW | simp [q_isN] at h2
theorem q_Env.warm {D : va_G} {cl : List vw_C} {tys : List (ClassId × FieldType)} {ad : Nat → Nat} {b0 : Nat} {Hb : Heap} {s U : State} (h : q_Env D cl tys ad b0 Hb s) (hW : s.WarmedH U.vm) : q_Env D cl tys ad b0 Hb U := ⟨va_K.moved hW.alike h.1, fun w hw => q_nest_warm hw hW (h.2.1 w hw), fun cn hc => va_AO.moved hW.alike (h.2.2.1 cn hc), h.2.2.2.1, h.2.2.2.2.1.moved hW.alike, h.2.2.2.2.2.1.moved hW.alike, h.2.2.2.2.2.2.1.moved hW.alike, h.2.2.2.2.2.2.2.1.warm hW, h.2.2.2.2.2.2.2.2.1.warm hW, h.2.2.2.2.2.2.2.2.2.warm hW⟩
theorem q_Env.calling {D : va_G} {cl : List vw_C} {tys : List (ClassId × FieldType)} {ad : Nat → Nat} {b0 : Nat} {Hb : Heap} {U : State} (h : q_Env D cl tys ad b0 Hb U) (g : JFrame) (mk : MethodId) (a : Array Value) : q_Env D cl tys ad b0 Hb (U.calling g mk a) := ⟨va_K.moved (u := U) (U := U.calling g mk a) (Vm.Alike.refl U.vm) h.1, fun w hw => va_Nw.same (u := U) (U := U.calling g mk a) (q_nest_tab hw) rfl (h.2.1 w hw), fun cn hc => va_AO.moved (u := U) (U := U.calling g mk a) (Vm.Alike.refl U.vm) (h.2.2.1 cn hc), h.2.2.2.1, vk_S.moved (u := U) (U := U.calling g mk a) (Vm.Alike.refl U.vm) h.2.2.2.2.1, va_Z.moved (u := U) (U := U.calling g mk a) (Vm.Alike.refl U.vm) h.2.2.2.2.2.1, va_Z.moved (u := U) (U := U.calling g mk a) (Vm.Alike.refl U.vm) h.2.2.2.2.2.2.1, vk_R.same (u := U) (U := U.calling g mk a) rfl h.2.2.2.2.2.2.2.1, vk_R.same (u := U) (U := U.calling g mk a) rfl h.2.2.2.2.2.2.2.2.1, vk_R.same (u := U) (U := U.calling g mk a) rfl h.2.2.2.2.2.2.2.2.2⟩
def q_B (D : va_G) (cl : List vw_C) (tys : List (ClassId × FieldType)) (ad : Nat → Nat) (b0 : Nat) (Hb : Heap) (h : q_H) : State → Prop := fun U => q_Env D cl tys ad b0 Hb U ∧ q_I D cl tys ad b0 Hb h U.heap []
def q_Q (D : va_G) (cl : List vw_C) (tys : List (ClassId × FieldType)) (ad : Nat → Nat) (b0 : Nat) (Hb : Heap) (r : Option Value) (h2 : q_H) : Array Value → State → Outcome → State → Prop := fun _ _ oc t => oc = .returned (r.map (q_cv ad)) ∧ q_I D cl tys ad b0 Hb h2 t.heap []
def q_rm (fr lo : Nat) (h h2 : q_H) : Room := { frames := fr, cells := h2.1.length - h.1.length, slots := q_sl h2.1 - q_sl h.1, locals := lo }
/-- a method does what f says -/
def q_Met (l : Launch) (D : va_G) (cl : List vw_C) (tys : List (ClassId × FieldType)) (ad : Nat → Nat) (b0 : Nat) (Hb : Heap) (y : MethodName) (cc : ByteArray) (mL : Nat) (ret : Option FieldType) (ar fr lo : Nat) (f : q_M) : Prop :=
  ∀ (as : List Value) (h : q_H) (r : Option Value) (h2 : q_H), f as h = some (r, h2) → as.length = ar ∧ q_le h h2 ∧ (h2.1.length ≤ 100000 →
    Met l y (.code y cc mL ret :: q_tb) (q_rm fr lo h h2) (va_Pc (as.map (q_cv ad)) (q_B D cl tys ad b0 Hb h)) (q_Q D cl tys ad b0 Hb r h2) (h2.1.length - h.1.length) (q_sl h2.1 - q_sl h.1) (fun q => b0 ≤ q))
theorem q_blind {D : va_G} {cl : List vw_C} {tys : List (ClassId × FieldType)} {ad : Nat → Nat} {b0 : Nat} {Hb : Heap} {h : q_H} {as : List Value} : FrameBlind (va_Pc as (q_B D cl tys ad b0 Hb h)) := fun a U g mk hp => ⟨hp.1, hp.2.1.calling g mk a, hp.2.2⟩
theorem q_I_forget {D : va_G} {cl : List vw_C} {tys : List (ClassId × FieldType)} {ad : Nat → Nat} {b0 : Nat} {Hb : Heap} {h : q_H} {H : Heap} {locs : List Loc} (hI : q_I D cl tys ad b0 Hb h H locs) : q_I D cl tys ad b0 Hb h H [] := ⟨hI.1, hI.2.1, hI.2.2.1, hI.2.2.2.1, fun _ hx => by cases hx⟩
/-- one object more -/
theorem q_I_push {D : va_G} {cl : List vw_C} {tys : List (ClassId × FieldType)} {ad : Nat → Nat} {b0 : Nat} {Hb : Heap} {h : q_H} {d2 : Nat → Nat → Int32} {w2 : Nat → Nat → Int64} {H H1 : Heap} {locs : List Loc} (hI : q_I D cl tys ad b0 Hb h H locs) (hz : h.1.length + 1 ≤ 100000) (sh : q_Sh)
    (hd : ∀ o, o < h.1.length → d2 o = h.2.1 o ∧ w2 o = h.2.2 o) (e1 : va_at D cl (ad h.1.length, q_E tys ad d2 w2 h.1.length sh) H1) (e2 : H1.size = H.size + 1) (e3 : ∀ q : Nat, q < H.size → H1[q]? = H[q]?) : q_I D cl tys ad b0 Hb (h.1 ++ [sh], d2, w2) H1 locs := by
  obtain ⟨i1, i2, i3, i4, i5⟩ := hI
  refine ⟨fun o2 sh2 hs2 => ?_, by rw [e2, i2]; simp; omega, by simpa using hz, fun q hq => (e3 q (by omega)).trans (i4 q hq), i5⟩
  have hs2 : (h.1 ++ [sh])[o2]? = some sh2 := hs2
  by_cases e : o2 < h.1.length
  · rw [List.getElem?_append_left e] at hs2
    have ha := i1 o2 sh2 hs2
    have hk := ha.kept (e3 _ ha.lt)
    obtain ⟨g1, g2⟩ := hd o2 e
    have ee : q_E tys ad d2 w2 o2 sh2 = q_E tys ad h.2.1 h.2.2 o2 sh2 := by
      cases sh2 with
      | inl a => obtain ⟨t, n⟩ := a; match t with
        | 0 => simp only [q_E, g1]
        | t + 1 => simp only [q_E, g2]
      | inr a => cases a with
        | inl a => rfl
        | inr a => simp only [q_E, g1]
    show va_at D cl (ad o2, q_E tys ad d2 w2 o2 sh2) H1
    rw [ee]
    exact hk
  · rw [List.getElem?_append_right (by omega)] at hs2
    have e9 : o2 - h.1.length = 0 := by
      have := (List.getElem?_eq_some_iff.mp hs2).1
      simp at this
      omega
    rw [e9] at hs2
    cases hs2
    have e8 : o2 = h.1.length := by omega
    subst e8
    exact e1
section
variable {p : Program} {l : Launch} {e : Env} {R : Room} {s : State} {m : MethodId} {args : Array Value} {below : List Frame} {meth : Method} {c : Code} {Q : State → Prop} {cc : ByteArray} {nL n0 s0 : Nat} {own : String} {D : va_G} {cl : List vw_C} {tys : List (ClassId × FieldType)} {ad : Nat → Nat} {b0 : Nat} {Hb : Heap}
theorem q1_new (C : q_Cx p R s m args c cc nL own D cl tys ad b0 Hb n0 s0) {pc x ci N : Nat} {σ : q_S} {st : List Value} {cn : String} {T : u_T} {fl : List (Option (Option Nat))} (hd : decode cc pc = .ok (.new x, 3)) (O : q_CO cl ci cn T N) (w1 : Cond.classLink own x cn ∈ q_tb) (w2 : Cond.instantiable cn N ∈ q_tb) (w3 : Cond.initialized cn ∈ q_tb) (hfl : q_flok T N fl = true) (hlim : σ.2.1.length + 1 ≤ n0 + R.cells ∧ q_sl σ.2.1 + N ≤ s0 + R.slots ∧ σ.2.1.length + 1 ≤ 100000) (K : q_at p l e R s m args below meth c Q nL n0 s0 D cl tys ad b0 Hb (pc + 3) (σ.1, σ.2.1 ++ [.inr (.inr (ci, fl))], q_z σ.2.2.1 σ.2.1.length, σ.2.2.2) (.ref σ.2.1.length :: st)) : q_at p l e R s m args below meth c Q nL n0 s0 D cl tys ad b0 Hb pc σ st := by
  intro H locs ls hL hI hl
  obtain ⟨o1, o2, ⟨ty0, o3⟩, o4, o5⟩ := O
  have hts := C.2.2.2.2.1
  have had := C.2.2.2.2.2.2.1
  have hKn := C.2.2.2.2.2.1.1.1 ci _ o1
  obtain ⟨l1, l2, l3⟩ := hlim
  obtain ⟨hL1, hL2, hL3⟩ := hL
  have hf1 : fl.length = N := by
    unfold q_flok at hfl
    simp only [Bool.and_eq_true, beq_iff_eq] at hfl
    exact hfl.1
  have hf2 : ∀ j, j < N → defaultValue (ty0 j) = vp_V (q_fs ad (q_z σ.2.2.1 σ.2.1.length σ.2.1.length) fl) j := by
    intro j hj
    unfold q_flok at hfl
    simp only [Bool.and_eq_true, List.all_eq_true, List.mem_range] at hfl
    have h2 := hfl.2 j hj
    rw [o3 j hj] at h2
    simp only [Bool.or_eq_true, Bool.and_eq_true, beq_iff_eq] at h2
    unfold vp_V
    rcases h2 with ⟨g1, g2⟩ | ⟨g1, g2⟩
    · rw [List.getD_eq_getElem?_getD, q_fs_at ad _ g1, g2]
      simp [q_fa, q_cv, q_z]
    · rw [List.getD_eq_getElem?_getD, q_fs_at ad _ g1, g2]
      rfl
  have hHs : H.size = ad σ.2.1.length := by rw [had _ (by omega)]; exact hI.2.1
  refine W.newcK C.1 C.2.1 C.2.2.2.1 (hts _ w1) (hts _ w2) (hts _ w3) rfl hd (by omega) (by omega) hKn.2.1 hHs fun H1 kC hkC e1 z1 o1' => ?_
  have K2 := K H1 locs ls ⟨hL1, by simp; omega, by rw [q_sl_push]; omega⟩ (q_I_push hI l3 _ (fun o ho => ⟨by funext b; simp [q_z, Nat.ne_of_lt ho], rfl⟩) ⟨_, o1, (u_born ty0 hts o2 hKn hkC e1 o3).to hf2⟩ (by rw [z1, hHs]) (fun q hq => o1' q (by rw [← hHs]; exact hq))) hl
  have c1 : (σ.2.1 ++ [(.inr (.inr (ci, fl)) : q_Sh)]).length - n0 = σ.2.1.length - n0 + 1 := by simp; omega
  have c2 : q_sl (σ.2.1 ++ [(.inr (.inr (ci, fl)) : q_Sh)]) - s0 = q_sl σ.2.1 - s0 + N := by rw [q_sl_push]; simp [q_sz, hf1]; omega
  simp only [c1, c2] at K2
  exact K2

theorem q1_newarrayI (C : q_Cx p R s m args c cc nL own D cl tys ad b0 Hb n0 s0) (Y : q_ty tys) {pc N : Nat} {n : Int32} {σ : q_S} {st : List Value} (hd : decode cc pc = .ok (.newarray .int, 2)) (w1 : Cond.arrayClass .int ∈ q_tb) (hn : ¬ n < 0) (hN : n.toNatClampNeg = N) (hb : N ≤ 60000000) (hlim : σ.2.1.length + 1 ≤ n0 + R.cells ∧ q_sl σ.2.1 + N ≤ s0 + R.slots ∧ σ.2.1.length + 1 ≤ 100000) (K : q_at p l e R s m args below meth c Q nL n0 s0 D cl tys ad b0 Hb (pc + 2) (σ.1, σ.2.1 ++ [.inl (0, N)], q_z σ.2.2.1 σ.2.1.length, σ.2.2.2) (.ref σ.2.1.length :: st)) : q_at p l e R s m args below meth c Q nL n0 s0 D cl tys ad b0 Hb pc σ (.int n :: st) := by
  intro H locs ls hL hI hl
  obtain ⟨⟨cI, y0⟩, -, -⟩ := Y
  have hts := C.2.2.2.2.1
  have had := C.2.2.2.2.2.2.1
  obtain ⟨l1, l2, l3⟩ := hlim
  obtain ⟨hL1, hL2, hL3⟩ := hL
  have hHs : H.size = ad σ.2.1.length := by rw [had _ (by omega)]; exact hI.2.1
  have hname : s.vm.findClass ("[" ++ (.int : FieldType).toString) = some cI := (C.2.2.2.2.2.1.1.2 0 _ y0).2
  refine va_newaK C.1 C.2.1 (atype := .int) (hts _ w1) rfl hd rfl hn hN (by simp only [newarray.typeOf, componentBytes]; omega) (by omega) (by omega) hHs fun H1 cA e1 z1 o1 hAr hNm => ?_
  have hcA : cA = cI := Option.some.inj (hNm.symm.trans hname)
  subst hcA
  have K2 := K H1 locs ls ⟨hL1, by simp; omega, by rw [q_sl_push]; omega⟩ (q_I_push hI l3 _ (fun o ho => ⟨by funext b; simp [q_z, Nat.ne_of_lt ho], rfl⟩) (by
    simp only [q_E, List.getD, y0, Option.getD_some]
    show H1[ad σ.2.1.length]? = some (vp_cell _ _)
    rw [e1]
    simp only [vp_cell_i, q_z, if_true]
    rfl) (by rw [z1, hHs]) (fun q hq => o1 q (by rw [← hHs]; exact hq))) hl
  have c1 : (σ.2.1 ++ [(.inl (0, N) : q_Sh)]).length - n0 = σ.2.1.length - n0 + 1 := by simp; omega
  have c2 : q_sl (σ.2.1 ++ [(.inl (0, N) : q_Sh)]) - s0 = q_sl σ.2.1 - s0 + N := by rw [q_sl_push]; simp [q_sz]; omega
  simp only [c1, c2] at K2
  exact K2

theorem q1_newarrayJ (C : q_Cx p R s m args c cc nL own D cl tys ad b0 Hb n0 s0) (Y : q_ty tys) {pc N : Nat} {n : Int32} {σ : q_S} {st : List Value} (hd : decode cc pc = .ok (.newarray .long, 2)) (w1 : Cond.arrayClass .long ∈ q_tb) (hn : ¬ n < 0) (hN : n.toNatClampNeg = N) (hb : N ≤ 60000000) (hlim : σ.2.1.length + 1 ≤ n0 + R.cells ∧ q_sl σ.2.1 + N ≤ s0 + R.slots ∧ σ.2.1.length + 1 ≤ 100000) (K : q_at p l e R s m args below meth c Q nL n0 s0 D cl tys ad b0 Hb (pc + 2) (σ.1, σ.2.1 ++ [.inl (1, N)], σ.2.2.1, q_zw σ.2.2.2 σ.2.1.length) (.ref σ.2.1.length :: st)) : q_at p l e R s m args below meth c Q nL n0 s0 D cl tys ad b0 Hb pc σ (.int n :: st) := by
  intro H locs ls hL hI hl
  obtain ⟨-, ⟨cI, y0⟩, -⟩ := Y
  have hts := C.2.2.2.2.1
  have had := C.2.2.2.2.2.2.1
  obtain ⟨l1, l2, l3⟩ := hlim
  obtain ⟨hL1, hL2, hL3⟩ := hL
  have hHs : H.size = ad σ.2.1.length := by rw [had _ (by omega)]; exact hI.2.1
  have hname : s.vm.findClass ("[" ++ (.long : FieldType).toString) = some cI := (C.2.2.2.2.2.1.1.2 1 _ y0).2
  refine va_newaK C.1 C.2.1 (atype := .long) (hts _ w1) rfl hd rfl hn hN (by simp only [newarray.typeOf, componentBytes]; omega) (by omega) (by omega) hHs fun H1 cA e1 z1 o1 hAr hNm => ?_
  have hcA : cA = cI := Option.some.inj (hNm.symm.trans hname)
  subst hcA
  have K2 := K H1 locs ls ⟨hL1, by simp; omega, by rw [q_sl_push]; omega⟩ (q_I_push hI l3 _ (fun o ho => ⟨rfl, by funext b; simp [q_zw, Nat.ne_of_lt ho]⟩) (by
    simp only [q_E, List.getD, y0, Option.getD_some]
    show H1[ad σ.2.1.length]? = some (vp_cell _ _)
    rw [e1]
    simp only [vp_cell_l, q_zw, if_true]
    rfl) (by rw [z1, hHs]) (fun q hq => o1 q (by rw [← hHs]; exact hq))) hl
  have c1 : (σ.2.1 ++ [(.inl (1, N) : q_Sh)]).length - n0 = σ.2.1.length - n0 + 1 := by simp; omega
  have c2 : q_sl (σ.2.1 ++ [(.inl (1, N) : q_Sh)]) - s0 = q_sl σ.2.1 - s0 + N := by rw [q_sl_push]; simp [q_sz]; omega
  simp only [c1, c2] at K2
  exact K2

theorem q1_anewarray (C : q_Cx p R s m args c cc nL own D cl tys ad b0 Hb n0 s0) (Y : q_ty tys) {pc x t N : Nat} {n : Int32} {cn : String} {σ : q_S} {st : List Value} (hd : decode cc pc = .ok (.anewarray x, 3)) (ht : q_an[t]? = some cn) (w1 : Cond.classLink own x cn ∈ q_tb)  (hn : ¬ n < 0) (hN : n.toNatClampNeg = N) (hb : N ≤ 60000000) (hlim : σ.2.1.length + 1 ≤ n0 + R.cells ∧ q_sl σ.2.1 + N ≤ s0 + R.slots ∧ σ.2.1.length + 1 ≤ 100000) (K : q_at p l e R s m args below meth c Q nL n0 s0 D cl tys ad b0 Hb (pc + 3) (σ.1, σ.2.1 ++ [.inr (.inl (t + 2, List.replicate N none))], σ.2.2) (.ref σ.2.1.length :: st)) : q_at p l e R s m args below meth c Q nL n0 s0 D cl tys ad b0 Hb pc σ (.int n :: st) := by
  intro H locs ls hL hI hl
  obtain ⟨-, -, y0⟩ := Y
  obtain ⟨cI, y0⟩ := y0 t cn ht
  have hts := C.2.2.2.2.1
  have had := C.2.2.2.2.2.2.1
  obtain ⟨l1, l2, l3⟩ := hlim
  obtain ⟨hL1, hL2, hL3⟩ := hL
  have hHs : H.size = ad σ.2.1.length := by rw [had _ (by omega)]; exact hI.2.1
  obtain ⟨kA0, comp0, -, -, -, hname⟩ := (C.2.2.2.2.2.1.1.2 (t + 2) _ y0).2
  subst hN
  refine W.anew C.1 C.2.1 C.2.2.2.1 (hts _ w1) (va_AO.use (C.2.2.2.2.2.1.2.2.1 cn (List.mem_of_getElem? ht))) rfl hd rfl hn (by omega) (by omega) (by omega) fun cA kA comp f1 f2 f3 f4 => ?_
  have hcA : cA = cI := Option.some.inj (f1.symm.trans hname)
  subst hcA
  have K2 := K (H.push ({ cls := cA, slots := Array.replicate n.toNatClampNeg .null, vm := .none } : Cell)) locs ls ⟨hL1, by simp; omega, by rw [q_sl_push]; omega⟩ (q_I_push hI l3 _ (fun o ho => ⟨rfl, rfl⟩) (by
    simp only [q_E, List.getD, y0, Option.getD_some]
    show (H.push _)[ad σ.2.1.length]? = some (vp_cell _ _)
    rw [← hHs, Array.getElem?_push_size, arrV_new, vp_cell_q, List.length_replicate]
    congr 2
    funext k
    rw [List.getElem?_replicate]
    by_cases hk : k < n.toNatClampNeg <;> simp [hk, va_rf]) (by simp) (fun q hq => by rw [Array.getElem?_push, if_neg (Nat.ne_of_lt hq)])) hl
  have c1 : (σ.2.1 ++ [(.inr (.inl (t + 2, List.replicate n.toNatClampNeg none)) : q_Sh)]).length - n0 = σ.2.1.length - n0 + 1 := by simp; omega
  have c2 : q_sl (σ.2.1 ++ [(.inr (.inl (t + 2, List.replicate n.toNatClampNeg none)) : q_Sh)]) - s0 = q_sl σ.2.1 - s0 + n.toNatClampNeg := by rw [q_sl_push]; simp [q_sz]; omega
  simp only [c1, c2] at K2
  rw [hHs]
  exact K2
theorem q1_objInit (C : q_Cx p R s m args c cc nL own D cl tys ad b0 Hb n0 s0) {pc x o : Nat} {σ : q_S} {st : List Value} (hd : decode cc pc = .ok (.invokespecial x, 3)) (w1 : Cond.methodLink own x Lib.objectInit ∈ q_tb) (w2 : Cond.instanceMethod Lib.objectInit ∈ q_tb) (w3 : Cond.code Lib.objectInit ⟨#[0xb1]⟩ 1 none ∈ q_tb) (hr : 1 ≤ R.frames ∧ 20 ≤ R.locals) (hc : q_cat st ≤ 8) (K : q_at p l e R s m args below meth c Q nL n0 s0 D cl tys ad b0 Hb (pc + 3) σ st) : q_at p l e R s m args below meth c Q nL n0 s0 D cl tys ad b0 Hb pc σ (.ref o :: st) := by
  intro H locs ls hL hI hl
  have hts := C.2.2.2.2.1
  refine W.objInit C.1 C.2.1 C.2.2.2.1 (hts _ w1) (hts _ w2) (hts _ w3) rfl (by rw [C.2.2.1]; exact hl.1) rfl hd hr.1 ?_ (K H locs ls hL hI hl)
  rw [q_cat_cv]
  show 2 * 0 + _ + _ ≤ _
  omega
/-- behind a call -/
theorem q_called {a0 : Array Value} {pc : Nat} {σ : q_S} {h2 : q_H} {st sc : List Value} {r : Option Value} {mc ms : Nat} {H : Heap} {locs : List Loc} {ls : Array Slot}
    (hr : va_Run p l e R s m args below meth c H locs (σ.2.1.length - n0) (q_sl σ.2.1 - s0) mc ms (F0 m pc ls sc) (st.map (q_cv ad)) (q_Q D cl tys ad b0 Hb r h2 a0) (fun q => b0 ≤ q)) (hmc : mc = h2.1.length - σ.2.1.length) (hms : ms = q_sl h2.1 - q_sl σ.2.1) (hle : q_le σ.2 h2) (hL : σ.1.length = nL ∧ n0 ≤ σ.2.1.length ∧ s0 ≤ q_sl σ.2.1) (hI : q_I D cl tys ad b0 Hb σ.2 H locs) (hl : lv_has ls nL (q_lv ad σ.1)) (K : q_at p l e R s m args below meth c Q nL n0 s0 D cl tys ad b0 Hb (pc + 3) (σ.1, h2) (r.toList ++ st)) :
    W p l e R s m args below meth c H locs (σ.2.1.length - n0) (q_sl σ.2.1 - s0) Q (F0 m pc ls sc) := by
  intro T hT X
  obtain ⟨v, st₀, t, T', L, h0, X', hL2, e1, e2, ⟨hv, hI2⟩, hst⟩ := hr T hT X
  cases hv
  obtain ⟨le1, le2⟩ := hle
  have K2 := K T'.heap (locs ++ L) ls ⟨hL.1, Nat.le_trans hL.2.1 le1, Nat.le_trans hL.2.2 le2⟩ (by
    rw [e1]
    exact ⟨hI2.1, hI2.2.1, hI2.2.2.1, hI2.2.2.2.1, fun x hx => (List.mem_append.mp hx).elim (hI.2.2.2.2 x) (hL2 x)⟩) hl T' rfl
  have c1 : h2.1.length - n0 = σ.2.1.length - n0 + mc := by omega
  have c2 : q_sl h2.1 - s0 = q_sl σ.2.1 - s0 + ms := by omega
  simp only [c1, c2] at K2
  obtain ⟨t2, a1, b1⟩ := K2 X'
  refine ⟨t2, hst t2 ?_, b1⟩
  rw [List.map_append] at a1
  cases r <;> exact a1

theorem q1_callV (C : q_Cx p R s m args c cc nL own D cl tys ad b0 Hb n0 s0) {pc x mL ar fr lo n : Nat} {y : MethodName} {bytes : ByteArray} {ret : Option FieldType} {f : q_M} {σ : q_S} {h2 : q_H} {as st : List Value} {r : Option Value} (hM : q_Met l D cl tys ad b0 Hb y bytes mL ret ar fr lo f) (hd : decode cc pc = .ok (.invokevirtual x, 3)) (F : q_ML own x y) (w2 : Cond.code y bytes mL ret ∈ q_tb) (w3 : Cond.initialized y.cls ∈ q_tb) (hy : y.cls ≠ "java/lang/invoke/MethodHandle" ∧ y.cls ≠ "java/lang/invoke/VarHandle" ∧ (parseMethodDescriptor y.desc).map (fun d => d.parameters.length) = some n) (hn : as.length = n) (w4 : Cond.instanceMethod y ∈ q_tb) (w5 : Cond.selects y.cls y y ∈ q_tb) (hroom : fr + 1 ≤ R.frames ∧ 8 + (mL + 11) + lo ≤ R.locals) (hc : q_cat st ≤ 8) {o ci N : Nat} {T : u_T} {fl : List (Option (Option Nat))} (ho : σ.2.1[o]? = some (.inr (.inr (ci, fl)))) (hci : cl[ci]? = some (y.cls, T, N)) (hf : f (.ref o :: as) σ.2 = some (r, h2)) (hlim : h2.1.length ≤ n0 + R.cells ∧ q_sl h2.1 ≤ s0 + R.slots ∧ h2.1.length ≤ 100000) (K : q_at p l e R s m args below meth c Q nL n0 s0 D cl tys ad b0 Hb (pc + 3) (σ.1, h2) (r.toList ++ st)) : q_at p l e R s m args below meth c Q nL n0 s0 D cl tys ad b0 Hb pc σ (as.reverse ++ .ref o :: st) := by
  intro H locs ls hL hI hl
  obtain ⟨-, hle, hM⟩ := hM _ _ _ _ hf
  have hM := hM hlim.2.2
  obtain ⟨le1, le2⟩ := hle
  have hts := C.2.2.2.2.1
  have hEnv := C.2.2.2.2.2.1
  have hpay : ∀ w ∈ (Cond.code y bytes mL ret :: q_tb), ∀ (a' : Array Value) (U : State), s.WarmedH U.vm → w.before a' U = true := fun w hw a' U hW => by
    have hw2 : w ∈ q_tb := (List.mem_cons.mp hw).elim (fun h => h ▸ w2) id
    exact word_at hW (good_of_word (List.mem_filter.mp hw2).2) (hts w hw2)
  have hlen : ∀ sig, parseMethodDescriptor y.desc = some sig → n = sig.parameters.length := fun sig h => by
    have h2 := hy.2.2
    rw [h] at h2
    exact (Option.some.inj h2).symm
  have hB : ∀ U : State, U.heap = H → s.WarmedH U.vm → q_B D cl tys ad b0 Hb σ.2 U := fun U hU hW => ⟨hEnv.warm hW, by rw [hU]; exact q_I_forget hI⟩
  have hcat : 2 * (F0 m pc ls []).monitorRoom + ((st.map (q_cv ad)).map fun v => v.category).sum ≤ 8 := by rw [q_cat_cv]; show 2 * 0 + _ ≤ _; omega
  have hrec : ∃ cellB : Cell, H[ad o]? = some cellB ∧ cellB.vm.isStatics = false ∧ s.vm.findClass y.cls = some cellB.cls := va_recv hEnv.1 (q_P1 hI.1 ho) hci (q0 := 0) rfl
  have hstk : ((as.reverse ++ Value.ref o :: st).map (q_cv ad)) = (as.map (q_cv ad)).reverse ++ .ref (ad o) :: st.map (q_cv ad) := by simp [q_cv]
  rw [hstk]
  rcases F with F | ⟨host, F⟩
  · exact (q_called (a0 := ((Value.ref o :: as).map (q_cv ad)).toArray) (va_runV ⟨C.1, C.2.1, C.2.2.1, C.2.2.2.1, hts⟩ hM ⟨⟨rfl, rfl, hroom.1, hroom.2, hpay, List.mem_cons_self, hts _ w2, hts _ w3, ⟨hy.1, hy.2.1⟩, hlen, hts _ F⟩, hts _ w4, hts _ w5⟩ ⟨q_blind, hrec, fun U hU hW => ⟨rfl, hB U hU hW⟩⟩ rfl (by rw [List.length_map]; exact hn) hl.1 rfl hcat hd ⟨by omega, by omega⟩) rfl rfl ⟨le1, le2⟩ hL hI hl K)
  · exact (q_called (a0 := ((Value.ref o :: as).map (q_cv ad)).toArray) (va_runVN ⟨C.1, C.2.1, C.2.2.1, C.2.2.2.1, hts⟩ hM ⟨⟨⟨rfl, rfl, hroom.1, hroom.2, hpay, List.mem_cons_self⟩, hts _ w2, hts _ w3, ⟨hy.1, hy.2.1⟩, hlen, (hEnv.2.1 _ F).use rfl⟩, hts _ w4, hts _ w5⟩ ⟨q_blind, hrec, fun U hU hW => ⟨rfl, hB U hU hW⟩⟩ rfl (by rw [List.length_map]; exact hn) hl.1 rfl hcat hd ⟨by omega, by omega⟩) rfl rfl ⟨le1, le2⟩ hL hI hl K)
theorem q1_callVr (C : q_Cx p R s m args c cc nL own D cl tys ad b0 Hb n0 s0) {pc x mL ar fr lo n : Nat} {y : MethodName} {bytes : ByteArray} {ret : Option FieldType} {f : q_M} {σ : q_S} {h2 : q_H} {as st : List Value} {r : Option Value} (hM : q_Met l D cl tys ad b0 Hb y bytes mL ret ar fr lo f) (hd : decode cc pc = .ok (.invokevirtual x, 3)) (F : q_ML own x y) (w2 : Cond.code y bytes mL ret ∈ q_tb) (w3 : Cond.initialized y.cls ∈ q_tb) (hy : y.cls ≠ "java/lang/invoke/MethodHandle" ∧ y.cls ≠ "java/lang/invoke/VarHandle" ∧ (parseMethodDescriptor y.desc).map (fun d => d.parameters.length) = some n) (hn : as.length = n) (w4 : Cond.instanceMethod y ∈ q_tb) (w5 : Cond.selects y.cls y y ∈ q_tb) (hroom : fr + 1 ≤ R.frames ∧ 8 + (mL + 11) + lo ≤ R.locals) (hc : q_cat st ≤ 8) {o : Nat} (hrc : ∀ (H : Heap) (locs : List Loc), q_I D cl tys ad b0 Hb σ.2 H locs → n0 ≤ σ.2.1.length → ∃ cellB : Cell, H[ad o]? = some cellB ∧ cellB.vm.isStatics = false ∧ s.vm.findClass y.cls = some cellB.cls) (hf : f (.ref o :: as) σ.2 = some (r, h2)) (hlim : h2.1.length ≤ n0 + R.cells ∧ q_sl h2.1 ≤ s0 + R.slots ∧ h2.1.length ≤ 100000) (K : q_at p l e R s m args below meth c Q nL n0 s0 D cl tys ad b0 Hb (pc + 3) (σ.1, h2) (r.toList ++ st)) : q_at p l e R s m args below meth c Q nL n0 s0 D cl tys ad b0 Hb pc σ (as.reverse ++ .ref o :: st) := by
  intro H locs ls hL hI hl
  obtain ⟨-, hle, hM⟩ := hM _ _ _ _ hf
  have hM := hM hlim.2.2
  obtain ⟨le1, le2⟩ := hle
  have hts := C.2.2.2.2.1
  have hEnv := C.2.2.2.2.2.1
  have hpay : ∀ w ∈ (Cond.code y bytes mL ret :: q_tb), ∀ (a' : Array Value) (U : State), s.WarmedH U.vm → w.before a' U = true := fun w hw a' U hW => by
    have hw2 : w ∈ q_tb := (List.mem_cons.mp hw).elim (fun h => h ▸ w2) id
    exact word_at hW (good_of_word (List.mem_filter.mp hw2).2) (hts w hw2)
  have hlen : ∀ sig, parseMethodDescriptor y.desc = some sig → n = sig.parameters.length := fun sig h => by
    have h2 := hy.2.2
    rw [h] at h2
    exact (Option.some.inj h2).symm
  have hB : ∀ U : State, U.heap = H → s.WarmedH U.vm → q_B D cl tys ad b0 Hb σ.2 U := fun U hU hW => ⟨hEnv.warm hW, by rw [hU]; exact q_I_forget hI⟩
  have hcat : 2 * (F0 m pc ls []).monitorRoom + ((st.map (q_cv ad)).map fun v => v.category).sum ≤ 8 := by rw [q_cat_cv]; show 2 * 0 + _ ≤ _; omega
  have hrec : ∃ cellB : Cell, H[ad o]? = some cellB ∧ cellB.vm.isStatics = false ∧ s.vm.findClass y.cls = some cellB.cls := hrc H locs hI hL.2.1
  have hstk : ((as.reverse ++ Value.ref o :: st).map (q_cv ad)) = (as.map (q_cv ad)).reverse ++ .ref (ad o) :: st.map (q_cv ad) := by simp [q_cv]
  rw [hstk]
  rcases F with F | ⟨host, F⟩
  · exact (q_called (a0 := ((Value.ref o :: as).map (q_cv ad)).toArray) (va_runV ⟨C.1, C.2.1, C.2.2.1, C.2.2.2.1, hts⟩ hM ⟨⟨rfl, rfl, hroom.1, hroom.2, hpay, List.mem_cons_self, hts _ w2, hts _ w3, ⟨hy.1, hy.2.1⟩, hlen, hts _ F⟩, hts _ w4, hts _ w5⟩ ⟨q_blind, hrec, fun U hU hW => ⟨rfl, hB U hU hW⟩⟩ rfl (by rw [List.length_map]; exact hn) hl.1 rfl hcat hd ⟨by omega, by omega⟩) rfl rfl ⟨le1, le2⟩ hL hI hl K)
  · exact (q_called (a0 := ((Value.ref o :: as).map (q_cv ad)).toArray) (va_runVN ⟨C.1, C.2.1, C.2.2.1, C.2.2.2.1, hts⟩ hM ⟨⟨⟨rfl, rfl, hroom.1, hroom.2, hpay, List.mem_cons_self⟩, hts _ w2, hts _ w3, ⟨hy.1, hy.2.1⟩, hlen, (hEnv.2.1 _ F).use rfl⟩, hts _ w4, hts _ w5⟩ ⟨q_blind, hrec, fun U hU hW => ⟨rfl, hB U hU hW⟩⟩ rfl (by rw [List.length_map]; exact hn) hl.1 rfl hcat hd ⟨by omega, by omega⟩) rfl rfl ⟨le1, le2⟩ hL hI hl K)
theorem q1_callS (C : q_Cx p R s m args c cc nL own D cl tys ad b0 Hb n0 s0) {pc x mL ar fr lo n : Nat} {y : MethodName} {bytes : ByteArray} {ret : Option FieldType} {f : q_M} {σ : q_S} {h2 : q_H} {as st : List Value} {r : Option Value} (hM : q_Met l D cl tys ad b0 Hb y bytes mL ret ar fr lo f) (hd : decode cc pc = .ok (.invokestatic x, 3)) (F : q_ML own x y) (w2 : Cond.code y bytes mL ret ∈ q_tb) (w3 : Cond.initialized y.cls ∈ q_tb) (hy : y.cls ≠ "java/lang/invoke/MethodHandle" ∧ y.cls ≠ "java/lang/invoke/VarHandle" ∧ (parseMethodDescriptor y.desc).map (fun d => d.parameters.length) = some n) (hn : as.length = n) (w4 : Cond.static y ∈ q_tb) (hroom : fr + 1 ≤ R.frames ∧ 8 + (mL + 11) + lo ≤ R.locals) (hc : q_cat st ≤ 8) (hf : f as σ.2 = some (r, h2)) (hlim : h2.1.length ≤ n0 + R.cells ∧ q_sl h2.1 ≤ s0 + R.slots ∧ h2.1.length ≤ 100000) (K : q_at p l e R s m args below meth c Q nL n0 s0 D cl tys ad b0 Hb (pc + 3) (σ.1, h2) (r.toList ++ st)) : q_at p l e R s m args below meth c Q nL n0 s0 D cl tys ad b0 Hb pc σ (as.reverse ++ st) := by
  intro H locs ls hL hI hl
  obtain ⟨-, hle, hM⟩ := hM _ _ _ _ hf
  have hM := hM hlim.2.2
  obtain ⟨le1, le2⟩ := hle
  have hts := C.2.2.2.2.1
  have hEnv := C.2.2.2.2.2.1
  have hpay : ∀ w ∈ (Cond.code y bytes mL ret :: q_tb), ∀ (a' : Array Value) (U : State), s.WarmedH U.vm → w.before a' U = true := fun w hw a' U hW => by
    have hw2 : w ∈ q_tb := (List.mem_cons.mp hw).elim (fun h => h ▸ w2) id
    exact word_at hW (good_of_word (List.mem_filter.mp hw2).2) (hts w hw2)
  have hlen : ∀ sig, parseMethodDescriptor y.desc = some sig → n = sig.parameters.length := fun sig h => by
    have h2 := hy.2.2
    rw [h] at h2
    exact (Option.some.inj h2).symm
  have hB : ∀ U : State, U.heap = H → s.WarmedH U.vm → q_B D cl tys ad b0 Hb σ.2 U := fun U hU hW => ⟨hEnv.warm hW, by rw [hU]; exact q_I_forget hI⟩
  have hcat : 2 * (F0 m pc ls []).monitorRoom + ((st.map (q_cv ad)).map fun v => v.category).sum ≤ 8 := by rw [q_cat_cv]; show 2 * 0 + _ ≤ _; omega
  have hstk : ((as.reverse ++ st).map (q_cv ad)) = (as.map (q_cv ad)).reverse ++ st.map (q_cv ad) := by simp
  rw [hstk]
  rcases F with F | ⟨host, F⟩
  · exact (q_called (a0 := (as.map (q_cv ad)).toArray) (va_runS ⟨C.1, C.2.1, C.2.2.1, C.2.2.2.1, hts⟩ hM ⟨⟨rfl, rfl, hroom.1, hroom.2, hpay, List.mem_cons_self, hts _ w2, hts _ w3, ⟨hy.1, hy.2.1⟩, hlen, hts _ F⟩, hts _ w4⟩ ⟨q_blind, fun U hU hW => ⟨rfl, hB U hU hW⟩⟩ rfl (by rw [List.length_map]; exact hn) hl.1 rfl hcat hd ⟨by omega, by omega⟩) rfl rfl ⟨le1, le2⟩ hL hI hl K)
  · exact (q_called (a0 := (as.map (q_cv ad)).toArray) (va_runSN ⟨C.1, C.2.1, C.2.2.1, C.2.2.2.1, hts⟩ hM ⟨⟨⟨rfl, rfl, hroom.1, hroom.2, hpay, List.mem_cons_self⟩, hts _ w2, hts _ w3, ⟨hy.1, hy.2.1⟩, hlen, (hEnv.2.1 _ F).use rfl⟩, hts _ w4, trivial⟩ ⟨q_blind, fun U hU hW => ⟨rfl, hB U hU hW⟩⟩ rfl (by rw [List.length_map]; exact hn) hl.1 rfl hcat hd ⟨by omega, by omega⟩) rfl rfl ⟨le1, le2⟩ hL hI hl K)
theorem q1_callI (C : q_Cx p R s m args c cc nL own D cl tys ad b0 Hb n0 s0) {pc x mL ar fr lo n : Nat} {y : MethodName} {bytes : ByteArray} {ret : Option FieldType} {f : q_M} {σ : q_S} {h2 : q_H} {as st : List Value} {r : Option Value} (hM : q_Met l D cl tys ad b0 Hb y bytes mL ret ar fr lo f) (hret : ret = none) (hd : decode cc pc = .ok (.invokespecial x, 3)) (F : q_ML own x y) (w2 : Cond.code y bytes mL ret ∈ q_tb) (w3 : Cond.initialized y.cls ∈ q_tb) (hy : y.cls ≠ "java/lang/invoke/MethodHandle" ∧ y.cls ≠ "java/lang/invoke/VarHandle" ∧ (parseMethodDescriptor y.desc).map (fun d => d.parameters.length) = some n) (hn : as.length = n) (w4 : Cond.instanceMethod y ∈ q_tb) (hname : y.name = "<init>") (hroom : fr + 1 ≤ R.frames ∧ 8 + (mL + 11) + lo ≤ R.locals) (hc : q_cat st ≤ 8) {o : Nat} (hf : f (.ref o :: as) σ.2 = some (r, h2)) (hlim : h2.1.length ≤ n0 + R.cells ∧ q_sl h2.1 ≤ s0 + R.slots ∧ h2.1.length ≤ 100000) (K : q_at p l e R s m args below meth c Q nL n0 s0 D cl tys ad b0 Hb (pc + 3) (σ.1, h2) (r.toList ++ st)) : q_at p l e R s m args below meth c Q nL n0 s0 D cl tys ad b0 Hb pc σ (as.reverse ++ .ref o :: st) := by
  subst hret
  intro H locs ls hL hI hl
  obtain ⟨-, hle, hM⟩ := hM _ _ _ _ hf
  have hM := hM hlim.2.2
  obtain ⟨le1, le2⟩ := hle
  have hts := C.2.2.2.2.1
  have hEnv := C.2.2.2.2.2.1
  have hpay : ∀ w ∈ (Cond.code y bytes mL none :: q_tb), ∀ (a' : Array Value) (U : State), s.WarmedH U.vm → w.before a' U = true := fun w hw a' U hW => by
    have hw2 : w ∈ q_tb := (List.mem_cons.mp hw).elim (fun h => h ▸ w2) id
    exact word_at hW (good_of_word (List.mem_filter.mp hw2).2) (hts w hw2)
  have hlen : ∀ sig, parseMethodDescriptor y.desc = some sig → n = sig.parameters.length := fun sig h => by
    have h2 := hy.2.2
    rw [h] at h2
    exact (Option.some.inj h2).symm
  have hB : ∀ U : State, U.heap = H → s.WarmedH U.vm → q_B D cl tys ad b0 Hb σ.2 U := fun U hU hW => ⟨hEnv.warm hW, by rw [hU]; exact q_I_forget hI⟩
  have hcat : 2 * (F0 m pc ls []).monitorRoom + ((st.map (q_cv ad)).map fun v => v.category).sum ≤ 8 := by rw [q_cat_cv]; show 2 * 0 + _ ≤ _; omega
  have hstk : ((as.reverse ++ Value.ref o :: st).map (q_cv ad)) = (as.map (q_cv ad)).reverse ++ .ref (ad o) :: st.map (q_cv ad) := by simp [q_cv]
  rw [hstk]
  rcases F with F | ⟨host, F⟩
  · exact (q_called (a0 := ((Value.ref o :: as).map (q_cv ad)).toArray) (va_runI ⟨C.1, C.2.1, C.2.2.1, C.2.2.2.1, hts⟩ hM ⟨⟨rfl, rfl, hroom.1, hroom.2, hpay, List.mem_cons_self, hts _ w2, hts _ w3, ⟨hy.1, hy.2.1⟩, hlen, hts _ F⟩, hname, hts _ w4⟩ ⟨q_blind, fun U hU hW => ⟨rfl, hB U hU hW⟩⟩ rfl (by rw [List.length_map]; exact hn) hl.1 rfl hcat hd ⟨by omega, by omega⟩) rfl rfl ⟨le1, le2⟩ hL hI hl K)
  · exact (q_called (a0 := ((Value.ref o :: as).map (q_cv ad)).toArray) (va_runIN ⟨C.1, C.2.1, C.2.2.1, C.2.2.2.1, hts⟩ hM ⟨⟨⟨rfl, rfl, hroom.1, hroom.2, hpay, List.mem_cons_self⟩, hts _ w2, hts _ w3, ⟨hy.1, hy.2.1⟩, hlen, (hEnv.2.1 _ F).use rfl⟩, hname, hts _ w4⟩ ⟨q_blind, fun U hU hW => ⟨rfl, hB U hU hW⟩⟩ rfl (by rw [List.length_map]; exact hn) hl.1 rfl hcat hd ⟨by omega, by omega⟩) rfl rfl ⟨le1, le2⟩ hL hI hl K)
end
