/-! CALLS AND ENDS AT THE MACHINE; a method from its start -/
def q_RT (r : Option Value) (h : q_H) : Option Value → q_H → Prop := fun v h2 => v = r ∧ h2 = h
def q_RX (below : List Frame) (Q : State → Prop) (args : Array Value) (s : State) (meth : Method) (D : va_G) (cl : List vw_C) (tys : List (ClassId × FieldType)) (ad : Nat → Nat) (b0 : Nat) (Hb : Heap) (n0 s0 : Nat) (ret : Option FieldType) (r9 : Option Value) (h9 : q_H) : Prop :=
  Q = MQ below (q_Q D cl tys ad b0 Hb r9 h9) args s (h9.1.length - n0) (q_sl h9.1 - s0) (fun q => b0 ≤ q) ∧ meth.locks = false ∧ meth.sig.returnType = ret
def m_obj : q_M := fun vs h => match vs with
  | [.ref _] => some (none, h)
  | _ => none
def m_max : q_M := fun vs h => match vs with
  | [.int x, .int y] => some (some (.int (if x < y then y else x)), h)
  | _ => none
def m_min : q_M := fun vs h => match vs with
  | [.int x, .int y] => some (some (.int (if y < x then y else x)), h)
  | _ => none
def m_abs : q_M := fun vs h => match vs with
  | [.int x] => some (some (.int (if 0 ≤ x then x else 0 - x)), h)
  | _ => none
def q_cp (d : Nat → Nat → Int32) (o0 sp o1 dp n : Nat) : Nat → Nat → Int32 := fun a b => if a = o1 then (if dp ≤ b ∧ b < dp + n then d o0 (sp + (b - dp)) else d a b) else d a b
def m_copy : q_M := fun vs h => match vs with
  | [.ref o0, .int sp, .ref o1, .int dp, .int n] => match h.1[o0]?, h.1[o1]? with
    | some (.inl (0, n0)), some (.inl (0, n1)) => if ¬ sp < 0 ∧ ¬ dp < 0 ∧ ¬ n < 0 ∧ sp.toNatClampNeg + n.toNatClampNeg ≤ n0 ∧ dp.toNatClampNeg + n.toNatClampNeg ≤ n1 then some (none, (h.1, q_cp h.2.1 o0 sp.toNatClampNeg o1 dp.toNatClampNeg n.toNatClampNeg, h.2.2)) else none
    | _, _ => none
  | _ => none
section
variable {p : Program} {l : Launch} {e : Env} {R : Room} {s : State} {m : MethodId} {args : Array Value} {below : List Frame} {meth : Method} {c : Code} {Q : State → Prop} {cc : ByteArray} {nL n0 s0 : Nat} {own : String} {D : va_G} {cl : List vw_C} {tys : List (ClassId × FieldType)} {ad : Nat → Nat} {b0 : Nat} {Hb : Heap}
variable {b pc : Nat} {ret : Option FieldType} {r9 : Option Value} {h9 : q_H}
theorem i_callV (C : q_Cx p R s m args c cc nL own D cl tys ad b0 Hb n0 s0) {x mL ar fr lo n ci N : Nat} {T : u_T} {y : MethodName} {bytes : ByteArray} {rt : Option FieldType} {f : q_M} (hM : q_Met l D cl tys ad b0 Hb y bytes mL rt ar fr lo f) (hd : decode cc pc = .ok (.invokevirtual x, 3)) (F : q_ML own x y) (w2 : Cond.code y bytes mL rt ∈ q_tb) (w3 : Cond.initialized y.cls ∈ q_tb) (hy : y.cls ≠ "java/lang/invoke/MethodHandle" ∧ y.cls ≠ "java/lang/invoke/VarHandle" ∧ (parseMethodDescriptor y.desc).map (fun d => d.parameters.length) = some n) (hn : ar = n + 1) (w4 : Cond.instanceMethod y ∈ q_tb) (w5 : Cond.selects y.cls y y ∈ q_tb) (hroom : fr + 1 ≤ R.frames ∧ 8 + (mL + 11) + lo ≤ R.locals) (hci : cl[ci]? = some (y.cls, T, N)) : q_KK (q_at p l e R s m args below meth c Q nL n0 s0 D cl tys ad b0 Hb) (q_lim R n0 s0) pc (pc + 3) (q_R ci f) := by
  intro σ vs r h2 st h
  unfold q_R at h
  split at h
  · next o as =>
    split at h
    · next c9 fl e1 =>
      split at h
      · next e2 =>
        subst e2
        obtain ⟨g1, g2, -⟩ := hM _ _ _ _ h
        have g1' : as.length + 1 = ar := g1
        refine ⟨g2, fun hc hl K => ?_⟩
        have := q1_callV C hM hd F w2 w3 hy (by omega) w4 w5 hroom hc e1 hci h hl K
        simpa using this
      · cases h
    · cases h
  · cases h
theorem i_callS (C : q_Cx p R s m args c cc nL own D cl tys ad b0 Hb n0 s0) {x mL ar fr lo : Nat} {y : MethodName} {bytes : ByteArray} {rt : Option FieldType} {f : q_M} (hM : q_Met l D cl tys ad b0 Hb y bytes mL rt ar fr lo f) (hd : decode cc pc = .ok (.invokestatic x, 3)) (F : q_ML own x y) (w2 : Cond.code y bytes mL rt ∈ q_tb) (w3 : Cond.initialized y.cls ∈ q_tb) (hy : y.cls ≠ "java/lang/invoke/MethodHandle" ∧ y.cls ≠ "java/lang/invoke/VarHandle" ∧ (parseMethodDescriptor y.desc).map (fun d => d.parameters.length) = some ar) (w4 : Cond.static y ∈ q_tb) (hroom : fr + 1 ≤ R.frames ∧ 8 + (mL + 11) + lo ≤ R.locals) : q_KK (q_at p l e R s m args below meth c Q nL n0 s0 D cl tys ad b0 Hb) (q_lim R n0 s0) pc (pc + 3) f := by
  intro σ vs r h2 st h
  obtain ⟨g1, g2, -⟩ := hM _ _ _ _ h
  exact ⟨g2, fun hc hl K => q1_callS C hM hd F w2 w3 hy g1 w4 hroom hc h hl K⟩
theorem i_callI (C : q_Cx p R s m args c cc nL own D cl tys ad b0 Hb n0 s0) {x mL ar fr lo n : Nat} {y : MethodName} {bytes : ByteArray} {f : q_M} (hM : q_Met l D cl tys ad b0 Hb y bytes mL none ar fr lo f) (hd : decode cc pc = .ok (.invokespecial x, 3)) (F : q_ML own x y) (w2 : Cond.code y bytes mL none ∈ q_tb) (w3 : Cond.initialized y.cls ∈ q_tb) (hy : y.cls ≠ "java/lang/invoke/MethodHandle" ∧ y.cls ≠ "java/lang/invoke/VarHandle" ∧ (parseMethodDescriptor y.desc).map (fun d => d.parameters.length) = some n) (hn : ar = n + 1) (w4 : Cond.instanceMethod y ∈ q_tb) (hname : y.name = "<init>") (hroom : fr + 1 ≤ R.frames ∧ 8 + (mL + 11) + lo ≤ R.locals) : q_KK (q_at p l e R s m args below meth c Q nL n0 s0 D cl tys ad b0 Hb) (q_lim R n0 s0) pc (pc + 3) (fun vs h => match vs with | .ref o :: as => f (.ref o :: as) h | _ => none) := by
  intro σ vs r h2 st h
  dsimp only at h
  split at h
  · next o as =>
    obtain ⟨g1, g2, -⟩ := hM _ _ _ _ h
    have g1' : as.length + 1 = ar := g1
    refine ⟨g2, fun hc hl K => ?_⟩
    have := q1_callI C hM rfl hd F w2 w3 hy (by omega) w4 hname hroom hc h hl K
    simpa using this
  · cases h
theorem i_obj (C : q_Cx p R s m args c cc nL own D cl tys ad b0 Hb n0 s0) {x : Nat} (hd : decode cc pc = .ok (.invokespecial x, 3)) (w1 : Cond.methodLink own x Lib.objectInit ∈ q_tb) (w2 : Cond.instanceMethod Lib.objectInit ∈ q_tb) (w3 : Cond.code Lib.objectInit ⟨#[0xb1]⟩ 1 none ∈ q_tb) (hr : 1 ≤ R.frames ∧ 20 ≤ R.locals) : q_KK (q_at p l e R s m args below meth c Q nL n0 s0 D cl tys ad b0 Hb) (q_lim R n0 s0) pc (pc + 3) m_obj := by
  intro σ vs r h2 st h
  unfold m_obj at h
  split at h
  · cases h
    exact ⟨q_le.rf _, fun hc hl K => q1_objInit C hd w1 w2 w3 hr hc K⟩
  · cases h
theorem q_room {h : q_H} (hl : q_lim R n0 s0 h) : h.1.length - n0 ≤ R.cells ∧ q_sl h.1 - s0 ≤ R.slots := by
  obtain ⟨l1, l2, -⟩ := hl
  omega
theorem i_max (C : q_Cx p R s m args c cc nL own D cl tys ad b0 Hb n0 s0) {x : Nat} (hd : decode cc pc = .ok (.invokestatic x, 3)) (w1 : Cond.methodLink own x Lib.Math.max.name ∈ q_tb) (w2 : Cond.static Lib.Math.max.name ∈ q_tb) (w3 : Cond.initialized "java/lang/Math" ∈ q_tb) (w4 : Cond.code Lib.Math.max.name Lib.Math.max.code 2 (some .int) ∈ q_tb) (hr : 1 ≤ R.frames ∧ 21 ≤ R.locals) : q_KK (q_at p l e R s m args below meth c Q nL n0 s0 D cl tys ad b0 Hb) (q_lim R n0 s0) pc (pc + 3) m_max := by
  intro σ vs r h2 st h
  unfold m_max at h
  split at h
  · cases h
    refine ⟨q_le.rf _, fun hc hl K H locs ls hL hI h0 => ?_⟩
    have hts := C.2.2.2.2.1
    exact va_mmax C.1 C.2.1 (C.2.2.1.trans h0.1.symm) C.2.2.2.1 (hts _ w1) (hts _ w2) (hts _ w3) (hts _ w4) hr.1 (by rw [q_cat_cv]; show q_cat st + 13 ≤ _; omega) (q_room hl).1 (q_room hl).2 hd (K H locs ls hL hI h0)
  · cases h
theorem i_min (C : q_Cx p R s m args c cc nL own D cl tys ad b0 Hb n0 s0) {x : Nat} (hd : decode cc pc = .ok (.invokestatic x, 3)) (w1 : Cond.methodLink own x Lib.Math.min.name ∈ q_tb) (w2 : Cond.static Lib.Math.min.name ∈ q_tb) (w3 : Cond.initialized "java/lang/Math" ∈ q_tb) (w4 : Cond.code Lib.Math.min.name Lib.Math.min.code 2 (some .int) ∈ q_tb) (hr : 1 ≤ R.frames ∧ 21 ≤ R.locals) : q_KK (q_at p l e R s m args below meth c Q nL n0 s0 D cl tys ad b0 Hb) (q_lim R n0 s0) pc (pc + 3) m_min := by
  intro σ vs r h2 st h
  unfold m_min at h
  split at h
  · cases h
    refine ⟨q_le.rf _, fun hc hl K H locs ls hL hI h0 => ?_⟩
    have hts := C.2.2.2.2.1
    exact va_mmin C.1 C.2.1 (C.2.2.1.trans h0.1.symm) C.2.2.2.1 (hts _ w1) (hts _ w2) (hts _ w3) (hts _ w4) hr.1 (by rw [q_cat_cv]; show q_cat st + 13 ≤ _; omega) (q_room hl).1 (q_room hl).2 hd (K H locs ls hL hI h0)
  · cases h
theorem i_abs (C : q_Cx p R s m args c cc nL own D cl tys ad b0 Hb n0 s0) {x : Nat} (hd : decode cc pc = .ok (.invokestatic x, 3)) (w1 : Cond.methodLink own x Lib.Math.abs.name ∈ q_tb) (w2 : Cond.static Lib.Math.abs.name ∈ q_tb) (w3 : Cond.initialized "java/lang/Math" ∈ q_tb) (w4 : Cond.code Lib.Math.abs.name Lib.Math.abs.code 1 (some .int) ∈ q_tb) (hr : 1 ≤ R.frames ∧ 21 ≤ R.locals) : q_KK (q_at p l e R s m args below meth c Q nL n0 s0 D cl tys ad b0 Hb) (q_lim R n0 s0) pc (pc + 3) m_abs := by
  intro σ vs r h2 st h
  unfold m_abs at h
  split at h
  · cases h
    refine ⟨q_le.rf _, fun hc hl K H locs ls hL hI h0 => ?_⟩
    have hts := C.2.2.2.2.1
    exact va_mabs C.1 C.2.1 (C.2.2.1.trans h0.1.symm) C.2.2.2.1 (hts _ w1) (hts _ w2) (hts _ w3) (hts _ w4) hr.1 (by rw [q_cat_cv]; show q_cat st + 13 ≤ _; omega) (q_room hl).1 (q_room hl).2 hd (K H locs ls hL hI h0)
  · cases h
theorem i_copy (C : q_Cx p R s m args c cc nL own D cl tys ad b0 Hb n0 s0) (Y : q_ty tys) {x : Nat} (hd : decode cc pc = .ok (.invokestatic x, 3)) (w1 : Cond.methodLink own x arraycopyName ∈ q_tb) (w2 : Cond.native arraycopyName ∈ q_tb) (w3 : Cond.static arraycopyName ∈ q_tb) (w4 : Cond.initialized "java/lang/System" ∈ q_tb) (hr : 1 ≤ R.frames ∧ 8 + (nativeFrameWords "java/lang/System" "arraycopy" 5 + 11) ≤ R.locals) : q_KK (q_at p l e R s m args below meth c Q nL n0 s0 D cl tys ad b0 Hb) (q_lim R n0 s0) pc (pc + 3) m_copy := by
  intro σ vs r h2 st h
  unfold m_copy at h
  split at h
  · next o0 sp o1 dp n =>
    split at h
    · next z0 z1 f0 f1 =>
      split at h
      · next e =>
        obtain ⟨h1, h2', h3, h4, h5⟩ := e
        cases h
        refine ⟨⟨Nat.le_refl _, Nat.le_refl _⟩, fun hc hl K H locs ls hL hI h0 => ?_⟩
        obtain ⟨⟨cI, y0⟩, -, -⟩ := Y
        have hts := C.2.2.2.2.1
        have had := C.2.2.2.2.2.2.1
        have hK := C.2.2.2.2.2.1.1
        have nn : ∀ z : Int32, ¬ z < 0 → z.toInt = (z.toNatClampNeg : Int) := by
          intro z hz
          have hz0 : (0 : Int) ≤ z.toInt := by
            have := Int32.not_lt.mp hz
            simpa using Int32.le_iff_toInt_le.mp this
          show z.toInt = ((z.toInt.toNat : Nat) : Int)
          omega
        have ha0 := hI.1 o0 _ f0
        have ha1 := hI.1 o1 _ f1
        simp only [q_E, List.getD, y0, Option.getD_some] at ha0 ha1
        have hc0 : H[ad o0]? = some (vp_cell cI (z0, .inl (σ.2.2.1 o0))) := ha0
        have hc1 : H[ad o1]? = some (vp_cell cI (z1, .inl (σ.2.2.1 o1))) := ha1
        intro T hT X
        obtain ⟨-, k0, hk0, cm0, hkk0⟩ := (hK.2 0 _ y0).1 z0 (fun j => .int (σ.2.2.1 o0 j))
        obtain ⟨-, k1, hk1, cm1, hkk1⟩ := (hK.2 0 _ y0).1 z1 (fun j => .int (σ.2.2.1 o1 j))
        obtain ⟨vm', X', step⟩ := X.arraycopy C.1 C.2.2.2.1 (hts _ w1) (hts _ w2) (hts _ w3) (hts _ w4) (src := ad o0) (dst := ad o1) (cs := vp_cell cI (z0, .inl (σ.2.2.1 o0))) (cd := vp_cell cI (z1, .inl (σ.2.2.1 o1))) (srcPos := sp) (destPos := dp) (n := n) (by rw [hT]; exact hc0) (by rw [hT]; exact hc1)
          (fun _ h => by cases h) (fun _ h => by cases h) (fun h => by cases h) (fun h => by cases h) hk0 hk1 hkk0 hkk1 (by simp [refKind]) h1 h2' h3
          (by rw [nn sp h1, nn n h3]; show ¬ _ > ((arrV cI z0 (fun j => .int (σ.2.2.1 o0 j))).slots.size : Int); rw [arrV_size]; omega)
          (by rw [nn dp h2', nn n h3]; show ¬ _ > ((arrV cI z1 (fun j => .int (σ.2.2.1 o1 j))).slots.size : Int); rw [arrV_size]; omega)
          (fun vm₁ _ i hi => by
            have e : (vp_cell cI (z0, .inl (σ.2.2.1 o0))).slots.getD (sp.toNatClampNeg + i) .null = .int (σ.2.2.1 o0 (sp.toNatClampNeg + i)) := by
              show (arrV cI z0 (fun j => .int (σ.2.2.1 o0 j))).slots.getD _ _ = _
              rw [Array.getD_eq_getD_getElem?, arrV_read _ _ (by omega)]
              rfl
            refine ⟨?_, ?_⟩
            · rw [e]
              rfl
            · rw [e]
              exact trivial)
          (g := F0 m pc ls (.int n :: .int dp :: .ref (ad o1) :: .int sp :: .ref (ad o0) :: st.map (q_cv ad))) rfl (by rw [C.2.2.1]; exact h0.1) (rest := st.map (q_cv ad)) rfl (by rw [C.2.1]; exact hd) hr.1 (by rw [q_cat_cv]; show 2 * 0 + _ + _ ≤ _; omega)
        have e1 : copied (vp_cell cI (z0, .inl (σ.2.2.1 o0))) (vp_cell cI (z1, .inl (σ.2.2.1 o1))) sp dp n = vp_cell cI (z1, .inl (va_cpy (σ.2.2.1 o0) (σ.2.2.1 o1) sp.toNatClampNeg dp.toNatClampNeg n.toNatClampNeg)) := va_copied (fun z => .int z) cI cI (σ.2.2.1 o0) (σ.2.2.1 o1) h4
        rw [e1] at X' step
        have hlt : ad o1 < H.size := (Array.getElem?_eq_some_iff.mp hc1).1
        have hheap : ((T.setVm vm').setCell (ad o1) (vp_cell cI (z1, .inl (va_cpy (σ.2.2.1 o0) (σ.2.2.1 o1) sp.toNatClampNeg dp.toNatClampNeg n.toNatClampNeg)))).heap = H.setIfInBounds (ad o1) (vp_cell cI (z1, .inl (va_cpy (σ.2.2.1 o0) (σ.2.2.1 o1) sp.toNatClampNeg dp.toNatClampNeg n.toNatClampNeg))) := by rw [← hT]; rfl
        obtain ⟨t, a1, b1⟩ := K (H.setIfInBounds (ad o1) (vp_cell cI (z1, .inl (va_cpy (σ.2.2.1 o0) (σ.2.2.1 o1) sp.toNatClampNeg dp.toNatClampNeg n.toNatClampNeg)))) _ ls hL (q_I_upd had hI f1 rfl (fun o2 hne => ⟨rfl, by funext b; simp [q_cp, hne], rfl⟩) (fun sh2 hs2 => by
            cases f1.symm.trans hs2
            simp only [q_E, List.getD, y0, Option.getD_some]
            show (H.setIfInBounds (ad o1) _)[ad o1]? = some (vp_cell _ _)
            have ef : q_cp σ.2.2.1 o0 sp.toNatClampNeg o1 dp.toNatClampNeg n.toNatClampNeg o1 = va_cpy (σ.2.2.1 o0) (σ.2.2.1 o1) sp.toNatClampNeg dp.toNatClampNeg n.toNatClampNeg := by
              funext b
              simp only [q_cp, va_cpy, if_true]
            rw [ef]
            simp [Array.getElem?_setIfInBounds, hlt]) (by simp) (fun q hq => by simp [Array.getElem?_setIfInBounds, Ne.symm hq]) (fun x hx => (List.mem_append.mp hx).imp id (fun hx => by
            obtain ⟨z, -, hz⟩ := List.mem_map.mp hx
            rw [← hz]))) h0 _ hheap X'
        exact ⟨t, step t a1, b1⟩
      · cases h
    · cases h
  · cases h
theorem i_pop (C : q_Cx p R s m args c cc nL own D cl tys ad b0 Hb n0 s0) {mm : q_M} (hd : decode cc pc = .ok (.pop, 1)) (hc : ∀ vs h v h2, mm vs h = some (some v, h2) → v.category = 1) : ∀ (σ : q_S) (vs : List Value) (v : Value) (h : q_H), mm vs σ.2 = some (some v, h) → (q_at p l e R s m args below meth c Q nL n0 s0 D cl tys ad b0 Hb) (pc + 1) (σ.1, h) [] → (q_at p l e R s m args below meth c Q nL n0 s0 D cl tys ad b0 Hb) pc (σ.1, h) [v] := fun σ vs v h e K => q1_pop C hd (hc _ _ _ _ e) K
theorem i_sw (C : q_Cx p R s m args c cc nL own D cl tys ad b0 Hb n0 s0) {RT : Option Value → q_H → Prop} {p1 n : Nat} {f : q_X} {dflt lo hi : Int} {offs : Array Int} {len : Nat} {as : List q_T} {ts : List Nat} {d : q_T} {td : Nat} (hf : q_XK (q_at p l e R s m args below meth c Q nL n0 s0 D cl tys ad b0 Hb) (q_lim R n0 s0) 0 pc p1 f) (hd : decode cc p1 = .ok (.tableswitch dflt lo hi offs, len)) (hdt : (p1 : Int) + dflt = (td : Int)) (hlen : lo + (as.length : Int) = hi + 1) (hts : ts.map (fun (t : Nat) => (t : Int) - (p1 : Int)) = offs.toList) (hl2 : ts.length = as.length) (has : ∀ (k : Nat) (t : Nat) (a : q_T), ts[k]? = some t → as[k]? = some a → q_TK (q_at p l e R s m args below meth c Q nL n0 s0 D cl tys ad b0 Hb) RT (q_lim R n0 s0) t n a) (hdd : q_TK (q_at p l e R s m args below meth c Q nL n0 s0 D cl tys ad b0 Hb) RT (q_lim R n0 s0) td n d) : q_TK (q_at p l e R s m args below meth c Q nL n0 s0 D cl tys ad b0 Hb) RT (q_lim R n0 s0) pc n (sSw f lo as d) := by
  intro σ
  unfold sSw
  split
  · next x σ1 e1 =>
    obtain ⟨a1, a2⟩ := hf _ _ _ e1
    split
    · next hx =>
      have hk : (x.toInt - lo).toNat < as.length := by omega
      have hk2 : (x.toInt - lo).toNat < ts.length := by omega
      have hga : as[(x.toInt - lo).toNat]? = some (as[(x.toInt - lo).toNat]) := List.getElem?_eq_getElem hk
      have hgt : ts[(x.toInt - lo).toNat]? = some (ts[(x.toInt - lo).toNat]) := List.getElem?_eq_getElem hk2
      have hoff : offs[(x.toInt - lo).toNat]? = some ((ts[(x.toInt - lo).toNat] : Nat) - (p1 : Int)) := by
        rw [← Array.getElem?_toList, ← hts, List.getElem?_map, hgt]
        rfl
      have go : (q_at p l e R s m args below meth c Q nL n0 s0 D cl tys ad b0 Hb) (ts[(x.toInt - lo).toNat]) σ1 [] → (q_at p l e R s m args below meth c Q nL n0 s0 D cl tys ad b0 Hb) p1 σ1 [.int x] := fun K H locs ls hL hI h0 => lv_tableIn C.1 C.2.1 hd (by omega) (by omega) hoff (by omega) (K H locs ls hL hI h0)
      rw [List.getD_eq_getElem?_getD, hga, Option.getD_some]
      have hT := has _ _ _ hgt hga σ1
      exact ⟨fun σ2 h => ⟨a1.tr (hT.1 _ h).1, fun hl K => a2 [] (Nat.le_refl _) (q_lim_of _ _ (hT.1 _ h).1 hl) (go ((hT.1 _ h).2 hl K))⟩, fun v h hh => ⟨a1.tr (hT.2 _ _ hh).1, fun hl K => a2 [] (Nat.le_refl _) (q_lim_of _ _ (hT.2 _ _ hh).1 hl) (go ((hT.2 _ _ hh).2 hl K))⟩⟩
    · next hx =>
      have go : (q_at p l e R s m args below meth c Q nL n0 s0 D cl tys ad b0 Hb) td σ1 [] → (q_at p l e R s m args below meth c Q nL n0 s0 D cl tys ad b0 Hb) p1 σ1 [.int x] := fun K H locs ls hL hI h0 => lv_tableOut C.1 C.2.1 hd (by omega) hdt (K H locs ls hL hI h0)
      have hT := hdd σ1
      exact ⟨fun σ2 h => ⟨a1.tr (hT.1 _ h).1, fun hl K => a2 [] (Nat.le_refl _) (q_lim_of _ _ (hT.1 _ h).1 hl) (go ((hT.1 _ h).2 hl K))⟩, fun v h hh => ⟨a1.tr (hT.2 _ _ hh).1, fun hl K => a2 [] (Nat.le_refl _) (q_lim_of _ _ (hT.2 _ _ hh).1 hl) (go ((hT.2 _ _ hh).2 hl K))⟩⟩
  · exact ⟨fun σ2 h => by (cases h), fun v h hh => by (cases hh)⟩
/-- a switch by keys -/
def q_lk : List (Int × q_T) → q_T → Int → q_T
  | [], d, _ => d
  | (k, a) :: t, d, x => if x = k then a else q_lk t d x
def sLk (f : q_X) (as : List (Int × q_T)) (d : q_T) : q_T := fun σ => match f σ with
  | some (.int x, σ1) => q_lk as d x.toInt σ1
  | _ => none
theorem i_lk (C : q_Cx p R s m args c cc nL own D cl tys ad b0 Hb n0 s0) {RT : Option Value → q_H → Prop} {p1 n : Nat} {f : q_X} {dflt : Int} {ps : Array (Int × Int)} {len : Nat} {as : List (Int × q_T)} {d : q_T} (hf : q_XK (q_at p l e R s m args below meth c Q nL n0 s0 D cl tys ad b0 Hb) (q_lim R n0 s0) 0 pc p1 f) (hd : decode cc p1 = .ok (.lookupswitch dflt ps, len)) (hp : (ps.toList.zip (ps.toList.drop 1)).all (fun (a, next) => a.1 < next.1) = true) (has : ∀ x : Int, ∃ t : Nat, (p1 : Int) + Op.lookupswitch.offset ps.toList dflt x = (t : Int) ∧ q_TK (q_at p l e R s m args below meth c Q nL n0 s0 D cl tys ad b0 Hb) RT (q_lim R n0 s0) t n (q_lk as d x)) : q_TK (q_at p l e R s m args below meth c Q nL n0 s0 D cl tys ad b0 Hb) RT (q_lim R n0 s0) pc n (sLk f as d) := by
  intro σ
  unfold sLk
  split
  · next x σ1 e1 =>
    obtain ⟨a1, a2⟩ := hf _ _ _ e1
    obtain ⟨t, h1, h2⟩ := has x.toInt
    have go : (q_at p l e R s m args below meth c Q nL n0 s0 D cl tys ad b0 Hb) t σ1 [] → (q_at p l e R s m args below meth c Q nL n0 s0 D cl tys ad b0 Hb) p1 σ1 [.int x] := fun K H locs ls hL hI h0 => lv_lookup C.1 C.2.1 hd hp rfl h1 (K H locs ls hL hI h0)
    have hT := h2 σ1
    exact ⟨fun σ2 h => ⟨a1.tr (hT.1 _ h).1, fun hl K => a2 [] (Nat.le_refl _) (q_lim_of _ _ (hT.1 _ h).1 hl) (go ((hT.1 _ h).2 hl K))⟩, fun v h hh => ⟨a1.tr (hT.2 _ _ hh).1, fun hl K => a2 [] (Nat.le_refl _) (q_lim_of _ _ (hT.2 _ _ hh).1 hl) (go ((hT.2 _ _ hh).2 hl K))⟩⟩
  · exact ⟨fun σ2 h => by (cases h), fun v h hh => by (cases hh)⟩
theorem i_ret0 (C : q_Cx p R s m args c cc nL own D cl tys ad b0 Hb n0 s0) (X : q_RX below Q args s meth D cl tys ad b0 Hb n0 s0 ret r9 h9) (hret : ret = none) {n : Nat} (hd : decode cc pc = .ok (.return_, 1)) : q_TK (q_at p l e R s m args below meth c Q nL n0 s0 D cl tys ad b0 Hb) (q_RT r9 h9) (q_lim R n0 s0) pc n sRet0 := by
  intro σ
  refine ⟨fun σ2 h => by (cases h), fun v h hh => ?_⟩
  cases hh
  refine ⟨q_le.rf _, fun hl K => ?_⟩
  obtain ⟨k1, k2⟩ := K
  obtain ⟨x1, x2, x3⟩ := X
  subst k2; subst k1; subst hret; subst x1
  intro H locs ls hL hI h0
  exact W.vret C.1 C.2.1 x3 (fun t ht hW => ⟨rfl, by rw [ht]; exact q_I_forget hI⟩) hI.2.2.2.2 hd x2
theorem i_ireturn (C : q_Cx p R s m args c cc nL own D cl tys ad b0 Hb n0 s0) (X : q_RX below Q args s meth D cl tys ad b0 Hb n0 s0 ret r9 h9) (hret : ret = some .int) {p1 n : Nat} {f : q_X} (hf : q_XK (q_at p l e R s m args below meth c Q nL n0 s0 D cl tys ad b0 Hb) (q_lim R n0 s0) 0 pc p1 f) (hd : decode cc p1 = .ok (.ireturn, 1)) : q_TK (q_at p l e R s m args below meth c Q nL n0 s0 D cl tys ad b0 Hb) (q_RT r9 h9) (q_lim R n0 s0) pc n (sRet 0 f) := by
  intro σ
  unfold sRet
  split
  · next x σ1 e1 =>
    obtain ⟨a1, a2⟩ := hf _ _ _ e1
    rw [if_pos (Or.inl rfl)]
    refine ⟨fun σ2 h => by (cases h), fun v h hh => ?_⟩
    cases hh
    refine ⟨a1, fun hl K => a2 [] (Nat.le_refl _) hl ?_⟩
    obtain ⟨k1, k2⟩ := K
    obtain ⟨x1, x2, x3⟩ := X
    subst k2; subst k1; subst hret; subst x1
    intro H locs ls hL hI h0
    exact W.iret C.1 C.2.1 x3 (fun t ht hW => ⟨rfl, by rw [ht]; exact q_I_forget hI⟩) hI.2.2.2.2 hd x2
  · exact ⟨fun σ2 h => by (simp at h), fun v h hh => by (simp at hh)⟩
  · exact ⟨fun σ2 h => by (simp at h), fun v h hh => by (simp at hh)⟩
  · exact ⟨fun σ2 h => by (cases h), fun v h hh => by (cases hh)⟩
theorem i_zreturn (C : q_Cx p R s m args c cc nL own D cl tys ad b0 Hb n0 s0) (X : q_RX below Q args s meth D cl tys ad b0 Hb n0 s0 ret r9 h9) (hret : ret = some .boolean) {p1 n : Nat} {f : q_X} (hf : q_XK (q_at p l e R s m args below meth c Q nL n0 s0 D cl tys ad b0 Hb) (q_lim R n0 s0) 0 pc p1 f) (hd : decode cc p1 = .ok (.ireturn, 1)) : q_TK (q_at p l e R s m args below meth c Q nL n0 s0 D cl tys ad b0 Hb) (q_RT r9 h9) (q_lim R n0 s0) pc n (sRet 1 f) := by
  intro σ
  unfold sRet
  split
  · next x σ1 e1 =>
    obtain ⟨a1, a2⟩ := hf _ _ _ e1
    split
    · next hx =>
      have hx : x = 0 ∨ x = 1 := by simpa using hx
      refine ⟨fun σ2 h => by (cases h), fun v h hh => ?_⟩
      cases hh
      refine ⟨a1, fun hl K => a2 [] (Nat.le_refl _) hl ?_⟩
      obtain ⟨k1, k2⟩ := K
      obtain ⟨x1, x2, x3⟩ := X
      subst k2; subst k1; subst hret; subst x1
      intro H locs ls hL hI h0
      exact W.zret C.1 C.2.1 x3 (by rcases hx with rfl | rfl <;> rfl) (fun t ht hW => ⟨rfl, by rw [ht]; exact q_I_forget hI⟩) hI.2.2.2.2 hd x2
    · exact ⟨fun σ2 h => by (cases h), fun v h hh => by (cases hh)⟩
  · exact ⟨fun σ2 h => by (simp at h), fun v h hh => by (simp at hh)⟩
  · exact ⟨fun σ2 h => by (simp at h), fun v h hh => by (simp at hh)⟩
  · exact ⟨fun σ2 h => by (cases h), fun v h hh => by (cases hh)⟩
theorem i_lreturn (C : q_Cx p R s m args c cc nL own D cl tys ad b0 Hb n0 s0) (X : q_RX below Q args s meth D cl tys ad b0 Hb n0 s0 ret r9 h9) (hret : ret = some .long) {p1 n : Nat} {f : q_X} (hf : q_XK (q_at p l e R s m args below meth c Q nL n0 s0 D cl tys ad b0 Hb) (q_lim R n0 s0) 0 pc p1 f) (hd : decode cc p1 = .ok (.lreturn, 1)) : q_TK (q_at p l e R s m args below meth c Q nL n0 s0 D cl tys ad b0 Hb) (q_RT r9 h9) (q_lim R n0 s0) pc n (sRet 2 f) := by
  intro σ
  unfold sRet
  split
  · exact ⟨fun σ2 h => by (simp at h), fun v h hh => by (simp at hh)⟩
  · next x σ1 e1 =>
    obtain ⟨a1, a2⟩ := hf _ _ _ e1
    rw [if_pos rfl]
    refine ⟨fun σ2 h => by (cases h), fun v h hh => ?_⟩
    cases hh
    refine ⟨a1, fun hl K => a2 [] (Nat.le_refl _) hl ?_⟩
    obtain ⟨k1, k2⟩ := K
    obtain ⟨x1, x2, x3⟩ := X
    subst k2; subst k1; subst hret; subst x1
    intro H locs ls hL hI h0
    exact W.lret C.1 C.2.1 x3 (fun t ht hW => ⟨rfl, by rw [ht]; exact q_I_forget hI⟩) hI.2.2.2.2 hd x2
  · exact ⟨fun σ2 h => by (simp at h), fun v h hh => by (simp at hh)⟩
  · exact ⟨fun σ2 h => by (cases h), fun v h hh => by (cases hh)⟩
theorem i_areturn (C : q_Cx p R s m args c cc nL own D cl tys ad b0 Hb n0 s0) (X : q_RX below Q args s meth D cl tys ad b0 Hb n0 s0 ret r9 h9) {cn : String} (hret : ret = some (.object cn)) {p1 n : Nat} {f : q_X} (hf : q_XK (q_at p l e R s m args below meth c Q nL n0 s0 D cl tys ad b0 Hb) (q_lim R n0 s0) 0 pc p1 f) (hd : decode cc p1 = .ok (.areturn, 1)) : q_TK (q_at p l e R s m args below meth c Q nL n0 s0 D cl tys ad b0 Hb) (q_RT r9 h9) (q_lim R n0 s0) pc n (sRet 3 f) := by
  intro σ
  unfold sRet
  split
  · exact ⟨fun σ2 h => by (simp at h), fun v h hh => by (simp at hh)⟩
  · exact ⟨fun σ2 h => by (simp at h), fun v h hh => by (simp at hh)⟩
  · next x σ1 e1 =>
    obtain ⟨a1, a2⟩ := hf _ _ _ e1
    rw [if_pos rfl]
    refine ⟨fun σ2 h => by (cases h), fun v h hh => ?_⟩
    cases hh
    refine ⟨a1, fun hl K => a2 [] (Nat.le_refl _) hl ?_⟩
    obtain ⟨k1, k2⟩ := K
    obtain ⟨x1, x2, x3⟩ := X
    subst k2; subst k1; subst hret; subst x1
    intro H locs ls hL hI h0
    exact W.aret C.1 C.2.1 x3 (Or.inl ⟨_, rfl⟩) (Or.inr ⟨_, rfl⟩) (fun t ht hW => ⟨rfl, by rw [ht]; exact q_I_forget hI⟩) hI.2.2.2.2 hd x2
  · exact ⟨fun σ2 h => by (cases h), fun v h hh => by (cases hh)⟩
end
/-- A METHOD: what its body does, from its start -/
theorem q_Met_of {l : Launch} {D : va_G} {cl : List vw_C} {tys : List (ClassId × FieldType)} {ad : Nat → Nat} {b0 : Nat} {Hb : Heap} (had : ∀ o, o < 100000 → ad o = b0 + o) {y : MethodName} {cc : ByteArray} {mL : Nat} {ret : Option FieldType} {ar fr lo n : Nat} {body : q_T} {own : String} (ho : y.cls = own) (hy : plainName own = true)
    (B : ∀ {p : Program} {e : Env} {s : State} {m : MethodId} {args : Array Value} {below : List Frame} {meth : Method} {c : Code} {Q : State → Prop} {h h9 : q_H} {r9 : Option Value}, q_Cx p (q_rm fr lo h h9) s m args c cc mL own D cl tys ad b0 Hb h.1.length (q_sl h.1) → q_RX below Q args s meth D cl tys ad b0 Hb h.1.length (q_sl h.1) ret r9 h9 → meth.name = y.name → q_TK (q_at p l e (q_rm fr lo h h9) s m args below meth c Q mL h.1.length (q_sl h.1) D cl tys ad b0 Hb) (q_RT r9 h9) (q_lim (q_rm fr lo h h9) h.1.length (q_sl h.1)) 0 n body) :
    q_Met l D cl tys ad b0 Hb y cc mL ret ar fr lo (q_meth ar mL body) := by
  intro as h r h2 hf
  unfold q_meth at hf
  split at hf
  · next hc =>
    obtain ⟨hc1, hc2⟩ := hc
    split at hf
    · next z e =>
      split at hf
      · next hle =>
        cases hf
        refine ⟨hc1, hle, fun hl => ?_⟩
        subst ho
        refine Met.ofW (cc := cc) (maxL := mL) (ret := ret) hy rfl ?_
        intro p e' s m args below meth c s₁ B' hml hv
        obtain ⟨rfl, hEnv, hI⟩ := hv
        have hts0 := atoms_spec (ws := .code y cc mL ret :: q_tb) B'.pre
        have hts : ∀ w ∈ q_tb, w.before (as.map (q_cv ad)).toArray s = true := fun w hw => hts0 w (List.mem_cons_of_mem _ hw)
        have hown : s.vm.findClass y.cls = some m.cls := findClass_of_methodNamed B'.named
        have hname : meth.name = y.name := (name_of_methodNamed B'.named B'.method).1
        have hent := lv_entry (as.map (q_cv ad)) (n := mL) (by rw [q_wid_sl]; exact hc2)
        rw [lg_entry_eq]
        have K := ((B (p := p) (e := e') (s := s) (m := m) (args := (as.map (q_cv ad)).toArray) (below := below) (meth := meth) (c := c) (Q := MQ below (q_Q D cl tys ad b0 Hb r h2) (as.map (q_cv ad)).toArray s (h2.1.length - h.1.length) (q_sl h2.1 - q_sl h.1) (fun q => b0 ≤ q)) (h := h) (h9 := h2) (r9 := r) ⟨B'.exec, B'.bytes, hml, hown, hts, hEnv, had, hI.2.1, hI.2.2.2.1⟩ ⟨rfl, B'.notSynchronized, B'.returns⟩ hname (q_loc mL as, h)).2 _ _ e).2 ⟨by show _ ≤ _ + (h2.1.length - h.1.length); omega, by show _ ≤ _ + (q_sl h2.1 - q_sl h.1); omega, hl⟩ ⟨rfl, rfl⟩
        have K2 := K s.heap [] _ ⟨q_loc_len hc2, Nat.le_refl _, Nat.le_refl _⟩ hI (q_loc_has hent)
        simp only [Nat.sub_self] at K2
        exact K2
      · cases hf
    · cases hf
  · cases hf
