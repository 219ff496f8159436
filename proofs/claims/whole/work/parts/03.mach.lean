/-! THE MACHINE UNDER THE ABSTRACT STATE: a row an instruction -/
section
variable {p : Program} {l : Launch} {e : Env} {R : Room} {s : State} {m : MethodId} {args : Array Value} {below : List Frame} {meth : Method} {c : Code} {Q : State → Prop} {cc : ByteArray} {nL n0 s0 : Nat} {own : String} {D : va_G} {cl : List vw_C} {tys : List (ClassId × FieldType)} {ad : Nat → Nat} {b0 : Nat} {Hb : Heap}
/-- the classes of which there are arrays: kind 2, 3 .. -/
def q_an : List String := ["WhichSwitch$Ask", "WhichSwitch$Fuse", "WhichSwitch$Lamp", "WhichSwitch$Sheet", "WhichSwitch$Text", "WhichSwitch$Wiring"]
def q_t0 : String := "glow power ; tone 90 - far * 7 ; load power + more ;"
def q_t1 : String := "();+-*<="
def q_t2 : String := "glow tone load or and not power row hour room more far "
def q_tx : List (List Nat) := [q_t0.toList.map Char.toNat, q_t1.toList.map Char.toNat, q_t2.toList.map Char.toNat]
def q_len : List Nat := q_tx.map List.length
def q_byt : List (List Int32) := q_tx.map fun t => t.map Int32.ofNat
def q_za (ad : Nat → Nat) : Value := if ad 3000001 = 0 then .null else .ref 3000000
/-- the texts and the statics that are read -/
def q_Sx (ad : Nat → Nat) (b0 : Nat) (Hb : Heap) (U : State) : Prop := Hb.size = b0 ∧ vk_S 3 q_len q_byt (fun i => ad (1000000 + i)) (fun i => ad (2000000 + i)) (fun q => b0 ≤ q) U Hb ∧ va_Z "java/lang/String" "COMPACT_STRINGS" "Z" (.int 1) (fun q => b0 ≤ q) U Hb ∧ va_Z "jdk/internal/util/Preconditions" "SIOOBE_FORMATTER" "Ljava/util/function/BiFunction;" (q_cv ad (q_za ad)) (fun q => b0 ≤ q) U Hb ∧
  vk_R "WhichSwitch" 85 q_t0 (ad 1000000) U ∧ vk_R "WhichSwitch$Reader" 111 q_t1 (ad 1000001) U ∧ vk_R "WhichSwitch$Reader" 117 q_t2 (ad 1000002) U
def q_Env (D : va_G) (cl : List vw_C) (tys : List (ClassId × FieldType)) (ad : Nat → Nat) (b0 : Nat) (Hb : Heap) (U : State) : Prop := va_K D cl tys U ∧ (∀ w ∈ q_nest, va_Nw w U) ∧ (∀ cn ∈ q_an, va_AO cn U) ∧ q_Sx ad b0 Hb U
def q_at (p : Program) (l : Launch) (e : Env) (R : Room) (s : State) (m : MethodId) (args : Array Value) (below : List Frame) (meth : Method) (c : Code) (Q : State → Prop) (nL n0 s0 : Nat) (D : va_G) (cl : List vw_C) (tys : List (ClassId × FieldType)) (ad : Nat → Nat) (b0 : Nat) (Hb : Heap) (pc : Nat) (σ : q_S) (st : List Value) : Prop :=
  ∀ (H : Heap) (locs : List Loc) (ls : Array Slot), (σ.1.length = nL ∧ n0 ≤ σ.2.1.length ∧ s0 ≤ q_sl σ.2.1) → q_I D cl tys ad b0 Hb σ.2 H locs → lv_has ls nL (q_lv ad σ.1) →
    W p l e R s m args below meth c H locs (σ.2.1.length - n0) (q_sl σ.2.1 - s0) Q (F0 m pc ls (st.map (q_cv ad)))
/-- what is the same through a frame: the machine, the code, the tables' words, where cells lie -/
def q_Cx (p : Program) (R : Room) (s : State) (m : MethodId) (args : Array Value) (c : Code) (cc : ByteArray) (nL : Nat) (own : String) (D : va_G) (cl : List vw_C) (tys : List (ClassId × FieldType)) (ad : Nat → Nat) (b0 : Nat) (Hb : Heap) (n0 s0 : Nat) : Prop :=
  p.tables.exec = Jvm.exec ∧ c.code = cc ∧ c.maxLocals = nL ∧ s.vm.findClass own = some m.cls ∧ (∀ w ∈ q_tb, w.before args s = true) ∧ q_Env D cl tys ad b0 Hb s ∧ (∀ o, o < 100000 → ad o = b0 + o) ∧ s.heap.size = b0 + n0 ∧ ∀ q : Nat, q < b0 → s.heap[q]? = Hb[q]?

theorem q1_iconst (C : q_Cx p R s m args c cc nL own D cl tys ad b0 Hb n0 s0) {pc : Nat} {σ : q_S} {st : List Value} {n : Int} (hd : decode cc pc = .ok (.iconst n, 1)) (k : q_at p l e R s m args below meth c Q nL n0 s0 D cl tys ad b0 Hb (pc + 1) σ (.int (Int32.ofInt n) :: st)) : q_at p l e R s m args below meth c Q nL n0 s0 D cl tys ad b0 Hb pc σ st := by
  intro H locs ls hL hI hl
  exact lv_iconst C.1 C.2.1 hd rfl (k H locs ls hL hI hl)

theorem q1_bipush (C : q_Cx p R s m args c cc nL own D cl tys ad b0 Hb n0 s0) {pc : Nat} {σ : q_S} {st : List Value} {n : Int} (hd : decode cc pc = .ok (.bipush n, 2)) (k : q_at p l e R s m args below meth c Q nL n0 s0 D cl tys ad b0 Hb (pc + 2) σ (.int (Int8.ofInt n).toInt32 :: st)) : q_at p l e R s m args below meth c Q nL n0 s0 D cl tys ad b0 Hb pc σ st := by
  intro H locs ls hL hI hl
  exact lv_bipush C.1 C.2.1 hd rfl (k H locs ls hL hI hl)

theorem q1_sipush (C : q_Cx p R s m args c cc nL own D cl tys ad b0 Hb n0 s0) {pc : Nat} {σ : q_S} {st : List Value} {n : Int} (hd : decode cc pc = .ok (.sipush n, 3)) (k : q_at p l e R s m args below meth c Q nL n0 s0 D cl tys ad b0 Hb (pc + 3) σ (.int (Int16.ofInt n).toInt32 :: st)) : q_at p l e R s m args below meth c Q nL n0 s0 D cl tys ad b0 Hb pc σ st := by
  intro H locs ls hL hI hl
  exact lv_sipush C.1 C.2.1 hd rfl (k H locs ls hL hI hl)

theorem q1_lconst (C : q_Cx p R s m args c cc nL own D cl tys ad b0 Hb n0 s0) {pc : Nat} {σ : q_S} {st : List Value} {n : Fin 2} (hd : decode cc pc = .ok (.lconst n, 1)) (k : q_at p l e R s m args below meth c Q nL n0 s0 D cl tys ad b0 Hb (pc + 1) σ (.long (Int64.ofNat n) :: st)) : q_at p l e R s m args below meth c Q nL n0 s0 D cl tys ad b0 Hb pc σ st := by
  intro H locs ls hL hI hl
  exact lv_lconst C.1 C.2.1 hd rfl (k H locs ls hL hI hl)

theorem q1_ldc (C : q_Cx p R s m args c cc nL own D cl tys ad b0 Hb n0 s0) {pc : Nat} {σ : q_S} {st : List Value} {x : Nat} {v : Int32} (hd : decode cc pc = .ok (.ldc x, 2)) (hw : Cond.constant own x v ∈ q_tb) (k : q_at p l e R s m args below meth c Q nL n0 s0 D cl tys ad b0 Hb (pc + 2) σ (.int v :: st)) : q_at p l e R s m args below meth c Q nL n0 s0 D cl tys ad b0 Hb pc σ st := by
  intro H locs ls hL hI hl
  exact lv_ldc C.1 C.2.1 C.2.2.2.1 (C.2.2.2.2.1 _ hw) hd (k H locs ls hL hI hl)

theorem q1_ldcw (C : q_Cx p R s m args c cc nL own D cl tys ad b0 Hb n0 s0) {pc : Nat} {σ : q_S} {st : List Value} {x : Nat} {v : Int32} (hd : decode cc pc = .ok (.ldc_w x, 3)) (hw : Cond.constant own x v ∈ q_tb) (k : q_at p l e R s m args below meth c Q nL n0 s0 D cl tys ad b0 Hb (pc + 3) σ (.int v :: st)) : q_at p l e R s m args below meth c Q nL n0 s0 D cl tys ad b0 Hb pc σ st := by
  intro H locs ls hL hI hl
  exact lv_ldcw C.1 C.2.1 C.2.2.2.1 (C.2.2.2.2.1 _ hw) hd (k H locs ls hL hI hl)

theorem q1_ldc2 (C : q_Cx p R s m args c cc nL own D cl tys ad b0 Hb n0 s0) {pc : Nat} {σ : q_S} {st : List Value} {x : Nat} {v : Int64} (hd : decode cc pc = .ok (.ldc2_w x, 3)) (hw : Cond.constantLong own x v ∈ q_tb) (k : q_at p l e R s m args below meth c Q nL n0 s0 D cl tys ad b0 Hb (pc + 3) σ (.long v :: st)) : q_at p l e R s m args below meth c Q nL n0 s0 D cl tys ad b0 Hb pc σ st := by
  intro H locs ls hL hI hl
  exact lv_ldc2 C.1 C.2.1 C.2.2.2.1 (C.2.2.2.2.1 _ hw) hd (k H locs ls hL hI hl)

theorem q1_iload_n (C : q_Cx p R s m args c cc nL own D cl tys ad b0 Hb n0 s0) {pc : Nat} {σ : q_S} {st : List Value} {n : Fin 4} {i : Nat} {x : Int32} (hd : decode cc pc = .ok (.iload_n n, 1)) (hi : (n : Nat) = i) (hx : σ.1[i]? = some (some (.int x))) (k : q_at p l e R s m args below meth c Q nL n0 s0 D cl tys ad b0 Hb (pc + 1) σ (.int x :: st)) : q_at p l e R s m args below meth c Q nL n0 s0 D cl tys ad b0 Hb pc σ st := by
  intro H locs ls hL hI hl
  exact lv_iload_n C.1 C.2.1 hd hi (q_lget hl hx) (k H locs ls hL hI hl)

theorem q1_iload (C : q_Cx p R s m args c cc nL own D cl tys ad b0 Hb n0 s0) {pc : Nat} {σ : q_S} {st : List Value} {i : Nat} {x : Int32} (hd : decode cc pc = .ok (.iload i, 2)) (hx : σ.1[i]? = some (some (.int x))) (k : q_at p l e R s m args below meth c Q nL n0 s0 D cl tys ad b0 Hb (pc + 2) σ (.int x :: st)) : q_at p l e R s m args below meth c Q nL n0 s0 D cl tys ad b0 Hb pc σ st := by
  intro H locs ls hL hI hl
  exact lv_iload C.1 C.2.1 hd (q_lget hl hx) (k H locs ls hL hI hl)

theorem q1_lload_n (C : q_Cx p R s m args c cc nL own D cl tys ad b0 Hb n0 s0) {pc : Nat} {σ : q_S} {st : List Value} {n : Fin 4} {i : Nat} {x : Int64} (hd : decode cc pc = .ok (.lload_n n, 1)) (hi : (n : Nat) = i) (hx : σ.1[i]? = some (some (.long x))) (k : q_at p l e R s m args below meth c Q nL n0 s0 D cl tys ad b0 Hb (pc + 1) σ (.long x :: st)) : q_at p l e R s m args below meth c Q nL n0 s0 D cl tys ad b0 Hb pc σ st := by
  intro H locs ls hL hI hl
  exact lv_lload_n C.1 C.2.1 hd hi (q_lget hl hx) (k H locs ls hL hI hl)

theorem q1_lload (C : q_Cx p R s m args c cc nL own D cl tys ad b0 Hb n0 s0) {pc : Nat} {σ : q_S} {st : List Value} {i : Nat} {x : Int64} (hd : decode cc pc = .ok (.lload i, 2)) (hx : σ.1[i]? = some (some (.long x))) (k : q_at p l e R s m args below meth c Q nL n0 s0 D cl tys ad b0 Hb (pc + 2) σ (.long x :: st)) : q_at p l e R s m args below meth c Q nL n0 s0 D cl tys ad b0 Hb pc σ st := by
  intro H locs ls hL hI hl
  exact lv_lload C.1 C.2.1 hd (q_lget hl hx) (k H locs ls hL hI hl)

theorem q1_aload_n (C : q_Cx p R s m args c cc nL own D cl tys ad b0 Hb n0 s0) {pc : Nat} {σ : q_S} {st : List Value} {n : Fin 4} {i : Nat} {x : Nat} (hd : decode cc pc = .ok (.aload_n n, 1)) (hi : (n : Nat) = i) (hx : σ.1[i]? = some (some (.ref x))) (k : q_at p l e R s m args below meth c Q nL n0 s0 D cl tys ad b0 Hb (pc + 1) σ (.ref x :: st)) : q_at p l e R s m args below meth c Q nL n0 s0 D cl tys ad b0 Hb pc σ st := by
  intro H locs ls hL hI hl
  exact lv_aload_n C.1 C.2.1 hd hi (q_lget hl hx) (k H locs ls hL hI hl)

theorem q1_aload (C : q_Cx p R s m args c cc nL own D cl tys ad b0 Hb n0 s0) {pc : Nat} {σ : q_S} {st : List Value} {i : Nat} {x : Nat} (hd : decode cc pc = .ok (.aload i, 2)) (hx : σ.1[i]? = some (some (.ref x))) (k : q_at p l e R s m args below meth c Q nL n0 s0 D cl tys ad b0 Hb (pc + 2) σ (.ref x :: st)) : q_at p l e R s m args below meth c Q nL n0 s0 D cl tys ad b0 Hb pc σ st := by
  intro H locs ls hL hI hl
  exact lv_aload C.1 C.2.1 hd (q_lget hl hx) (k H locs ls hL hI hl)

theorem q1_istore_n (C : q_Cx p R s m args c cc nL own D cl tys ad b0 Hb n0 s0) {pc : Nat} {σ : q_S} {st : List Value} {n : Fin 4} {i : Nat} {x : Int32} (hd : decode cc pc = .ok (.istore_n n, 1)) (hi : (n : Nat) = i) (hn : i < nL) (k : q_at p l e R s m args below meth c Q nL n0 s0 D cl tys ad b0 Hb (pc + 1) (q_st σ.1 i (.int x), σ.2) st) : q_at p l e R s m args below meth c Q nL n0 s0 D cl tys ad b0 Hb pc σ (.int x :: st) := by
  intro H locs ls hL hI hl
  exact lv_istore_n C.1 C.2.1 hd hi hl hn rfl fun ls1 h1 => k H locs ls1 ⟨(q_st_len _ _ _).trans hL.1, hL.2⟩ hI (q_lset (v := .int x) (by rw [hL.1]; exact hn) h1)

theorem q1_istore (C : q_Cx p R s m args c cc nL own D cl tys ad b0 Hb n0 s0) {pc : Nat} {σ : q_S} {st : List Value} {i : Nat} {x : Int32} (hd : decode cc pc = .ok (.istore i, 2)) (hn : i < nL) (k : q_at p l e R s m args below meth c Q nL n0 s0 D cl tys ad b0 Hb (pc + 2) (q_st σ.1 i (.int x), σ.2) st) : q_at p l e R s m args below meth c Q nL n0 s0 D cl tys ad b0 Hb pc σ (.int x :: st) := by
  intro H locs ls hL hI hl
  exact lv_istore C.1 C.2.1 hd hl hn rfl fun ls1 h1 => k H locs ls1 ⟨(q_st_len _ _ _).trans hL.1, hL.2⟩ hI (q_lset (v := .int x) (by rw [hL.1]; exact hn) h1)

theorem q1_astore_n (C : q_Cx p R s m args c cc nL own D cl tys ad b0 Hb n0 s0) {pc : Nat} {σ : q_S} {st : List Value} {n : Fin 4} {i : Nat} {x : Nat} (hd : decode cc pc = .ok (.astore_n n, 1)) (hi : (n : Nat) = i) (hn : i < nL) (k : q_at p l e R s m args below meth c Q nL n0 s0 D cl tys ad b0 Hb (pc + 1) (q_st σ.1 i (.ref x), σ.2) st) : q_at p l e R s m args below meth c Q nL n0 s0 D cl tys ad b0 Hb pc σ (.ref x :: st) := by
  intro H locs ls hL hI hl
  exact lv_astore_n C.1 C.2.1 hd hi hl hn rfl fun ls1 h1 => k H locs ls1 ⟨(q_st_len _ _ _).trans hL.1, hL.2⟩ hI (q_lset (v := .ref x) (by rw [hL.1]; exact hn) h1)

theorem q1_astore (C : q_Cx p R s m args c cc nL own D cl tys ad b0 Hb n0 s0) {pc : Nat} {σ : q_S} {st : List Value} {i : Nat} {x : Nat} (hd : decode cc pc = .ok (.astore i, 2)) (hn : i < nL) (k : q_at p l e R s m args below meth c Q nL n0 s0 D cl tys ad b0 Hb (pc + 2) (q_st σ.1 i (.ref x), σ.2) st) : q_at p l e R s m args below meth c Q nL n0 s0 D cl tys ad b0 Hb pc σ (.ref x :: st) := by
  intro H locs ls hL hI hl
  exact lv_astore C.1 C.2.1 hd hl hn rfl fun ls1 h1 => k H locs ls1 ⟨(q_st_len _ _ _).trans hL.1, hL.2⟩ hI (q_lset (v := .ref x) (by rw [hL.1]; exact hn) h1)

theorem q1_lstore_n (C : q_Cx p R s m args c cc nL own D cl tys ad b0 Hb n0 s0) {pc : Nat} {σ : q_S} {st : List Value} {n : Fin 4} {i : Nat} {x : Int64} (hd : decode cc pc = .ok (.lstore_n n, 1)) (hi : (n : Nat) = i) (hn : i + 1 < nL) (k : q_at p l e R s m args below meth c Q nL n0 s0 D cl tys ad b0 Hb (pc + 1) (q_st2 σ.1 i (.long x), σ.2) st) : q_at p l e R s m args below meth c Q nL n0 s0 D cl tys ad b0 Hb pc σ (.long x :: st) := by
  intro H locs ls hL hI hl
  exact lv_lstore_n C.1 C.2.1 hd hi hl hn rfl fun ls1 h1 => k H locs ls1 ⟨(q_st2_len _ _ _).trans hL.1, hL.2⟩ hI (q_lset2 (v := .long x) (by rw [hL.1]; exact hn) h1)

theorem q1_lstore (C : q_Cx p R s m args c cc nL own D cl tys ad b0 Hb n0 s0) {pc : Nat} {σ : q_S} {st : List Value} {i : Nat} {x : Int64} (hd : decode cc pc = .ok (.lstore i, 2)) (hn : i + 1 < nL) (k : q_at p l e R s m args below meth c Q nL n0 s0 D cl tys ad b0 Hb (pc + 2) (q_st2 σ.1 i (.long x), σ.2) st) : q_at p l e R s m args below meth c Q nL n0 s0 D cl tys ad b0 Hb pc σ (.long x :: st) := by
  intro H locs ls hL hI hl
  exact lv_lstore C.1 C.2.1 hd hl hn rfl fun ls1 h1 => k H locs ls1 ⟨(q_st2_len _ _ _).trans hL.1, hL.2⟩ hI (q_lset2 (v := .long x) (by rw [hL.1]; exact hn) h1)

theorem q1_iinc (C : q_Cx p R s m args c cc nL own D cl tys ad b0 Hb n0 s0) {pc : Nat} {σ : q_S} {st : List Value} {i : Nat} {n : Int} {x : Int32} (hd : decode cc pc = .ok (.iinc i n, 3)) (hn : i < nL) (hx : σ.1[i]? = some (some (.int x))) (k : q_at p l e R s m args below meth c Q nL n0 s0 D cl tys ad b0 Hb (pc + 3) (q_st σ.1 i (.int (x + Int32.ofInt n)), σ.2) st) : q_at p l e R s m args below meth c Q nL n0 s0 D cl tys ad b0 Hb pc σ st := by
  intro H locs ls hL hI hl
  obtain ⟨j, hj⟩ := List.getElem?_of_mem (q_lv_mem (ad := ad) (q := (i, .int x)).mpr ⟨.int x, hx, rfl⟩)
  exact lv_iinc C.1 C.2.1 hd hl hj rfl hn rfl fun ls1 h1 => k H locs ls1 ⟨(q_st_len _ _ _).trans hL.1, hL.2⟩ hI (q_lset (v := .int (x + Int32.ofInt n)) (by rw [hL.1]; exact hn) h1)

theorem q1_iadd (C : q_Cx p R s m args c cc nL own D cl tys ad b0 Hb n0 s0) {pc : Nat} {σ : q_S} {st : List Value} {x y : Int32} (hd : decode cc pc = .ok (.iadd, 1)) (k : q_at p l e R s m args below meth c Q nL n0 s0 D cl tys ad b0 Hb (pc + 1) σ (.int (x + y) :: st)) : q_at p l e R s m args below meth c Q nL n0 s0 D cl tys ad b0 Hb pc σ (.int y :: .int x :: st) := by
  intro H locs ls hL hI hl
  exact lv_iadd C.1 C.2.1 hd (k H locs ls hL hI hl)

theorem q1_isub (C : q_Cx p R s m args c cc nL own D cl tys ad b0 Hb n0 s0) {pc : Nat} {σ : q_S} {st : List Value} {x y : Int32} (hd : decode cc pc = .ok (.isub, 1)) (k : q_at p l e R s m args below meth c Q nL n0 s0 D cl tys ad b0 Hb (pc + 1) σ (.int (x - y) :: st)) : q_at p l e R s m args below meth c Q nL n0 s0 D cl tys ad b0 Hb pc σ (.int y :: .int x :: st) := by
  intro H locs ls hL hI hl
  exact lv_isub C.1 C.2.1 hd (k H locs ls hL hI hl)

theorem q1_imul (C : q_Cx p R s m args c cc nL own D cl tys ad b0 Hb n0 s0) {pc : Nat} {σ : q_S} {st : List Value} {x y : Int32} (hd : decode cc pc = .ok (.imul, 1)) (k : q_at p l e R s m args below meth c Q nL n0 s0 D cl tys ad b0 Hb (pc + 1) σ (.int (x * y) :: st)) : q_at p l e R s m args below meth c Q nL n0 s0 D cl tys ad b0 Hb pc σ (.int y :: .int x :: st) := by
  intro H locs ls hL hI hl
  exact lv_imul C.1 C.2.1 hd (k H locs ls hL hI hl)

theorem q1_iand (C : q_Cx p R s m args c cc nL own D cl tys ad b0 Hb n0 s0) {pc : Nat} {σ : q_S} {st : List Value} {x y : Int32} (hd : decode cc pc = .ok (.iand, 1)) (k : q_at p l e R s m args below meth c Q nL n0 s0 D cl tys ad b0 Hb (pc + 1) σ (.int (x &&& y) :: st)) : q_at p l e R s m args below meth c Q nL n0 s0 D cl tys ad b0 Hb pc σ (.int y :: .int x :: st) := by
  intro H locs ls hL hI hl
  exact lv_iand C.1 C.2.1 hd (k H locs ls hL hI hl)

theorem q1_ior (C : q_Cx p R s m args c cc nL own D cl tys ad b0 Hb n0 s0) {pc : Nat} {σ : q_S} {st : List Value} {x y : Int32} (hd : decode cc pc = .ok (.ior, 1)) (k : q_at p l e R s m args below meth c Q nL n0 s0 D cl tys ad b0 Hb (pc + 1) σ (.int (x ||| y) :: st)) : q_at p l e R s m args below meth c Q nL n0 s0 D cl tys ad b0 Hb pc σ (.int y :: .int x :: st) := by
  intro H locs ls hL hI hl
  exact lv_ior C.1 C.2.1 hd (k H locs ls hL hI hl)

theorem q1_ixor (C : q_Cx p R s m args c cc nL own D cl tys ad b0 Hb n0 s0) {pc : Nat} {σ : q_S} {st : List Value} {x y : Int32} (hd : decode cc pc = .ok (.ixor, 1)) (k : q_at p l e R s m args below meth c Q nL n0 s0 D cl tys ad b0 Hb (pc + 1) σ (.int (x ^^^ y) :: st)) : q_at p l e R s m args below meth c Q nL n0 s0 D cl tys ad b0 Hb pc σ (.int y :: .int x :: st) := by
  intro H locs ls hL hI hl
  exact lv_ixor C.1 C.2.1 hd (k H locs ls hL hI hl)

theorem q1_ishl (C : q_Cx p R s m args c cc nL own D cl tys ad b0 Hb n0 s0) {pc : Nat} {σ : q_S} {st : List Value} {x y : Int32} (hd : decode cc pc = .ok (.ishl, 1)) (k : q_at p l e R s m args below meth c Q nL n0 s0 D cl tys ad b0 Hb (pc + 1) σ (.int (x <<< (y &&& 31)) :: st)) : q_at p l e R s m args below meth c Q nL n0 s0 D cl tys ad b0 Hb pc σ (.int y :: .int x :: st) := by
  intro H locs ls hL hI hl
  exact lv_ishl C.1 C.2.1 hd (k H locs ls hL hI hl)

theorem q1_ishr (C : q_Cx p R s m args c cc nL own D cl tys ad b0 Hb n0 s0) {pc : Nat} {σ : q_S} {st : List Value} {x y : Int32} (hd : decode cc pc = .ok (.ishr, 1)) (k : q_at p l e R s m args below meth c Q nL n0 s0 D cl tys ad b0 Hb (pc + 1) σ (.int (x >>> (y &&& 31)) :: st)) : q_at p l e R s m args below meth c Q nL n0 s0 D cl tys ad b0 Hb pc σ (.int y :: .int x :: st) := by
  intro H locs ls hL hI hl
  exact lv_ishr C.1 C.2.1 hd (k H locs ls hL hI hl)

theorem q1_idiv (C : q_Cx p R s m args c cc nL own D cl tys ad b0 Hb n0 s0) {pc : Nat} {σ : q_S} {st : List Value} {x y : Int32} (hd : decode cc pc = .ok (.idiv, 1)) (hz : ¬ y = 0) (k : q_at p l e R s m args below meth c Q nL n0 s0 D cl tys ad b0 Hb (pc + 1) σ (.int (x / y) :: st)) : q_at p l e R s m args below meth c Q nL n0 s0 D cl tys ad b0 Hb pc σ (.int y :: .int x :: st) := by
  intro H locs ls hL hI hl
  exact lv_idiv C.1 C.2.1 hd hz (k H locs ls hL hI hl)

theorem q1_irem (C : q_Cx p R s m args c cc nL own D cl tys ad b0 Hb n0 s0) {pc : Nat} {σ : q_S} {st : List Value} {x y : Int32} (hd : decode cc pc = .ok (.irem, 1)) (hz : ¬ y = 0) (k : q_at p l e R s m args below meth c Q nL n0 s0 D cl tys ad b0 Hb (pc + 1) σ (.int (x - x / y * y) :: st)) : q_at p l e R s m args below meth c Q nL n0 s0 D cl tys ad b0 Hb pc σ (.int y :: .int x :: st) := by
  intro H locs ls hL hI hl
  exact lv_irem C.1 C.2.1 hd hz (k H locs ls hL hI hl)

theorem q1_ineg (C : q_Cx p R s m args c cc nL own D cl tys ad b0 Hb n0 s0) {pc : Nat} {σ : q_S} {st : List Value} {x : Int32} (hd : decode cc pc = .ok (.ineg, 1)) (k : q_at p l e R s m args below meth c Q nL n0 s0 D cl tys ad b0 Hb (pc + 1) σ (.int (-x) :: st)) : q_at p l e R s m args below meth c Q nL n0 s0 D cl tys ad b0 Hb pc σ (.int x :: st) := by
  intro H locs ls hL hI hl
  exact lv_ineg C.1 C.2.1 hd (k H locs ls hL hI hl)

theorem q1_iushr (C : q_Cx p R s m args c cc nL own D cl tys ad b0 Hb n0 s0) {pc : Nat} {σ : q_S} {st : List Value} {x y : Int32} (hd : decode cc pc = .ok (.iushr, 1)) (k : q_at p l e R s m args below meth c Q nL n0 s0 D cl tys ad b0 Hb (pc + 1) σ (.int (x.toUInt32 >>> (y.toUInt32 &&& Int32.toUInt32 31)).toInt32 :: st)) : q_at p l e R s m args below meth c Q nL n0 s0 D cl tys ad b0 Hb pc σ (.int y :: .int x :: st) := by
  intro H locs ls hL hI hl
  exact lv_iushr C.1 C.2.1 hd rfl (k H locs ls hL hI hl)

theorem q1_ladd (C : q_Cx p R s m args c cc nL own D cl tys ad b0 Hb n0 s0) {pc : Nat} {σ : q_S} {st : List Value} {x y : Int64} (hd : decode cc pc = .ok (.ladd, 1)) (k : q_at p l e R s m args below meth c Q nL n0 s0 D cl tys ad b0 Hb (pc + 1) σ (.long (x + y) :: st)) : q_at p l e R s m args below meth c Q nL n0 s0 D cl tys ad b0 Hb pc σ (.long y :: .long x :: st) := by
  intro H locs ls hL hI hl
  exact lv_ladd C.1 C.2.1 hd (k H locs ls hL hI hl)

theorem q1_lsub (C : q_Cx p R s m args c cc nL own D cl tys ad b0 Hb n0 s0) {pc : Nat} {σ : q_S} {st : List Value} {x y : Int64} (hd : decode cc pc = .ok (.lsub, 1)) (k : q_at p l e R s m args below meth c Q nL n0 s0 D cl tys ad b0 Hb (pc + 1) σ (.long (x - y) :: st)) : q_at p l e R s m args below meth c Q nL n0 s0 D cl tys ad b0 Hb pc σ (.long y :: .long x :: st) := by
  intro H locs ls hL hI hl
  exact lv_lsub C.1 C.2.1 hd (k H locs ls hL hI hl)

theorem q1_lmul (C : q_Cx p R s m args c cc nL own D cl tys ad b0 Hb n0 s0) {pc : Nat} {σ : q_S} {st : List Value} {x y : Int64} (hd : decode cc pc = .ok (.lmul, 1)) (k : q_at p l e R s m args below meth c Q nL n0 s0 D cl tys ad b0 Hb (pc + 1) σ (.long (x * y) :: st)) : q_at p l e R s m args below meth c Q nL n0 s0 D cl tys ad b0 Hb pc σ (.long y :: .long x :: st) := by
  intro H locs ls hL hI hl
  exact lv_lmul C.1 C.2.1 hd (k H locs ls hL hI hl)

theorem q1_land (C : q_Cx p R s m args c cc nL own D cl tys ad b0 Hb n0 s0) {pc : Nat} {σ : q_S} {st : List Value} {x y : Int64} (hd : decode cc pc = .ok (.land, 1)) (k : q_at p l e R s m args below meth c Q nL n0 s0 D cl tys ad b0 Hb (pc + 1) σ (.long (x &&& y) :: st)) : q_at p l e R s m args below meth c Q nL n0 s0 D cl tys ad b0 Hb pc σ (.long y :: .long x :: st) := by
  intro H locs ls hL hI hl
  exact lv_land C.1 C.2.1 hd (k H locs ls hL hI hl)

theorem q1_lor (C : q_Cx p R s m args c cc nL own D cl tys ad b0 Hb n0 s0) {pc : Nat} {σ : q_S} {st : List Value} {x y : Int64} (hd : decode cc pc = .ok (.lor, 1)) (k : q_at p l e R s m args below meth c Q nL n0 s0 D cl tys ad b0 Hb (pc + 1) σ (.long (x ||| y) :: st)) : q_at p l e R s m args below meth c Q nL n0 s0 D cl tys ad b0 Hb pc σ (.long y :: .long x :: st) := by
  intro H locs ls hL hI hl
  exact lv_lor C.1 C.2.1 hd (k H locs ls hL hI hl)

theorem q1_lrem (C : q_Cx p R s m args c cc nL own D cl tys ad b0 Hb n0 s0) {pc : Nat} {σ : q_S} {st : List Value} {x y : Int64} (hd : decode cc pc = .ok (.lrem, 1)) (hz : ¬ y = 0) (k : q_at p l e R s m args below meth c Q nL n0 s0 D cl tys ad b0 Hb (pc + 1) σ (.long (x - x / y * y) :: st)) : q_at p l e R s m args below meth c Q nL n0 s0 D cl tys ad b0 Hb pc σ (.long y :: .long x :: st) := by
  intro H locs ls hL hI hl
  exact lv_lrem C.1 C.2.1 hd hz (k H locs ls hL hI hl)

theorem q1_lshl (C : q_Cx p R s m args c cc nL own D cl tys ad b0 Hb n0 s0) {pc : Nat} {σ : q_S} {st : List Value} {x : Int64} {y : Int32} (hd : decode cc pc = .ok (.lshl, 1)) (k : q_at p l e R s m args below meth c Q nL n0 s0 D cl tys ad b0 Hb (pc + 1) σ (.long (x <<< (y.toInt64 &&& 63)) :: st)) : q_at p l e R s m args below meth c Q nL n0 s0 D cl tys ad b0 Hb pc σ (.int y :: .long x :: st) := by
  intro H locs ls hL hI hl
  exact lv_lshl C.1 C.2.1 hd rfl (k H locs ls hL hI hl)

theorem q1_lshr (C : q_Cx p R s m args c cc nL own D cl tys ad b0 Hb n0 s0) {pc : Nat} {σ : q_S} {st : List Value} {x : Int64} {y : Int32} (hd : decode cc pc = .ok (.lshr, 1)) (k : q_at p l e R s m args below meth c Q nL n0 s0 D cl tys ad b0 Hb (pc + 1) σ (.long (x >>> (y.toInt64 &&& 63)) :: st)) : q_at p l e R s m args below meth c Q nL n0 s0 D cl tys ad b0 Hb pc σ (.int y :: .long x :: st) := by
  intro H locs ls hL hI hl
  exact lv_lshr C.1 C.2.1 hd rfl (k H locs ls hL hI hl)

theorem q1_lushr (C : q_Cx p R s m args c cc nL own D cl tys ad b0 Hb n0 s0) {pc : Nat} {σ : q_S} {st : List Value} {x : Int64} {y : Int32} (hd : decode cc pc = .ok (.lushr, 1)) (k : q_at p l e R s m args below meth c Q nL n0 s0 D cl tys ad b0 Hb (pc + 1) σ (.long (x.toUInt64 >>> (y.toInt64.toUInt64 &&& Int64.toUInt64 63)).toInt64 :: st)) : q_at p l e R s m args below meth c Q nL n0 s0 D cl tys ad b0 Hb pc σ (.int y :: .long x :: st) := by
  intro H locs ls hL hI hl
  exact lv_lushr C.1 C.2.1 hd rfl (k H locs ls hL hI hl)

theorem q1_lcmp (C : q_Cx p R s m args c cc nL own D cl tys ad b0 Hb n0 s0) {pc : Nat} {σ : q_S} {st : List Value} {x y : Int64} (hd : decode cc pc = .ok (.lcmp, 1)) (k : q_at p l e R s m args below meth c Q nL n0 s0 D cl tys ad b0 Hb (pc + 1) σ (.int (lg_cmp x y) :: st)) : q_at p l e R s m args below meth c Q nL n0 s0 D cl tys ad b0 Hb pc σ (.long y :: .long x :: st) := by
  intro H locs ls hL hI hl
  exact W.lcmp C.1 C.2.1 hd (k H locs ls hL hI hl)

theorem q1_i2l (C : q_Cx p R s m args c cc nL own D cl tys ad b0 Hb n0 s0) {pc : Nat} {σ : q_S} {st : List Value} {x : Int32} (hd : decode cc pc = .ok (.i2l, 1)) (k : q_at p l e R s m args below meth c Q nL n0 s0 D cl tys ad b0 Hb (pc + 1) σ (.long x.toInt64 :: st)) : q_at p l e R s m args below meth c Q nL n0 s0 D cl tys ad b0 Hb pc σ (.int x :: st) := by
  intro H locs ls hL hI hl
  exact lv_i2l C.1 C.2.1 hd rfl (k H locs ls hL hI hl)

theorem q1_l2i (C : q_Cx p R s m args c cc nL own D cl tys ad b0 Hb n0 s0) {pc : Nat} {σ : q_S} {st : List Value} {x : Int64} (hd : decode cc pc = .ok (.l2i, 1)) (k : q_at p l e R s m args below meth c Q nL n0 s0 D cl tys ad b0 Hb (pc + 1) σ (.int x.toInt32 :: st)) : q_at p l e R s m args below meth c Q nL n0 s0 D cl tys ad b0 Hb pc σ (.long x :: st) := by
  intro H locs ls hL hI hl
  exact lv_l2i C.1 C.2.1 hd rfl (k H locs ls hL hI hl)

theorem q1_i2b (C : q_Cx p R s m args c cc nL own D cl tys ad b0 Hb n0 s0) {pc : Nat} {σ : q_S} {st : List Value} {x : Int32} (hd : decode cc pc = .ok (.i2b, 1)) (k : q_at p l e R s m args below meth c Q nL n0 s0 D cl tys ad b0 Hb (pc + 1) σ (.int x.toInt8.toInt32 :: st)) : q_at p l e R s m args below meth c Q nL n0 s0 D cl tys ad b0 Hb pc σ (.int x :: st) := by
  intro H locs ls hL hI hl
  exact lv_i2b C.1 C.2.1 hd rfl (k H locs ls hL hI hl)

theorem q1_i2s (C : q_Cx p R s m args c cc nL own D cl tys ad b0 Hb n0 s0) {pc : Nat} {σ : q_S} {st : List Value} {x : Int32} (hd : decode cc pc = .ok (.i2s, 1)) (k : q_at p l e R s m args below meth c Q nL n0 s0 D cl tys ad b0 Hb (pc + 1) σ (.int x.toInt16.toInt32 :: st)) : q_at p l e R s m args below meth c Q nL n0 s0 D cl tys ad b0 Hb pc σ (.int x :: st) := by
  intro H locs ls hL hI hl
  exact lv_i2s C.1 C.2.1 hd rfl (k H locs ls hL hI hl)

theorem q1_i2c (C : q_Cx p R s m args c cc nL own D cl tys ad b0 Hb n0 s0) {pc : Nat} {σ : q_S} {st : List Value} {x v : Int32} (hv : (x.toUInt32 % 65536).toInt32 = v) (hd : decode cc pc = .ok (.i2c, 1)) (k : q_at p l e R s m args below meth c Q nL n0 s0 D cl tys ad b0 Hb (pc + 1) σ (.int v :: st)) : q_at p l e R s m args below meth c Q nL n0 s0 D cl tys ad b0 Hb pc σ (.int x :: st) := by
  intro H locs ls hL hI hl
  exact lv_i2c C.1 C.2.1 hd hv (k H locs ls hL hI hl)

theorem q1_dup (C : q_Cx p R s m args c cc nL own D cl tys ad b0 Hb n0 s0) {pc : Nat} {σ : q_S} {st : List Value} {v : Value} (hd : decode cc pc = .ok (.dup, 1)) (hc : v.category = 1) (k : q_at p l e R s m args below meth c Q nL n0 s0 D cl tys ad b0 Hb (pc + 1) σ (v :: v :: st)) : q_at p l e R s m args below meth c Q nL n0 s0 D cl tys ad b0 Hb pc σ (v :: st) := by
  intro H locs ls hL hI hl
  exact lv_dup C.1 C.2.1 hd ((q_cv_cat ad v).trans hc) (k H locs ls hL hI hl)

theorem q1_dup2 (C : q_Cx p R s m args c cc nL own D cl tys ad b0 Hb n0 s0) {pc : Nat} {σ : q_S} {st : List Value} {v u : Value} (hd : decode cc pc = .ok (.dup2, 1)) (hc : v.category = 1) (hc2 : u.category = 1) (k : q_at p l e R s m args below meth c Q nL n0 s0 D cl tys ad b0 Hb (pc + 1) σ (v :: u :: v :: u :: st)) : q_at p l e R s m args below meth c Q nL n0 s0 D cl tys ad b0 Hb pc σ (v :: u :: st) := by
  intro H locs ls hL hI hl
  exact lv_dup2_11 C.1 C.2.1 hd ((q_cv_cat ad v).trans hc) ((q_cv_cat ad u).trans hc2) (k H locs ls hL hI hl)

theorem q1_pop (C : q_Cx p R s m args c cc nL own D cl tys ad b0 Hb n0 s0) {pc : Nat} {σ : q_S} {st : List Value} {v : Value} (hd : decode cc pc = .ok (.pop, 1)) (hc : v.category = 1) (k : q_at p l e R s m args below meth c Q nL n0 s0 D cl tys ad b0 Hb (pc + 1) σ st) : q_at p l e R s m args below meth c Q nL n0 s0 D cl tys ad b0 Hb pc σ (v :: st) := by
  intro H locs ls hL hI hl
  exact lv_pop C.1 C.2.1 hd ((q_cv_cat ad v).trans hc) (k H locs ls hL hI hl)

theorem q1_goto (C : q_Cx p R s m args c cc nL own D cl tys ad b0 Hb n0 s0) {pc : Nat} {σ : q_S} {st : List Value} {n : Int} {t : Nat} (hd : decode cc pc = .ok (.goto n, 3)) (ht : (pc : Int) + n = (t : Int)) (k : q_at p l e R s m args below meth c Q nL n0 s0 D cl tys ad b0 Hb t σ st) : q_at p l e R s m args below meth c Q nL n0 s0 D cl tys ad b0 Hb pc σ st := by
  intro H locs ls hL hI hl
  exact lv_goto C.1 C.2.1 hd ht (k H locs ls hL hI hl)

theorem q1_if_eq (C : q_Cx p R s m args c cc nL own D cl tys ad b0 Hb n0 s0) {pc t : Nat} {n : Int} {σ : q_S} {st : List Value} {x : Int32} (hd : decode cc pc = .ok (.ifCond .eq n, 3)) (ht : (pc : Int) + n = (t : Int)) (kt : x = 0 → q_at p l e R s m args below meth c Q nL n0 s0 D cl tys ad b0 Hb t σ st) (kf : ¬ (x = 0) → q_at p l e R s m args below meth c Q nL n0 s0 D cl tys ad b0 Hb (pc + 3) σ st) : q_at p l e R s m args below meth c Q nL n0 s0 D cl tys ad b0 Hb pc σ (.int x :: st) := by
  intro H locs ls hL hI hl
  exact lv_if_eq C.1 C.2.1 hd ht (fun h => kt h H locs ls hL hI hl) (fun h => kf (by first | exact h | exact fun g => g h) H locs ls hL hI hl)

theorem q1_icmp_eq (C : q_Cx p R s m args c cc nL own D cl tys ad b0 Hb n0 s0) {pc t : Nat} {n : Int} {σ : q_S} {st : List Value} {x y : Int32} (hd : decode cc pc = .ok (.if_icmp .eq n, 3)) (ht : (pc : Int) + n = (t : Int)) (kt : x = y → q_at p l e R s m args below meth c Q nL n0 s0 D cl tys ad b0 Hb t σ st) (kf : ¬ (x = y) → q_at p l e R s m args below meth c Q nL n0 s0 D cl tys ad b0 Hb (pc + 3) σ st) : q_at p l e R s m args below meth c Q nL n0 s0 D cl tys ad b0 Hb pc σ (.int y :: .int x :: st) := by
  intro H locs ls hL hI hl
  exact lv_icmp_eq C.1 C.2.1 hd ht (fun h => kt h H locs ls hL hI hl) (fun h => kf (by first | exact h | exact fun g => g h) H locs ls hL hI hl)

theorem q1_if_ne (C : q_Cx p R s m args c cc nL own D cl tys ad b0 Hb n0 s0) {pc t : Nat} {n : Int} {σ : q_S} {st : List Value} {x : Int32} (hd : decode cc pc = .ok (.ifCond .ne n, 3)) (ht : (pc : Int) + n = (t : Int)) (kt : ¬ x = 0 → q_at p l e R s m args below meth c Q nL n0 s0 D cl tys ad b0 Hb t σ st) (kf : ¬ (¬ x = 0) → q_at p l e R s m args below meth c Q nL n0 s0 D cl tys ad b0 Hb (pc + 3) σ st) : q_at p l e R s m args below meth c Q nL n0 s0 D cl tys ad b0 Hb pc σ (.int x :: st) := by
  intro H locs ls hL hI hl
  exact lv_if_ne C.1 C.2.1 hd ht (fun h => kt h H locs ls hL hI hl) (fun h => kf (by first | exact h | exact fun g => g h) H locs ls hL hI hl)

theorem q1_icmp_ne (C : q_Cx p R s m args c cc nL own D cl tys ad b0 Hb n0 s0) {pc t : Nat} {n : Int} {σ : q_S} {st : List Value} {x y : Int32} (hd : decode cc pc = .ok (.if_icmp .ne n, 3)) (ht : (pc : Int) + n = (t : Int)) (kt : ¬ x = y → q_at p l e R s m args below meth c Q nL n0 s0 D cl tys ad b0 Hb t σ st) (kf : ¬ (¬ x = y) → q_at p l e R s m args below meth c Q nL n0 s0 D cl tys ad b0 Hb (pc + 3) σ st) : q_at p l e R s m args below meth c Q nL n0 s0 D cl tys ad b0 Hb pc σ (.int y :: .int x :: st) := by
  intro H locs ls hL hI hl
  exact lv_icmp_ne C.1 C.2.1 hd ht (fun h => kt h H locs ls hL hI hl) (fun h => kf (by first | exact h | exact fun g => g h) H locs ls hL hI hl)

theorem q1_if_lt (C : q_Cx p R s m args c cc nL own D cl tys ad b0 Hb n0 s0) {pc t : Nat} {n : Int} {σ : q_S} {st : List Value} {x : Int32} (hd : decode cc pc = .ok (.ifCond .lt n, 3)) (ht : (pc : Int) + n = (t : Int)) (kt : x < 0 → q_at p l e R s m args below meth c Q nL n0 s0 D cl tys ad b0 Hb t σ st) (kf : ¬ (x < 0) → q_at p l e R s m args below meth c Q nL n0 s0 D cl tys ad b0 Hb (pc + 3) σ st) : q_at p l e R s m args below meth c Q nL n0 s0 D cl tys ad b0 Hb pc σ (.int x :: st) := by
  intro H locs ls hL hI hl
  exact lv_if_lt C.1 C.2.1 hd ht (fun h => kt h H locs ls hL hI hl) (fun h => kf (by first | exact h | exact fun g => g h) H locs ls hL hI hl)

theorem q1_icmp_lt (C : q_Cx p R s m args c cc nL own D cl tys ad b0 Hb n0 s0) {pc t : Nat} {n : Int} {σ : q_S} {st : List Value} {x y : Int32} (hd : decode cc pc = .ok (.if_icmp .lt n, 3)) (ht : (pc : Int) + n = (t : Int)) (kt : x < y → q_at p l e R s m args below meth c Q nL n0 s0 D cl tys ad b0 Hb t σ st) (kf : ¬ (x < y) → q_at p l e R s m args below meth c Q nL n0 s0 D cl tys ad b0 Hb (pc + 3) σ st) : q_at p l e R s m args below meth c Q nL n0 s0 D cl tys ad b0 Hb pc σ (.int y :: .int x :: st) := by
  intro H locs ls hL hI hl
  exact lv_icmp_lt C.1 C.2.1 hd ht (fun h => kt h H locs ls hL hI hl) (fun h => kf (by first | exact h | exact fun g => g h) H locs ls hL hI hl)

theorem q1_if_ge (C : q_Cx p R s m args c cc nL own D cl tys ad b0 Hb n0 s0) {pc t : Nat} {n : Int} {σ : q_S} {st : List Value} {x : Int32} (hd : decode cc pc = .ok (.ifCond .ge n, 3)) (ht : (pc : Int) + n = (t : Int)) (kt : 0 ≤ x → q_at p l e R s m args below meth c Q nL n0 s0 D cl tys ad b0 Hb t σ st) (kf : ¬ (0 ≤ x) → q_at p l e R s m args below meth c Q nL n0 s0 D cl tys ad b0 Hb (pc + 3) σ st) : q_at p l e R s m args below meth c Q nL n0 s0 D cl tys ad b0 Hb pc σ (.int x :: st) := by
  intro H locs ls hL hI hl
  exact lv_if_ge C.1 C.2.1 hd ht (fun h => kt h H locs ls hL hI hl) (fun h => kf (by first | exact h | exact fun g => g h) H locs ls hL hI hl)

theorem q1_icmp_ge (C : q_Cx p R s m args c cc nL own D cl tys ad b0 Hb n0 s0) {pc t : Nat} {n : Int} {σ : q_S} {st : List Value} {x y : Int32} (hd : decode cc pc = .ok (.if_icmp .ge n, 3)) (ht : (pc : Int) + n = (t : Int)) (kt : y ≤ x → q_at p l e R s m args below meth c Q nL n0 s0 D cl tys ad b0 Hb t σ st) (kf : ¬ (y ≤ x) → q_at p l e R s m args below meth c Q nL n0 s0 D cl tys ad b0 Hb (pc + 3) σ st) : q_at p l e R s m args below meth c Q nL n0 s0 D cl tys ad b0 Hb pc σ (.int y :: .int x :: st) := by
  intro H locs ls hL hI hl
  exact lv_icmp_ge C.1 C.2.1 hd ht (fun h => kt h H locs ls hL hI hl) (fun h => kf (by first | exact h | exact fun g => g h) H locs ls hL hI hl)

theorem q1_if_gt (C : q_Cx p R s m args c cc nL own D cl tys ad b0 Hb n0 s0) {pc t : Nat} {n : Int} {σ : q_S} {st : List Value} {x : Int32} (hd : decode cc pc = .ok (.ifCond .gt n, 3)) (ht : (pc : Int) + n = (t : Int)) (kt : 0 < x → q_at p l e R s m args below meth c Q nL n0 s0 D cl tys ad b0 Hb t σ st) (kf : ¬ (0 < x) → q_at p l e R s m args below meth c Q nL n0 s0 D cl tys ad b0 Hb (pc + 3) σ st) : q_at p l e R s m args below meth c Q nL n0 s0 D cl tys ad b0 Hb pc σ (.int x :: st) := by
  intro H locs ls hL hI hl
  exact lv_if_gt C.1 C.2.1 hd ht (fun h => kt h H locs ls hL hI hl) (fun h => kf (by first | exact h | exact fun g => g h) H locs ls hL hI hl)

theorem q1_icmp_gt (C : q_Cx p R s m args c cc nL own D cl tys ad b0 Hb n0 s0) {pc t : Nat} {n : Int} {σ : q_S} {st : List Value} {x y : Int32} (hd : decode cc pc = .ok (.if_icmp .gt n, 3)) (ht : (pc : Int) + n = (t : Int)) (kt : y < x → q_at p l e R s m args below meth c Q nL n0 s0 D cl tys ad b0 Hb t σ st) (kf : ¬ (y < x) → q_at p l e R s m args below meth c Q nL n0 s0 D cl tys ad b0 Hb (pc + 3) σ st) : q_at p l e R s m args below meth c Q nL n0 s0 D cl tys ad b0 Hb pc σ (.int y :: .int x :: st) := by
  intro H locs ls hL hI hl
  exact lv_icmp_gt C.1 C.2.1 hd ht (fun h => kt h H locs ls hL hI hl) (fun h => kf (by first | exact h | exact fun g => g h) H locs ls hL hI hl)

theorem q1_if_le (C : q_Cx p R s m args c cc nL own D cl tys ad b0 Hb n0 s0) {pc t : Nat} {n : Int} {σ : q_S} {st : List Value} {x : Int32} (hd : decode cc pc = .ok (.ifCond .le n, 3)) (ht : (pc : Int) + n = (t : Int)) (kt : x ≤ 0 → q_at p l e R s m args below meth c Q nL n0 s0 D cl tys ad b0 Hb t σ st) (kf : ¬ (x ≤ 0) → q_at p l e R s m args below meth c Q nL n0 s0 D cl tys ad b0 Hb (pc + 3) σ st) : q_at p l e R s m args below meth c Q nL n0 s0 D cl tys ad b0 Hb pc σ (.int x :: st) := by
  intro H locs ls hL hI hl
  exact lv_if_le C.1 C.2.1 hd ht (fun h => kt h H locs ls hL hI hl) (fun h => kf (by first | exact h | exact fun g => g h) H locs ls hL hI hl)

theorem q1_icmp_le (C : q_Cx p R s m args c cc nL own D cl tys ad b0 Hb n0 s0) {pc t : Nat} {n : Int} {σ : q_S} {st : List Value} {x y : Int32} (hd : decode cc pc = .ok (.if_icmp .le n, 3)) (ht : (pc : Int) + n = (t : Int)) (kt : x ≤ y → q_at p l e R s m args below meth c Q nL n0 s0 D cl tys ad b0 Hb t σ st) (kf : ¬ (x ≤ y) → q_at p l e R s m args below meth c Q nL n0 s0 D cl tys ad b0 Hb (pc + 3) σ st) : q_at p l e R s m args below meth c Q nL n0 s0 D cl tys ad b0 Hb pc σ (.int y :: .int x :: st) := by
  intro H locs ls hL hI hl
  exact lv_icmp_le C.1 C.2.1 hd ht (fun h => kt h H locs ls hL hI hl) (fun h => kf (by first | exact h | exact fun g => g h) H locs ls hL hI hl)

end
