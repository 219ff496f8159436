/-! THE COMBINATIONS AT THE MACHINE: a row an instruction's meaning -/
def q_lim (R : Room) (n0 s0 : Nat) : q_H → Prop := fun h => h.1.length ≤ n0 + R.cells ∧ q_sl h.1 ≤ s0 + R.slots ∧ h.1.length ≤ 100000
theorem q_lim_of {R : Room} {n0 s0 : Nat} : ∀ a c : q_H, q_le a c → q_lim R n0 s0 c → q_lim R n0 s0 a := fun a c h hl => ⟨Nat.le_trans h.1 hl.1, Nat.le_trans h.2 hl.2.1, Nat.le_trans h.1 hl.2.2⟩
section
variable {p : Program} {l : Launch} {e : Env} {R : Room} {s : State} {m : MethodId} {args : Array Value} {below : List Frame} {meth : Method} {c : Code} {Q : State → Prop} {cc : ByteArray} {nL n0 s0 : Nat} {own : String} {D : va_G} {cl : List vw_C} {tys : List (ClassId × FieldType)} {ad : Nat → Nat} {b0 : Nat} {Hb : Heap}
variable {b pc : Nat}
theorem i_iconst (C : q_Cx p R s m args c cc nL own D cl tys ad b0 Hb n0 s0) {n : Int} {v : Int32} (hd : decode cc pc = .ok (.iconst n, 1)) (hv : Int32.ofInt n = v) : q_XK (q_at p l e R s m args below meth c Q nL n0 s0 D cl tys ad b0 Hb) (q_lim R n0 s0) b pc (pc + 1) (xK (.int v)) := by
  intro σ u σ2 h
  cases h
  exact ⟨q_le.rf _, fun st _ _ K => q1_iconst C hd (by rw [hv]; exact K)⟩
theorem i_bipush (C : q_Cx p R s m args c cc nL own D cl tys ad b0 Hb n0 s0) {n : Int} {v : Int32} (hd : decode cc pc = .ok (.bipush n, 2)) (hv : (Int8.ofInt n).toInt32 = v) : q_XK (q_at p l e R s m args below meth c Q nL n0 s0 D cl tys ad b0 Hb) (q_lim R n0 s0) b pc (pc + 2) (xK (.int v)) := by
  intro σ u σ2 h
  cases h
  exact ⟨q_le.rf _, fun st _ _ K => q1_bipush C hd (by rw [hv]; exact K)⟩
theorem i_sipush (C : q_Cx p R s m args c cc nL own D cl tys ad b0 Hb n0 s0) {n : Int} {v : Int32} (hd : decode cc pc = .ok (.sipush n, 3)) (hv : (Int16.ofInt n).toInt32 = v) : q_XK (q_at p l e R s m args below meth c Q nL n0 s0 D cl tys ad b0 Hb) (q_lim R n0 s0) b pc (pc + 3) (xK (.int v)) := by
  intro σ u σ2 h
  cases h
  exact ⟨q_le.rf _, fun st _ _ K => q1_sipush C hd (by rw [hv]; exact K)⟩
theorem i_lconst (C : q_Cx p R s m args c cc nL own D cl tys ad b0 Hb n0 s0) {n : Fin 2} {v : Int64} (hd : decode cc pc = .ok (.lconst n, 1)) (hv : Int64.ofNat n = v) : q_XK (q_at p l e R s m args below meth c Q nL n0 s0 D cl tys ad b0 Hb) (q_lim R n0 s0) b pc (pc + 1) (xK (.long v)) := by
  intro σ u σ2 h
  cases h
  exact ⟨q_le.rf _, fun st _ _ K => q1_lconst C hd (by rw [hv]; exact K)⟩
theorem i_ldc (C : q_Cx p R s m args c cc nL own D cl tys ad b0 Hb n0 s0) {x : Nat} {v : Int32} (hd : decode cc pc = .ok (.ldc x, 2)) (hw : Cond.constant own x v ∈ q_tb) : q_XK (q_at p l e R s m args below meth c Q nL n0 s0 D cl tys ad b0 Hb) (q_lim R n0 s0) b pc (pc + 2) (xK (.int v)) := by
  intro σ u σ2 h
  cases h
  exact ⟨q_le.rf _, fun st _ _ K => q1_ldc C hd hw K⟩
theorem i_ldcw (C : q_Cx p R s m args c cc nL own D cl tys ad b0 Hb n0 s0) {x : Nat} {v : Int32} (hd : decode cc pc = .ok (.ldc_w x, 3)) (hw : Cond.constant own x v ∈ q_tb) : q_XK (q_at p l e R s m args below meth c Q nL n0 s0 D cl tys ad b0 Hb) (q_lim R n0 s0) b pc (pc + 3) (xK (.int v)) := by
  intro σ u σ2 h
  cases h
  exact ⟨q_le.rf _, fun st _ _ K => q1_ldcw C hd hw K⟩
theorem i_ldc2 (C : q_Cx p R s m args c cc nL own D cl tys ad b0 Hb n0 s0) {x : Nat} {v : Int64} (hd : decode cc pc = .ok (.ldc2_w x, 3)) (hw : Cond.constantLong own x v ∈ q_tb) : q_XK (q_at p l e R s m args below meth c Q nL n0 s0 D cl tys ad b0 Hb) (q_lim R n0 s0) b pc (pc + 3) (xK (.long v)) := by
  intro σ u σ2 h
  cases h
  exact ⟨q_le.rf _, fun st _ _ K => q1_ldc2 C hd hw K⟩
theorem i_iload_n (C : q_Cx p R s m args c cc nL own D cl tys ad b0 Hb n0 s0) {n : Fin 4} {i : Nat} (hd : decode cc pc = .ok (.iload_n n, 1)) (hi : (n : Nat) = i) : q_XK (q_at p l e R s m args below meth c Q nL n0 s0 D cl tys ad b0 Hb) (q_lim R n0 s0) b pc (pc + 1) (xLi i) := by
  intro σ u σ2 h
  unfold xLi at h
  split at h
  · next x e =>
    cases h
    exact ⟨q_le.rf _, fun st _ _ K => q1_iload_n C hd hi e K⟩
  · cases h
theorem i_iload (C : q_Cx p R s m args c cc nL own D cl tys ad b0 Hb n0 s0) {i : Nat} (hd : decode cc pc = .ok (.iload i, 2)) : q_XK (q_at p l e R s m args below meth c Q nL n0 s0 D cl tys ad b0 Hb) (q_lim R n0 s0) b pc (pc + 2) (xLi i) := by
  intro σ u σ2 h
  unfold xLi at h
  split at h
  · next x e =>
    cases h
    exact ⟨q_le.rf _, fun st _ _ K => q1_iload C hd e K⟩
  · cases h
theorem i_lload_n (C : q_Cx p R s m args c cc nL own D cl tys ad b0 Hb n0 s0) {n : Fin 4} {i : Nat} (hd : decode cc pc = .ok (.lload_n n, 1)) (hi : (n : Nat) = i) : q_XK (q_at p l e R s m args below meth c Q nL n0 s0 D cl tys ad b0 Hb) (q_lim R n0 s0) b pc (pc + 1) (xLj i) := by
  intro σ u σ2 h
  unfold xLj at h
  split at h
  · next x e =>
    cases h
    exact ⟨q_le.rf _, fun st _ _ K => q1_lload_n C hd hi e K⟩
  · cases h
theorem i_lload (C : q_Cx p R s m args c cc nL own D cl tys ad b0 Hb n0 s0) {i : Nat} (hd : decode cc pc = .ok (.lload i, 2)) : q_XK (q_at p l e R s m args below meth c Q nL n0 s0 D cl tys ad b0 Hb) (q_lim R n0 s0) b pc (pc + 2) (xLj i) := by
  intro σ u σ2 h
  unfold xLj at h
  split at h
  · next x e =>
    cases h
    exact ⟨q_le.rf _, fun st _ _ K => q1_lload C hd e K⟩
  · cases h
theorem i_aload_n (C : q_Cx p R s m args c cc nL own D cl tys ad b0 Hb n0 s0) {n : Fin 4} {i : Nat} (hd : decode cc pc = .ok (.aload_n n, 1)) (hi : (n : Nat) = i) : q_XK (q_at p l e R s m args below meth c Q nL n0 s0 D cl tys ad b0 Hb) (q_lim R n0 s0) b pc (pc + 1) (xLa i) := by
  intro σ u σ2 h
  unfold xLa at h
  split at h
  · next x e =>
    cases h
    exact ⟨q_le.rf _, fun st _ _ K => q1_aload_n C hd hi e K⟩
  · cases h
theorem i_aload (C : q_Cx p R s m args c cc nL own D cl tys ad b0 Hb n0 s0) {i : Nat} (hd : decode cc pc = .ok (.aload i, 2)) : q_XK (q_at p l e R s m args below meth c Q nL n0 s0 D cl tys ad b0 Hb) (q_lim R n0 s0) b pc (pc + 2) (xLa i) := by
  intro σ u σ2 h
  unfold xLa at h
  split at h
  · next x e =>
    cases h
    exact ⟨q_le.rf _, fun st _ _ K => q1_aload C hd e K⟩
  · cases h
def o_iadd : q_H → Value → Value → Option Value
  | _, .int x, .int y => some (.int (x + y))
  | _, _, _ => none
theorem i_iadd (C : q_Cx p R s m args c cc nL own D cl tys ad b0 Hb n0 s0) (hd : decode cc pc = .ok (.iadd, 1)) : q_O2 (q_at p l e R s m args below meth c Q nL n0 s0 D cl tys ad b0 Hb) pc (pc + 1) o_iadd := by
  intro σ v t u st h K
  unfold o_iadd at h
  split at h
  · cases h
    exact q1_iadd C hd K
    
  · cases h
def o_isub : q_H → Value → Value → Option Value
  | _, .int x, .int y => some (.int (x - y))
  | _, _, _ => none
theorem i_isub (C : q_Cx p R s m args c cc nL own D cl tys ad b0 Hb n0 s0) (hd : decode cc pc = .ok (.isub, 1)) : q_O2 (q_at p l e R s m args below meth c Q nL n0 s0 D cl tys ad b0 Hb) pc (pc + 1) o_isub := by
  intro σ v t u st h K
  unfold o_isub at h
  split at h
  · cases h
    exact q1_isub C hd K
    
  · cases h
def o_imul : q_H → Value → Value → Option Value
  | _, .int x, .int y => some (.int (x * y))
  | _, _, _ => none
theorem i_imul (C : q_Cx p R s m args c cc nL own D cl tys ad b0 Hb n0 s0) (hd : decode cc pc = .ok (.imul, 1)) : q_O2 (q_at p l e R s m args below meth c Q nL n0 s0 D cl tys ad b0 Hb) pc (pc + 1) o_imul := by
  intro σ v t u st h K
  unfold o_imul at h
  split at h
  · cases h
    exact q1_imul C hd K
    
  · cases h
def o_iand : q_H → Value → Value → Option Value
  | _, .int x, .int y => some (.int (x &&& y))
  | _, _, _ => none
theorem i_iand (C : q_Cx p R s m args c cc nL own D cl tys ad b0 Hb n0 s0) (hd : decode cc pc = .ok (.iand, 1)) : q_O2 (q_at p l e R s m args below meth c Q nL n0 s0 D cl tys ad b0 Hb) pc (pc + 1) o_iand := by
  intro σ v t u st h K
  unfold o_iand at h
  split at h
  · cases h
    exact q1_iand C hd K
    
  · cases h
def o_ior : q_H → Value → Value → Option Value
  | _, .int x, .int y => some (.int (x ||| y))
  | _, _, _ => none
theorem i_ior (C : q_Cx p R s m args c cc nL own D cl tys ad b0 Hb n0 s0) (hd : decode cc pc = .ok (.ior, 1)) : q_O2 (q_at p l e R s m args below meth c Q nL n0 s0 D cl tys ad b0 Hb) pc (pc + 1) o_ior := by
  intro σ v t u st h K
  unfold o_ior at h
  split at h
  · cases h
    exact q1_ior C hd K
    
  · cases h
def o_ixor : q_H → Value → Value → Option Value
  | _, .int x, .int y => some (.int (x ^^^ y))
  | _, _, _ => none
theorem i_ixor (C : q_Cx p R s m args c cc nL own D cl tys ad b0 Hb n0 s0) (hd : decode cc pc = .ok (.ixor, 1)) : q_O2 (q_at p l e R s m args below meth c Q nL n0 s0 D cl tys ad b0 Hb) pc (pc + 1) o_ixor := by
  intro σ v t u st h K
  unfold o_ixor at h
  split at h
  · cases h
    exact q1_ixor C hd K
    
  · cases h
def o_ishl : q_H → Value → Value → Option Value
  | _, .int x, .int y => some (.int (x <<< (y &&& 31)))
  | _, _, _ => none
theorem i_ishl (C : q_Cx p R s m args c cc nL own D cl tys ad b0 Hb n0 s0) (hd : decode cc pc = .ok (.ishl, 1)) : q_O2 (q_at p l e R s m args below meth c Q nL n0 s0 D cl tys ad b0 Hb) pc (pc + 1) o_ishl := by
  intro σ v t u st h K
  unfold o_ishl at h
  split at h
  · cases h
    exact q1_ishl C hd K
    
  · cases h
def o_ishr : q_H → Value → Value → Option Value
  | _, .int x, .int y => some (.int (x >>> (y &&& 31)))
  | _, _, _ => none
theorem i_ishr (C : q_Cx p R s m args c cc nL own D cl tys ad b0 Hb n0 s0) (hd : decode cc pc = .ok (.ishr, 1)) : q_O2 (q_at p l e R s m args below meth c Q nL n0 s0 D cl tys ad b0 Hb) pc (pc + 1) o_ishr := by
  intro σ v t u st h K
  unfold o_ishr at h
  split at h
  · cases h
    exact q1_ishr C hd K
    
  · cases h
def o_iushr : q_H → Value → Value → Option Value
  | _, .int x, .int y => some (.int ((x.toUInt32 >>> (y.toUInt32 &&& Int32.toUInt32 31)).toInt32))
  | _, _, _ => none
theorem i_iushr (C : q_Cx p R s m args c cc nL own D cl tys ad b0 Hb n0 s0) (hd : decode cc pc = .ok (.iushr, 1)) : q_O2 (q_at p l e R s m args below meth c Q nL n0 s0 D cl tys ad b0 Hb) pc (pc + 1) o_iushr := by
  intro σ v t u st h K
  unfold o_iushr at h
  split at h
  · cases h
    exact q1_iushr C hd K
    
  · cases h
def o_idiv : q_H → Value → Value → Option Value
  | _, .int x, .int y => if y = 0 then none else some (.int (x / y))
  | _, _, _ => none
theorem i_idiv (C : q_Cx p R s m args c cc nL own D cl tys ad b0 Hb n0 s0) (hd : decode cc pc = .ok (.idiv, 1)) : q_O2 (q_at p l e R s m args below meth c Q nL n0 s0 D cl tys ad b0 Hb) pc (pc + 1) o_idiv := by
  intro σ v t u st h K
  unfold o_idiv at h
  split at h
  · split at h
    · cases h
    · next hz => cases h; exact q1_idiv C hd hz K
  · cases h
def o_irem : q_H → Value → Value → Option Value
  | _, .int x, .int y => if y = 0 then none else some (.int (x - x / y * y))
  | _, _, _ => none
theorem i_irem (C : q_Cx p R s m args c cc nL own D cl tys ad b0 Hb n0 s0) (hd : decode cc pc = .ok (.irem, 1)) : q_O2 (q_at p l e R s m args below meth c Q nL n0 s0 D cl tys ad b0 Hb) pc (pc + 1) o_irem := by
  intro σ v t u st h K
  unfold o_irem at h
  split at h
  · split at h
    · cases h
    · next hz => cases h; exact q1_irem C hd hz K
  · cases h
def o_ladd : q_H → Value → Value → Option Value
  | _, .long x, .long y => some (.long (x + y))
  | _, _, _ => none
theorem i_ladd (C : q_Cx p R s m args c cc nL own D cl tys ad b0 Hb n0 s0) (hd : decode cc pc = .ok (.ladd, 1)) : q_O2 (q_at p l e R s m args below meth c Q nL n0 s0 D cl tys ad b0 Hb) pc (pc + 1) o_ladd := by
  intro σ v t u st h K
  unfold o_ladd at h
  split at h
  · cases h
    exact q1_ladd C hd K
    
  · cases h
def o_lsub : q_H → Value → Value → Option Value
  | _, .long x, .long y => some (.long (x - y))
  | _, _, _ => none
theorem i_lsub (C : q_Cx p R s m args c cc nL own D cl tys ad b0 Hb n0 s0) (hd : decode cc pc = .ok (.lsub, 1)) : q_O2 (q_at p l e R s m args below meth c Q nL n0 s0 D cl tys ad b0 Hb) pc (pc + 1) o_lsub := by
  intro σ v t u st h K
  unfold o_lsub at h
  split at h
  · cases h
    exact q1_lsub C hd K
    
  · cases h
def o_lmul : q_H → Value → Value → Option Value
  | _, .long x, .long y => some (.long (x * y))
  | _, _, _ => none
theorem i_lmul (C : q_Cx p R s m args c cc nL own D cl tys ad b0 Hb n0 s0) (hd : decode cc pc = .ok (.lmul, 1)) : q_O2 (q_at p l e R s m args below meth c Q nL n0 s0 D cl tys ad b0 Hb) pc (pc + 1) o_lmul := by
  intro σ v t u st h K
  unfold o_lmul at h
  split at h
  · cases h
    exact q1_lmul C hd K
    
  · cases h
def o_land : q_H → Value → Value → Option Value
  | _, .long x, .long y => some (.long (x &&& y))
  | _, _, _ => none
theorem i_land (C : q_Cx p R s m args c cc nL own D cl tys ad b0 Hb n0 s0) (hd : decode cc pc = .ok (.land, 1)) : q_O2 (q_at p l e R s m args below meth c Q nL n0 s0 D cl tys ad b0 Hb) pc (pc + 1) o_land := by
  intro σ v t u st h K
  unfold o_land at h
  split at h
  · cases h
    exact q1_land C hd K
    
  · cases h
def o_lor : q_H → Value → Value → Option Value
  | _, .long x, .long y => some (.long (x ||| y))
  | _, _, _ => none
theorem i_lor (C : q_Cx p R s m args c cc nL own D cl tys ad b0 Hb n0 s0) (hd : decode cc pc = .ok (.lor, 1)) : q_O2 (q_at p l e R s m args below meth c Q nL n0 s0 D cl tys ad b0 Hb) pc (pc + 1) o_lor := by
  intro σ v t u st h K
  unfold o_lor at h
  split at h
  · cases h
    exact q1_lor C hd K
    
  · cases h
def o_lrem : q_H → Value → Value → Option Value
  | _, .long x, .long y => if y = 0 then none else some (.long (x - x / y * y))
  | _, _, _ => none
theorem i_lrem (C : q_Cx p R s m args c cc nL own D cl tys ad b0 Hb n0 s0) (hd : decode cc pc = .ok (.lrem, 1)) : q_O2 (q_at p l e R s m args below meth c Q nL n0 s0 D cl tys ad b0 Hb) pc (pc + 1) o_lrem := by
  intro σ v t u st h K
  unfold o_lrem at h
  split at h
  · split at h
    · cases h
    · next hz => cases h; exact q1_lrem C hd hz K
  · cases h
def o_lshl : q_H → Value → Value → Option Value
  | _, .long x, .int y => some (.long (x <<< (y.toInt64 &&& 63)))
  | _, _, _ => none
theorem i_lshl (C : q_Cx p R s m args c cc nL own D cl tys ad b0 Hb n0 s0) (hd : decode cc pc = .ok (.lshl, 1)) : q_O2 (q_at p l e R s m args below meth c Q nL n0 s0 D cl tys ad b0 Hb) pc (pc + 1) o_lshl := by
  intro σ v t u st h K
  unfold o_lshl at h
  split at h
  · cases h
    exact q1_lshl C hd K
    
  · cases h
def o_lshr : q_H → Value → Value → Option Value
  | _, .long x, .int y => some (.long (x >>> (y.toInt64 &&& 63)))
  | _, _, _ => none
theorem i_lshr (C : q_Cx p R s m args c cc nL own D cl tys ad b0 Hb n0 s0) (hd : decode cc pc = .ok (.lshr, 1)) : q_O2 (q_at p l e R s m args below meth c Q nL n0 s0 D cl tys ad b0 Hb) pc (pc + 1) o_lshr := by
  intro σ v t u st h K
  unfold o_lshr at h
  split at h
  · cases h
    exact q1_lshr C hd K
    
  · cases h
def o_lushr : q_H → Value → Value → Option Value
  | _, .long x, .int y => some (.long (x.toUInt64 >>> (y.toInt64.toUInt64 &&& Int64.toUInt64 63)).toInt64)
  | _, _, _ => none
theorem i_lushr (C : q_Cx p R s m args c cc nL own D cl tys ad b0 Hb n0 s0) (hd : decode cc pc = .ok (.lushr, 1)) : q_O2 (q_at p l e R s m args below meth c Q nL n0 s0 D cl tys ad b0 Hb) pc (pc + 1) o_lushr := by
  intro σ v t u st h K
  unfold o_lushr at h
  split at h
  · cases h
    exact q1_lushr C hd K
    
  · cases h
def o_lcmp : q_H → Value → Value → Option Value
  | _, .long x, .long y => some (.int (lg_cmp x y))
  | _, _, _ => none
theorem i_lcmp (C : q_Cx p R s m args c cc nL own D cl tys ad b0 Hb n0 s0) (hd : decode cc pc = .ok (.lcmp, 1)) : q_O2 (q_at p l e R s m args below meth c Q nL n0 s0 D cl tys ad b0 Hb) pc (pc + 1) o_lcmp := by
  intro σ v t u st h K
  unfold o_lcmp at h
  split at h
  · cases h
    exact q1_lcmp C hd K
    
  · cases h
def o_ineg : q_H → Value → Option Value
  | _, .int x => some (.int (-x))
  | _, _ => none
theorem i_ineg (C : q_Cx p R s m args c cc nL own D cl tys ad b0 Hb n0 s0) (hd : decode cc pc = .ok (.ineg, 1)) : q_O1 (q_at p l e R s m args below meth c Q nL n0 s0 D cl tys ad b0 Hb) pc (pc + 1) o_ineg := by
  intro σ v u st h K
  unfold o_ineg at h
  split at h
  · cases h
    exact q1_ineg C hd K
  · cases h
def o_i2l : q_H → Value → Option Value
  | _, .int x => some (.long x.toInt64)
  | _, _ => none
theorem i_i2l (C : q_Cx p R s m args c cc nL own D cl tys ad b0 Hb n0 s0) (hd : decode cc pc = .ok (.i2l, 1)) : q_O1 (q_at p l e R s m args below meth c Q nL n0 s0 D cl tys ad b0 Hb) pc (pc + 1) o_i2l := by
  intro σ v u st h K
  unfold o_i2l at h
  split at h
  · cases h
    exact q1_i2l C hd K
  · cases h
def o_l2i : q_H → Value → Option Value
  | _, .long x => some (.int x.toInt32)
  | _, _ => none
theorem i_l2i (C : q_Cx p R s m args c cc nL own D cl tys ad b0 Hb n0 s0) (hd : decode cc pc = .ok (.l2i, 1)) : q_O1 (q_at p l e R s m args below meth c Q nL n0 s0 D cl tys ad b0 Hb) pc (pc + 1) o_l2i := by
  intro σ v u st h K
  unfold o_l2i at h
  split at h
  · cases h
    exact q1_l2i C hd K
  · cases h
def o_i2b : q_H → Value → Option Value
  | _, .int x => some (.int x.toInt8.toInt32)
  | _, _ => none
theorem i_i2b (C : q_Cx p R s m args c cc nL own D cl tys ad b0 Hb n0 s0) (hd : decode cc pc = .ok (.i2b, 1)) : q_O1 (q_at p l e R s m args below meth c Q nL n0 s0 D cl tys ad b0 Hb) pc (pc + 1) o_i2b := by
  intro σ v u st h K
  unfold o_i2b at h
  split at h
  · cases h
    exact q1_i2b C hd K
  · cases h
def o_i2s : q_H → Value → Option Value
  | _, .int x => some (.int x.toInt16.toInt32)
  | _, _ => none
theorem i_i2s (C : q_Cx p R s m args c cc nL own D cl tys ad b0 Hb n0 s0) (hd : decode cc pc = .ok (.i2s, 1)) : q_O1 (q_at p l e R s m args below meth c Q nL n0 s0 D cl tys ad b0 Hb) pc (pc + 1) o_i2s := by
  intro σ v u st h K
  unfold o_i2s at h
  split at h
  · cases h
    exact q1_i2s C hd K
  · cases h
def o_i2c : q_H → Value → Option Value
  | _, .int x => some (.int (x.toUInt32 % 65536).toInt32)
  | _, _ => none
theorem i_i2c (C : q_Cx p R s m args c cc nL own D cl tys ad b0 Hb n0 s0) (hd : decode cc pc = .ok (.i2c, 1)) : q_O1 (q_at p l e R s m args below meth c Q nL n0 s0 D cl tys ad b0 Hb) pc (pc + 1) o_i2c := by
  intro σ v u st h K
  unfold o_i2c at h
  split at h
  · cases h
    exact q1_i2c C rfl hd K
  · cases h
def o_get (ci k : Nat) : q_H → Value → Option Value
  | h, .ref o => match h.1[o]? with
    | some (.inr (.inr (c, fl))) => if c = ci then (match fl[k]? with
      | some f => some (q_fa (h.2.1 o) k f)
      | none => none) else none
    | _ => none
  | _, _ => none
theorem i_get (C : q_Cx p R s m args c cc nL own D cl tys ad b0 Hb n0 s0) {x ci k N : Nat} {cn : String} {T : u_T} (hd : decode cc pc = .ok (.getfield x, 3)) (O : q_CO cl ci cn T N) (hk : k < N) (F : q_FL own x cn (T k).2.1 (T k).2.2.1) : q_O1 (q_at p l e R s m args below meth c Q nL n0 s0 D cl tys ad b0 Hb) pc (pc + 3) (o_get ci k) := by
  intro σ v u st h K
  unfold o_get at h
  split at h
  · next o =>
    split at h
    · next c9 fl e1 =>
      split at h
      · next e2 =>
        subst e2
        split at h
        · next f e3 =>
          cases h
          exact q1_getfield C hd O hk F e1 e3 K
        · cases h
      · cases h
    · cases h
  · cases h
def e_put (ci k : Nat) : q_H → Value → Value → Option q_H
  | h, .ref o, .int v => match h.1[o]? with
    | some (.inr (.inr (c, fl))) => if c = ci ∧ fl[k]? = some none then some (h.1, q_d h.2.1 o k v, h.2.2) else none
    | _ => none
  | _, _, _ => none
theorem i_put (C : q_Cx p R s m args c cc nL own D cl tys ad b0 Hb n0 s0) {x ci k N : Nat} {cn : String} {T : u_T} (hd : decode cc pc = .ok (.putfield x, 3)) (O : q_CO cl ci cn T N) (hk : k < N) (F : q_FL own x cn (T k).2.1 (T k).2.2.1) (hfin : (T k).2.2.2 = false) (hty : parseFieldDescriptor (T k).2.2.1 = some .int) : q_E2 (q_at p l e R s m args below meth c Q nL n0 s0 D cl tys ad b0 Hb) pc (pc + 3) (e_put ci k) := by
  intro σ v t h9 st h
  unfold e_put at h
  split at h
  · next o v =>
    split at h
    · next c9 fl e1 =>
      split at h
      · next e2 =>
        obtain ⟨e2, e3⟩ := e2
        subst e2
        cases h
        exact ⟨⟨Nat.le_refl _, Nat.le_refl _⟩, fun K => q1_putfield C hd O hk F hfin hty rfl rfl e1 e3 K⟩
      · cases h
    · cases h
  · cases h
def e_putZ (ci k : Nat) : q_H → Value → Value → Option q_H
  | h, .ref o, .int v => match h.1[o]? with
    | some (.inr (.inr (c, fl))) => if c = ci ∧ fl[k]? = some none ∧ (v = 0 ∨ v = 1) then some (h.1, q_d h.2.1 o k v, h.2.2) else none
    | _ => none
  | _, _, _ => none
theorem i_putZ (C : q_Cx p R s m args c cc nL own D cl tys ad b0 Hb n0 s0) {x ci k N : Nat} {cn : String} {T : u_T} (hd : decode cc pc = .ok (.putfield x, 3)) (O : q_CO cl ci cn T N) (hk : k < N) (F : q_FL own x cn (T k).2.1 (T k).2.2.1) (hfin : (T k).2.2.2 = false) (hty : parseFieldDescriptor (T k).2.2.1 = some .boolean) : q_E2 (q_at p l e R s m args below meth c Q nL n0 s0 D cl tys ad b0 Hb) pc (pc + 3) (e_putZ ci k) := by
  intro σ v t h9 st h
  unfold e_putZ at h
  split at h
  · next o v =>
    split at h
    · next c9 fl e1 =>
      split at h
      · next e2 =>
        obtain ⟨e2, e3, e4⟩ := e2
        subst e2
        cases h
        exact ⟨⟨Nat.le_refl _, Nat.le_refl _⟩, fun K => q1_putfield C hd O hk F hfin hty (by rcases e4 with rfl | rfl <;> rfl) (by rcases e4 with rfl | rfl <;> rfl) e1 e3 K⟩
      · cases h
    · cases h
  · cases h
def e_putR (ci k : Nat) : q_H → Value → Value → Option q_H
  | h, .ref o, .ref r => match h.1[o]? with
    | some (.inr (.inr (c, fl))) => match fl[k]? with
      | some (some _) => if c = ci then some (h.1.set o (.inr (.inr (c, fl.set k (some (some r))))), h.2) else none
      | _ => none
    | _ => none
  | _, _, _ => none
theorem i_putR (C : q_Cx p R s m args c cc nL own D cl tys ad b0 Hb n0 s0) (hini : meth.name = "<init>") {x ci k N : Nat} {T : u_T} {ty : FieldType} (hd : decode cc pc = .ok (.putfield x, 3)) (O : q_CO cl ci own T N) (hk : k < N) (F : Cond.fieldLink own x own (T k).2.1 (T k).2.2.1 ∈ q_tb) (hfin : (T k).2.2.2 = true) (hty : parseFieldDescriptor (T k).2.2.1 = some ty) (hn : ∀ a, narrow ty (.ref a) = .ref a) (hfit : ∀ a, fits ty (.ref a) = true) : q_E2 (q_at p l e R s m args below meth c Q nL n0 s0 D cl tys ad b0 Hb) pc (pc + 3) (e_putR ci k) := by
  intro σ v t h9 st h
  unfold e_putR at h
  split at h
  · next o r =>
    split at h
    · next c9 fl e1 =>
      split at h
      · next f0 e2 =>
        split at h
        · next e3 =>
          subst e3
          cases h
          exact ⟨⟨by simp, by rw [q_sl_set e1 (by simp [q_sz])]; exact Nat.le_refl _⟩, fun K => q1_putfieldR C hini hd O hk F hfin hty hn hfit e1 e2 K⟩
        · cases h
      · cases h
    · cases h
  · cases h
def o_iald : q_H → Value → Value → Option Value
  | h, .ref o, .int i => match h.1[o]? with
    | some (.inl (0, n)) => if ¬ i < 0 ∧ i.toNatClampNeg < n then some (.int (h.2.1 o i.toNatClampNeg)) else none
    | _ => none
  | _, _, _ => none
theorem q_vin {i : Int32} {n : Nat} (h : ¬ i < 0 ∧ i.toNatClampNeg < n) : vp_in i n := fun g => g.elim h.1 (fun g => Nat.not_le.mpr h.2 g)
theorem i_iald (C : q_Cx p R s m args c cc nL own D cl tys ad b0 Hb n0 s0) (Y : q_ty tys) (hd : decode cc pc = .ok (.iaload, 1)) : q_O2 (q_at p l e R s m args below meth c Q nL n0 s0 D cl tys ad b0 Hb) pc (pc + 1) o_iald := by
  intro σ v t u st h K
  unfold o_iald at h
  split at h
  · split at h
    · next e1 =>
      split at h
      · next e2 =>
        cases h
        exact q1_iaload C Y hd e1 (q_vin e2) K
      · cases h
    · cases h
  · cases h
def o_lald : q_H → Value → Value → Option Value
  | h, .ref o, .int i => match h.1[o]? with
    | some (.inl (1, n)) => if ¬ i < 0 ∧ i.toNatClampNeg < n then some (.long (h.2.2 o i.toNatClampNeg)) else none
    | _ => none
  | _, _, _ => none
theorem i_lald (C : q_Cx p R s m args c cc nL own D cl tys ad b0 Hb n0 s0) (Y : q_ty tys) (hd : decode cc pc = .ok (.laload, 1)) : q_O2 (q_at p l e R s m args below meth c Q nL n0 s0 D cl tys ad b0 Hb) pc (pc + 1) o_lald := by
  intro σ v t u st h K
  unfold o_lald at h
  split at h
  · split at h
    · next e1 =>
      split at h
      · next e2 =>
        cases h
        exact q1_laload C Y hd e1 (q_vin e2) K
      · cases h
    · cases h
  · cases h
def o_aald (t : Nat) : q_H → Value → Value → Option Value
  | h, .ref o, .int i => match h.1[o]? with
    | some (.inr (.inl (t2, r))) => if t2 = t + 2 ∧ ¬ i < 0 ∧ i.toNatClampNeg < r.length then some (va_rf (r.getD i.toNatClampNeg none)) else none
    | _ => none
  | _, _, _ => none
theorem i_aald (C : q_Cx p R s m args c cc nL own D cl tys ad b0 Hb n0 s0) (Y : q_ty tys) {t0 : Nat} {cn : String} (hd : decode cc pc = .ok (.aaload, 1)) (ht : q_an[t0]? = some cn) : q_O2 (q_at p l e R s m args below meth c Q nL n0 s0 D cl tys ad b0 Hb) pc (pc + 1) (o_aald t0) := by
  intro σ v t u st h K
  unfold o_aald at h
  split at h
  · split at h
    · next e1 =>
      split at h
      · next e2 =>
        obtain ⟨e2, e3⟩ := e2
        subst e2
        cases h
        exact q1_aaload C Y hd ht e1 (q_vin e3) K
      · cases h
    · cases h
  · cases h
def o_alen : q_H → Value → Option Value
  | h, .ref o => match h.1[o]? with
    | some (.inl (0, n)) => some (.int (Int32.ofNat n))
    | _ => none
  | _, _ => none
theorem i_alen (C : q_Cx p R s m args c cc nL own D cl tys ad b0 Hb n0 s0) (Y : q_ty tys) (hd : decode cc pc = .ok (.arraylength, 1)) : q_O1 (q_at p l e R s m args below meth c Q nL n0 s0 D cl tys ad b0 Hb) pc (pc + 1) o_alen := by
  intro σ v u st h K
  unfold o_alen at h
  split at h
  · split at h
    · next e1 =>
      cases h
      exact q1_alenI C Y hd e1 K
    · cases h
  · cases h
def e_iast : q_H → Value → Value → Value → Option q_H
  | h, .ref o, .int i, .int v => match h.1[o]? with
    | some (.inl (0, n)) => if ¬ i < 0 ∧ i.toNatClampNeg < n then some (h.1, q_d h.2.1 o i.toNatClampNeg v, h.2.2) else none
    | _ => none
  | _, _, _, _ => none
theorem i_iast (C : q_Cx p R s m args c cc nL own D cl tys ad b0 Hb n0 s0) (Y : q_ty tys) (hd : decode cc pc = .ok (.iastore, 1)) : q_E3 (q_at p l e R s m args below meth c Q nL n0 s0 D cl tys ad b0 Hb) pc (pc + 1) e_iast := by
  intro σ v t u h9 st h
  unfold e_iast at h
  split at h
  · split at h
    · next e1 =>
      split at h
      · next e2 =>
        cases h
        exact ⟨⟨Nat.le_refl _, Nat.le_refl _⟩, fun K => q1_iastore C Y hd e1 (q_vin e2) K⟩
      · cases h
    · cases h
  · cases h
def e_last : q_H → Value → Value → Value → Option q_H
  | h, .ref o, .int i, .long v => match h.1[o]? with
    | some (.inl (1, n)) => if ¬ i < 0 ∧ i.toNatClampNeg < n then some (h.1, h.2.1, q_w h.2.2 o i.toNatClampNeg v) else none
    | _ => none
  | _, _, _, _ => none
theorem i_last (C : q_Cx p R s m args c cc nL own D cl tys ad b0 Hb n0 s0) (Y : q_ty tys) (hd : decode cc pc = .ok (.lastore, 1)) : q_E3 (q_at p l e R s m args below meth c Q nL n0 s0 D cl tys ad b0 Hb) pc (pc + 1) e_last := by
  intro σ v t u h9 st h
  unfold e_last at h
  split at h
  · split at h
    · next e1 =>
      split at h
      · next e2 =>
        cases h
        exact ⟨⟨Nat.le_refl _, Nat.le_refl _⟩, fun K => q1_lastore C Y hd e1 (q_vin e2) K⟩
      · cases h
    · cases h
  · cases h
def e_aast (t ci : Nat) : q_H → Value → Value → Value → Option q_H
  | h, .ref o, .int i, .ref v => match h.1[o]? with
    | some (.inr (.inl (t2, r))) => match h.1[v]? with
      | some (.inr (.inr (c, _))) => if t2 = t + 2 ∧ c = ci ∧ ¬ i < 0 ∧ i.toNatClampNeg < r.length then some (h.1.set o (.inr (.inl (t2, r.set i.toNatClampNeg (some v)))), h.2) else none
      | _ => none
    | _ => none
  | _, _, _, _ => none
theorem i_aast (C : q_Cx p R s m args c cc nL own D cl tys ad b0 Hb n0 s0) (Y : q_ty tys) {t0 ci N : Nat} {cn : String} {T : u_T} (hd : decode cc pc = .ok (.aastore, 1)) (ht : q_an[t0]? = some cn) (hc : cl[ci]? = some (cn, T, N)) : q_E3 (q_at p l e R s m args below meth c Q nL n0 s0 D cl tys ad b0 Hb) pc (pc + 1) (e_aast t0 ci) := by
  intro σ v t u h9 st h
  unfold e_aast at h
  split at h
  · split at h
    · next e1 =>
      split at h
      · next e2 =>
        split at h
        · next e3 =>
          obtain ⟨e3, e4, e5⟩ := e3
          subst e3; subst e4
          cases h
          exact ⟨⟨by simp, by rw [q_sl_set e1 (by simp [q_sz])]; exact Nat.le_refl _⟩, fun K => q1_aastore C Y hd ht e1 e2 hc (q_vin e5) K⟩
        · cases h
      · cases h
    · cases h
  · cases h
/-- new ones -/
def xNew (ci : Nat) (fl : List (Option (Option Nat))) : q_X := fun σ => if σ.2.1.length + 1 ≤ 100000 then some (.ref σ.2.1.length, (σ.1, σ.2.1 ++ [.inr (.inr (ci, fl))], q_z σ.2.2.1 σ.2.1.length, σ.2.2.2)) else none
theorem i_new (C : q_Cx p R s m args c cc nL own D cl tys ad b0 Hb n0 s0) {x ci N : Nat} {cn : String} {T : u_T} {fl : List (Option (Option Nat))} (hd : decode cc pc = .ok (.new x, 3)) (O : q_CO cl ci cn T N) (w1 : Cond.classLink own x cn ∈ q_tb) (w2 : Cond.instantiable cn N ∈ q_tb) (w3 : Cond.initialized cn ∈ q_tb) (hfl : q_flok T N fl = true) : q_XK (q_at p l e R s m args below meth c Q nL n0 s0 D cl tys ad b0 Hb) (q_lim R n0 s0) b pc (pc + 3) (xNew ci fl) := by
  intro σ u σ2 h
  unfold xNew at h
  split at h
  · next e =>
    cases h
    have hf1 : fl.length = N := by
      unfold q_flok at hfl
      simp only [Bool.and_eq_true, beq_iff_eq] at hfl
      exact hfl.1
    refine ⟨⟨by simp, by rw [q_sl_push]; omega⟩, fun st _ hl K => q1_new C hd O w1 w2 w3 hfl ?_ K⟩
    obtain ⟨l1, l2, l3⟩ := hl
    rw [q_sl_push] at l2
    simp only [List.length_append, List.length_cons, List.length_nil, q_sz, hf1] at l1 l2 l3
    exact ⟨by omega, by omega, by omega⟩
  · cases h
def xNia (f : q_X) : q_X := fun σ => match f σ with
  | some (.int n, σ1) => if ¬ n < 0 ∧ n.toNatClampNeg ≤ 60000000 then some (.ref σ1.2.1.length, (σ1.1, σ1.2.1 ++ [.inl (0, n.toNatClampNeg)], q_z σ1.2.2.1 σ1.2.1.length, σ1.2.2.2)) else none
  | _ => none
theorem i_nia (C : q_Cx p R s m args c cc nL own D cl tys ad b0 Hb n0 s0) (Y : q_ty tys) {p1 : Nat} {f : q_X} (hf : q_XK (q_at p l e R s m args below meth c Q nL n0 s0 D cl tys ad b0 Hb) (q_lim R n0 s0) b pc p1 f) (hd : decode cc p1 = .ok (.newarray .int, 2)) (w1 : Cond.arrayClass .int ∈ q_tb) : q_XK (q_at p l e R s m args below meth c Q nL n0 s0 D cl tys ad b0 Hb) (q_lim R n0 s0) b pc (p1 + 2) (xNia f) := by
  intro σ u σ2 h
  unfold xNia at h
  split at h
  · next n σ1 e1 =>
    split at h
    · next e =>
      cases h
      obtain ⟨a1, a2⟩ := hf _ _ _ e1
      have hle : q_le σ1.2 (σ1.2.1 ++ [.inl (0, n.toNatClampNeg)], q_z σ1.2.2.1 σ1.2.1.length, σ1.2.2.2) := ⟨by simp, by rw [q_sl_push]; omega⟩
      refine ⟨a1.tr hle, fun st hc hl K => a2 st hc (q_lim_of _ _ hle hl) (q1_newarrayI C Y hd w1 e.1 rfl e.2 ?_ K)⟩
      obtain ⟨l1, l2, l3⟩ := hl
      rw [q_sl_push] at l2
      simp only [List.length_append, List.length_cons, List.length_nil, q_sz] at l1 l2 l3
      exact ⟨by omega, by omega, by omega⟩
    · cases h
  · cases h
def xNja (f : q_X) : q_X := fun σ => match f σ with
  | some (.int n, σ1) => if ¬ n < 0 ∧ n.toNatClampNeg ≤ 60000000 then some (.ref σ1.2.1.length, (σ1.1, σ1.2.1 ++ [.inl (1, n.toNatClampNeg)], σ1.2.2.1, q_zw σ1.2.2.2 σ1.2.1.length)) else none
  | _ => none
theorem i_nja (C : q_Cx p R s m args c cc nL own D cl tys ad b0 Hb n0 s0) (Y : q_ty tys) {p1 : Nat} {f : q_X} (hf : q_XK (q_at p l e R s m args below meth c Q nL n0 s0 D cl tys ad b0 Hb) (q_lim R n0 s0) b pc p1 f) (hd : decode cc p1 = .ok (.newarray .long, 2)) (w1 : Cond.arrayClass .long ∈ q_tb) : q_XK (q_at p l e R s m args below meth c Q nL n0 s0 D cl tys ad b0 Hb) (q_lim R n0 s0) b pc (p1 + 2) (xNja f) := by
  intro σ u σ2 h
  unfold xNja at h
  split at h
  · next n σ1 e1 =>
    split at h
    · next e =>
      cases h
      obtain ⟨a1, a2⟩ := hf _ _ _ e1
      have hle : q_le σ1.2 (σ1.2.1 ++ [.inl (1, n.toNatClampNeg)], σ1.2.2.1, q_zw σ1.2.2.2 σ1.2.1.length) := ⟨by simp, by rw [q_sl_push]; omega⟩
      refine ⟨a1.tr hle, fun st hc hl K => a2 st hc (q_lim_of _ _ hle hl) (q1_newarrayJ C Y hd w1 e.1 rfl e.2 ?_ K)⟩
      obtain ⟨l1, l2, l3⟩ := hl
      rw [q_sl_push] at l2
      simp only [List.length_append, List.length_cons, List.length_nil, q_sz] at l1 l2 l3
      exact ⟨by omega, by omega, by omega⟩
    · cases h
  · cases h
def xNra (t : Nat) (f : q_X) : q_X := fun σ => match f σ with
  | some (.int n, σ1) => if ¬ n < 0 ∧ n.toNatClampNeg ≤ 60000000 then some (.ref σ1.2.1.length, (σ1.1, σ1.2.1 ++ [.inr (.inl (t + 2, List.replicate n.toNatClampNeg none))], σ1.2.2)) else none
  | _ => none
theorem i_nra (C : q_Cx p R s m args c cc nL own D cl tys ad b0 Hb n0 s0) (Y : q_ty tys) {p1 x t : Nat} {cn : String} {f : q_X} (hf : q_XK (q_at p l e R s m args below meth c Q nL n0 s0 D cl tys ad b0 Hb) (q_lim R n0 s0) b pc p1 f) (hd : decode cc p1 = .ok (.anewarray x, 3)) (ht : q_an[t]? = some cn) (w1 : Cond.classLink own x cn ∈ q_tb) : q_XK (q_at p l e R s m args below meth c Q nL n0 s0 D cl tys ad b0 Hb) (q_lim R n0 s0) b pc (p1 + 3) (xNra t f) := by
  intro σ u σ2 h
  unfold xNra at h
  split at h
  · next n σ1 e1 =>
    split at h
    · next e =>
      cases h
      obtain ⟨a1, a2⟩ := hf _ _ _ e1
      have hle : q_le σ1.2 (σ1.2.1 ++ [.inr (.inl (t + 2, List.replicate n.toNatClampNeg none))], σ1.2.2) := ⟨by simp, by rw [q_sl_push]; omega⟩
      refine ⟨a1.tr hle, fun st hc hl K => a2 st hc (q_lim_of _ _ hle hl) (q1_anewarray C Y hd ht w1 e.1 rfl e.2 ?_ K)⟩
      obtain ⟨l1, l2, l3⟩ := hl
      rw [q_sl_push] at l2
      simp only [List.length_append, List.length_cons, List.length_nil, q_sz, List.length_replicate] at l1 l2 l3
      exact ⟨by omega, by omega, by omega⟩
    · cases h
  · cases h
/-- an object with its constructor run: f makes it, m is the constructor, fs the numbers told -/
def xIni (f : q_X) (m : q_M) (fs : List q_X) : q_X := fun σ => match f σ with
  | some (v, σ1) => match q_ev fs σ1 with
    | some (vs, σ2) => match m (v :: vs) σ2.2 with
      | some (none, h) => if v.category = 1 then some (v, (σ2.1, h)) else none
      | _ => none
    | none => none
  | none => none
/-- the rest of an array that is written where it is made -/
def xPutI (f : q_X) (i v : q_X) (g : q_H → Value → Value → Value → Option q_H) : q_X := fun σ => match f σ with
  | some (a, σ1) => match i σ1 with
    | some (k, σ2) => match v σ2 with
      | some (u, σ3) => match g σ3.2 a k u with
        | some h => if a.category = 1 then some (a, (σ3.1, h)) else none
        | none => none
      | none => none
    | none => none
  | none => none
theorem i_putI (C : q_Cx p R s m args c cc nL own D cl tys ad b0 Hb n0 s0) {p1 p2 p3 n : Nat} {f i v : q_X} {g : q_H → Value → Value → Value → Option q_H} (hf : q_XK (q_at p l e R s m args below meth c Q nL n0 s0 D cl tys ad b0 Hb) (q_lim R n0 s0) b pc p1 f) (hd : decode cc p1 = .ok (.dup, 1)) (hi : q_XK (q_at p l e R s m args below meth c Q nL n0 s0 D cl tys ad b0 Hb) (q_lim R n0 s0) (b + 4) (p1 + 1) p2 i) (hv : q_XK (q_at p l e R s m args below meth c Q nL n0 s0 D cl tys ad b0 Hb) (q_lim R n0 s0) (b + 6) p2 p3 v) (hg : q_E3 (q_at p l e R s m args below meth c Q nL n0 s0 D cl tys ad b0 Hb) p3 n g) : q_XK (q_at p l e R s m args below meth c Q nL n0 s0 D cl tys ad b0 Hb) (q_lim R n0 s0) b pc n (xPutI f i v g) := by
  intro σ u σ9 h
  unfold xPutI at h
  split at h
  · next a σ1 e1 =>
    split at h
    · next k σ2 e2 =>
      split at h
      · next t σ3 e3 =>
        split at h
        · next h9 e4 =>
          split at h
          · next e5 =>
            cases h
            obtain ⟨a1, a2⟩ := hf _ _ _ e1
            obtain ⟨b1, b2⟩ := hi _ _ _ e2
            obtain ⟨c1, c2⟩ := hv _ _ _ e3
            obtain ⟨d1, -⟩ := hg _ _ _ _ _ [] e4
            refine ⟨((a1.tr b1).tr c1).tr d1, fun st hc hl K => a2 st hc (q_lim_of _ _ ((b1.tr c1).tr d1) hl) (q1_dup C hd e5 (b2 _ ?_ (q_lim_of _ _ (c1.tr d1) hl) (c2 _ ?_ (q_lim_of _ _ d1 hl) ((hg _ _ _ _ _ _ e4).2 K))))⟩
            · rw [q_cat_cons, q_cat_cons]; omega
            · rw [q_cat_cons, q_cat_cons, q_cat_cons]; have := q_cat_le k; omega
          · cases h
        · cases h
      · cases h
    · cases h
  · cases h
theorem i_ini (C : q_Cx p R s m args c cc nL own D cl tys ad b0 Hb n0 s0) {p1 p2 n : Nat} {f : q_X} {m9 : q_M} {fs : List q_X} (hb : b ≤ 6) (hf : q_XK (q_at p l e R s m args below meth c Q nL n0 s0 D cl tys ad b0 Hb) (q_lim R n0 s0) b pc p1 f) (hd : decode cc p1 = .ok (.dup, 1)) (hfs : q_AK (q_at p l e R s m args below meth c Q nL n0 s0 D cl tys ad b0 Hb) (q_lim R n0 s0) (b + 4) (p1 + 1) p2 fs) (hm : q_KK (q_at p l e R s m args below meth c Q nL n0 s0 D cl tys ad b0 Hb) (q_lim R n0 s0) p2 n m9) : q_XK (q_at p l e R s m args below meth c Q nL n0 s0 D cl tys ad b0 Hb) (q_lim R n0 s0) b pc n (xIni f m9 fs) := by
  intro σ u σ9 h
  unfold xIni at h
  split at h
  · next a σ1 e1 =>
    split at h
    · next vs σ2 e2 =>
      split at h
      · next h9 e3 =>
        split at h
        · next e5 =>
          cases h
          obtain ⟨a1, a2⟩ := hf _ _ _ e1
          obtain ⟨b1, b2⟩ := hfs _ _ _ e2
          obtain ⟨d1, -⟩ := hm σ2 _ _ _ [] e3
          refine ⟨(a1.tr b1).tr d1, fun st hc hl K => a2 st hc (q_lim_of _ _ (b1.tr d1) hl) (q1_dup C hd e5 (b2 _ ?_ (q_lim_of _ _ d1 hl) ?_))⟩
          · rw [q_cat_cons, q_cat_cons]; omega
          · have k2 := (hm σ2 _ _ _ (u :: st) e3).2 (by rw [q_cat_cons]; omega) hl K
            simpa using k2
        · cases h
      · cases h
    · cases h
  · cases h
theorem i_goto (C : q_Cx p R s m args c cc nL own D cl tys ad b0 Hb n0 s0) {n : Int} {t : Nat} (hd : decode cc pc = .ok (.goto n, 3)) (ht : (pc : Int) + n = (t : Int)) : q_GK (q_at p l e R s m args below meth c Q nL n0 s0 D cl tys ad b0 Hb) pc t := fun σ st K => q1_goto C hd ht K
/-- locals -/
def sSti (i : Nat) (f : q_X) : q_T := fun σ => match f σ with
  | some (.int x, σ1) => some (.inl (q_st σ1.1 i (.int x), σ1.2))
  | _ => none
theorem i_istore_n (C : q_Cx p R s m args c cc nL own D cl tys ad b0 Hb n0 s0) {RT : Option Value → q_H → Prop} {p1 i : Nat} {n : Fin 4} {f : q_X} (hf : q_XK (q_at p l e R s m args below meth c Q nL n0 s0 D cl tys ad b0 Hb) (q_lim R n0 s0) 0 pc p1 f) (hd : decode cc p1 = .ok (.istore_n n, 1)) (hi : (n : Nat) = i) (hn : i < nL) : q_TK (q_at p l e R s m args below meth c Q nL n0 s0 D cl tys ad b0 Hb) RT (q_lim R n0 s0) pc (p1 + 1) (sSti i f) := by
  intro σ
  refine ⟨fun σ2 h => ?_, fun v h hh => ?_⟩
  · unfold sSti at h
    split at h
    · next x σ1 e1 =>
      cases h
      obtain ⟨a1, a2⟩ := hf _ _ _ e1
      exact ⟨a1, fun hl K => a2 [] (Nat.le_refl _) hl (q1_istore_n C hd hi hn K)⟩
    · cases h
  · unfold sSti at hh
    split at hh <;> cases hh
theorem i_istore (C : q_Cx p R s m args c cc nL own D cl tys ad b0 Hb n0 s0) {RT : Option Value → q_H → Prop} {p1 i : Nat} {f : q_X} (hf : q_XK (q_at p l e R s m args below meth c Q nL n0 s0 D cl tys ad b0 Hb) (q_lim R n0 s0) 0 pc p1 f) (hd : decode cc p1 = .ok (.istore i, 2)) (hn : i < nL) : q_TK (q_at p l e R s m args below meth c Q nL n0 s0 D cl tys ad b0 Hb) RT (q_lim R n0 s0) pc (p1 + 2) (sSti i f) := by
  intro σ
  refine ⟨fun σ2 h => ?_, fun v h hh => ?_⟩
  · unfold sSti at h
    split at h
    · next x σ1 e1 =>
      cases h
      obtain ⟨a1, a2⟩ := hf _ _ _ e1
      exact ⟨a1, fun hl K => a2 [] (Nat.le_refl _) hl (q1_istore C hd hn K)⟩
    · cases h
  · unfold sSti at hh
    split at hh <;> cases hh
def sSta (i : Nat) (f : q_X) : q_T := fun σ => match f σ with
  | some (.ref x, σ1) => some (.inl (q_st σ1.1 i (.ref x), σ1.2))
  | _ => none
theorem i_astore_n (C : q_Cx p R s m args c cc nL own D cl tys ad b0 Hb n0 s0) {RT : Option Value → q_H → Prop} {p1 i : Nat} {n : Fin 4} {f : q_X} (hf : q_XK (q_at p l e R s m args below meth c Q nL n0 s0 D cl tys ad b0 Hb) (q_lim R n0 s0) 0 pc p1 f) (hd : decode cc p1 = .ok (.astore_n n, 1)) (hi : (n : Nat) = i) (hn : i < nL) : q_TK (q_at p l e R s m args below meth c Q nL n0 s0 D cl tys ad b0 Hb) RT (q_lim R n0 s0) pc (p1 + 1) (sSta i f) := by
  intro σ
  refine ⟨fun σ2 h => ?_, fun v h hh => ?_⟩
  · unfold sSta at h
    split at h
    · next x σ1 e1 =>
      cases h
      obtain ⟨a1, a2⟩ := hf _ _ _ e1
      exact ⟨a1, fun hl K => a2 [] (Nat.le_refl _) hl (q1_astore_n C hd hi hn K)⟩
    · cases h
  · unfold sSta at hh
    split at hh <;> cases hh
theorem i_astore (C : q_Cx p R s m args c cc nL own D cl tys ad b0 Hb n0 s0) {RT : Option Value → q_H → Prop} {p1 i : Nat} {f : q_X} (hf : q_XK (q_at p l e R s m args below meth c Q nL n0 s0 D cl tys ad b0 Hb) (q_lim R n0 s0) 0 pc p1 f) (hd : decode cc p1 = .ok (.astore i, 2)) (hn : i < nL) : q_TK (q_at p l e R s m args below meth c Q nL n0 s0 D cl tys ad b0 Hb) RT (q_lim R n0 s0) pc (p1 + 2) (sSta i f) := by
  intro σ
  refine ⟨fun σ2 h => ?_, fun v h hh => ?_⟩
  · unfold sSta at h
    split at h
    · next x σ1 e1 =>
      cases h
      obtain ⟨a1, a2⟩ := hf _ _ _ e1
      exact ⟨a1, fun hl K => a2 [] (Nat.le_refl _) hl (q1_astore C hd hn K)⟩
    · cases h
  · unfold sSta at hh
    split at hh <;> cases hh
def sStl (i : Nat) (f : q_X) : q_T := fun σ => match f σ with
  | some (.long x, σ1) => some (.inl (q_st2 σ1.1 i (.long x), σ1.2))
  | _ => none
theorem i_lstore_n (C : q_Cx p R s m args c cc nL own D cl tys ad b0 Hb n0 s0) {RT : Option Value → q_H → Prop} {p1 i : Nat} {n : Fin 4} {f : q_X} (hf : q_XK (q_at p l e R s m args below meth c Q nL n0 s0 D cl tys ad b0 Hb) (q_lim R n0 s0) 0 pc p1 f) (hd : decode cc p1 = .ok (.lstore_n n, 1)) (hi : (n : Nat) = i) (hn : i + 1 < nL) : q_TK (q_at p l e R s m args below meth c Q nL n0 s0 D cl tys ad b0 Hb) RT (q_lim R n0 s0) pc (p1 + 1) (sStl i f) := by
  intro σ
  refine ⟨fun σ2 h => ?_, fun v h hh => ?_⟩
  · unfold sStl at h
    split at h
    · next x σ1 e1 =>
      cases h
      obtain ⟨a1, a2⟩ := hf _ _ _ e1
      exact ⟨a1, fun hl K => a2 [] (Nat.le_refl _) hl (q1_lstore_n C hd hi hn K)⟩
    · cases h
  · unfold sStl at hh
    split at hh <;> cases hh
theorem i_lstore (C : q_Cx p R s m args c cc nL own D cl tys ad b0 Hb n0 s0) {RT : Option Value → q_H → Prop} {p1 i : Nat} {f : q_X} (hf : q_XK (q_at p l e R s m args below meth c Q nL n0 s0 D cl tys ad b0 Hb) (q_lim R n0 s0) 0 pc p1 f) (hd : decode cc p1 = .ok (.lstore i, 2)) (hn : i + 1 < nL) : q_TK (q_at p l e R s m args below meth c Q nL n0 s0 D cl tys ad b0 Hb) RT (q_lim R n0 s0) pc (p1 + 2) (sStl i f) := by
  intro σ
  refine ⟨fun σ2 h => ?_, fun v h hh => ?_⟩
  · unfold sStl at h
    split at h
    · next x σ1 e1 =>
      cases h
      obtain ⟨a1, a2⟩ := hf _ _ _ e1
      exact ⟨a1, fun hl K => a2 [] (Nat.le_refl _) hl (q1_lstore C hd hn K)⟩
    · cases h
  · unfold sStl at hh
    split at hh <;> cases hh
theorem i_iinc (C : q_Cx p R s m args c cc nL own D cl tys ad b0 Hb n0 s0) {RT : Option Value → q_H → Prop} {i : Nat} {n : Int} {v : Int32} (hd : decode cc pc = .ok (.iinc i n, 3)) (hv : Int32.ofInt n = v) (hn : i < nL) : q_TK (q_at p l e R s m args below meth c Q nL n0 s0 D cl tys ad b0 Hb) RT (q_lim R n0 s0) pc (pc + 3) (sInc i v) := by
  intro σ
  refine ⟨fun σ2 h => ?_, fun v h hh => ?_⟩
  · unfold sInc at h
    split at h
    · next x e1 =>
      cases h
      subst hv
      exact ⟨q_le.rf _, fun hl K => q1_iinc C hd hn e1 K⟩
    · cases h
  · unfold sInc at hh
    split at hh <;> cases hh
theorem i_dupR (C : q_Cx p R s m args c cc nL own D cl tys ad b0 Hb n0 s0) {gt : q_H → Value → Option Value} (hd : decode cc pc = .ok (.dup, 1)) (hg : ∀ h v u, gt h v = some u → v.category = 1) : ∀ σ v st, (∃ u, gt σ.2 v = some u) → (q_at p l e R s m args below meth c Q nL n0 s0 D cl tys ad b0 Hb) (pc + 1) σ (v :: v :: st) → (q_at p l e R s m args below meth c Q nL n0 s0 D cl tys ad b0 Hb) pc σ (v :: st) := fun σ v st ⟨u, e⟩ K => q1_dup C hd (hg _ _ _ e) K
theorem i_dup2R (C : q_Cx p R s m args c cc nL own D cl tys ad b0 Hb n0 s0) {gt : q_H → Value → Value → Option Value} (hd : decode cc pc = .ok (.dup2, 1)) (hg : ∀ h v t u, gt h v t = some u → v.category = 1 ∧ t.category = 1) : ∀ σ v t st, (∃ u, gt σ.2 v t = some u) → (q_at p l e R s m args below meth c Q nL n0 s0 D cl tys ad b0 Hb) (pc + 1) σ (t :: v :: t :: v :: st) → (q_at p l e R s m args below meth c Q nL n0 s0 D cl tys ad b0 Hb) pc σ (t :: v :: st) := fun σ v t st ⟨u, e⟩ K => q1_dup2 C hd (hg _ _ _ _ e).2 (hg _ _ _ _ e).1 K
theorem o_get_cat (ci k : Nat) : ∀ h v u, o_get ci k h v = some u → v.category = 1 := by
  intro h v u e
  cases v <;> first | rfl | simp [o_get] at e
theorem o_iald_cat : ∀ h v t u, o_iald h v t = some u → v.category = 1 ∧ t.category = 1 := by
  intro h v t u e
  cases v <;> cases t <;> first | exact ⟨rfl, rfl⟩ | simp [o_iald] at e
theorem o_lald_cat : ∀ h v t u, o_lald h v t = some u → v.category = 1 ∧ t.category = 1 := by
  intro h v t u e
  cases v <;> cases t <;> first | exact ⟨rfl, rfl⟩ | simp [o_lald] at e
theorem i_icmp_eq_T (C : q_Cx p R s m args c cc nL own D cl tys ad b0 Hb n0 s0) {p1 p2 t : Nat} {n : Int} {f g : q_X} (hf : q_XK (q_at p l e R s m args below meth c Q nL n0 s0 D cl tys ad b0 Hb) (q_lim R n0 s0) b pc p1 f) (hg : q_XK (q_at p l e R s m args below meth c Q nL n0 s0 D cl tys ad b0 Hb) (q_lim R n0 s0) (b + 2) p1 p2 g) (hd : decode cc p2 = .ok (.if_icmp .eq n, 3)) (ht : (p2 : Int) + n = (t : Int)) : q_CK (q_at p l e R s m args below meth c Q nL n0 s0 D cl tys ad b0 Hb) (q_lim R n0 s0) b pc t (p2 + 3) (c2 (fun x y => decide (x = y)) f g) := by
  intro σ v σ9 h
  unfold c2 at h
  split at h
  · next x σ1 e1 =>
    split at h
    · next y σ2 e2 =>
      cases h
      obtain ⟨a1, a2⟩ := hf _ _ _ e1
      obtain ⟨b1, b2⟩ := hg _ _ _ e2
      exact ⟨a1.tr b1, fun st hc hl KT KF => a2 st hc (q_lim_of _ _ b1 hl) (b2 _ (by rw [q_cat_cons]; simp only [Value.category]; omega) hl (q1_icmp_eq C hd ht (fun hh => KT (decide_eq_true hh)) (fun hh => KF (decide_eq_false hh))))⟩
    · cases h
  · cases h
theorem i_icmp_eq_F (C : q_Cx p R s m args c cc nL own D cl tys ad b0 Hb n0 s0) {p1 p2 t : Nat} {n : Int} {f g : q_X} (hf : q_XK (q_at p l e R s m args below meth c Q nL n0 s0 D cl tys ad b0 Hb) (q_lim R n0 s0) b pc p1 f) (hg : q_XK (q_at p l e R s m args below meth c Q nL n0 s0 D cl tys ad b0 Hb) (q_lim R n0 s0) (b + 2) p1 p2 g) (hd : decode cc p2 = .ok (.if_icmp .eq n, 3)) (ht : (p2 : Int) + n = (t : Int)) : q_CK (q_at p l e R s m args below meth c Q nL n0 s0 D cl tys ad b0 Hb) (q_lim R n0 s0) b pc (p2 + 3) t (c2 (fun x y => decide (¬ x = y)) f g) := by
  intro σ v σ9 h
  unfold c2 at h
  split at h
  · next x σ1 e1 =>
    split at h
    · next y σ2 e2 =>
      cases h
      obtain ⟨a1, a2⟩ := hf _ _ _ e1
      obtain ⟨b1, b2⟩ := hg _ _ _ e2
      exact ⟨a1.tr b1, fun st hc hl KT KF => a2 st hc (q_lim_of _ _ b1 hl) (b2 _ (by rw [q_cat_cons]; simp only [Value.category]; omega) hl (q1_icmp_eq C hd ht (fun hh => KF (decide_eq_false (fun g => g hh))) (fun hh => KT (decide_eq_true (hh)))))⟩
    · cases h
  · cases h
theorem i_if_eq_T (C : q_Cx p R s m args c cc nL own D cl tys ad b0 Hb n0 s0) {p2 t : Nat} {n : Int} {f : q_X} (hf : q_XK (q_at p l e R s m args below meth c Q nL n0 s0 D cl tys ad b0 Hb) (q_lim R n0 s0) b pc p2 f) (hd : decode cc p2 = .ok (.ifCond .eq n, 3)) (ht : (p2 : Int) + n = (t : Int)) : q_CK (q_at p l e R s m args below meth c Q nL n0 s0 D cl tys ad b0 Hb) (q_lim R n0 s0) b pc t (p2 + 3) (c1 (fun x => decide (x = 0)) f) := by
  intro σ v σ9 h
  unfold c1 at h
  split at h
  · next x σ1 e1 =>
    cases h
    obtain ⟨a1, a2⟩ := hf _ _ _ e1
    exact ⟨a1, fun st hc hl KT KF => a2 st hc hl (q1_if_eq C hd ht (fun hh => KT (decide_eq_true hh)) (fun hh => KF (decide_eq_false hh)))⟩
  · cases h
theorem i_if_eq_F (C : q_Cx p R s m args c cc nL own D cl tys ad b0 Hb n0 s0) {p2 t : Nat} {n : Int} {f : q_X} (hf : q_XK (q_at p l e R s m args below meth c Q nL n0 s0 D cl tys ad b0 Hb) (q_lim R n0 s0) b pc p2 f) (hd : decode cc p2 = .ok (.ifCond .eq n, 3)) (ht : (p2 : Int) + n = (t : Int)) : q_CK (q_at p l e R s m args below meth c Q nL n0 s0 D cl tys ad b0 Hb) (q_lim R n0 s0) b pc (p2 + 3) t (c1 (fun x => decide (¬ x = 0)) f) := by
  intro σ v σ9 h
  unfold c1 at h
  split at h
  · next x σ1 e1 =>
    cases h
    obtain ⟨a1, a2⟩ := hf _ _ _ e1
    exact ⟨a1, fun st hc hl KT KF => a2 st hc hl (q1_if_eq C hd ht (fun hh => KF (decide_eq_false (fun g => g hh))) (fun hh => KT (decide_eq_true (hh))))⟩
  · cases h
theorem i_icmp_ne_T (C : q_Cx p R s m args c cc nL own D cl tys ad b0 Hb n0 s0) {p1 p2 t : Nat} {n : Int} {f g : q_X} (hf : q_XK (q_at p l e R s m args below meth c Q nL n0 s0 D cl tys ad b0 Hb) (q_lim R n0 s0) b pc p1 f) (hg : q_XK (q_at p l e R s m args below meth c Q nL n0 s0 D cl tys ad b0 Hb) (q_lim R n0 s0) (b + 2) p1 p2 g) (hd : decode cc p2 = .ok (.if_icmp .ne n, 3)) (ht : (p2 : Int) + n = (t : Int)) : q_CK (q_at p l e R s m args below meth c Q nL n0 s0 D cl tys ad b0 Hb) (q_lim R n0 s0) b pc t (p2 + 3) (c2 (fun x y => decide (¬ x = y)) f g) := by
  intro σ v σ9 h
  unfold c2 at h
  split at h
  · next x σ1 e1 =>
    split at h
    · next y σ2 e2 =>
      cases h
      obtain ⟨a1, a2⟩ := hf _ _ _ e1
      obtain ⟨b1, b2⟩ := hg _ _ _ e2
      exact ⟨a1.tr b1, fun st hc hl KT KF => a2 st hc (q_lim_of _ _ b1 hl) (b2 _ (by rw [q_cat_cons]; simp only [Value.category]; omega) hl (q1_icmp_ne C hd ht (fun hh => KT (decide_eq_true hh)) (fun hh => KF (decide_eq_false hh))))⟩
    · cases h
  · cases h
theorem i_icmp_ne_F (C : q_Cx p R s m args c cc nL own D cl tys ad b0 Hb n0 s0) {p1 p2 t : Nat} {n : Int} {f g : q_X} (hf : q_XK (q_at p l e R s m args below meth c Q nL n0 s0 D cl tys ad b0 Hb) (q_lim R n0 s0) b pc p1 f) (hg : q_XK (q_at p l e R s m args below meth c Q nL n0 s0 D cl tys ad b0 Hb) (q_lim R n0 s0) (b + 2) p1 p2 g) (hd : decode cc p2 = .ok (.if_icmp .ne n, 3)) (ht : (p2 : Int) + n = (t : Int)) : q_CK (q_at p l e R s m args below meth c Q nL n0 s0 D cl tys ad b0 Hb) (q_lim R n0 s0) b pc (p2 + 3) t (c2 (fun x y => decide (x = y)) f g) := by
  intro σ v σ9 h
  unfold c2 at h
  split at h
  · next x σ1 e1 =>
    split at h
    · next y σ2 e2 =>
      cases h
      obtain ⟨a1, a2⟩ := hf _ _ _ e1
      obtain ⟨b1, b2⟩ := hg _ _ _ e2
      exact ⟨a1.tr b1, fun st hc hl KT KF => a2 st hc (q_lim_of _ _ b1 hl) (b2 _ (by rw [q_cat_cons]; simp only [Value.category]; omega) hl (q1_icmp_ne C hd ht (fun hh => KF (decide_eq_false (hh))) (fun hh => KT (decide_eq_true (Classical.not_not.mp hh)))))⟩
    · cases h
  · cases h
theorem i_if_ne_T (C : q_Cx p R s m args c cc nL own D cl tys ad b0 Hb n0 s0) {p2 t : Nat} {n : Int} {f : q_X} (hf : q_XK (q_at p l e R s m args below meth c Q nL n0 s0 D cl tys ad b0 Hb) (q_lim R n0 s0) b pc p2 f) (hd : decode cc p2 = .ok (.ifCond .ne n, 3)) (ht : (p2 : Int) + n = (t : Int)) : q_CK (q_at p l e R s m args below meth c Q nL n0 s0 D cl tys ad b0 Hb) (q_lim R n0 s0) b pc t (p2 + 3) (c1 (fun x => decide (¬ x = 0)) f) := by
  intro σ v σ9 h
  unfold c1 at h
  split at h
  · next x σ1 e1 =>
    cases h
    obtain ⟨a1, a2⟩ := hf _ _ _ e1
    exact ⟨a1, fun st hc hl KT KF => a2 st hc hl (q1_if_ne C hd ht (fun hh => KT (decide_eq_true hh)) (fun hh => KF (decide_eq_false hh)))⟩
  · cases h
theorem i_if_ne_F (C : q_Cx p R s m args c cc nL own D cl tys ad b0 Hb n0 s0) {p2 t : Nat} {n : Int} {f : q_X} (hf : q_XK (q_at p l e R s m args below meth c Q nL n0 s0 D cl tys ad b0 Hb) (q_lim R n0 s0) b pc p2 f) (hd : decode cc p2 = .ok (.ifCond .ne n, 3)) (ht : (p2 : Int) + n = (t : Int)) : q_CK (q_at p l e R s m args below meth c Q nL n0 s0 D cl tys ad b0 Hb) (q_lim R n0 s0) b pc (p2 + 3) t (c1 (fun x => decide (x = 0)) f) := by
  intro σ v σ9 h
  unfold c1 at h
  split at h
  · next x σ1 e1 =>
    cases h
    obtain ⟨a1, a2⟩ := hf _ _ _ e1
    exact ⟨a1, fun st hc hl KT KF => a2 st hc hl (q1_if_ne C hd ht (fun hh => KF (decide_eq_false (hh))) (fun hh => KT (decide_eq_true (Classical.not_not.mp hh))))⟩
  · cases h
theorem i_icmp_lt_T (C : q_Cx p R s m args c cc nL own D cl tys ad b0 Hb n0 s0) {p1 p2 t : Nat} {n : Int} {f g : q_X} (hf : q_XK (q_at p l e R s m args below meth c Q nL n0 s0 D cl tys ad b0 Hb) (q_lim R n0 s0) b pc p1 f) (hg : q_XK (q_at p l e R s m args below meth c Q nL n0 s0 D cl tys ad b0 Hb) (q_lim R n0 s0) (b + 2) p1 p2 g) (hd : decode cc p2 = .ok (.if_icmp .lt n, 3)) (ht : (p2 : Int) + n = (t : Int)) : q_CK (q_at p l e R s m args below meth c Q nL n0 s0 D cl tys ad b0 Hb) (q_lim R n0 s0) b pc t (p2 + 3) (c2 (fun x y => decide (x < y)) f g) := by
  intro σ v σ9 h
  unfold c2 at h
  split at h
  · next x σ1 e1 =>
    split at h
    · next y σ2 e2 =>
      cases h
      obtain ⟨a1, a2⟩ := hf _ _ _ e1
      obtain ⟨b1, b2⟩ := hg _ _ _ e2
      exact ⟨a1.tr b1, fun st hc hl KT KF => a2 st hc (q_lim_of _ _ b1 hl) (b2 _ (by rw [q_cat_cons]; simp only [Value.category]; omega) hl (q1_icmp_lt C hd ht (fun hh => KT (decide_eq_true hh)) (fun hh => KF (decide_eq_false hh))))⟩
    · cases h
  · cases h
theorem i_icmp_lt_F (C : q_Cx p R s m args c cc nL own D cl tys ad b0 Hb n0 s0) {p1 p2 t : Nat} {n : Int} {f g : q_X} (hf : q_XK (q_at p l e R s m args below meth c Q nL n0 s0 D cl tys ad b0 Hb) (q_lim R n0 s0) b pc p1 f) (hg : q_XK (q_at p l e R s m args below meth c Q nL n0 s0 D cl tys ad b0 Hb) (q_lim R n0 s0) (b + 2) p1 p2 g) (hd : decode cc p2 = .ok (.if_icmp .lt n, 3)) (ht : (p2 : Int) + n = (t : Int)) : q_CK (q_at p l e R s m args below meth c Q nL n0 s0 D cl tys ad b0 Hb) (q_lim R n0 s0) b pc (p2 + 3) t (c2 (fun x y => decide (y ≤ x)) f g) := by
  intro σ v σ9 h
  unfold c2 at h
  split at h
  · next x σ1 e1 =>
    split at h
    · next y σ2 e2 =>
      cases h
      obtain ⟨a1, a2⟩ := hf _ _ _ e1
      obtain ⟨b1, b2⟩ := hg _ _ _ e2
      exact ⟨a1.tr b1, fun st hc hl KT KF => a2 st hc (q_lim_of _ _ b1 hl) (b2 _ (by rw [q_cat_cons]; simp only [Value.category]; omega) hl (q1_icmp_lt C hd ht (fun hh => KF (decide_eq_false (Int32.not_le.mpr hh))) (fun hh => KT (decide_eq_true (Int32.not_lt.mp hh)))))⟩
    · cases h
  · cases h
theorem i_if_lt_T (C : q_Cx p R s m args c cc nL own D cl tys ad b0 Hb n0 s0) {p2 t : Nat} {n : Int} {f : q_X} (hf : q_XK (q_at p l e R s m args below meth c Q nL n0 s0 D cl tys ad b0 Hb) (q_lim R n0 s0) b pc p2 f) (hd : decode cc p2 = .ok (.ifCond .lt n, 3)) (ht : (p2 : Int) + n = (t : Int)) : q_CK (q_at p l e R s m args below meth c Q nL n0 s0 D cl tys ad b0 Hb) (q_lim R n0 s0) b pc t (p2 + 3) (c1 (fun x => decide (x < 0)) f) := by
  intro σ v σ9 h
  unfold c1 at h
  split at h
  · next x σ1 e1 =>
    cases h
    obtain ⟨a1, a2⟩ := hf _ _ _ e1
    exact ⟨a1, fun st hc hl KT KF => a2 st hc hl (q1_if_lt C hd ht (fun hh => KT (decide_eq_true hh)) (fun hh => KF (decide_eq_false hh)))⟩
  · cases h
theorem i_if_lt_F (C : q_Cx p R s m args c cc nL own D cl tys ad b0 Hb n0 s0) {p2 t : Nat} {n : Int} {f : q_X} (hf : q_XK (q_at p l e R s m args below meth c Q nL n0 s0 D cl tys ad b0 Hb) (q_lim R n0 s0) b pc p2 f) (hd : decode cc p2 = .ok (.ifCond .lt n, 3)) (ht : (p2 : Int) + n = (t : Int)) : q_CK (q_at p l e R s m args below meth c Q nL n0 s0 D cl tys ad b0 Hb) (q_lim R n0 s0) b pc (p2 + 3) t (c1 (fun x => decide (0 ≤ x)) f) := by
  intro σ v σ9 h
  unfold c1 at h
  split at h
  · next x σ1 e1 =>
    cases h
    obtain ⟨a1, a2⟩ := hf _ _ _ e1
    exact ⟨a1, fun st hc hl KT KF => a2 st hc hl (q1_if_lt C hd ht (fun hh => KF (decide_eq_false (Int32.not_le.mpr hh))) (fun hh => KT (decide_eq_true (Int32.not_lt.mp hh))))⟩
  · cases h
theorem i_icmp_ge_T (C : q_Cx p R s m args c cc nL own D cl tys ad b0 Hb n0 s0) {p1 p2 t : Nat} {n : Int} {f g : q_X} (hf : q_XK (q_at p l e R s m args below meth c Q nL n0 s0 D cl tys ad b0 Hb) (q_lim R n0 s0) b pc p1 f) (hg : q_XK (q_at p l e R s m args below meth c Q nL n0 s0 D cl tys ad b0 Hb) (q_lim R n0 s0) (b + 2) p1 p2 g) (hd : decode cc p2 = .ok (.if_icmp .ge n, 3)) (ht : (p2 : Int) + n = (t : Int)) : q_CK (q_at p l e R s m args below meth c Q nL n0 s0 D cl tys ad b0 Hb) (q_lim R n0 s0) b pc t (p2 + 3) (c2 (fun x y => decide (y ≤ x)) f g) := by
  intro σ v σ9 h
  unfold c2 at h
  split at h
  · next x σ1 e1 =>
    split at h
    · next y σ2 e2 =>
      cases h
      obtain ⟨a1, a2⟩ := hf _ _ _ e1
      obtain ⟨b1, b2⟩ := hg _ _ _ e2
      exact ⟨a1.tr b1, fun st hc hl KT KF => a2 st hc (q_lim_of _ _ b1 hl) (b2 _ (by rw [q_cat_cons]; simp only [Value.category]; omega) hl (q1_icmp_ge C hd ht (fun hh => KT (decide_eq_true hh)) (fun hh => KF (decide_eq_false hh))))⟩
    · cases h
  · cases h
theorem i_icmp_ge_F (C : q_Cx p R s m args c cc nL own D cl tys ad b0 Hb n0 s0) {p1 p2 t : Nat} {n : Int} {f g : q_X} (hf : q_XK (q_at p l e R s m args below meth c Q nL n0 s0 D cl tys ad b0 Hb) (q_lim R n0 s0) b pc p1 f) (hg : q_XK (q_at p l e R s m args below meth c Q nL n0 s0 D cl tys ad b0 Hb) (q_lim R n0 s0) (b + 2) p1 p2 g) (hd : decode cc p2 = .ok (.if_icmp .ge n, 3)) (ht : (p2 : Int) + n = (t : Int)) : q_CK (q_at p l e R s m args below meth c Q nL n0 s0 D cl tys ad b0 Hb) (q_lim R n0 s0) b pc (p2 + 3) t (c2 (fun x y => decide (x < y)) f g) := by
  intro σ v σ9 h
  unfold c2 at h
  split at h
  · next x σ1 e1 =>
    split at h
    · next y σ2 e2 =>
      cases h
      obtain ⟨a1, a2⟩ := hf _ _ _ e1
      obtain ⟨b1, b2⟩ := hg _ _ _ e2
      exact ⟨a1.tr b1, fun st hc hl KT KF => a2 st hc (q_lim_of _ _ b1 hl) (b2 _ (by rw [q_cat_cons]; simp only [Value.category]; omega) hl (q1_icmp_ge C hd ht (fun hh => KF (decide_eq_false (Int32.not_lt.mpr hh))) (fun hh => KT (decide_eq_true (Int32.not_le.mp hh)))))⟩
    · cases h
  · cases h
theorem i_if_ge_T (C : q_Cx p R s m args c cc nL own D cl tys ad b0 Hb n0 s0) {p2 t : Nat} {n : Int} {f : q_X} (hf : q_XK (q_at p l e R s m args below meth c Q nL n0 s0 D cl tys ad b0 Hb) (q_lim R n0 s0) b pc p2 f) (hd : decode cc p2 = .ok (.ifCond .ge n, 3)) (ht : (p2 : Int) + n = (t : Int)) : q_CK (q_at p l e R s m args below meth c Q nL n0 s0 D cl tys ad b0 Hb) (q_lim R n0 s0) b pc t (p2 + 3) (c1 (fun x => decide (0 ≤ x)) f) := by
  intro σ v σ9 h
  unfold c1 at h
  split at h
  · next x σ1 e1 =>
    cases h
    obtain ⟨a1, a2⟩ := hf _ _ _ e1
    exact ⟨a1, fun st hc hl KT KF => a2 st hc hl (q1_if_ge C hd ht (fun hh => KT (decide_eq_true hh)) (fun hh => KF (decide_eq_false hh)))⟩
  · cases h
theorem i_if_ge_F (C : q_Cx p R s m args c cc nL own D cl tys ad b0 Hb n0 s0) {p2 t : Nat} {n : Int} {f : q_X} (hf : q_XK (q_at p l e R s m args below meth c Q nL n0 s0 D cl tys ad b0 Hb) (q_lim R n0 s0) b pc p2 f) (hd : decode cc p2 = .ok (.ifCond .ge n, 3)) (ht : (p2 : Int) + n = (t : Int)) : q_CK (q_at p l e R s m args below meth c Q nL n0 s0 D cl tys ad b0 Hb) (q_lim R n0 s0) b pc (p2 + 3) t (c1 (fun x => decide (x < 0)) f) := by
  intro σ v σ9 h
  unfold c1 at h
  split at h
  · next x σ1 e1 =>
    cases h
    obtain ⟨a1, a2⟩ := hf _ _ _ e1
    exact ⟨a1, fun st hc hl KT KF => a2 st hc hl (q1_if_ge C hd ht (fun hh => KF (decide_eq_false (Int32.not_lt.mpr hh))) (fun hh => KT (decide_eq_true (Int32.not_le.mp hh))))⟩
  · cases h
theorem i_icmp_gt_T (C : q_Cx p R s m args c cc nL own D cl tys ad b0 Hb n0 s0) {p1 p2 t : Nat} {n : Int} {f g : q_X} (hf : q_XK (q_at p l e R s m args below meth c Q nL n0 s0 D cl tys ad b0 Hb) (q_lim R n0 s0) b pc p1 f) (hg : q_XK (q_at p l e R s m args below meth c Q nL n0 s0 D cl tys ad b0 Hb) (q_lim R n0 s0) (b + 2) p1 p2 g) (hd : decode cc p2 = .ok (.if_icmp .gt n, 3)) (ht : (p2 : Int) + n = (t : Int)) : q_CK (q_at p l e R s m args below meth c Q nL n0 s0 D cl tys ad b0 Hb) (q_lim R n0 s0) b pc t (p2 + 3) (c2 (fun x y => decide (y < x)) f g) := by
  intro σ v σ9 h
  unfold c2 at h
  split at h
  · next x σ1 e1 =>
    split at h
    · next y σ2 e2 =>
      cases h
      obtain ⟨a1, a2⟩ := hf _ _ _ e1
      obtain ⟨b1, b2⟩ := hg _ _ _ e2
      exact ⟨a1.tr b1, fun st hc hl KT KF => a2 st hc (q_lim_of _ _ b1 hl) (b2 _ (by rw [q_cat_cons]; simp only [Value.category]; omega) hl (q1_icmp_gt C hd ht (fun hh => KT (decide_eq_true hh)) (fun hh => KF (decide_eq_false hh))))⟩
    · cases h
  · cases h
theorem i_icmp_gt_F (C : q_Cx p R s m args c cc nL own D cl tys ad b0 Hb n0 s0) {p1 p2 t : Nat} {n : Int} {f g : q_X} (hf : q_XK (q_at p l e R s m args below meth c Q nL n0 s0 D cl tys ad b0 Hb) (q_lim R n0 s0) b pc p1 f) (hg : q_XK (q_at p l e R s m args below meth c Q nL n0 s0 D cl tys ad b0 Hb) (q_lim R n0 s0) (b + 2) p1 p2 g) (hd : decode cc p2 = .ok (.if_icmp .gt n, 3)) (ht : (p2 : Int) + n = (t : Int)) : q_CK (q_at p l e R s m args below meth c Q nL n0 s0 D cl tys ad b0 Hb) (q_lim R n0 s0) b pc (p2 + 3) t (c2 (fun x y => decide (x ≤ y)) f g) := by
  intro σ v σ9 h
  unfold c2 at h
  split at h
  · next x σ1 e1 =>
    split at h
    · next y σ2 e2 =>
      cases h
      obtain ⟨a1, a2⟩ := hf _ _ _ e1
      obtain ⟨b1, b2⟩ := hg _ _ _ e2
      exact ⟨a1.tr b1, fun st hc hl KT KF => a2 st hc (q_lim_of _ _ b1 hl) (b2 _ (by rw [q_cat_cons]; simp only [Value.category]; omega) hl (q1_icmp_gt C hd ht (fun hh => KF (decide_eq_false (Int32.not_le.mpr hh))) (fun hh => KT (decide_eq_true (Int32.not_lt.mp hh)))))⟩
    · cases h
  · cases h
theorem i_if_gt_T (C : q_Cx p R s m args c cc nL own D cl tys ad b0 Hb n0 s0) {p2 t : Nat} {n : Int} {f : q_X} (hf : q_XK (q_at p l e R s m args below meth c Q nL n0 s0 D cl tys ad b0 Hb) (q_lim R n0 s0) b pc p2 f) (hd : decode cc p2 = .ok (.ifCond .gt n, 3)) (ht : (p2 : Int) + n = (t : Int)) : q_CK (q_at p l e R s m args below meth c Q nL n0 s0 D cl tys ad b0 Hb) (q_lim R n0 s0) b pc t (p2 + 3) (c1 (fun x => decide (0 < x)) f) := by
  intro σ v σ9 h
  unfold c1 at h
  split at h
  · next x σ1 e1 =>
    cases h
    obtain ⟨a1, a2⟩ := hf _ _ _ e1
    exact ⟨a1, fun st hc hl KT KF => a2 st hc hl (q1_if_gt C hd ht (fun hh => KT (decide_eq_true hh)) (fun hh => KF (decide_eq_false hh)))⟩
  · cases h
theorem i_if_gt_F (C : q_Cx p R s m args c cc nL own D cl tys ad b0 Hb n0 s0) {p2 t : Nat} {n : Int} {f : q_X} (hf : q_XK (q_at p l e R s m args below meth c Q nL n0 s0 D cl tys ad b0 Hb) (q_lim R n0 s0) b pc p2 f) (hd : decode cc p2 = .ok (.ifCond .gt n, 3)) (ht : (p2 : Int) + n = (t : Int)) : q_CK (q_at p l e R s m args below meth c Q nL n0 s0 D cl tys ad b0 Hb) (q_lim R n0 s0) b pc (p2 + 3) t (c1 (fun x => decide (x ≤ 0)) f) := by
  intro σ v σ9 h
  unfold c1 at h
  split at h
  · next x σ1 e1 =>
    cases h
    obtain ⟨a1, a2⟩ := hf _ _ _ e1
    exact ⟨a1, fun st hc hl KT KF => a2 st hc hl (q1_if_gt C hd ht (fun hh => KF (decide_eq_false (Int32.not_le.mpr hh))) (fun hh => KT (decide_eq_true (Int32.not_lt.mp hh))))⟩
  · cases h
theorem i_icmp_le_T (C : q_Cx p R s m args c cc nL own D cl tys ad b0 Hb n0 s0) {p1 p2 t : Nat} {n : Int} {f g : q_X} (hf : q_XK (q_at p l e R s m args below meth c Q nL n0 s0 D cl tys ad b0 Hb) (q_lim R n0 s0) b pc p1 f) (hg : q_XK (q_at p l e R s m args below meth c Q nL n0 s0 D cl tys ad b0 Hb) (q_lim R n0 s0) (b + 2) p1 p2 g) (hd : decode cc p2 = .ok (.if_icmp .le n, 3)) (ht : (p2 : Int) + n = (t : Int)) : q_CK (q_at p l e R s m args below meth c Q nL n0 s0 D cl tys ad b0 Hb) (q_lim R n0 s0) b pc t (p2 + 3) (c2 (fun x y => decide (x ≤ y)) f g) := by
  intro σ v σ9 h
  unfold c2 at h
  split at h
  · next x σ1 e1 =>
    split at h
    · next y σ2 e2 =>
      cases h
      obtain ⟨a1, a2⟩ := hf _ _ _ e1
      obtain ⟨b1, b2⟩ := hg _ _ _ e2
      exact ⟨a1.tr b1, fun st hc hl KT KF => a2 st hc (q_lim_of _ _ b1 hl) (b2 _ (by rw [q_cat_cons]; simp only [Value.category]; omega) hl (q1_icmp_le C hd ht (fun hh => KT (decide_eq_true hh)) (fun hh => KF (decide_eq_false hh))))⟩
    · cases h
  · cases h
theorem i_icmp_le_F (C : q_Cx p R s m args c cc nL own D cl tys ad b0 Hb n0 s0) {p1 p2 t : Nat} {n : Int} {f g : q_X} (hf : q_XK (q_at p l e R s m args below meth c Q nL n0 s0 D cl tys ad b0 Hb) (q_lim R n0 s0) b pc p1 f) (hg : q_XK (q_at p l e R s m args below meth c Q nL n0 s0 D cl tys ad b0 Hb) (q_lim R n0 s0) (b + 2) p1 p2 g) (hd : decode cc p2 = .ok (.if_icmp .le n, 3)) (ht : (p2 : Int) + n = (t : Int)) : q_CK (q_at p l e R s m args below meth c Q nL n0 s0 D cl tys ad b0 Hb) (q_lim R n0 s0) b pc (p2 + 3) t (c2 (fun x y => decide (y < x)) f g) := by
  intro σ v σ9 h
  unfold c2 at h
  split at h
  · next x σ1 e1 =>
    split at h
    · next y σ2 e2 =>
      cases h
      obtain ⟨a1, a2⟩ := hf _ _ _ e1
      obtain ⟨b1, b2⟩ := hg _ _ _ e2
      exact ⟨a1.tr b1, fun st hc hl KT KF => a2 st hc (q_lim_of _ _ b1 hl) (b2 _ (by rw [q_cat_cons]; simp only [Value.category]; omega) hl (q1_icmp_le C hd ht (fun hh => KF (decide_eq_false (Int32.not_lt.mpr hh))) (fun hh => KT (decide_eq_true (Int32.not_le.mp hh)))))⟩
    · cases h
  · cases h
theorem i_if_le_T (C : q_Cx p R s m args c cc nL own D cl tys ad b0 Hb n0 s0) {p2 t : Nat} {n : Int} {f : q_X} (hf : q_XK (q_at p l e R s m args below meth c Q nL n0 s0 D cl tys ad b0 Hb) (q_lim R n0 s0) b pc p2 f) (hd : decode cc p2 = .ok (.ifCond .le n, 3)) (ht : (p2 : Int) + n = (t : Int)) : q_CK (q_at p l e R s m args below meth c Q nL n0 s0 D cl tys ad b0 Hb) (q_lim R n0 s0) b pc t (p2 + 3) (c1 (fun x => decide (x ≤ 0)) f) := by
  intro σ v σ9 h
  unfold c1 at h
  split at h
  · next x σ1 e1 =>
    cases h
    obtain ⟨a1, a2⟩ := hf _ _ _ e1
    exact ⟨a1, fun st hc hl KT KF => a2 st hc hl (q1_if_le C hd ht (fun hh => KT (decide_eq_true hh)) (fun hh => KF (decide_eq_false hh)))⟩
  · cases h
theorem i_if_le_F (C : q_Cx p R s m args c cc nL own D cl tys ad b0 Hb n0 s0) {p2 t : Nat} {n : Int} {f : q_X} (hf : q_XK (q_at p l e R s m args below meth c Q nL n0 s0 D cl tys ad b0 Hb) (q_lim R n0 s0) b pc p2 f) (hd : decode cc p2 = .ok (.ifCond .le n, 3)) (ht : (p2 : Int) + n = (t : Int)) : q_CK (q_at p l e R s m args below meth c Q nL n0 s0 D cl tys ad b0 Hb) (q_lim R n0 s0) b pc (p2 + 3) t (c1 (fun x => decide (0 < x)) f) := by
  intro σ v σ9 h
  unfold c1 at h
  split at h
  · next x σ1 e1 =>
    cases h
    obtain ⟨a1, a2⟩ := hf _ _ _ e1
    exact ⟨a1, fun st hc hl KT KF => a2 st hc hl (q1_if_le C hd ht (fun hh => KF (decide_eq_false (Int32.not_lt.mpr hh))) (fun hh => KT (decide_eq_true (Int32.not_le.mp hh))))⟩
  · cases h
end