/-! TEXT CONSTANTS: number 1000000 + k is the text k, 2000000 + k its bytes -/
def xStr (k : Nat) : q_X := fun σ => some (.ref (1000000 + k), σ)
def sNone : q_T := fun _ => none
def xNone : q_X := fun _ => none
def o_sval : q_H → Value → Option Value
  | _, .ref o => if 1000000 ≤ o ∧ o < 1000003 then some (.ref (o + 1000000)) else none
  | _, _ => none
def o_scod : q_H → Value → Option Value
  | _, .ref o => if 1000000 ≤ o ∧ o < 1000003 then some (.int 0) else none
  | _, _ => none
def o_blen : q_H → Value → Option Value
  | _, .ref o => if 2000000 ≤ o ∧ o < 2000003 then some (.int (Int32.ofNat (q_len.getD (o - 2000000) 0))) else none
  | _, _ => none
def o_bald : q_H → Value → Value → Option Value
  | _, .ref o, .int i => if 2000000 ≤ o ∧ o < 2000003 ∧ ¬ i < 0 ∧ i.toNatClampNeg < q_len.getD (o - 2000000) 0 then some (.int ((q_byt.getD (o - 2000000) []).getD i.toNatClampNeg 0)) else none
  | _, _, _ => none
def sRetN (ty : FieldType) (f : q_X) : q_T := fun σ => match f σ with
  | some (.int x, σ1) => if narrow ty (.int x) = .int x then some (.inr (some (.int x), σ1.2)) else none
  | _ => none
/-- a text's method: the receiver is one of the texts -/
def q_RS (m : q_M) : q_M := fun vs h => match vs with
  | .ref o :: _ => if 1000000 ≤ o ∧ o < 1000003 then m vs h else none
  | _ => none
/-- a method's answer, if it is a number -/
def q_pI (m : q_M) : q_M := fun vs h => match m vs h with
  | some (some (.int x), h2) => some (some (.int x), h2)
  | _ => none
theorem q_o3 {o B : Nat} (h1 : B ≤ o) (h2 : o < B + 3) : ∃ k : Nat, k < 3 ∧ o = B + k := ⟨o - B, by omega, by omega⟩
theorem k_snone {AT : Nat → q_S → List Value → Prop} {RT : Option Value → q_H → Prop} {lim : q_H → Prop} {pc n : Nat} : q_TK AT RT lim pc n sNone := fun σ => ⟨fun σ2 h => by (cases h), fun v h hh => by (cases hh)⟩
theorem k_xnone {AT : Nat → q_S → List Value → Prop} {lim : q_H → Prop} {b pc n : Nat} : q_XK AT lim b pc n xNone := fun σ v σ2 h => by (cases h)
section
variable {p : Program} {l : Launch} {e : Env} {R : Room} {s : State} {m : MethodId} {args : Array Value} {below : List Frame} {meth : Method} {c : Code} {Q : State → Prop} {cc : ByteArray} {nL n0 s0 : Nat} {own : String} {D : va_G} {cl : List vw_C} {tys : List (ClassId × FieldType)} {ad : Nat → Nat} {b0 : Nat} {Hb : Heap}
variable {b pc : Nat} {ret : Option FieldType} {r9 : Option Value} {h9 : q_H}
theorem q_frS (C : q_Cx p R s m args c cc nL own D cl tys ad b0 Hb n0 s0) {H : Heap} {locs : List Loc} {h : q_H} (hI : q_I D cl tys ad b0 Hb h H locs) (hn : n0 ≤ h.1.length) : va_S (fun q => b0 ≤ q) s.heap H locs :=
  ⟨by rw [C.2.2.2.2.2.2.2.1, hI.2.1]; omega, fun q _ hq => (hI.2.2.2.1 q (by omega)).trans (C.2.2.2.2.2.2.2.2 q (by omega)).symm, hI.2.2.2.2⟩
theorem q_txt (C : q_Cx p R s m args c cc nL own D cl tys ad b0 Hb n0 s0) : vk_S 3 q_len q_byt (fun i => ad (1000000 + i)) (fun i => ad (2000000 + i)) (fun q => b0 ≤ q) s s.heap :=
  vk_S.kept C.2.2.2.2.2.1.2.2.2.2.1 (fun a _ h2 => C.2.2.2.2.2.2.2.2 a (by omega))
theorem q_zk {cn n d : String} {v : Value} (C : q_Cx p R s m args c cc nL own D cl tys ad b0 Hb n0 s0) (h : va_Z cn n d v (fun q => b0 ≤ q) s Hb) : va_Z cn n d v (fun q => b0 ≤ q) s s.heap :=
  va_Z.kept h (fun a _ h2 => C.2.2.2.2.2.2.2.2 a (by omega))
theorem i_str_w_85 (C : q_Cx p R s m args c cc nL "WhichSwitch" D cl tys ad b0 Hb n0 s0) (hd : decode cc pc = .ok (.ldc 85, 2)) : q_XK (q_at p l e R s m args below meth c Q nL n0 s0 D cl tys ad b0 Hb) (q_lim R n0 s0) b pc (pc + 2) (xStr 0) := by
  intro σ u σ2 h
  cases h
  exact ⟨q_le.rf _, fun st _ _ K H locs ls hL hI hl => va_ldcS C.1 C.2.1 C.2.2.2.1 C.2.2.2.2.2.1.2.2.2.2.2.2.2.1 hd (K H locs ls hL hI hl)⟩
theorem i_str_reader_111 (C : q_Cx p R s m args c cc nL "WhichSwitch$Reader" D cl tys ad b0 Hb n0 s0) (hd : decode cc pc = .ok (.ldc 111, 2)) : q_XK (q_at p l e R s m args below meth c Q nL n0 s0 D cl tys ad b0 Hb) (q_lim R n0 s0) b pc (pc + 2) (xStr 1) := by
  intro σ u σ2 h
  cases h
  exact ⟨q_le.rf _, fun st _ _ K H locs ls hL hI hl => va_ldcS C.1 C.2.1 C.2.2.2.1 C.2.2.2.2.2.1.2.2.2.2.2.2.2.2.1 hd (K H locs ls hL hI hl)⟩
theorem i_str_reader_117 (C : q_Cx p R s m args c cc nL "WhichSwitch$Reader" D cl tys ad b0 Hb n0 s0) (hd : decode cc pc = .ok (.ldc 117, 2)) : q_XK (q_at p l e R s m args below meth c Q nL n0 s0 D cl tys ad b0 Hb) (q_lim R n0 s0) b pc (pc + 2) (xStr 2) := by
  intro σ u σ2 h
  cases h
  exact ⟨q_le.rf _, fun st _ _ K H locs ls hL hI hl => va_ldcS C.1 C.2.1 C.2.2.2.1 C.2.2.2.2.2.1.2.2.2.2.2.2.2.2.2 hd (K H locs ls hL hI hl)⟩
theorem i_sval (C : q_Cx p R s m args c cc nL own D cl tys ad b0 Hb n0 s0) {x : Nat} (hd : decode cc pc = .ok (.getfield x, 3)) (w1 : Cond.fieldLink own x "java/lang/String" "value" "[B" ∈ q_tb) : q_O1 (q_at p l e R s m args below meth c Q nL n0 s0 D cl tys ad b0 Hb) pc (pc + 3) o_sval := by
  intro σ v u st h K H locs ls hL hI hl
  unfold o_sval at h
  split at h
  · next o =>
    split at h
    · next e =>
      cases h
      obtain ⟨k, hk, rfl⟩ := q_o3 e.1 e.2
      have hE := ((q_txt C).1 k hk).2.2.1
      have K2 := K H locs ls hL hI hl
      rw [show 1000000 + k + 1000000 = 2000000 + k by omega] at K2
      simp only [List.map_cons, q_cv] at K2 ⊢
      exact vk_getf C.1 C.2.1 hE (q_frS C hI hL.2.1) C.2.2.2.1 (C.2.2.2.2.1 _ w1) (fun _ h => h) hd K2
    · cases h
  · cases h
theorem i_scod (C : q_Cx p R s m args c cc nL own D cl tys ad b0 Hb n0 s0) {x : Nat} (hd : decode cc pc = .ok (.getfield x, 3)) (w1 : Cond.fieldLink own x "java/lang/String" "coder" "B" ∈ q_tb) : q_O1 (q_at p l e R s m args below meth c Q nL n0 s0 D cl tys ad b0 Hb) pc (pc + 3) o_scod := by
  intro σ v u st h K H locs ls hL hI hl
  unfold o_scod at h
  split at h
  · next o =>
    split at h
    · next e =>
      cases h
      obtain ⟨k, hk, rfl⟩ := q_o3 e.1 e.2
      have hE := ((q_txt C).1 k hk).2.1
      have K2 := K H locs ls hL hI hl
      simp only [List.map_cons, q_cv] at K2 ⊢
      exact vk_getf C.1 C.2.1 hE (q_frS C hI hL.2.1) C.2.2.2.1 (C.2.2.2.2.1 _ w1) (fun _ h => h) hd K2
    · cases h
  · cases h
theorem i_blen (C : q_Cx p R s m args c cc nL own D cl tys ad b0 Hb n0 s0) (hd : decode cc pc = .ok (.arraylength, 1)) : q_O1 (q_at p l e R s m args below meth c Q nL n0 s0 D cl tys ad b0 Hb) pc (pc + 1) o_blen := by
  intro σ v u st h K H locs ls hL hI hl
  unfold o_blen at h
  split at h
  · next o =>
    split at h
    · next e =>
      cases h
      obtain ⟨k, hk, rfl⟩ := q_o3 e.1 e.2
      have hE := ((q_txt C).1 k hk).2.2.2
      have K2 := K H locs ls hL hI hl
      rw [Nat.add_sub_cancel_left] at K2
      simp only [List.map_cons, q_cv] at K2 ⊢
      exact va_tlen C.1 C.2.1 hE (q_frS C hI hL.2.1) rfl hd K2
    · cases h
  · cases h
theorem i_bald (C : q_Cx p R s m args c cc nL own D cl tys ad b0 Hb n0 s0) (hd : decode cc pc = .ok (.baload, 1)) : q_O2 (q_at p l e R s m args below meth c Q nL n0 s0 D cl tys ad b0 Hb) pc (pc + 1) o_bald := by
  intro σ v t u st h K H locs ls hL hI hl
  unfold o_bald at h
  split at h
  · next o i =>
    split at h
    · next e =>
      obtain ⟨e1, e2, e3⟩ := e
      cases h
      obtain ⟨k, hk, rfl⟩ := q_o3 e1 e2
      rw [Nat.add_sub_cancel_left] at e3
      have hE := ((q_txt C).1 k hk).2.2.2
      have K2 := K H locs ls hL hI hl
      rw [Nat.add_sub_cancel_left] at K2
      simp only [List.map_cons, q_cv] at K2 ⊢
      exact va_tb C.1 C.2.1 hE (q_frS C hI hL.2.1) (q_vin e3) rfl hd K2
    · cases h
  · cases h
theorem i_gscs (C : q_Cx p R s m args c cc nL own D cl tys ad b0 Hb n0 s0) {x : Nat} (hd : decode cc pc = .ok (.getstatic x, 3)) (w1 : Cond.fieldLink own x "java/lang/String" "COMPACT_STRINGS" "Z" ∈ q_tb) : q_XK (q_at p l e R s m args below meth c Q nL n0 s0 D cl tys ad b0 Hb) (q_lim R n0 s0) b pc (pc + 3) (xK (.int 1)) := by
  intro σ u σ2 h
  cases h
  exact ⟨q_le.rf _, fun st _ _ K H locs ls hL hI hl => va_gets C.1 C.2.1 (q_zk C C.2.2.2.2.2.1.2.2.2.2.2.1) (q_frS C hI hL.2.1) C.2.2.2.1 (C.2.2.2.2.1 _ w1) (fun _ h => h) hd (K H locs ls hL hI hl)⟩
theorem i_gsz (C : q_Cx p R s m args c cc nL own D cl tys ad b0 Hb n0 s0) {x : Nat} (hd : decode cc pc = .ok (.getstatic x, 3)) (w1 : Cond.fieldLink own x "jdk/internal/util/Preconditions" "SIOOBE_FORMATTER" "Ljava/util/function/BiFunction;" ∈ q_tb) : q_XK (q_at p l e R s m args below meth c Q nL n0 s0 D cl tys ad b0 Hb) (q_lim R n0 s0) b pc (pc + 3) (xK (q_za ad)) := by
  intro σ u σ2 h
  cases h
  exact ⟨q_le.rf _, fun st _ _ K H locs ls hL hI hl => va_gets C.1 C.2.1 (q_zk C C.2.2.2.2.2.1.2.2.2.2.2.2.1) (q_frS C hI hL.2.1) C.2.2.2.1 (C.2.2.2.2.1 _ w1) (fun _ h => h) hd (K H locs ls hL hI hl)⟩
theorem i_callVS (C : q_Cx p R s m args c cc nL own D cl tys ad b0 Hb n0 s0) {x mL ar fr lo n : Nat} {y : MethodName} {bytes : ByteArray} {rt : Option FieldType} {f : q_M} (hM : q_Met l D cl tys ad b0 Hb y bytes mL rt ar fr lo f) (hd : decode cc pc = .ok (.invokevirtual x, 3)) (F : q_ML own x y) (w2 : Cond.code y bytes mL rt ∈ q_tb) (w3 : Cond.initialized y.cls ∈ q_tb) (hy : y.cls ≠ "java/lang/invoke/MethodHandle" ∧ y.cls ≠ "java/lang/invoke/VarHandle" ∧ (parseMethodDescriptor y.desc).map (fun d => d.parameters.length) = some n) (hn : ar = n + 1) (w4 : Cond.instanceMethod y ∈ q_tb) (w5 : Cond.selects y.cls y y ∈ q_tb) (hroom : fr + 1 ≤ R.frames ∧ 8 + (mL + 11) + lo ≤ R.locals) (hcls : y.cls = "java/lang/String" := by rfl) : q_KK (q_at p l e R s m args below meth c Q nL n0 s0 D cl tys ad b0 Hb) (q_lim R n0 s0) pc (pc + 3) (q_RS f) := by
  intro σ vs r h2 st h
  unfold q_RS at h
  split at h
  · next o as =>
    split at h
    · next e =>
      obtain ⟨g1, g2, -⟩ := hM _ _ _ _ h
      have g1' : as.length + 1 = ar := g1
      refine ⟨g2, fun hc hl K => ?_⟩
      have hrec : ∀ (H : Heap) (locs : List Loc), q_I D cl tys ad b0 Hb σ.2 H locs → n0 ≤ σ.2.1.length → ∃ cellB : Cell, H[ad o]? = some cellB ∧ cellB.vm.isStatics = false ∧ s.vm.findClass y.cls = some cellB.cls := by
        intro H locs hI hnn
        rw [hcls]
        obtain ⟨k, hk, rfl⟩ := q_o3 e.1 e.2
        exact vk_recv (i := k) (q_txt C) hk (q_frS C hI hnn)
      have := q1_callVr C hM hd F w2 w3 hy (by omega) w4 w5 hroom hc hrec h hl K
      simpa using this
    · cases h
  · cases h
theorem i_nreturn (C : q_Cx p R s m args c cc nL own D cl tys ad b0 Hb n0 s0) (X : q_RX below Q args s meth D cl tys ad b0 Hb n0 s0 ret r9 h9) {ty : FieldType} (hret : ret = some ty) {p1 n : Nat} {f : q_X} (hf : q_XK (q_at p l e R s m args below meth c Q nL n0 s0 D cl tys ad b0 Hb) (q_lim R n0 s0) 0 pc p1 f) (hd : decode cc p1 = .ok (.ireturn, 1)) : q_TK (q_at p l e R s m args below meth c Q nL n0 s0 D cl tys ad b0 Hb) (q_RT r9 h9) (q_lim R n0 s0) pc n (sRetN ty f) := by
  intro σ
  unfold sRetN
  split
  · next x σ1 e1 =>
    obtain ⟨a1, a2⟩ := hf _ _ _ e1
    split
    · next hx =>
      refine ⟨fun σ2 h => by (cases h), fun v h hh => ?_⟩
      cases hh
      refine ⟨a1, fun hl K => a2 [] (Nat.le_refl _) hl ?_⟩
      obtain ⟨k1, k2⟩ := K
      obtain ⟨x1, x2, x3⟩ := X
      subst k2; subst k1; subst hret; subst x1
      intro H locs ls hL hI h0
      exact W.zret C.1 C.2.1 x3 hx (fun t ht hW => ⟨rfl, by rw [ht]; exact q_I_forget hI⟩) hI.2.2.2.2 hd x2
    · exact ⟨fun σ2 h => by (cases h), fun v h hh => by (cases hh)⟩
  · exact ⟨fun σ2 h => by (cases h), fun v h hh => by (cases hh)⟩
theorem i_popS (C : q_Cx p R s m args c cc nL own D cl tys ad b0 Hb n0 s0) {mm : q_M} {fs : List q_X} {RT : Option Value → q_H → Prop} {p1 p2 : Nat} (hfs : q_AK (q_at p l e R s m args below meth c Q nL n0 s0 D cl tys ad b0 Hb) (q_lim R n0 s0) 0 pc p1 fs) (hm : q_KK (q_at p l e R s m args below meth c Q nL n0 s0 D cl tys ad b0 Hb) (q_lim R n0 s0) p1 p2 mm) (hd : decode cc p2 = .ok (.pop, 1)) : q_TK (q_at p l e R s m args below meth c Q nL n0 s0 D cl tys ad b0 Hb) RT (q_lim R n0 s0) pc (p2 + 1) (sMp (q_pI mm) fs) := by
  refine k_smp q_lim_of hfs (p2 := p2) (fun σ vs r h st e => ?_) (fun σ vs v h e K => ?_)
  · unfold q_pI at e
    split at e
    · next x h2 e2 => cases e; exact hm _ _ _ _ _ e2
    · cases e
  · unfold q_pI at e
    split at e
    · next x h2 e2 => cases e; exact q1_pop C hd rfl K
    · cases e
end

