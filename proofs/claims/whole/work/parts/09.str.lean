/-! TEXT CONSTANTS: number 1000000 + k is the text k -/
def q_tx : List (List Nat) := [[103, 108, 111, 119, 32, 112, 111, 119, 101, 114, 32, 59, 32, 116, 111, 110, 101, 32, 57, 48, 32, 45, 32, 102, 97, 114, 32, 42, 32, 55, 32, 59, 32, 108, 111, 97, 100, 32, 112, 111, 119, 101, 114, 32, 43, 32, 109, 111, 114, 101, 32, 59], [40, 41, 59, 43, 45, 42, 60, 61], [103, 108, 111, 119, 32, 116, 111, 110, 101, 32, 108, 111, 97, 100, 32, 111, 114, 32, 97, 110, 100, 32, 110, 111, 116, 32, 112, 111, 119, 101, 114, 32, 114, 111, 119, 32, 104, 111, 117, 114, 32, 114, 111, 111, 109, 32, 109, 111, 114, 101, 32, 102, 97, 114, 32]]
def xStr (k : Nat) : q_X := fun σ => some (.ref (1000000 + k), σ)
def m_slen : q_M := fun vs h => match vs with
  | [.ref o] => if 1000000 ≤ o then (match q_tx[o - 1000000]? with
    | some t => some (some (.int (Int32.ofNat t.length)), h)
    | none => none) else none
  | _ => none
def m_schr : q_M := fun vs h => match vs with
  | [.ref o, .int i] => if 1000000 ≤ o ∧ ¬ i < 0 then (match q_tx[o - 1000000]? with
    | some t => (match t[i.toNatClampNeg]? with
      | some k => some (some (.int (Int32.ofNat k)), h)
      | none => none)
    | none => none) else none
  | _ => none
def q_ix (t : List Nat) (c : Nat) (b : Nat) : Int32 := match t with
  | [] => -1
  | a :: t => if a = c then Int32.ofNat b else q_ix t c (b + 1)
def m_sidx : q_M := fun vs h => match vs with
  | [.ref o, .int c] => if 1000000 ≤ o ∧ ¬ c < 0 ∧ c.toNatClampNeg < 256 then (match q_tx[o - 1000000]? with
    | some t => some (some (.int (q_ix t c.toNatClampNeg 0)), h)
    | none => none) else none
  | _ => none
section
variable {p : Program} {l : Launch} {e : Env} {R : Room} {s : State} {m : MethodId} {args : Array Value} {below : List Frame} {meth : Method} {c : Code} {Q : State → Prop} {cc : ByteArray} {nL n0 s0 : Nat} {own : String} {D : va_G} {cl : List vw_C} {tys : List (ClassId × FieldType)} {ad : Nat → Nat} {b0 : Nat} {Hb : Heap}
variable {b pc : Nat}
theorem i_str_w_85 (C : q_Cx p R s m args c cc nL own D cl tys ad b0 Hb n0 s0) (hd : decode cc pc = .ok (.ldc 85, 2)) : q_XK (q_at p l e R s m args below meth c Q nL n0 s0 D cl tys ad b0 Hb) (q_lim R n0 s0) b pc (pc + 2) (xStr 0) := sorry
theorem i_str_reader_111 (C : q_Cx p R s m args c cc nL own D cl tys ad b0 Hb n0 s0) (hd : decode cc pc = .ok (.ldc 111, 2)) : q_XK (q_at p l e R s m args below meth c Q nL n0 s0 D cl tys ad b0 Hb) (q_lim R n0 s0) b pc (pc + 2) (xStr 1) := sorry
theorem i_str_reader_117 (C : q_Cx p R s m args c cc nL own D cl tys ad b0 Hb n0 s0) (hd : decode cc pc = .ok (.ldc 117, 2)) : q_XK (q_at p l e R s m args below meth c Q nL n0 s0 D cl tys ad b0 Hb) (q_lim R n0 s0) b pc (pc + 2) (xStr 2) := sorry
theorem i_m_schr_reader_32 (C : q_Cx p R s m args c cc nL own D cl tys ad b0 Hb n0 s0) (hd : decode cc pc = .ok (.invokevirtual 32, 3)) : q_KK (q_at p l e R s m args below meth c Q nL n0 s0 D cl tys ad b0 Hb) (q_lim R n0 s0) pc (pc + 3) m_schr := sorry
theorem i_m_sidx_reader_113 (C : q_Cx p R s m args c cc nL own D cl tys ad b0 Hb n0 s0) (hd : decode cc pc = .ok (.invokevirtual 113, 3)) : q_KK (q_at p l e R s m args below meth c Q nL n0 s0 D cl tys ad b0 Hb) (q_lim R n0 s0) pc (pc + 3) m_sidx := sorry
theorem i_m_slen_reader_26 (C : q_Cx p R s m args c cc nL own D cl tys ad b0 Hb n0 s0) (hd : decode cc pc = .ok (.invokevirtual 26, 3)) : q_KK (q_at p l e R s m args below meth c Q nL n0 s0 D cl tys ad b0 Hb) (q_lim R n0 s0) pc (pc + 3) m_slen := sorry
end
