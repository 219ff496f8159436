/-! THE START: the claim's entry, out of what the law's body means -/
def q_tm : Nat → Term
  | 0 => .string "WhichSwitch" 85
  | 1 => .string "WhichSwitch$Reader" 111
  | _ => .string "WhichSwitch$Reader" 117
def q_pure : Prop := ∀ (L : Nat) (xs : Nat → Int32), L ≤ 3072 → ∃ h : q_H, m_law xs L (q_loc 4 [.ref 4000000], ([], fun _ _ => 0, fun _ _ => 0)) = some (.inr (some (.int 1), h)) ∧ h.1.length ≤ 100000 ∧ q_sl h.1 ≤ 7302250
theorem q_gv_hex : ∀ i : Nat, i < 3 → Cond.exactly (q_tm i) "java/lang/String" ∈ flatC (Jvm.Cond.and given_1 narrow_1) := by decide +kernel
theorem q_gv_hco : ∀ i : Nat, i < 3 → Cond.eq (.field (q_tm i) "java/lang/String" "coder" "B") (.int 0) ∈ flatC (Jvm.Cond.and given_1 narrow_1) := by decide +kernel
theorem q_gv_har : ∀ i : Nat, i < 3 → Cond.arrayOf (.field (q_tm i) "java/lang/String" "value" "[B") .byte ∈ flatC (Jvm.Cond.and given_1 narrow_1) := by decide +kernel
theorem q_gv_hle : ∀ i : Nat, i < 3 → Cond.eq (.length (.field (q_tm i) "java/lang/String" "value" "[B")) (.int (Int32.ofNat (q_len.getD i 0))) ∈ flatC (Jvm.Cond.and given_1 narrow_1) := by decide +kernel
theorem q_gv_hel : ∀ i : Nat, i < 3 → ∀ j : Nat, j < q_len.getD i 0 → Cond.eq (.elem (.field (q_tm i) "java/lang/String" "value" "[B") (.int (Int32.ofNat j))) (.int ((q_byt.getD i []).getD j 0)) ∈ flatC (Jvm.Cond.and given_1 narrow_1) := by decide +kernel
theorem q_gv_hne : ∀ i : Nat, i < 3 → ∀ j : Nat, j < 3 → i ≠ j → (Cond.not (Cond.eq (q_tm i) (q_tm j)) ∈ flatC (Jvm.Cond.and given_1 narrow_1)) ∨ (Cond.not (Cond.eq (q_tm j) (q_tm i)) ∈ flatC (Jvm.Cond.and given_1 narrow_1)) := by decide +kernel
theorem q_gv_cs : Cond.eq (.static "java/lang/String" "COMPACT_STRINGS" "Z") (.int 1) ∈ flatC (Jvm.Cond.and given_1 narrow_1) := by decide +kernel
theorem q_gv_sz : Cond.isRef (.static "jdk/internal/util/Preconditions" "SIOOBE_FORMATTER" "Ljava/util/function/BiFunction;") ∈ flatC (Jvm.Cond.and given_1 narrow_1) := by decide +kernel
theorem q_w_cs : Cond.laysStatic "java/lang/String" "COMPACT_STRINGS" "Z" ∈ tables_1 := q_m2 (List.mem_of_getElem? (i := 26) rfl)
theorem q_w_sz : Cond.laysStatic "jdk/internal/util/Preconditions" "SIOOBE_FORMATTER" "Ljava/util/function/BiFunction;" ∈ tables_1 := q_m2 (List.mem_of_getElem? (i := 42) rfl)
theorem q_w_ic : Cond.initialized "java/lang/String" ∈ tables_1 := q_m1 (List.mem_of_getElem? (i := 12) rfl)
theorem q_w_ip : Cond.initialized "jdk/internal/util/Preconditions" ∈ tables_1 := q_m1 (List.mem_of_getElem? (i := 14) rfl)
theorem q_w_s0 : Cond.stringRef "WhichSwitch" 85 q_t0 ∈ tables_1 := q_m2 (List.mem_of_getElem? (i := 12) rfl)
theorem q_w_s1 : Cond.stringRef "WhichSwitch$Reader" 111 q_t1 ∈ tables_1 := q_m2 (List.mem_of_getElem? (i := 105) rfl)
theorem q_w_s2 : Cond.stringRef "WhichSwitch$Reader" 117 q_t2 ∈ tables_1 := q_m2 (List.mem_of_getElem? (i := 92) rfl)
theorem q_w_ao0 : Cond.arrayOver (.object "WhichSwitch$Ask") ∈ tables_1 := q_m1 (List.mem_of_getElem? (i := 47) rfl)
theorem q_w_ao1 : Cond.arrayOver (.object "WhichSwitch$Fuse") ∈ tables_1 := q_m1 (List.mem_of_getElem? (i := 31) rfl)
theorem q_w_ao2 : Cond.arrayOver (.object "WhichSwitch$Lamp") ∈ tables_1 := q_m1 (List.mem_of_getElem? (i := 33) rfl)
theorem q_w_ao3 : Cond.arrayOver (.object "WhichSwitch$Sheet") ∈ tables_1 := q_m1 (List.mem_of_getElem? (i := 39) rfl)
theorem q_w_ao4 : Cond.arrayOver (.object "WhichSwitch$Text") ∈ tables_1 := q_m1 (List.mem_of_getElem? (i := 37) rfl)
theorem q_w_ao5 : Cond.arrayOver (.object "WhichSwitch$Wiring") ∈ tables_1 := q_m1 (List.mem_of_getElem? (i := 35) rfl)
theorem q_w_ai : Cond.arrayClass .int ∈ tables_1 := q_m1 (List.mem_of_getElem? (i := 74) rfl)
theorem q_w_al : Cond.arrayClass .long ∈ tables_1 := q_m1 (List.mem_of_getElem? (i := 169) rfl)
theorem q_kn {s : State} {args : Array Value} (htq : ∀ w ∈ q_tb, w.before args s = true) (k : Nat) : ∃ ci : ClassId × (Nat → Nat), ∀ q : vw_C, q_cl[k]? = some q → u_Kn s q.1 q.2.1 q.2.2 ci.1 ci.2 := by
  match k with
  | 0 =>
    obtain ⟨cc, ii, h⟩ := u_known (n := 5) htq q_U0 (htq _ cn_0)
    exact ⟨(cc, ii), fun q hq => by cases hq; exact h⟩
  | 1 =>
    obtain ⟨cc, ii, h⟩ := u_known (n := 3) htq q_U1 (htq _ cn_1)
    exact ⟨(cc, ii), fun q hq => by cases hq; exact h⟩
  | 2 =>
    obtain ⟨cc, ii, h⟩ := u_known (n := 6) htq q_U2 (htq _ cn_2)
    exact ⟨(cc, ii), fun q hq => by cases hq; exact h⟩
  | 3 =>
    obtain ⟨cc, ii, h⟩ := u_known (n := 3) htq q_U3 (htq _ cn_3)
    exact ⟨(cc, ii), fun q hq => by cases hq; exact h⟩
  | 4 =>
    obtain ⟨cc, ii, h⟩ := u_known (n := 4) htq q_U4 (htq _ cn_4)
    exact ⟨(cc, ii), fun q hq => by cases hq; exact h⟩
  | 5 =>
    obtain ⟨cc, ii, h⟩ := u_known (n := 7) htq q_U5 (htq _ cn_5)
    exact ⟨(cc, ii), fun q hq => by cases hq; exact h⟩
  | 6 =>
    obtain ⟨cc, ii, h⟩ := u_known (n := 3) htq q_U6 (htq _ cn_6)
    exact ⟨(cc, ii), fun q hq => by cases hq; exact h⟩
  | 7 =>
    obtain ⟨cc, ii, h⟩ := u_known (n := 1) htq q_U7 (htq _ cn_7)
    exact ⟨(cc, ii), fun q hq => by cases hq; exact h⟩
  | 8 =>
    obtain ⟨cc, ii, h⟩ := u_known (n := 4) htq q_U8 (htq _ cn_8)
    exact ⟨(cc, ii), fun q hq => by cases hq; exact h⟩
  | 9 =>
    obtain ⟨cc, ii, h⟩ := u_known (n := 3) htq q_U9 (htq _ cn_9)
    exact ⟨(cc, ii), fun q hq => by cases hq; exact h⟩
  | 10 =>
    obtain ⟨cc, ii, h⟩ := u_known (n := 19) htq q_U10 (htq _ cn_10)
    exact ⟨(cc, ii), fun q hq => by cases hq; exact h⟩
  | 11 =>
    obtain ⟨cc, ii, h⟩ := u_known (n := 62) htq q_U11 (htq _ cn_11)
    exact ⟨(cc, ii), fun q hq => by cases hq; exact h⟩
  | k + 12 => exact ⟨(0, fun _ => 0), fun q hq => by simp [q_cl] at hq⟩
theorem q_aoK {s : State} {args : Array Value} {C : String} (h : (Cond.arrayOver (.object C)).before args s = true) : ∃ c : ClassId, ArrOfT s c (.object C) ∧ va_RA s c (.object C) := by
  obtain ⟨comp, c, k, h1, -, h2, h3, h4⟩ := Cond.arrayOver_spec h
  exact ⟨c, fun n z => ⟨fun k h => (by cases h), k, h2, comp, h3⟩, k, comp, h2, h3, h1, h4⟩
theorem q_acK {s : State} {args : Array Value} {ty : FieldType} (hty : ∀ C, ty ≠ .object C) (h : (Cond.arrayClass ty).before args s = true) : ∃ c : ClassId, ArrOfT s c ty ∧ va_RA s c ty := by
  obtain ⟨c, k, comp, h1, h2, h3⟩ := Cond.arrayClass_spec h
  refine ⟨c, fun n z => ⟨fun k h => (by cases h), k, h2, comp, h3⟩, ?_⟩
  cases ty <;> first | exact h1 | exact absurd rfl (hty _)
theorem whole_start_of (hpure : q_pure) {p : Program} {e : Env} {s : State} {m : MethodId} {below : List Frame} {meth : Method} {c : Code} (l : Launch) {b L : Nat} {xs : Nat → Int32} (hL : L ≤ 3072) (C0 : lw_At p s m meth c b L xs) : W p l e room_1 s m #[Value.ref b] below meth c s.heap [] 0 0 (lw_Z below #[Value.ref b] s) (entryFrame m ([Value.ref b] : List Value).toArray 4) := by
  obtain ⟨hx, hb, hr, hml, hown, hts, hX, hbl, hlocks, hgv⟩ := C0
  have htq : ∀ w ∈ q_tb, w.before #[.ref b] s = true := fun w hw => hts w (List.mem_filter.mp hw).1
  have htn : ∀ w ∈ tables_1, w.before #[.ref b] s = true := fun w hw => hts w (List.mem_append_right _ hw)
  have hgs := flat_of_before _ hgv
  have hA : ∀ a : Nat, a < s.heap.size → ¬ (fun q : Nat => s.heap.size ≤ q) a := fun a h => Nat.not_le.mpr h
  obtain ⟨dd, hdd⟩ := Classical.axiomOfChoice (q_kn htq)
  obtain ⟨cI, kI1, kI2⟩ := q_acK (fun _ h => by cases h) (htn _ q_w_ai)
  obtain ⟨cJ, kJ1, kJ2⟩ := q_acK (fun _ h => by cases h) (htn _ q_w_al)

  obtain ⟨cA0, kA0, kB0⟩ := q_aoK (htn _ q_w_ao0)
  obtain ⟨cA1, kA1, kB1⟩ := q_aoK (htn _ q_w_ao1)
  obtain ⟨cA2, kA2, kB2⟩ := q_aoK (htn _ q_w_ao2)
  obtain ⟨cA3, kA3, kB3⟩ := q_aoK (htn _ q_w_ao3)
  obtain ⟨cA4, kA4, kB4⟩ := q_aoK (htn _ q_w_ao4)
  obtain ⟨cA5, kA5, kB5⟩ := q_aoK (htn _ q_w_ao5)
  have hKtys : ∀ (k : Nat) (q : ClassId × FieldType), ([(cI, .int), (cJ, .long), (cA0, .object "WhichSwitch$Ask"), (cA1, .object "WhichSwitch$Fuse"), (cA2, .object "WhichSwitch$Lamp"), (cA3, .object "WhichSwitch$Sheet"), (cA4, .object "WhichSwitch$Text"), (cA5, .object "WhichSwitch$Wiring")] : List (ClassId × FieldType))[k]? = some q → ArrOfT s q.1 q.2 ∧ va_RA s q.1 q.2 := by
    intro k q hq
    match k, hq with
    | 0, hq => cases hq; exact ⟨kI1, kI2⟩
    | 1, hq => cases hq; exact ⟨kJ1, kJ2⟩
    | 2, hq => cases hq; exact ⟨kA0, kB0⟩
    | 3, hq => cases hq; exact ⟨kA1, kB1⟩
    | 4, hq => cases hq; exact ⟨kA2, kB2⟩
    | 5, hq => cases hq; exact ⟨kA3, kB3⟩
    | 6, hq => cases hq; exact ⟨kA4, kB4⟩
    | 7, hq => cases hq; exact ⟨kA5, kB5⟩
    | k + 8, hq => simp at hq
  have hY : q_ty [(cI, .int), (cJ, .long), (cA0, .object "WhichSwitch$Ask"), (cA1, .object "WhichSwitch$Fuse"), (cA2, .object "WhichSwitch$Lamp"), (cA3, .object "WhichSwitch$Sheet"), (cA4, .object "WhichSwitch$Text"), (cA5, .object "WhichSwitch$Wiring")] := ⟨⟨cI, rfl⟩, ⟨cJ, rfl⟩, fun t C ht => by
    match t, ht with
    | 0, ht => cases ht; exact ⟨cA0, rfl⟩
    | 1, ht => cases ht; exact ⟨cA1, rfl⟩
    | 2, ht => cases ht; exact ⟨cA2, rfl⟩
    | 3, ht => cases ht; exact ⟨cA3, rfl⟩
    | 4, ht => cases ht; exact ⟨cA4, rfl⟩
    | 5, ht => cases ht; exact ⟨cA5, rfl⟩
    | t + 6, ht => simp [q_an] at ht⟩
  generalize htysE : ([(cI, .int), (cJ, .long), (cA0, .object "WhichSwitch$Ask"), (cA1, .object "WhichSwitch$Fuse"), (cA2, .object "WhichSwitch$Lamp"), (cA3, .object "WhichSwitch$Sheet"), (cA4, .object "WhichSwitch$Text"), (cA5, .object "WhichSwitch$Wiring")] : List (ClassId × FieldType)) = tys at hKtys hY
  obtain ⟨adK, adV, hstr, hstrv⟩ := vk_Sof (args := #[.ref b]) (s := s) (N := 3) (tm := q_tm) (len := q_len) (byt := q_byt) (A := fun q => s.heap.size ≤ q) (by decide +kernel) (fun i hi => hgs _ (q_gv_hex i hi)) (fun i hi => hgs _ (q_gv_hco i hi)) (fun i hi => hgs _ (q_gv_har i hi)) (fun i hi => hgs _ (q_gv_hle i hi)) (fun i hi j hj => hgs _ (q_gv_hel i hi j hj)) (fun i j hi hj hne => (q_gv_hne i hi j hj hne).imp (hgs _) (hgs _)) hA
  have hcs : va_Z "java/lang/String" "COMPACT_STRINGS" "Z" (.int 1) (fun q => s.heap.size ≤ q) s s.heap := va_Zof (htn _ q_w_cs) (htn _ q_w_ic) (va_eqi (hgs _ q_gv_cs)) hA
  have hsz : va_Zq "jdk/internal/util/Preconditions" "SIOOBE_FORMATTER" "Ljava/util/function/BiFunction;" (fun q => s.heap.size ≤ q) s s.heap := va_Zqof (htn _ q_w_sz) (htn _ q_w_ip) (hgs _ q_gv_sz) hA
  obtain ⟨zf, zt, hz⟩ : ∃ (zf zt : Nat), va_Z "jdk/internal/util/Preconditions" "SIOOBE_FORMATTER" "Ljava/util/function/BiFunction;" (if zf = 0 then .null else .ref zt) (fun q => s.heap.size ≤ q) s s.heap := by
    rcases hsz with h | ⟨t, h⟩
    · exact ⟨0, 0, by rw [if_pos rfl]; exact h⟩
    · exact ⟨1, t, by rw [if_neg (by decide)]; exact h⟩
  obtain ⟨ad, had⟩ : ∃ ad : Nat → Nat, ad = fun o => if o < 100000 then s.heap.size + o else if o < 2000000 then adK (o - 1000000) else if o < 3000000 then adV (o - 2000000) else if o = 3000000 then zt else if o = 3000001 then zf else b := ⟨_, rfl⟩
  have ad0 : ∀ o, o < 100000 → ad o = s.heap.size + o := fun o ho => by rw [had]; simp [ho]
  have adk : ∀ i, i < 3 → ad (1000000 + i) = adK i := fun i hi => by rw [had]; simp [show ¬ (1000000 + i < 100000) by omega, show 1000000 + i < 2000000 by omega]
  have adv : ∀ i, i < 3 → ad (2000000 + i) = adV i := fun i hi => by rw [had]; simp [show ¬ (2000000 + i < 100000) by omega, show ¬ (2000000 + i < 2000000) by omega, show 2000000 + i < 3000000 by omega]
  have adz : ad 3000000 = zt := by rw [had]; simp
  have adf : ad 3000001 = zf := by rw [had]; simp
  have adb : ad 4000000 = b := by rw [had]; simp
  have hR : ∀ i : Nat, i < 3 → (q_tm i).eval #[.ref b] s none [] s = some (.ref (ad (1000000 + i))) := fun i hi => by rw [adk i hi]; exact hstrv i hi
  have hSx : q_Sx ad s.heap.size s.heap s := by
    refine ⟨rfl, ⟨fun i hi => ?_, fun i j hi hj e => ?_⟩, hcs, ?_, vk_R.of (htn _ q_w_s0) (hR 0 (by decide)), vk_R.of (htn _ q_w_s1) (hR 1 (by decide)), vk_R.of (htn _ q_w_s2) (hR 2 (by decide))⟩
    · dsimp only
      rw [adk i hi, adv i hi]
      exact hstr.1 i hi
    · dsimp only at e
      rw [adk i hi, adk j hj] at e
      exact hstr.2 i j hi hj e
    · have e : q_cv ad (q_za ad) = if zf = 0 then .null else .ref zt := by
        unfold q_za
        rw [adf]
        by_cases h0 : zf = 0
        · rw [if_pos h0, if_pos h0]; rfl
        · rw [if_neg h0, if_neg h0]; show Value.ref (ad 3000000) = _; rw [adz]
      rw [e]
      exact hz
  have hEnv : q_Env (fun k => (dd k).1, fun k => (dd k).2) q_cl tys ad s.heap.size s.heap s := ⟨⟨fun k q hq => hdd k q hq, hKtys⟩, fun w hw => va_Nw.of (q_nest_tab hw) (htn _ (List.mem_filter.mp hw).1), fun cn hc => by
    have hc2 : cn ∈ q_an := hc
    simp only [q_an, List.mem_cons, List.not_mem_nil, or_false] at hc2
    rcases hc2 with rfl | rfl | rfl | rfl | rfl | rfl
    · exact va_AO.of (htn _ q_w_ao0)
    · exact va_AO.of (htn _ q_w_ao1)
    · exact va_AO.of (htn _ q_w_ao2)
    · exact va_AO.of (htn _ q_w_ao3)
    · exact va_AO.of (htn _ q_w_ao4)
    · exact va_AO.of (htn _ q_w_ao5), hSx⟩
  have C : q_Cx p room_1 s m #[.ref b] c code 4 "WhichSwitchLaw" (fun k => (dd k).1, fun k => (dd k).2) q_cl tys ad s.heap.size s.heap 0 0 := ⟨hx, hb, hml, hown, htq, hEnv, ad0, rfl, fun q _ => rfl⟩
  have Z : q_LX s #[.ref b] below meth (lw_Z below #[.ref b] s) s.heap.size ad xs L := ⟨by rw [adb]; exact hX, by rw [adb]; exact hbl, by rw [adb], by rw [adb], hlocks, hr⟩
  obtain ⟨h, e1, l1, l2⟩ := hpure L xs hL
  have K := ((k_law (l := l) (e := e) (p := p) ⟨ad0, hY⟩ C Z (q_loc 4 [.ref 4000000], ([], fun _ _ => 0, fun _ _ => 0))).2 _ _ e1).2 ⟨by show _ ≤ 0 + 600000; omega, by show _ ≤ 0 + 7302250; omega, l1⟩ rfl
  have hent := lv_entry ([.ref b]) (n := 4) (Nat.le_of_ble_eq_true rfl)
  rw [lg_entry_eq]
  have hI0 : q_I (fun k => (dd k).1, fun k => (dd k).2) q_cl tys ad s.heap.size s.heap ([], fun _ _ => 0, fun _ _ => 0) s.heap [] := ⟨fun o sh h => by simp at h, rfl, Nat.zero_le _, fun _ _ => rfl, fun _ h => by cases h⟩
  exact K s.heap [] _ ⟨rfl, Nat.le_refl _, Nat.le_refl _⟩ hI0 (q_loc_has (vs := [.ref 4000000]) (by simp only [List.map_cons, List.map_nil, q_cv, adb]; exact hent))

