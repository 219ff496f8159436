/-! THE LAW'S LOOP OVER WHAT EACH CALL DOES (written by wip/gen/loop.py) -/
/-- a call: class and reference answer the same number, and what holds goes on -/
def q_opI (Inv : (Nat → Nat → Int32) → (Nat → Nat → Int64) → Prop) (mw mr : q_M) (n : Nat) : Prop := ∀ (as : List Int32), as.length = n → ∀ d w, Inv d w → ∃ v d1 w1 d2 w2, mw (.ref 0 :: as.map Value.int) (S0, d, w) = some (some (.int v), (S0, d1, w1)) ∧ mr (.ref 135 :: as.map Value.int) (S0, d1, w1) = some (some (.int v), (S0, d2, w2)) ∧ Inv d2 w2
def q_opL (Inv : (Nat → Nat → Int32) → (Nat → Nat → Int64) → Prop) (mw mr : q_M) (n : Nat) : Prop := ∀ (as : List Int32), as.length = n → ∀ d w, Inv d w → ∃ v d1 w1 d2 w2, mw (.ref 0 :: as.map Value.int) (S0, d, w) = some (some (.long v), (S0, d1, w1)) ∧ mr (.ref 135 :: as.map Value.int) (S0, d1, w1) = some (some (.long v), (S0, d2, w2)) ∧ Inv d2 w2
def q_opF (Inv : (Nat → Nat → Int32) → (Nat → Nat → Int64) → Prop) (mw mr : q_M) : Prop := ∀ (x : Int64) (n : Int32), ∀ d w, Inv d w → ∃ v d1 w1 d2 w2, mw [.ref 0, .long x, .int n] (S0, d, w) = some (some (.int v), (S0, d1, w1)) ∧ mr [.ref 135, .long x, .int n] (S0, d1, w1) = some (some (.int v), (S0, d2, w2)) ∧ Inv d2 w2
theorem ev_sald {xs : Nat → Int32} {L j : Nat} {h : q_H} (hL : L ≤ 3072) (hj : j < L) : o_sald xs L h (.ref 4000000) (.int (nI j)) = some (.int (xs j)) := by
  have hj2 : j < 2 ^ 31 := by omega
  unfold o_sald
  simp only [nI_clamp hj2, nI_pos hj2, hj, not_false_eq_true, and_self, if_true]
theorem q_n1 (i : Nat) : nI i + 1 = nI (i + 1) := q_addI i 1
theorem q_n2 (i : Nat) : nI i + 2 = nI (i + 2) := q_addI i 2
theorem q_n3 (i : Nat) : nI i + 3 = nI (i + 3) := q_addI i 3
theorem q_n4 (i : Nat) : nI i + 4 = nI (i + 4) := q_addI i 4
theorem q_n5 (i : Nat) : nI i + 5 = nI (i + 5) := q_addI i 5
theorem q_n6 (i : Nat) : nI i + 6 = nI (i + 6) := q_addI i 6
theorem lg_cmp_self (x : Int64) : lg_cmp x x = 0 := by simp [lg_cmp]
def q_LL (i : Nat) : q_L := [some (.ref 4000000), some (.ref 0), some (.ref 135), some (.int (nI i))]
section
variable {Inv : (Nat → Nat → Int32) → (Nat → Nat → Int64) → Prop} {xs : Nat → Int32} {L i : Nat} {d : Nat → Nat → Int32} {w : Nat → Nat → Int64} {R : Option Value → q_H → Prop}
theorem arm_0 (hop : q_opI Inv m_w_fuse m_r_fuse 2) (hL : L ≤ 3072) (hi : i + 6 ≤ L) (hI : Inv d w) : wT (law_a0 xs L) (q_LL i, (S0, d, w)) (fun σ1 => ∃ d2 w2, σ1 = (q_LL i, (S0, d2, w2)) ∧ Inv d2 w2) R := by
  have y1 := fun h => ev_sald (xs := xs) (h := h) hL (show i + 1 < L by omega)
  have y2 := fun h => ev_sald (xs := xs) (h := h) hL (show i + 2 < L by omega)
  have y3 := fun h => ev_sald (xs := xs) (h := h) hL (show i + 3 < L by omega)
  have y4 := fun h => ev_sald (xs := xs) (h := h) hL (show i + 4 < L by omega)
  have y5 := fun h => ev_sald (xs := xs) (h := h) hL (show i + 5 < L by omega)
  obtain ⟨v, d1, w1, d2, w2, e1, e2, hI2⟩ := hop [xs (i + 1), xs (i + 2)] rfl d w hI
  simp only [List.map_cons, List.map_nil] at e1 e2
  unfold law_a0
  refine wT_If.mpr ⟨false, (q_LL i, (S0, d2, w2)), ?_, fun h => (by cases h), fun _ => wT_Skip.mpr ⟨d2, w2, rfl, hI2⟩⟩
  simp [c2, x2, x1, xM, xK, xLi, xLa, q_ev, q_LL, o_iadd, o_lcmp, o_lor, o_lshl, o_land, o_i2l, q_n1, q_n2, q_n3, q_n4, q_n5, y1, y2, y3, y4, y5, r_x, r_m, e1, e2, lg_cmp_self]
theorem arm_1 (hop : q_opI Inv m_w_set m_r_set 2) (hL : L ≤ 3072) (hi : i + 6 ≤ L) (hI : Inv d w) : wT (law_a1 xs L) (q_LL i, (S0, d, w)) (fun σ1 => ∃ d2 w2, σ1 = (q_LL i, (S0, d2, w2)) ∧ Inv d2 w2) R := by
  have y1 := fun h => ev_sald (xs := xs) (h := h) hL (show i + 1 < L by omega)
  have y2 := fun h => ev_sald (xs := xs) (h := h) hL (show i + 2 < L by omega)
  have y3 := fun h => ev_sald (xs := xs) (h := h) hL (show i + 3 < L by omega)
  have y4 := fun h => ev_sald (xs := xs) (h := h) hL (show i + 4 < L by omega)
  have y5 := fun h => ev_sald (xs := xs) (h := h) hL (show i + 5 < L by omega)
  obtain ⟨v, d1, w1, d2, w2, e1, e2, hI2⟩ := hop [xs (i + 1), xs (i + 2)] rfl d w hI
  simp only [List.map_cons, List.map_nil] at e1 e2
  unfold law_a1
  refine wT_If.mpr ⟨false, (q_LL i, (S0, d2, w2)), ?_, fun h => (by cases h), fun _ => wT_Skip.mpr ⟨d2, w2, rfl, hI2⟩⟩
  simp [c2, x2, x1, xM, xK, xLi, xLa, q_ev, q_LL, o_iadd, o_lcmp, o_lor, o_lshl, o_land, o_i2l, q_n1, q_n2, q_n3, q_n4, q_n5, y1, y2, y3, y4, y5, r_x, r_m, e1, e2, lg_cmp_self]
theorem arm_2 (hop : q_opI Inv m_w_count m_r_count 1) (hL : L ≤ 3072) (hi : i + 6 ≤ L) (hI : Inv d w) : wT (law_a2 xs L) (q_LL i, (S0, d, w)) (fun σ1 => ∃ d2 w2, σ1 = (q_LL i, (S0, d2, w2)) ∧ Inv d2 w2) R := by
  have y1 := fun h => ev_sald (xs := xs) (h := h) hL (show i + 1 < L by omega)
  have y2 := fun h => ev_sald (xs := xs) (h := h) hL (show i + 2 < L by omega)
  have y3 := fun h => ev_sald (xs := xs) (h := h) hL (show i + 3 < L by omega)
  have y4 := fun h => ev_sald (xs := xs) (h := h) hL (show i + 4 < L by omega)
  have y5 := fun h => ev_sald (xs := xs) (h := h) hL (show i + 5 < L by omega)
  obtain ⟨v, d1, w1, d2, w2, e1, e2, hI2⟩ := hop [xs (i + 1)] rfl d w hI
  simp only [List.map_cons, List.map_nil] at e1 e2
  unfold law_a2
  refine wT_If.mpr ⟨false, (q_LL i, (S0, d2, w2)), ?_, fun h => (by cases h), fun _ => wT_Skip.mpr ⟨d2, w2, rfl, hI2⟩⟩
  simp [c2, x2, x1, xM, xK, xLi, xLa, q_ev, q_LL, o_iadd, o_lcmp, o_lor, o_lshl, o_land, o_i2l, q_n1, q_n2, q_n3, q_n4, q_n5, y1, y2, y3, y4, y5, r_x, r_m, e1, e2, lg_cmp_self]
theorem arm_3 (hop : q_opI Inv m_w_lamp m_r_lamp 4) (hL : L ≤ 3072) (hi : i + 6 ≤ L) (hI : Inv d w) : wT (law_a3 xs L) (q_LL i, (S0, d, w)) (fun σ1 => ∃ d2 w2, σ1 = (q_LL i, (S0, d2, w2)) ∧ Inv d2 w2) R := by
  have y1 := fun h => ev_sald (xs := xs) (h := h) hL (show i + 1 < L by omega)
  have y2 := fun h => ev_sald (xs := xs) (h := h) hL (show i + 2 < L by omega)
  have y3 := fun h => ev_sald (xs := xs) (h := h) hL (show i + 3 < L by omega)
  have y4 := fun h => ev_sald (xs := xs) (h := h) hL (show i + 4 < L by omega)
  have y5 := fun h => ev_sald (xs := xs) (h := h) hL (show i + 5 < L by omega)
  obtain ⟨v, d1, w1, d2, w2, e1, e2, hI2⟩ := hop [xs (i + 1), xs (i + 2), xs (i + 3), xs (i + 4)] rfl d w hI
  simp only [List.map_cons, List.map_nil] at e1 e2
  unfold law_a3
  refine wT_If.mpr ⟨false, (q_LL i, (S0, d2, w2)), ?_, fun h => (by cases h), fun _ => wT_Skip.mpr ⟨d2, w2, rfl, hI2⟩⟩
  simp [c2, x2, x1, xM, xK, xLi, xLa, q_ev, q_LL, o_iadd, o_lcmp, o_lor, o_lshl, o_land, o_i2l, q_n1, q_n2, q_n3, q_n4, q_n5, y1, y2, y3, y4, y5, r_x, r_m, e1, e2, lg_cmp_self]
theorem arm_4 (hop : q_opI Inv m_w_lampTold m_r_lampTold 2) (hL : L ≤ 3072) (hi : i + 6 ≤ L) (hI : Inv d w) : wT (law_a4 xs L) (q_LL i, (S0, d, w)) (fun σ1 => ∃ d2 w2, σ1 = (q_LL i, (S0, d2, w2)) ∧ Inv d2 w2) R := by
  have y1 := fun h => ev_sald (xs := xs) (h := h) hL (show i + 1 < L by omega)
  have y2 := fun h => ev_sald (xs := xs) (h := h) hL (show i + 2 < L by omega)
  have y3 := fun h => ev_sald (xs := xs) (h := h) hL (show i + 3 < L by omega)
  have y4 := fun h => ev_sald (xs := xs) (h := h) hL (show i + 4 < L by omega)
  have y5 := fun h => ev_sald (xs := xs) (h := h) hL (show i + 5 < L by omega)
  obtain ⟨v, d1, w1, d2, w2, e1, e2, hI2⟩ := hop [xs (i + 1), xs (i + 2)] rfl d w hI
  simp only [List.map_cons, List.map_nil] at e1 e2
  unfold law_a4
  refine wT_If.mpr ⟨false, (q_LL i, (S0, d2, w2)), ?_, fun h => (by cases h), fun _ => wT_Skip.mpr ⟨d2, w2, rfl, hI2⟩⟩
  simp [c2, x2, x1, xM, xK, xLi, xLa, q_ev, q_LL, o_iadd, o_lcmp, o_lor, o_lshl, o_land, o_i2l, q_n1, q_n2, q_n3, q_n4, q_n5, y1, y2, y3, y4, y5, r_x, r_m, e1, e2, lg_cmp_self]
theorem arm_5 (hop : q_opF Inv m_w_feed m_r_feed) (hL : L ≤ 3072) (hi : i + 6 ≤ L) (hI : Inv d w) : wT (law_a5 xs L) (q_LL i, (S0, d, w)) (fun σ1 => ∃ d2 w2, σ1 = (q_LL i, (S0, d2, w2)) ∧ Inv d2 w2) R := by
  have y1 := fun h => ev_sald (xs := xs) (h := h) hL (show i + 1 < L by omega)
  have y2 := fun h => ev_sald (xs := xs) (h := h) hL (show i + 2 < L by omega)
  have y3 := fun h => ev_sald (xs := xs) (h := h) hL (show i + 3 < L by omega)
  have y4 := fun h => ev_sald (xs := xs) (h := h) hL (show i + 4 < L by omega)
  have y5 := fun h => ev_sald (xs := xs) (h := h) hL (show i + 5 < L by omega)
  obtain ⟨X, eX⟩ : ∃ X, ∀ h, (x2 o_lor (x2 o_lshl (x1 o_i2l (x2 (o_sald xs L) (xLa 0) (x2 o_iadd (xLi 3) (xK (.int 1))))) (xK (.int 32))) (x2 o_land (x1 o_i2l (x2 (o_sald xs L) (xLa 0) (x2 o_iadd (xLi 3) (xK (.int 2))))) (xK (.long (4294967295))))) ([some (.ref 4000000), some (.ref 0), some (.ref 135), some (.int (nI i))], h) = some (.long X, ([some (.ref 4000000), some (.ref 0), some (.ref 135), some (.int (nI i))], h)) := by
    refine ⟨(xs (i + 1)).toInt64 <<< ((32 : Int32).toInt64 &&& 63) ||| ((xs (i + 2)).toInt64 &&& 4294967295), fun h => ?_⟩
    simp only [x2, x1, xK, xLi, xLa, Option.some.injEq, List.getElem?_cons_zero, List.getElem?_cons_succ, o_iadd, q_n1, q_n2, y1, y2, o_i2l, o_lshl, o_lor, o_land]
  have eY : ∀ h, (x2 (o_sald xs L) (xLa 0) (x2 o_iadd (xLi 3) (xK (.int 3)))) ([some (.ref 4000000), some (.ref 0), some (.ref 135), some (.int (nI i))], h) = some (.int (xs (i + 3)), ([some (.ref 4000000), some (.ref 0), some (.ref 135), some (.int (nI i))], h)) := fun h => by
    simp only [x2, x1, xK, xLi, xLa, Option.some.injEq, List.getElem?_cons_zero, List.getElem?_cons_succ, o_iadd, q_n3, y3]
  obtain ⟨v, d1, w1, d2, w2, e1, e2, hI2⟩ := hop X (xs (i + 3)) d w hI
  unfold law_a5
  refine wT_If.mpr ⟨false, (q_LL i, (S0, d2, w2)), ?_, fun h => (by cases h), fun _ => wT_Skip.mpr ⟨d2, w2, rfl, hI2⟩⟩
  have c1 : ∀ h, xLa 1 ([some (.ref 4000000), some (.ref 0), some (.ref 135), some (.int (nI i))], h) = some (.ref 0, ([some (.ref 4000000), some (.ref 0), some (.ref 135), some (.int (nI i))], h)) := fun h => rfl
  have c3 : ∀ h, xLa 2 ([some (.ref 4000000), some (.ref 0), some (.ref 135), some (.int (nI i))], h) = some (.ref 135, ([some (.ref 4000000), some (.ref 0), some (.ref 135), some (.int (nI i))], h)) := fun h => rfl
  unfold q_LL
  simp only [c2, xM, q_ev, c1, c3, eX, eY, r_x, r_m, e1, e2]
  simp
theorem arm_6 (hop : q_opI Inv m_w_text m_r_text 0) (hL : L ≤ 3072) (hi : i + 6 ≤ L) (hI : Inv d w) : wT (law_a6 xs L) (q_LL i, (S0, d, w)) (fun σ1 => ∃ d2 w2, σ1 = (q_LL i, (S0, d2, w2)) ∧ Inv d2 w2) R := by
  have y1 := fun h => ev_sald (xs := xs) (h := h) hL (show i + 1 < L by omega)
  have y2 := fun h => ev_sald (xs := xs) (h := h) hL (show i + 2 < L by omega)
  have y3 := fun h => ev_sald (xs := xs) (h := h) hL (show i + 3 < L by omega)
  have y4 := fun h => ev_sald (xs := xs) (h := h) hL (show i + 4 < L by omega)
  have y5 := fun h => ev_sald (xs := xs) (h := h) hL (show i + 5 < L by omega)
  obtain ⟨v, d1, w1, d2, w2, e1, e2, hI2⟩ := hop [] rfl d w hI
  simp only [List.map_cons, List.map_nil] at e1 e2
  unfold law_a6
  refine wT_If.mpr ⟨false, (q_LL i, (S0, d2, w2)), ?_, fun h => (by cases h), fun _ => wT_Skip.mpr ⟨d2, w2, rfl, hI2⟩⟩
  simp [c2, x2, x1, xM, xK, xLi, xLa, q_ev, q_LL, o_iadd, o_lcmp, o_lor, o_lshl, o_land, o_i2l, q_n1, q_n2, q_n3, q_n4, q_n5, y1, y2, y3, y4, y5, r_x, r_m, e1, e2, lg_cmp_self]
theorem arm_7 (hop : q_opI Inv m_w_force m_r_force 1) (hL : L ≤ 3072) (hi : i + 6 ≤ L) (hI : Inv d w) : wT (law_a7 xs L) (q_LL i, (S0, d, w)) (fun σ1 => ∃ d2 w2, σ1 = (q_LL i, (S0, d2, w2)) ∧ Inv d2 w2) R := by
  have y1 := fun h => ev_sald (xs := xs) (h := h) hL (show i + 1 < L by omega)
  have y2 := fun h => ev_sald (xs := xs) (h := h) hL (show i + 2 < L by omega)
  have y3 := fun h => ev_sald (xs := xs) (h := h) hL (show i + 3 < L by omega)
  have y4 := fun h => ev_sald (xs := xs) (h := h) hL (show i + 4 < L by omega)
  have y5 := fun h => ev_sald (xs := xs) (h := h) hL (show i + 5 < L by omega)
  obtain ⟨v, d1, w1, d2, w2, e1, e2, hI2⟩ := hop [xs (i + 1)] rfl d w hI
  simp only [List.map_cons, List.map_nil] at e1 e2
  unfold law_a7
  refine wT_If.mpr ⟨false, (q_LL i, (S0, d2, w2)), ?_, fun h => (by cases h), fun _ => wT_Skip.mpr ⟨d2, w2, rfl, hI2⟩⟩
  simp [c2, x2, x1, xM, xK, xLi, xLa, q_ev, q_LL, o_iadd, o_lcmp, o_lor, o_lshl, o_land, o_i2l, q_n1, q_n2, q_n3, q_n4, q_n5, y1, y2, y3, y4, y5, r_x, r_m, e1, e2, lg_cmp_self]
theorem arm_8 (hop : q_opI Inv m_w_house m_r_house 1) (hL : L ≤ 3072) (hi : i + 6 ≤ L) (hI : Inv d w) : wT (law_a8 xs L) (q_LL i, (S0, d, w)) (fun σ1 => ∃ d2 w2, σ1 = (q_LL i, (S0, d2, w2)) ∧ Inv d2 w2) R := by
  have y1 := fun h => ev_sald (xs := xs) (h := h) hL (show i + 1 < L by omega)
  have y2 := fun h => ev_sald (xs := xs) (h := h) hL (show i + 2 < L by omega)
  have y3 := fun h => ev_sald (xs := xs) (h := h) hL (show i + 3 < L by omega)
  have y4 := fun h => ev_sald (xs := xs) (h := h) hL (show i + 4 < L by omega)
  have y5 := fun h => ev_sald (xs := xs) (h := h) hL (show i + 5 < L by omega)
  obtain ⟨v, d1, w1, d2, w2, e1, e2, hI2⟩ := hop [xs (i + 1)] rfl d w hI
  simp only [List.map_cons, List.map_nil] at e1 e2
  unfold law_a8
  refine wT_If.mpr ⟨false, (q_LL i, (S0, d2, w2)), ?_, fun h => (by cases h), fun _ => wT_Skip.mpr ⟨d2, w2, rfl, hI2⟩⟩
  simp [c2, x2, x1, xM, xK, xLi, xLa, q_ev, q_LL, o_iadd, o_lcmp, o_lor, o_lshl, o_land, o_i2l, q_n1, q_n2, q_n3, q_n4, q_n5, y1, y2, y3, y4, y5, r_x, r_m, e1, e2, lg_cmp_self]
theorem arm_9 (hop : q_opI Inv m_w_fedBy m_r_fedBy 2) (hL : L ≤ 3072) (hi : i + 6 ≤ L) (hI : Inv d w) : wT (law_a9 xs L) (q_LL i, (S0, d, w)) (fun σ1 => ∃ d2 w2, σ1 = (q_LL i, (S0, d2, w2)) ∧ Inv d2 w2) R := by
  have y1 := fun h => ev_sald (xs := xs) (h := h) hL (show i + 1 < L by omega)
  have y2 := fun h => ev_sald (xs := xs) (h := h) hL (show i + 2 < L by omega)
  have y3 := fun h => ev_sald (xs := xs) (h := h) hL (show i + 3 < L by omega)
  have y4 := fun h => ev_sald (xs := xs) (h := h) hL (show i + 4 < L by omega)
  have y5 := fun h => ev_sald (xs := xs) (h := h) hL (show i + 5 < L by omega)
  obtain ⟨v, d1, w1, d2, w2, e1, e2, hI2⟩ := hop [xs (i + 1), xs (i + 2)] rfl d w hI
  simp only [List.map_cons, List.map_nil] at e1 e2
  unfold law_a9
  refine wT_If.mpr ⟨false, (q_LL i, (S0, d2, w2)), ?_, fun h => (by cases h), fun _ => wT_Skip.mpr ⟨d2, w2, rfl, hI2⟩⟩
  simp [c2, x2, x1, xM, xK, xLi, xLa, q_ev, q_LL, o_iadd, o_lcmp, o_lor, o_lshl, o_land, o_i2l, q_n1, q_n2, q_n3, q_n4, q_n5, y1, y2, y3, y4, y5, r_x, r_m, e1, e2, lg_cmp_self]
theorem arm_10 (hop : q_opI Inv m_w_show m_r_show 1) (hL : L ≤ 3072) (hi : i + 6 ≤ L) (hI : Inv d w) : wT (law_a10 xs L) (q_LL i, (S0, d, w)) (fun σ1 => ∃ d2 w2, σ1 = (q_LL i, (S0, d2, w2)) ∧ Inv d2 w2) R := by
  have y1 := fun h => ev_sald (xs := xs) (h := h) hL (show i + 1 < L by omega)
  have y2 := fun h => ev_sald (xs := xs) (h := h) hL (show i + 2 < L by omega)
  have y3 := fun h => ev_sald (xs := xs) (h := h) hL (show i + 3 < L by omega)
  have y4 := fun h => ev_sald (xs := xs) (h := h) hL (show i + 4 < L by omega)
  have y5 := fun h => ev_sald (xs := xs) (h := h) hL (show i + 5 < L by omega)
  obtain ⟨v, d1, w1, d2, w2, e1, e2, hI2⟩ := hop [xs (i + 1)] rfl d w hI
  simp only [List.map_cons, List.map_nil] at e1 e2
  unfold law_a10
  refine wT_If.mpr ⟨false, (q_LL i, (S0, d2, w2)), ?_, fun h => (by cases h), fun _ => wT_Skip.mpr ⟨d2, w2, rfl, hI2⟩⟩
  simp [c2, x2, x1, xM, xK, xLi, xLa, q_ev, q_LL, o_iadd, o_lcmp, o_lor, o_lshl, o_land, o_i2l, q_n1, q_n2, q_n3, q_n4, q_n5, y1, y2, y3, y4, y5, r_x, r_m, e1, e2, lg_cmp_self]
theorem arm_11 (hop : q_opI Inv m_w_bright m_r_bright 2) (hL : L ≤ 3072) (hi : i + 6 ≤ L) (hI : Inv d w) : wT (law_a11 xs L) (q_LL i, (S0, d, w)) (fun σ1 => ∃ d2 w2, σ1 = (q_LL i, (S0, d2, w2)) ∧ Inv d2 w2) R := by
  have y1 := fun h => ev_sald (xs := xs) (h := h) hL (show i + 1 < L by omega)
  have y2 := fun h => ev_sald (xs := xs) (h := h) hL (show i + 2 < L by omega)
  have y3 := fun h => ev_sald (xs := xs) (h := h) hL (show i + 3 < L by omega)
  have y4 := fun h => ev_sald (xs := xs) (h := h) hL (show i + 4 < L by omega)
  have y5 := fun h => ev_sald (xs := xs) (h := h) hL (show i + 5 < L by omega)
  obtain ⟨v, d1, w1, d2, w2, e1, e2, hI2⟩ := hop [xs (i + 1), xs (i + 2)] rfl d w hI
  simp only [List.map_cons, List.map_nil] at e1 e2
  unfold law_a11
  refine wT_If.mpr ⟨false, (q_LL i, (S0, d2, w2)), ?_, fun h => (by cases h), fun _ => wT_Skip.mpr ⟨d2, w2, rfl, hI2⟩⟩
  simp [c2, x2, x1, xM, xK, xLi, xLa, q_ev, q_LL, o_iadd, o_lcmp, o_lor, o_lshl, o_land, o_i2l, q_n1, q_n2, q_n3, q_n4, q_n5, y1, y2, y3, y4, y5, r_x, r_m, e1, e2, lg_cmp_self]
theorem arm_12 (hop : q_opI Inv m_w_room m_r_room 2) (hL : L ≤ 3072) (hi : i + 6 ≤ L) (hI : Inv d w) : wT (law_a12 xs L) (q_LL i, (S0, d, w)) (fun σ1 => ∃ d2 w2, σ1 = (q_LL i, (S0, d2, w2)) ∧ Inv d2 w2) R := by
  have y1 := fun h => ev_sald (xs := xs) (h := h) hL (show i + 1 < L by omega)
  have y2 := fun h => ev_sald (xs := xs) (h := h) hL (show i + 2 < L by omega)
  have y3 := fun h => ev_sald (xs := xs) (h := h) hL (show i + 3 < L by omega)
  have y4 := fun h => ev_sald (xs := xs) (h := h) hL (show i + 4 < L by omega)
  have y5 := fun h => ev_sald (xs := xs) (h := h) hL (show i + 5 < L by omega)
  obtain ⟨v, d1, w1, d2, w2, e1, e2, hI2⟩ := hop [xs (i + 1), xs (i + 2)] rfl d w hI
  simp only [List.map_cons, List.map_nil] at e1 e2
  unfold law_a12
  refine wT_If.mpr ⟨false, (q_LL i, (S0, d2, w2)), ?_, fun h => (by cases h), fun _ => wT_Skip.mpr ⟨d2, w2, rfl, hI2⟩⟩
  simp [c2, x2, x1, xM, xK, xLi, xLa, q_ev, q_LL, o_iadd, o_lcmp, o_lor, o_lshl, o_land, o_i2l, q_n1, q_n2, q_n3, q_n4, q_n5, y1, y2, y3, y4, y5, r_x, r_m, e1, e2, lg_cmp_self]
theorem arm_13 (hop : q_opI Inv m_w_nothing m_r_nothing 1) (hL : L ≤ 3072) (hi : i + 6 ≤ L) (hI : Inv d w) : wT (law_a13 xs L) (q_LL i, (S0, d, w)) (fun σ1 => ∃ d2 w2, σ1 = (q_LL i, (S0, d2, w2)) ∧ Inv d2 w2) R := by
  have y1 := fun h => ev_sald (xs := xs) (h := h) hL (show i + 1 < L by omega)
  have y2 := fun h => ev_sald (xs := xs) (h := h) hL (show i + 2 < L by omega)
  have y3 := fun h => ev_sald (xs := xs) (h := h) hL (show i + 3 < L by omega)
  have y4 := fun h => ev_sald (xs := xs) (h := h) hL (show i + 4 < L by omega)
  have y5 := fun h => ev_sald (xs := xs) (h := h) hL (show i + 5 < L by omega)
  obtain ⟨v, d1, w1, d2, w2, e1, e2, hI2⟩ := hop [xs (i + 1)] rfl d w hI
  simp only [List.map_cons, List.map_nil] at e1 e2
  unfold law_a13
  refine wT_If.mpr ⟨false, (q_LL i, (S0, d2, w2)), ?_, fun h => (by cases h), fun _ => wT_Skip.mpr ⟨d2, w2, rfl, hI2⟩⟩
  simp [c2, x2, x1, xM, xK, xLi, xLa, q_ev, q_LL, o_iadd, o_lcmp, o_lor, o_lshl, o_land, o_i2l, q_n1, q_n2, q_n3, q_n4, q_n5, y1, y2, y3, y4, y5, r_x, r_m, e1, e2, lg_cmp_self]
theorem arm_14 (hop : q_opI Inv m_w_ask m_r_ask 2) (hL : L ≤ 3072) (hi : i + 6 ≤ L) (hI : Inv d w) : wT (law_a14 xs L) (q_LL i, (S0, d, w)) (fun σ1 => ∃ d2 w2, σ1 = (q_LL i, (S0, d2, w2)) ∧ Inv d2 w2) R := by
  have y1 := fun h => ev_sald (xs := xs) (h := h) hL (show i + 1 < L by omega)
  have y2 := fun h => ev_sald (xs := xs) (h := h) hL (show i + 2 < L by omega)
  have y3 := fun h => ev_sald (xs := xs) (h := h) hL (show i + 3 < L by omega)
  have y4 := fun h => ev_sald (xs := xs) (h := h) hL (show i + 4 < L by omega)
  have y5 := fun h => ev_sald (xs := xs) (h := h) hL (show i + 5 < L by omega)
  obtain ⟨v, d1, w1, d2, w2, e1, e2, hI2⟩ := hop [xs (i + 1), xs (i + 2)] rfl d w hI
  simp only [List.map_cons, List.map_nil] at e1 e2
  unfold law_a14
  refine wT_If.mpr ⟨false, (q_LL i, (S0, d2, w2)), ?_, fun h => (by cases h), fun _ => wT_Skip.mpr ⟨d2, w2, rfl, hI2⟩⟩
  simp [c2, x2, x1, xM, xK, xLi, xLa, q_ev, q_LL, o_iadd, o_lcmp, o_lor, o_lshl, o_land, o_i2l, q_n1, q_n2, q_n3, q_n4, q_n5, y1, y2, y3, y4, y5, r_x, r_m, e1, e2, lg_cmp_self]
theorem arm_15 (hop : q_opI Inv m_w_forget m_r_forget 0) (hL : L ≤ 3072) (hi : i + 6 ≤ L) (hI : Inv d w) : wT (law_a15 xs L) (q_LL i, (S0, d, w)) (fun σ1 => ∃ d2 w2, σ1 = (q_LL i, (S0, d2, w2)) ∧ Inv d2 w2) R := by
  have y1 := fun h => ev_sald (xs := xs) (h := h) hL (show i + 1 < L by omega)
  have y2 := fun h => ev_sald (xs := xs) (h := h) hL (show i + 2 < L by omega)
  have y3 := fun h => ev_sald (xs := xs) (h := h) hL (show i + 3 < L by omega)
  have y4 := fun h => ev_sald (xs := xs) (h := h) hL (show i + 4 < L by omega)
  have y5 := fun h => ev_sald (xs := xs) (h := h) hL (show i + 5 < L by omega)
  obtain ⟨v, d1, w1, d2, w2, e1, e2, hI2⟩ := hop [] rfl d w hI
  simp only [List.map_cons, List.map_nil] at e1 e2
  unfold law_a15
  refine wT_If.mpr ⟨false, (q_LL i, (S0, d2, w2)), ?_, fun h => (by cases h), fun _ => wT_Skip.mpr ⟨d2, w2, rfl, hI2⟩⟩
  simp [c2, x2, x1, xM, xK, xLi, xLa, q_ev, q_LL, o_iadd, o_lcmp, o_lor, o_lshl, o_land, o_i2l, q_n1, q_n2, q_n3, q_n4, q_n5, y1, y2, y3, y4, y5, r_x, r_m, e1, e2, lg_cmp_self]
theorem arm_16 (hop : q_opI Inv m_w_amiss m_r_amiss 2) (hL : L ≤ 3072) (hi : i + 6 ≤ L) (hI : Inv d w) : wT (law_a16 xs L) (q_LL i, (S0, d, w)) (fun σ1 => ∃ d2 w2, σ1 = (q_LL i, (S0, d2, w2)) ∧ Inv d2 w2) R := by
  have y1 := fun h => ev_sald (xs := xs) (h := h) hL (show i + 1 < L by omega)
  have y2 := fun h => ev_sald (xs := xs) (h := h) hL (show i + 2 < L by omega)
  have y3 := fun h => ev_sald (xs := xs) (h := h) hL (show i + 3 < L by omega)
  have y4 := fun h => ev_sald (xs := xs) (h := h) hL (show i + 4 < L by omega)
  have y5 := fun h => ev_sald (xs := xs) (h := h) hL (show i + 5 < L by omega)
  obtain ⟨v, d1, w1, d2, w2, e1, e2, hI2⟩ := hop [xs (i + 1), xs (i + 2)] rfl d w hI
  simp only [List.map_cons, List.map_nil] at e1 e2
  unfold law_a16
  refine wT_If.mpr ⟨false, (q_LL i, (S0, d2, w2)), ?_, fun h => (by cases h), fun _ => wT_Skip.mpr ⟨d2, w2, rfl, hI2⟩⟩
  simp [c2, x2, x1, xM, xK, xLi, xLa, q_ev, q_LL, o_iadd, o_lcmp, o_lor, o_lshl, o_land, o_i2l, q_n1, q_n2, q_n3, q_n4, q_n5, y1, y2, y3, y4, y5, r_x, r_m, e1, e2, lg_cmp_self]
theorem arm_17 (hop : q_opI Inv m_w_miss m_r_miss 1) (hL : L ≤ 3072) (hi : i + 6 ≤ L) (hI : Inv d w) : wT (law_a17 xs L) (q_LL i, (S0, d, w)) (fun σ1 => ∃ d2 w2, σ1 = (q_LL i, (S0, d2, w2)) ∧ Inv d2 w2) R := by
  have y1 := fun h => ev_sald (xs := xs) (h := h) hL (show i + 1 < L by omega)
  have y2 := fun h => ev_sald (xs := xs) (h := h) hL (show i + 2 < L by omega)
  have y3 := fun h => ev_sald (xs := xs) (h := h) hL (show i + 3 < L by omega)
  have y4 := fun h => ev_sald (xs := xs) (h := h) hL (show i + 4 < L by omega)
  have y5 := fun h => ev_sald (xs := xs) (h := h) hL (show i + 5 < L by omega)
  obtain ⟨v, d1, w1, d2, w2, e1, e2, hI2⟩ := hop [xs (i + 1)] rfl d w hI
  simp only [List.map_cons, List.map_nil] at e1 e2
  unfold law_a17
  refine wT_If.mpr ⟨false, (q_LL i, (S0, d2, w2)), ?_, fun h => (by cases h), fun _ => wT_Skip.mpr ⟨d2, w2, rfl, hI2⟩⟩
  simp [c2, x2, x1, xM, xK, xLi, xLa, q_ev, q_LL, o_iadd, o_lcmp, o_lor, o_lshl, o_land, o_i2l, q_n1, q_n2, q_n3, q_n4, q_n5, y1, y2, y3, y4, y5, r_x, r_m, e1, e2, lg_cmp_self]
theorem arm_18 (hop : q_opI Inv m_w_lets m_r_lets 0) (hL : L ≤ 3072) (hi : i + 6 ≤ L) (hI : Inv d w) : wT (law_a18 xs L) (q_LL i, (S0, d, w)) (fun σ1 => ∃ d2 w2, σ1 = (q_LL i, (S0, d2, w2)) ∧ Inv d2 w2) R := by
  have y1 := fun h => ev_sald (xs := xs) (h := h) hL (show i + 1 < L by omega)
  have y2 := fun h => ev_sald (xs := xs) (h := h) hL (show i + 2 < L by omega)
  have y3 := fun h => ev_sald (xs := xs) (h := h) hL (show i + 3 < L by omega)
  have y4 := fun h => ev_sald (xs := xs) (h := h) hL (show i + 4 < L by omega)
  have y5 := fun h => ev_sald (xs := xs) (h := h) hL (show i + 5 < L by omega)
  obtain ⟨v, d1, w1, d2, w2, e1, e2, hI2⟩ := hop [] rfl d w hI
  simp only [List.map_cons, List.map_nil] at e1 e2
  unfold law_a18
  refine wT_If.mpr ⟨false, (q_LL i, (S0, d2, w2)), ?_, fun h => (by cases h), fun _ => wT_Skip.mpr ⟨d2, w2, rfl, hI2⟩⟩
  simp [c2, x2, x1, xM, xK, xLi, xLa, q_ev, q_LL, o_iadd, o_lcmp, o_lor, o_lshl, o_land, o_i2l, q_n1, q_n2, q_n3, q_n4, q_n5, y1, y2, y3, y4, y5, r_x, r_m, e1, e2, lg_cmp_self]
theorem arm_19 (hop : q_opI Inv m_w_likeliest m_r_likeliest 0) (hL : L ≤ 3072) (hi : i + 6 ≤ L) (hI : Inv d w) : wT (law_a19 xs L) (q_LL i, (S0, d, w)) (fun σ1 => ∃ d2 w2, σ1 = (q_LL i, (S0, d2, w2)) ∧ Inv d2 w2) R := by
  have y1 := fun h => ev_sald (xs := xs) (h := h) hL (show i + 1 < L by omega)
  have y2 := fun h => ev_sald (xs := xs) (h := h) hL (show i + 2 < L by omega)
  have y3 := fun h => ev_sald (xs := xs) (h := h) hL (show i + 3 < L by omega)
  have y4 := fun h => ev_sald (xs := xs) (h := h) hL (show i + 4 < L by omega)
  have y5 := fun h => ev_sald (xs := xs) (h := h) hL (show i + 5 < L by omega)
  obtain ⟨v, d1, w1, d2, w2, e1, e2, hI2⟩ := hop [] rfl d w hI
  simp only [List.map_cons, List.map_nil] at e1 e2
  unfold law_a19
  refine wT_If.mpr ⟨false, (q_LL i, (S0, d2, w2)), ?_, fun h => (by cases h), fun _ => wT_Skip.mpr ⟨d2, w2, rfl, hI2⟩⟩
  simp [c2, x2, x1, xM, xK, xLi, xLa, q_ev, q_LL, o_iadd, o_lcmp, o_lor, o_lshl, o_land, o_i2l, q_n1, q_n2, q_n3, q_n4, q_n5, y1, y2, y3, y4, y5, r_x, r_m, e1, e2, lg_cmp_self]
theorem arm_20 (hop : q_opI Inv m_w_near m_r_near 1) (hL : L ≤ 3072) (hi : i + 6 ≤ L) (hI : Inv d w) : wT (law_a20 xs L) (q_LL i, (S0, d, w)) (fun σ1 => ∃ d2 w2, σ1 = (q_LL i, (S0, d2, w2)) ∧ Inv d2 w2) R := by
  have y1 := fun h => ev_sald (xs := xs) (h := h) hL (show i + 1 < L by omega)
  have y2 := fun h => ev_sald (xs := xs) (h := h) hL (show i + 2 < L by omega)
  have y3 := fun h => ev_sald (xs := xs) (h := h) hL (show i + 3 < L by omega)
  have y4 := fun h => ev_sald (xs := xs) (h := h) hL (show i + 4 < L by omega)
  have y5 := fun h => ev_sald (xs := xs) (h := h) hL (show i + 5 < L by omega)
  obtain ⟨v, d1, w1, d2, w2, e1, e2, hI2⟩ := hop [xs (i + 1)] rfl d w hI
  simp only [List.map_cons, List.map_nil] at e1 e2
  unfold law_a20
  refine wT_If.mpr ⟨false, (q_LL i, (S0, d2, w2)), ?_, fun h => (by cases h), fun _ => wT_Skip.mpr ⟨d2, w2, rfl, hI2⟩⟩
  simp [c2, x2, x1, xM, xK, xLi, xLa, q_ev, q_LL, o_iadd, o_lcmp, o_lor, o_lshl, o_land, o_i2l, q_n1, q_n2, q_n3, q_n4, q_n5, y1, y2, y3, y4, y5, r_x, r_m, e1, e2, lg_cmp_self]
theorem arm_21 (hop : q_opI Inv m_w_parts m_r_parts 3) (hL : L ≤ 3072) (hi : i + 6 ≤ L) (hI : Inv d w) : wT (law_a21 xs L) (q_LL i, (S0, d, w)) (fun σ1 => ∃ d2 w2, σ1 = (q_LL i, (S0, d2, w2)) ∧ Inv d2 w2) R := by
  have y1 := fun h => ev_sald (xs := xs) (h := h) hL (show i + 1 < L by omega)
  have y2 := fun h => ev_sald (xs := xs) (h := h) hL (show i + 2 < L by omega)
  have y3 := fun h => ev_sald (xs := xs) (h := h) hL (show i + 3 < L by omega)
  have y4 := fun h => ev_sald (xs := xs) (h := h) hL (show i + 4 < L by omega)
  have y5 := fun h => ev_sald (xs := xs) (h := h) hL (show i + 5 < L by omega)
  obtain ⟨v, d1, w1, d2, w2, e1, e2, hI2⟩ := hop [xs (i + 1), xs (i + 2), xs (i + 3)] rfl d w hI
  simp only [List.map_cons, List.map_nil] at e1 e2
  unfold law_a21
  refine wT_If.mpr ⟨false, (q_LL i, (S0, d2, w2)), ?_, fun h => (by cases h), fun _ => wT_Skip.mpr ⟨d2, w2, rfl, hI2⟩⟩
  simp [c2, x2, x1, xM, xK, xLi, xLa, q_ev, q_LL, o_iadd, o_lcmp, o_lor, o_lshl, o_land, o_i2l, q_n1, q_n2, q_n3, q_n4, q_n5, y1, y2, y3, y4, y5, r_x, r_m, e1, e2, lg_cmp_self]
theorem arm_22 (hop : q_opI Inv m_w_next m_r_next1 3) (hL : L ≤ 3072) (hi : i + 6 ≤ L) (hI : Inv d w) : wT (law_a22 xs L) (q_LL i, (S0, d, w)) (fun σ1 => ∃ d2 w2, σ1 = (q_LL i, (S0, d2, w2)) ∧ Inv d2 w2) R := by
  have y1 := fun h => ev_sald (xs := xs) (h := h) hL (show i + 1 < L by omega)
  have y2 := fun h => ev_sald (xs := xs) (h := h) hL (show i + 2 < L by omega)
  have y3 := fun h => ev_sald (xs := xs) (h := h) hL (show i + 3 < L by omega)
  have y4 := fun h => ev_sald (xs := xs) (h := h) hL (show i + 4 < L by omega)
  have y5 := fun h => ev_sald (xs := xs) (h := h) hL (show i + 5 < L by omega)
  obtain ⟨v, d1, w1, d2, w2, e1, e2, hI2⟩ := hop [xs (i + 1), xs (i + 2), xs (i + 3)] rfl d w hI
  simp only [List.map_cons, List.map_nil] at e1 e2
  unfold law_a22
  refine wT_If.mpr ⟨false, (q_LL i, (S0, d2, w2)), ?_, fun h => (by cases h), fun _ => wT_Skip.mpr ⟨d2, w2, rfl, hI2⟩⟩
  simp [c2, x2, x1, xM, xK, xLi, xLa, q_ev, q_LL, o_iadd, o_lcmp, o_lor, o_lshl, o_land, o_i2l, q_n1, q_n2, q_n3, q_n4, q_n5, y1, y2, y3, y4, y5, r_x, r_m, e1, e2, lg_cmp_self]
theorem arm_23 (hop : q_opI Inv m_w_ahead m_r_ahead 2) (hL : L ≤ 3072) (hi : i + 6 ≤ L) (hI : Inv d w) : wT (law_a23 xs L) (q_LL i, (S0, d, w)) (fun σ1 => ∃ d2 w2, σ1 = (q_LL i, (S0, d2, w2)) ∧ Inv d2 w2) R := by
  have y1 := fun h => ev_sald (xs := xs) (h := h) hL (show i + 1 < L by omega)
  have y2 := fun h => ev_sald (xs := xs) (h := h) hL (show i + 2 < L by omega)
  have y3 := fun h => ev_sald (xs := xs) (h := h) hL (show i + 3 < L by omega)
  have y4 := fun h => ev_sald (xs := xs) (h := h) hL (show i + 4 < L by omega)
  have y5 := fun h => ev_sald (xs := xs) (h := h) hL (show i + 5 < L by omega)
  obtain ⟨v, d1, w1, d2, w2, e1, e2, hI2⟩ := hop [xs (i + 1), xs (i + 2)] rfl d w hI
  simp only [List.map_cons, List.map_nil] at e1 e2
  unfold law_a23
  refine wT_If.mpr ⟨false, (q_LL i, (S0, d2, w2)), ?_, fun h => (by cases h), fun _ => wT_Skip.mpr ⟨d2, w2, rfl, hI2⟩⟩
  simp [c2, x2, x1, xM, xK, xLi, xLa, q_ev, q_LL, o_iadd, o_lcmp, o_lor, o_lshl, o_land, o_i2l, q_n1, q_n2, q_n3, q_n4, q_n5, y1, y2, y3, y4, y5, r_x, r_m, e1, e2, lg_cmp_self]
theorem arm_24 (hop : q_opI Inv m_w_plan m_r_plan 3) (hL : L ≤ 3072) (hi : i + 6 ≤ L) (hI : Inv d w) : wT (law_a24 xs L) (q_LL i, (S0, d, w)) (fun σ1 => ∃ d2 w2, σ1 = (q_LL i, (S0, d2, w2)) ∧ Inv d2 w2) R := by
  have y1 := fun h => ev_sald (xs := xs) (h := h) hL (show i + 1 < L by omega)
  have y2 := fun h => ev_sald (xs := xs) (h := h) hL (show i + 2 < L by omega)
  have y3 := fun h => ev_sald (xs := xs) (h := h) hL (show i + 3 < L by omega)
  have y4 := fun h => ev_sald (xs := xs) (h := h) hL (show i + 4 < L by omega)
  have y5 := fun h => ev_sald (xs := xs) (h := h) hL (show i + 5 < L by omega)
  obtain ⟨v, d1, w1, d2, w2, e1, e2, hI2⟩ := hop [xs (i + 1), xs (i + 2), xs (i + 3)] rfl d w hI
  simp only [List.map_cons, List.map_nil] at e1 e2
  unfold law_a24
  refine wT_If.mpr ⟨false, (q_LL i, (S0, d2, w2)), ?_, fun h => (by cases h), fun _ => wT_Skip.mpr ⟨d2, w2, rfl, hI2⟩⟩
  simp [c2, x2, x1, xM, xK, xLi, xLa, q_ev, q_LL, o_iadd, o_lcmp, o_lor, o_lshl, o_land, o_i2l, q_n1, q_n2, q_n3, q_n4, q_n5, y1, y2, y3, y4, y5, r_x, r_m, e1, e2, lg_cmp_self]
theorem arm_25 (hop : q_opI Inv m_w_bound m_r_bound 0) (hL : L ≤ 3072) (hi : i + 6 ≤ L) (hI : Inv d w) : wT (law_a25 xs L) (q_LL i, (S0, d, w)) (fun σ1 => ∃ d2 w2, σ1 = (q_LL i, (S0, d2, w2)) ∧ Inv d2 w2) R := by
  have y1 := fun h => ev_sald (xs := xs) (h := h) hL (show i + 1 < L by omega)
  have y2 := fun h => ev_sald (xs := xs) (h := h) hL (show i + 2 < L by omega)
  have y3 := fun h => ev_sald (xs := xs) (h := h) hL (show i + 3 < L by omega)
  have y4 := fun h => ev_sald (xs := xs) (h := h) hL (show i + 4 < L by omega)
  have y5 := fun h => ev_sald (xs := xs) (h := h) hL (show i + 5 < L by omega)
  obtain ⟨v, d1, w1, d2, w2, e1, e2, hI2⟩ := hop [] rfl d w hI
  simp only [List.map_cons, List.map_nil] at e1 e2
  unfold law_a25
  refine wT_If.mpr ⟨false, (q_LL i, (S0, d2, w2)), ?_, fun h => (by cases h), fun _ => wT_Skip.mpr ⟨d2, w2, rfl, hI2⟩⟩
  simp [c2, x2, x1, xM, xK, xLi, xLa, q_ev, q_LL, o_iadd, o_lcmp, o_lor, o_lshl, o_land, o_i2l, q_n1, q_n2, q_n3, q_n4, q_n5, y1, y2, y3, y4, y5, r_x, r_m, e1, e2, lg_cmp_self]
theorem arm_26 (hop : q_opI Inv m_w_sure m_r_sure 1) (hL : L ≤ 3072) (hi : i + 6 ≤ L) (hI : Inv d w) : wT (law_a26 xs L) (q_LL i, (S0, d, w)) (fun σ1 => ∃ d2 w2, σ1 = (q_LL i, (S0, d2, w2)) ∧ Inv d2 w2) R := by
  have y1 := fun h => ev_sald (xs := xs) (h := h) hL (show i + 1 < L by omega)
  have y2 := fun h => ev_sald (xs := xs) (h := h) hL (show i + 2 < L by omega)
  have y3 := fun h => ev_sald (xs := xs) (h := h) hL (show i + 3 < L by omega)
  have y4 := fun h => ev_sald (xs := xs) (h := h) hL (show i + 4 < L by omega)
  have y5 := fun h => ev_sald (xs := xs) (h := h) hL (show i + 5 < L by omega)
  obtain ⟨v, d1, w1, d2, w2, e1, e2, hI2⟩ := hop [xs (i + 1)] rfl d w hI
  simp only [List.map_cons, List.map_nil] at e1 e2
  unfold law_a26
  refine wT_If.mpr ⟨false, (q_LL i, (S0, d2, w2)), ?_, fun h => (by cases h), fun _ => wT_Skip.mpr ⟨d2, w2, rfl, hI2⟩⟩
  simp [c2, x2, x1, xM, xK, xLi, xLa, q_ev, q_LL, o_iadd, o_lcmp, o_lor, o_lshl, o_land, o_i2l, q_n1, q_n2, q_n3, q_n4, q_n5, y1, y2, y3, y4, y5, r_x, r_m, e1, e2, lg_cmp_self]
theorem arm_27 (hop : q_opI Inv m_w_grey m_r_grey 0) (hL : L ≤ 3072) (hi : i + 6 ≤ L) (hI : Inv d w) : wT (law_a27 xs L) (q_LL i, (S0, d, w)) (fun σ1 => ∃ d2 w2, σ1 = (q_LL i, (S0, d2, w2)) ∧ Inv d2 w2) R := by
  have y1 := fun h => ev_sald (xs := xs) (h := h) hL (show i + 1 < L by omega)
  have y2 := fun h => ev_sald (xs := xs) (h := h) hL (show i + 2 < L by omega)
  have y3 := fun h => ev_sald (xs := xs) (h := h) hL (show i + 3 < L by omega)
  have y4 := fun h => ev_sald (xs := xs) (h := h) hL (show i + 4 < L by omega)
  have y5 := fun h => ev_sald (xs := xs) (h := h) hL (show i + 5 < L by omega)
  obtain ⟨v, d1, w1, d2, w2, e1, e2, hI2⟩ := hop [] rfl d w hI
  simp only [List.map_cons, List.map_nil] at e1 e2
  unfold law_a27
  refine wT_If.mpr ⟨false, (q_LL i, (S0, d2, w2)), ?_, fun h => (by cases h), fun _ => wT_Skip.mpr ⟨d2, w2, rfl, hI2⟩⟩
  simp [c2, x2, x1, xM, xK, xLi, xLa, q_ev, q_LL, o_iadd, o_lcmp, o_lor, o_lshl, o_land, o_i2l, q_n1, q_n2, q_n3, q_n4, q_n5, y1, y2, y3, y4, y5, r_x, r_m, e1, e2, lg_cmp_self]
theorem arm_28 (hop : q_opI Inv m_w_live m_r_live 2) (hL : L ≤ 3072) (hi : i + 6 ≤ L) (hI : Inv d w) : wT (law_a28 xs L) (q_LL i, (S0, d, w)) (fun σ1 => ∃ d2 w2, σ1 = (q_LL i, (S0, d2, w2)) ∧ Inv d2 w2) R := by
  have y1 := fun h => ev_sald (xs := xs) (h := h) hL (show i + 1 < L by omega)
  have y2 := fun h => ev_sald (xs := xs) (h := h) hL (show i + 2 < L by omega)
  have y3 := fun h => ev_sald (xs := xs) (h := h) hL (show i + 3 < L by omega)
  have y4 := fun h => ev_sald (xs := xs) (h := h) hL (show i + 4 < L by omega)
  have y5 := fun h => ev_sald (xs := xs) (h := h) hL (show i + 5 < L by omega)
  obtain ⟨v, d1, w1, d2, w2, e1, e2, hI2⟩ := hop [xs (i + 1), xs (i + 2)] rfl d w hI
  simp only [List.map_cons, List.map_nil] at e1 e2
  unfold law_a28
  refine wT_If.mpr ⟨false, (q_LL i, (S0, d2, w2)), ?_, fun h => (by cases h), fun _ => wT_Skip.mpr ⟨d2, w2, rfl, hI2⟩⟩
  simp [c2, x2, x1, xM, xK, xLi, xLa, q_ev, q_LL, o_iadd, o_lcmp, o_lor, o_lshl, o_land, o_i2l, q_n1, q_n2, q_n3, q_n4, q_n5, y1, y2, y3, y4, y5, r_x, r_m, e1, e2, lg_cmp_self]
theorem arm_29 (hop : q_opI Inv m_w_dead m_r_dead 1) (hL : L ≤ 3072) (hi : i + 6 ≤ L) (hI : Inv d w) : wT (law_a29 xs L) (q_LL i, (S0, d, w)) (fun σ1 => ∃ d2 w2, σ1 = (q_LL i, (S0, d2, w2)) ∧ Inv d2 w2) R := by
  have y1 := fun h => ev_sald (xs := xs) (h := h) hL (show i + 1 < L by omega)
  have y2 := fun h => ev_sald (xs := xs) (h := h) hL (show i + 2 < L by omega)
  have y3 := fun h => ev_sald (xs := xs) (h := h) hL (show i + 3 < L by omega)
  have y4 := fun h => ev_sald (xs := xs) (h := h) hL (show i + 4 < L by omega)
  have y5 := fun h => ev_sald (xs := xs) (h := h) hL (show i + 5 < L by omega)
  obtain ⟨v, d1, w1, d2, w2, e1, e2, hI2⟩ := hop [xs (i + 1)] rfl d w hI
  simp only [List.map_cons, List.map_nil] at e1 e2
  unfold law_a29
  refine wT_If.mpr ⟨false, (q_LL i, (S0, d2, w2)), ?_, fun h => (by cases h), fun _ => wT_Skip.mpr ⟨d2, w2, rfl, hI2⟩⟩
  simp [c2, x2, x1, xM, xK, xLi, xLa, q_ev, q_LL, o_iadd, o_lcmp, o_lor, o_lshl, o_land, o_i2l, q_n1, q_n2, q_n3, q_n4, q_n5, y1, y2, y3, y4, y5, r_x, r_m, e1, e2, lg_cmp_self]
theorem arm_30 (hop : q_opI Inv m_w_touch m_r_touch 0) (hL : L ≤ 3072) (hi : i + 6 ≤ L) (hI : Inv d w) : wT (law_a30 xs L) (q_LL i, (S0, d, w)) (fun σ1 => ∃ d2 w2, σ1 = (q_LL i, (S0, d2, w2)) ∧ Inv d2 w2) R := by
  have y1 := fun h => ev_sald (xs := xs) (h := h) hL (show i + 1 < L by omega)
  have y2 := fun h => ev_sald (xs := xs) (h := h) hL (show i + 2 < L by omega)
  have y3 := fun h => ev_sald (xs := xs) (h := h) hL (show i + 3 < L by omega)
  have y4 := fun h => ev_sald (xs := xs) (h := h) hL (show i + 4 < L by omega)
  have y5 := fun h => ev_sald (xs := xs) (h := h) hL (show i + 5 < L by omega)
  obtain ⟨v, d1, w1, d2, w2, e1, e2, hI2⟩ := hop [] rfl d w hI
  simp only [List.map_cons, List.map_nil] at e1 e2
  unfold law_a30
  refine wT_If.mpr ⟨false, (q_LL i, (S0, d2, w2)), ?_, fun h => (by cases h), fun _ => wT_Skip.mpr ⟨d2, w2, rfl, hI2⟩⟩
  simp [c2, x2, x1, xM, xK, xLi, xLa, q_ev, q_LL, o_iadd, o_lcmp, o_lor, o_lshl, o_land, o_i2l, q_n1, q_n2, q_n3, q_n4, q_n5, y1, y2, y3, y4, y5, r_x, r_m, e1, e2, lg_cmp_self]
theorem arm_31 (hop : q_opI Inv m_w_sums m_r_sums 1) (hL : L ≤ 3072) (hi : i + 6 ≤ L) (hI : Inv d w) : wT (law_a31 xs L) (q_LL i, (S0, d, w)) (fun σ1 => ∃ d2 w2, σ1 = (q_LL i, (S0, d2, w2)) ∧ Inv d2 w2) R := by
  have y1 := fun h => ev_sald (xs := xs) (h := h) hL (show i + 1 < L by omega)
  have y2 := fun h => ev_sald (xs := xs) (h := h) hL (show i + 2 < L by omega)
  have y3 := fun h => ev_sald (xs := xs) (h := h) hL (show i + 3 < L by omega)
  have y4 := fun h => ev_sald (xs := xs) (h := h) hL (show i + 4 < L by omega)
  have y5 := fun h => ev_sald (xs := xs) (h := h) hL (show i + 5 < L by omega)
  obtain ⟨v, d1, w1, d2, w2, e1, e2, hI2⟩ := hop [xs (i + 1)] rfl d w hI
  simp only [List.map_cons, List.map_nil] at e1 e2
  unfold law_a31
  refine wT_If.mpr ⟨false, (q_LL i, (S0, d2, w2)), ?_, fun h => (by cases h), fun _ => wT_Skip.mpr ⟨d2, w2, rfl, hI2⟩⟩
  simp [c2, x2, x1, xM, xK, xLi, xLa, q_ev, q_LL, o_iadd, o_lcmp, o_lor, o_lshl, o_land, o_i2l, q_n1, q_n2, q_n3, q_n4, q_n5, y1, y2, y3, y4, y5, r_x, r_m, e1, e2, lg_cmp_self]
theorem arm_32 (hop : q_opI Inv m_w_which m_r_which 2) (hL : L ≤ 3072) (hi : i + 6 ≤ L) (hI : Inv d w) : wT (law_a32 xs L) (q_LL i, (S0, d, w)) (fun σ1 => ∃ d2 w2, σ1 = (q_LL i, (S0, d2, w2)) ∧ Inv d2 w2) R := by
  have y1 := fun h => ev_sald (xs := xs) (h := h) hL (show i + 1 < L by omega)
  have y2 := fun h => ev_sald (xs := xs) (h := h) hL (show i + 2 < L by omega)
  have y3 := fun h => ev_sald (xs := xs) (h := h) hL (show i + 3 < L by omega)
  have y4 := fun h => ev_sald (xs := xs) (h := h) hL (show i + 4 < L by omega)
  have y5 := fun h => ev_sald (xs := xs) (h := h) hL (show i + 5 < L by omega)
  obtain ⟨v, d1, w1, d2, w2, e1, e2, hI2⟩ := hop [xs (i + 1), xs (i + 2)] rfl d w hI
  simp only [List.map_cons, List.map_nil] at e1 e2
  unfold law_a32
  refine wT_If.mpr ⟨false, (q_LL i, (S0, d2, w2)), ?_, fun h => (by cases h), fun _ => wT_Skip.mpr ⟨d2, w2, rfl, hI2⟩⟩
  simp [c2, x2, x1, xM, xK, xLi, xLa, q_ev, q_LL, o_iadd, o_lcmp, o_lor, o_lshl, o_land, o_i2l, q_n1, q_n2, q_n3, q_n4, q_n5, y1, y2, y3, y4, y5, r_x, r_m, e1, e2, lg_cmp_self]
theorem arm_33 (hop : q_opI Inv m_w_put m_r_put 1) (hL : L ≤ 3072) (hi : i + 6 ≤ L) (hI : Inv d w) : wT (law_a33 xs L) (q_LL i, (S0, d, w)) (fun σ1 => ∃ d2 w2, σ1 = (q_LL i, (S0, d2, w2)) ∧ Inv d2 w2) R := by
  have y1 := fun h => ev_sald (xs := xs) (h := h) hL (show i + 1 < L by omega)
  have y2 := fun h => ev_sald (xs := xs) (h := h) hL (show i + 2 < L by omega)
  have y3 := fun h => ev_sald (xs := xs) (h := h) hL (show i + 3 < L by omega)
  have y4 := fun h => ev_sald (xs := xs) (h := h) hL (show i + 4 < L by omega)
  have y5 := fun h => ev_sald (xs := xs) (h := h) hL (show i + 5 < L by omega)
  obtain ⟨v, d1, w1, d2, w2, e1, e2, hI2⟩ := hop [xs (i + 1)] rfl d w hI
  simp only [List.map_cons, List.map_nil] at e1 e2
  unfold law_a33
  refine wT_If.mpr ⟨false, (q_LL i, (S0, d2, w2)), ?_, fun h => (by cases h), fun _ => wT_Skip.mpr ⟨d2, w2, rfl, hI2⟩⟩
  simp [c2, x2, x1, xM, xK, xLi, xLa, q_ev, q_LL, o_iadd, o_lcmp, o_lor, o_lshl, o_land, o_i2l, q_n1, q_n2, q_n3, q_n4, q_n5, y1, y2, y3, y4, y5, r_x, r_m, e1, e2, lg_cmp_self]
theorem arm_34 (hop : q_opI Inv m_w_label m_r_label 2) (hL : L ≤ 3072) (hi : i + 6 ≤ L) (hI : Inv d w) : wT (law_a34 xs L) (q_LL i, (S0, d, w)) (fun σ1 => ∃ d2 w2, σ1 = (q_LL i, (S0, d2, w2)) ∧ Inv d2 w2) R := by
  have y1 := fun h => ev_sald (xs := xs) (h := h) hL (show i + 1 < L by omega)
  have y2 := fun h => ev_sald (xs := xs) (h := h) hL (show i + 2 < L by omega)
  have y3 := fun h => ev_sald (xs := xs) (h := h) hL (show i + 3 < L by omega)
  have y4 := fun h => ev_sald (xs := xs) (h := h) hL (show i + 4 < L by omega)
  have y5 := fun h => ev_sald (xs := xs) (h := h) hL (show i + 5 < L by omega)
  obtain ⟨v, d1, w1, d2, w2, e1, e2, hI2⟩ := hop [xs (i + 1), xs (i + 2)] rfl d w hI
  simp only [List.map_cons, List.map_nil] at e1 e2
  unfold law_a34
  refine wT_If.mpr ⟨false, (q_LL i, (S0, d2, w2)), ?_, fun h => (by cases h), fun _ => wT_Skip.mpr ⟨d2, w2, rfl, hI2⟩⟩
  simp [c2, x2, x1, xM, xK, xLi, xLa, q_ev, q_LL, o_iadd, o_lcmp, o_lor, o_lshl, o_land, o_i2l, q_n1, q_n2, q_n3, q_n4, q_n5, y1, y2, y3, y4, y5, r_x, r_m, e1, e2, lg_cmp_self]
theorem arm_35 (hop : q_opI Inv m_w_agree m_r_agree 2) (hL : L ≤ 3072) (hi : i + 6 ≤ L) (hI : Inv d w) : wT (law_a35 xs L) (q_LL i, (S0, d, w)) (fun σ1 => ∃ d2 w2, σ1 = (q_LL i, (S0, d2, w2)) ∧ Inv d2 w2) R := by
  have y1 := fun h => ev_sald (xs := xs) (h := h) hL (show i + 1 < L by omega)
  have y2 := fun h => ev_sald (xs := xs) (h := h) hL (show i + 2 < L by omega)
  have y3 := fun h => ev_sald (xs := xs) (h := h) hL (show i + 3 < L by omega)
  have y4 := fun h => ev_sald (xs := xs) (h := h) hL (show i + 4 < L by omega)
  have y5 := fun h => ev_sald (xs := xs) (h := h) hL (show i + 5 < L by omega)
  obtain ⟨v, d1, w1, d2, w2, e1, e2, hI2⟩ := hop [xs (i + 1), xs (i + 2)] rfl d w hI
  simp only [List.map_cons, List.map_nil] at e1 e2
  unfold law_a35
  refine wT_If.mpr ⟨false, (q_LL i, (S0, d2, w2)), ?_, fun h => (by cases h), fun _ => wT_Skip.mpr ⟨d2, w2, rfl, hI2⟩⟩
  simp [c2, x2, x1, xM, xK, xLi, xLa, q_ev, q_LL, o_iadd, o_lcmp, o_lor, o_lshl, o_land, o_i2l, q_n1, q_n2, q_n3, q_n4, q_n5, y1, y2, y3, y4, y5, r_x, r_m, e1, e2, lg_cmp_self]
theorem arm_36 (hop : q_opI Inv m_w_right m_r_right 0) (hL : L ≤ 3072) (hi : i + 6 ≤ L) (hI : Inv d w) : wT (law_a36 xs L) (q_LL i, (S0, d, w)) (fun σ1 => ∃ d2 w2, σ1 = (q_LL i, (S0, d2, w2)) ∧ Inv d2 w2) R := by
  have y1 := fun h => ev_sald (xs := xs) (h := h) hL (show i + 1 < L by omega)
  have y2 := fun h => ev_sald (xs := xs) (h := h) hL (show i + 2 < L by omega)
  have y3 := fun h => ev_sald (xs := xs) (h := h) hL (show i + 3 < L by omega)
  have y4 := fun h => ev_sald (xs := xs) (h := h) hL (show i + 4 < L by omega)
  have y5 := fun h => ev_sald (xs := xs) (h := h) hL (show i + 5 < L by omega)
  obtain ⟨v, d1, w1, d2, w2, e1, e2, hI2⟩ := hop [] rfl d w hI
  simp only [List.map_cons, List.map_nil] at e1 e2
  unfold law_a36
  refine wT_If.mpr ⟨false, (q_LL i, (S0, d2, w2)), ?_, fun h => (by cases h), fun _ => wT_Skip.mpr ⟨d2, w2, rfl, hI2⟩⟩
  simp [c2, x2, x1, xM, xK, xLi, xLa, q_ev, q_LL, o_iadd, o_lcmp, o_lor, o_lshl, o_land, o_i2l, q_n1, q_n2, q_n3, q_n4, q_n5, y1, y2, y3, y4, y5, r_x, r_m, e1, e2, lg_cmp_self]
theorem arm_37 (hop : q_opL Inv m_w_odds m_r_odds 2) (hL : L ≤ 3072) (hi : i + 6 ≤ L) (hI : Inv d w) : wT (law_a37 xs L) (q_LL i, (S0, d, w)) (fun σ1 => ∃ d2 w2, σ1 = (q_LL i, (S0, d2, w2)) ∧ Inv d2 w2) R := by
  have y1 := fun h => ev_sald (xs := xs) (h := h) hL (show i + 1 < L by omega)
  have y2 := fun h => ev_sald (xs := xs) (h := h) hL (show i + 2 < L by omega)
  have y3 := fun h => ev_sald (xs := xs) (h := h) hL (show i + 3 < L by omega)
  have y4 := fun h => ev_sald (xs := xs) (h := h) hL (show i + 4 < L by omega)
  have y5 := fun h => ev_sald (xs := xs) (h := h) hL (show i + 5 < L by omega)
  obtain ⟨v, d1, w1, d2, w2, e1, e2, hI2⟩ := hop [xs (i + 1), xs (i + 2)] rfl d w hI
  simp only [List.map_cons, List.map_nil] at e1 e2
  unfold law_a37
  refine wT_If.mpr ⟨false, (q_LL i, (S0, d2, w2)), ?_, fun h => (by cases h), fun _ => wT_Skip.mpr ⟨d2, w2, rfl, hI2⟩⟩
  simp [c1, x2, x1, xM, xK, xLi, xLa, q_ev, q_LL, o_iadd, o_lcmp, o_lor, o_lshl, o_land, o_i2l, q_n1, q_n2, q_n3, q_n4, q_n5, y1, y2, y3, y4, y5, r_x, r_m, e1, e2, lg_cmp_self]
theorem arm_38 (hop : q_opI Inv m_w_wall m_r_wall 3) (hL : L ≤ 3072) (hi : i + 6 ≤ L) (hI : Inv d w) : wT (law_a38 xs L) (q_LL i, (S0, d, w)) (fun σ1 => ∃ d2 w2, σ1 = (q_LL i, (S0, d2, w2)) ∧ Inv d2 w2) R := by
  have y1 := fun h => ev_sald (xs := xs) (h := h) hL (show i + 1 < L by omega)
  have y2 := fun h => ev_sald (xs := xs) (h := h) hL (show i + 2 < L by omega)
  have y3 := fun h => ev_sald (xs := xs) (h := h) hL (show i + 3 < L by omega)
  have y4 := fun h => ev_sald (xs := xs) (h := h) hL (show i + 4 < L by omega)
  have y5 := fun h => ev_sald (xs := xs) (h := h) hL (show i + 5 < L by omega)
  obtain ⟨v, d1, w1, d2, w2, e1, e2, hI2⟩ := hop [xs (i + 1), xs (i + 2), xs (i + 3)] rfl d w hI
  simp only [List.map_cons, List.map_nil] at e1 e2
  unfold law_a38
  refine wT_If.mpr ⟨false, (q_LL i, (S0, d2, w2)), ?_, fun h => (by cases h), fun _ => wT_Skip.mpr ⟨d2, w2, rfl, hI2⟩⟩
  simp [c2, x2, x1, xM, xK, xLi, xLa, q_ev, q_LL, o_iadd, o_lcmp, o_lor, o_lshl, o_land, o_i2l, q_n1, q_n2, q_n3, q_n4, q_n5, y1, y2, y3, y4, y5, r_x, r_m, e1, e2, lg_cmp_self]
theorem arm_39 (hop : q_opI Inv m_w_broken m_r_broken 3) (hL : L ≤ 3072) (hi : i + 6 ≤ L) (hI : Inv d w) : wT (law_a39 xs L) (q_LL i, (S0, d, w)) (fun σ1 => ∃ d2 w2, σ1 = (q_LL i, (S0, d2, w2)) ∧ Inv d2 w2) R := by
  have y1 := fun h => ev_sald (xs := xs) (h := h) hL (show i + 1 < L by omega)
  have y2 := fun h => ev_sald (xs := xs) (h := h) hL (show i + 2 < L by omega)
  have y3 := fun h => ev_sald (xs := xs) (h := h) hL (show i + 3 < L by omega)
  have y4 := fun h => ev_sald (xs := xs) (h := h) hL (show i + 4 < L by omega)
  have y5 := fun h => ev_sald (xs := xs) (h := h) hL (show i + 5 < L by omega)
  obtain ⟨v, d1, w1, d2, w2, e1, e2, hI2⟩ := hop [xs (i + 1), xs (i + 2), xs (i + 3)] rfl d w hI
  simp only [List.map_cons, List.map_nil] at e1 e2
  unfold law_a39
  refine wT_If.mpr ⟨false, (q_LL i, (S0, d2, w2)), ?_, fun h => (by cases h), fun _ => wT_Skip.mpr ⟨d2, w2, rfl, hI2⟩⟩
  simp [c2, x2, x1, xM, xK, xLi, xLa, q_ev, q_LL, o_iadd, o_lcmp, o_lor, o_lshl, o_land, o_i2l, q_n1, q_n2, q_n3, q_n4, q_n5, y1, y2, y3, y4, y5, r_x, r_m, e1, e2, lg_cmp_self]
theorem arm_40 (hop : q_opI Inv m_w_load m_r_load 2) (hL : L ≤ 3072) (hi : i + 6 ≤ L) (hI : Inv d w) : wT (law_a40 xs L) (q_LL i, (S0, d, w)) (fun σ1 => ∃ d2 w2, σ1 = (q_LL i, (S0, d2, w2)) ∧ Inv d2 w2) R := by
  have y1 := fun h => ev_sald (xs := xs) (h := h) hL (show i + 1 < L by omega)
  have y2 := fun h => ev_sald (xs := xs) (h := h) hL (show i + 2 < L by omega)
  have y3 := fun h => ev_sald (xs := xs) (h := h) hL (show i + 3 < L by omega)
  have y4 := fun h => ev_sald (xs := xs) (h := h) hL (show i + 4 < L by omega)
  have y5 := fun h => ev_sald (xs := xs) (h := h) hL (show i + 5 < L by omega)
  obtain ⟨v, d1, w1, d2, w2, e1, e2, hI2⟩ := hop [xs (i + 1), xs (i + 2)] rfl d w hI
  simp only [List.map_cons, List.map_nil] at e1 e2
  unfold law_a40
  refine wT_If.mpr ⟨false, (q_LL i, (S0, d2, w2)), ?_, fun h => (by cases h), fun _ => wT_Skip.mpr ⟨d2, w2, rfl, hI2⟩⟩
  simp [c2, x2, x1, xM, xK, xLi, xLa, q_ev, q_LL, o_iadd, o_lcmp, o_lor, o_lshl, o_land, o_i2l, q_n1, q_n2, q_n3, q_n4, q_n5, y1, y2, y3, y4, y5, r_x, r_m, e1, e2, lg_cmp_self]
theorem arm_41 (hop : q_opI Inv m_w_over m_r_over 1) (hL : L ≤ 3072) (hi : i + 6 ≤ L) (hI : Inv d w) : wT (law_a41 xs L) (q_LL i, (S0, d, w)) (fun σ1 => ∃ d2 w2, σ1 = (q_LL i, (S0, d2, w2)) ∧ Inv d2 w2) R := by
  have y1 := fun h => ev_sald (xs := xs) (h := h) hL (show i + 1 < L by omega)
  have y2 := fun h => ev_sald (xs := xs) (h := h) hL (show i + 2 < L by omega)
  have y3 := fun h => ev_sald (xs := xs) (h := h) hL (show i + 3 < L by omega)
  have y4 := fun h => ev_sald (xs := xs) (h := h) hL (show i + 4 < L by omega)
  have y5 := fun h => ev_sald (xs := xs) (h := h) hL (show i + 5 < L by omega)
  obtain ⟨v, d1, w1, d2, w2, e1, e2, hI2⟩ := hop [xs (i + 1)] rfl d w hI
  simp only [List.map_cons, List.map_nil] at e1 e2
  unfold law_a41
  refine wT_If.mpr ⟨false, (q_LL i, (S0, d2, w2)), ?_, fun h => (by cases h), fun _ => wT_Skip.mpr ⟨d2, w2, rfl, hI2⟩⟩
  simp [c2, x2, x1, xM, xK, xLi, xLa, q_ev, q_LL, o_iadd, o_lcmp, o_lor, o_lshl, o_land, o_i2l, q_n1, q_n2, q_n3, q_n4, q_n5, y1, y2, y3, y4, y5, r_x, r_m, e1, e2, lg_cmp_self]
theorem arm_42 (hop : q_opI Inv m_w_thick m_r_thick 2) (hL : L ≤ 3072) (hi : i + 6 ≤ L) (hI : Inv d w) : wT (law_a42 xs L) (q_LL i, (S0, d, w)) (fun σ1 => ∃ d2 w2, σ1 = (q_LL i, (S0, d2, w2)) ∧ Inv d2 w2) R := by
  have y1 := fun h => ev_sald (xs := xs) (h := h) hL (show i + 1 < L by omega)
  have y2 := fun h => ev_sald (xs := xs) (h := h) hL (show i + 2 < L by omega)
  have y3 := fun h => ev_sald (xs := xs) (h := h) hL (show i + 3 < L by omega)
  have y4 := fun h => ev_sald (xs := xs) (h := h) hL (show i + 4 < L by omega)
  have y5 := fun h => ev_sald (xs := xs) (h := h) hL (show i + 5 < L by omega)
  obtain ⟨v, d1, w1, d2, w2, e1, e2, hI2⟩ := hop [xs (i + 1), xs (i + 2)] rfl d w hI
  simp only [List.map_cons, List.map_nil] at e1 e2
  unfold law_a42
  refine wT_If.mpr ⟨false, (q_LL i, (S0, d2, w2)), ?_, fun h => (by cases h), fun _ => wT_Skip.mpr ⟨d2, w2, rfl, hI2⟩⟩
  simp [c2, x2, x1, xM, xK, xLi, xLa, q_ev, q_LL, o_iadd, o_lcmp, o_lor, o_lshl, o_land, o_i2l, q_n1, q_n2, q_n3, q_n4, q_n5, y1, y2, y3, y4, y5, r_x, r_m, e1, e2, lg_cmp_self]
theorem arm_43 (hop : q_opI Inv m_w_meter m_r_meter 1) (hL : L ≤ 3072) (hi : i + 6 ≤ L) (hI : Inv d w) : wT (law_a43 xs L) (q_LL i, (S0, d, w)) (fun σ1 => ∃ d2 w2, σ1 = (q_LL i, (S0, d2, w2)) ∧ Inv d2 w2) R := by
  have y1 := fun h => ev_sald (xs := xs) (h := h) hL (show i + 1 < L by omega)
  have y2 := fun h => ev_sald (xs := xs) (h := h) hL (show i + 2 < L by omega)
  have y3 := fun h => ev_sald (xs := xs) (h := h) hL (show i + 3 < L by omega)
  have y4 := fun h => ev_sald (xs := xs) (h := h) hL (show i + 4 < L by omega)
  have y5 := fun h => ev_sald (xs := xs) (h := h) hL (show i + 5 < L by omega)
  obtain ⟨v, d1, w1, d2, w2, e1, e2, hI2⟩ := hop [xs (i + 1)] rfl d w hI
  simp only [List.map_cons, List.map_nil] at e1 e2
  unfold law_a43
  refine wT_If.mpr ⟨false, (q_LL i, (S0, d2, w2)), ?_, fun h => (by cases h), fun _ => wT_Skip.mpr ⟨d2, w2, rfl, hI2⟩⟩
  simp [c2, x2, x1, xM, xK, xLi, xLa, q_ev, q_LL, o_iadd, o_lcmp, o_lor, o_lshl, o_land, o_i2l, q_n1, q_n2, q_n3, q_n4, q_n5, y1, y2, y3, y4, y5, r_x, r_m, e1, e2, lg_cmp_self]
theorem arm_44 (hop : q_opI Inv m_w_witness m_r_witness 2) (hL : L ≤ 3072) (hi : i + 6 ≤ L) (hI : Inv d w) : wT (law_a44 xs L) (q_LL i, (S0, d, w)) (fun σ1 => ∃ d2 w2, σ1 = (q_LL i, (S0, d2, w2)) ∧ Inv d2 w2) R := by
  have y1 := fun h => ev_sald (xs := xs) (h := h) hL (show i + 1 < L by omega)
  have y2 := fun h => ev_sald (xs := xs) (h := h) hL (show i + 2 < L by omega)
  have y3 := fun h => ev_sald (xs := xs) (h := h) hL (show i + 3 < L by omega)
  have y4 := fun h => ev_sald (xs := xs) (h := h) hL (show i + 4 < L by omega)
  have y5 := fun h => ev_sald (xs := xs) (h := h) hL (show i + 5 < L by omega)
  obtain ⟨v, d1, w1, d2, w2, e1, e2, hI2⟩ := hop [xs (i + 1), xs (i + 2)] rfl d w hI
  simp only [List.map_cons, List.map_nil] at e1 e2
  unfold law_a44
  refine wT_If.mpr ⟨false, (q_LL i, (S0, d2, w2)), ?_, fun h => (by cases h), fun _ => wT_Skip.mpr ⟨d2, w2, rfl, hI2⟩⟩
  simp [c2, x2, x1, xM, xK, xLi, xLa, q_ev, q_LL, o_iadd, o_lcmp, o_lor, o_lshl, o_land, o_i2l, q_n1, q_n2, q_n3, q_n4, q_n5, y1, y2, y3, y4, y5, r_x, r_m, e1, e2, lg_cmp_self]
theorem arm_45 (hop : q_opL Inv m_w_order m_r_order 2) (hL : L ≤ 3072) (hi : i + 6 ≤ L) (hI : Inv d w) : wT (law_a45 xs L) (q_LL i, (S0, d, w)) (fun σ1 => ∃ d2 w2, σ1 = (q_LL i, (S0, d2, w2)) ∧ Inv d2 w2) R := by
  have y1 := fun h => ev_sald (xs := xs) (h := h) hL (show i + 1 < L by omega)
  have y2 := fun h => ev_sald (xs := xs) (h := h) hL (show i + 2 < L by omega)
  have y3 := fun h => ev_sald (xs := xs) (h := h) hL (show i + 3 < L by omega)
  have y4 := fun h => ev_sald (xs := xs) (h := h) hL (show i + 4 < L by omega)
  have y5 := fun h => ev_sald (xs := xs) (h := h) hL (show i + 5 < L by omega)
  obtain ⟨v, d1, w1, d2, w2, e1, e2, hI2⟩ := hop [xs (i + 1), xs (i + 2)] rfl d w hI
  simp only [List.map_cons, List.map_nil] at e1 e2
  unfold law_a45
  refine wT_If.mpr ⟨false, (q_LL i, (S0, d2, w2)), ?_, fun h => (by cases h), fun _ => wT_Skip.mpr ⟨d2, w2, rfl, hI2⟩⟩
  simp [c1, x2, x1, xM, xK, xLi, xLa, q_ev, q_LL, o_iadd, o_lcmp, o_lor, o_lshl, o_land, o_i2l, q_n1, q_n2, q_n3, q_n4, q_n5, y1, y2, y3, y4, y5, r_x, r_m, e1, e2, lg_cmp_self]
theorem arm_46 (hop : q_opI Inv m_w_drawn m_r_drawn 3) (hL : L ≤ 3072) (hi : i + 6 ≤ L) (hI : Inv d w) : wT (law_a46 xs L) (q_LL i, (S0, d, w)) (fun σ1 => ∃ d2 w2, σ1 = (q_LL i, (S0, d2, w2)) ∧ Inv d2 w2) R := by
  have y1 := fun h => ev_sald (xs := xs) (h := h) hL (show i + 1 < L by omega)
  have y2 := fun h => ev_sald (xs := xs) (h := h) hL (show i + 2 < L by omega)
  have y3 := fun h => ev_sald (xs := xs) (h := h) hL (show i + 3 < L by omega)
  have y4 := fun h => ev_sald (xs := xs) (h := h) hL (show i + 4 < L by omega)
  have y5 := fun h => ev_sald (xs := xs) (h := h) hL (show i + 5 < L by omega)
  obtain ⟨v, d1, w1, d2, w2, e1, e2, hI2⟩ := hop [xs (i + 1), xs (i + 2), xs (i + 3)] rfl d w hI
  simp only [List.map_cons, List.map_nil] at e1 e2
  unfold law_a46
  refine wT_If.mpr ⟨false, (q_LL i, (S0, d2, w2)), ?_, fun h => (by cases h), fun _ => wT_Skip.mpr ⟨d2, w2, rfl, hI2⟩⟩
  simp [c2, x2, x1, xM, xK, xLi, xLa, q_ev, q_LL, o_iadd, o_lcmp, o_lor, o_lshl, o_land, o_i2l, q_n1, q_n2, q_n3, q_n4, q_n5, y1, y2, y3, y4, y5, r_x, r_m, e1, e2, lg_cmp_self]
theorem arm_47 (hop : q_opI Inv m_w_image m_r_image 0) (hL : L ≤ 3072) (hi : i + 6 ≤ L) (hI : Inv d w) : wT (law_a47 xs L) (q_LL i, (S0, d, w)) (fun σ1 => ∃ d2 w2, σ1 = (q_LL i, (S0, d2, w2)) ∧ Inv d2 w2) R := by
  have y1 := fun h => ev_sald (xs := xs) (h := h) hL (show i + 1 < L by omega)
  have y2 := fun h => ev_sald (xs := xs) (h := h) hL (show i + 2 < L by omega)
  have y3 := fun h => ev_sald (xs := xs) (h := h) hL (show i + 3 < L by omega)
  have y4 := fun h => ev_sald (xs := xs) (h := h) hL (show i + 4 < L by omega)
  have y5 := fun h => ev_sald (xs := xs) (h := h) hL (show i + 5 < L by omega)
  obtain ⟨v, d1, w1, d2, w2, e1, e2, hI2⟩ := hop [] rfl d w hI
  simp only [List.map_cons, List.map_nil] at e1 e2
  unfold law_a47
  refine wT_If.mpr ⟨false, (q_LL i, (S0, d2, w2)), ?_, fun h => (by cases h), fun _ => wT_Skip.mpr ⟨d2, w2, rfl, hI2⟩⟩
  simp [c2, x2, x1, xM, xK, xLi, xLa, q_ev, q_LL, o_iadd, o_lcmp, o_lor, o_lshl, o_land, o_i2l, q_n1, q_n2, q_n3, q_n4, q_n5, y1, y2, y3, y4, y5, r_x, r_m, e1, e2, lg_cmp_self]
theorem arm_48 (hop : q_opI Inv m_w_back m_r_back 0) (hL : L ≤ 3072) (hi : i + 6 ≤ L) (hI : Inv d w) : wT (law_a48 xs L) (q_LL i, (S0, d, w)) (fun σ1 => ∃ d2 w2, σ1 = (q_LL i, (S0, d2, w2)) ∧ Inv d2 w2) R := by
  have y1 := fun h => ev_sald (xs := xs) (h := h) hL (show i + 1 < L by omega)
  have y2 := fun h => ev_sald (xs := xs) (h := h) hL (show i + 2 < L by omega)
  have y3 := fun h => ev_sald (xs := xs) (h := h) hL (show i + 3 < L by omega)
  have y4 := fun h => ev_sald (xs := xs) (h := h) hL (show i + 4 < L by omega)
  have y5 := fun h => ev_sald (xs := xs) (h := h) hL (show i + 5 < L by omega)
  obtain ⟨v, d1, w1, d2, w2, e1, e2, hI2⟩ := hop [] rfl d w hI
  simp only [List.map_cons, List.map_nil] at e1 e2
  unfold law_a48
  refine wT_If.mpr ⟨false, (q_LL i, (S0, d2, w2)), ?_, fun h => (by cases h), fun _ => wT_Skip.mpr ⟨d2, w2, rfl, hI2⟩⟩
  simp [c2, x2, x1, xM, xK, xLi, xLa, q_ev, q_LL, o_iadd, o_lcmp, o_lor, o_lshl, o_land, o_i2l, q_n1, q_n2, q_n3, q_n4, q_n5, y1, y2, y3, y4, y5, r_x, r_m, e1, e2, lg_cmp_self]
theorem arm_49 (hop : q_opI Inv m_w_sheet m_r_sheet 3) (hL : L ≤ 3072) (hi : i + 6 ≤ L) (hI : Inv d w) : wT (law_a49 xs L) (q_LL i, (S0, d, w)) (fun σ1 => ∃ d2 w2, σ1 = (q_LL i, (S0, d2, w2)) ∧ Inv d2 w2) R := by
  have y1 := fun h => ev_sald (xs := xs) (h := h) hL (show i + 1 < L by omega)
  have y2 := fun h => ev_sald (xs := xs) (h := h) hL (show i + 2 < L by omega)
  have y3 := fun h => ev_sald (xs := xs) (h := h) hL (show i + 3 < L by omega)
  have y4 := fun h => ev_sald (xs := xs) (h := h) hL (show i + 4 < L by omega)
  have y5 := fun h => ev_sald (xs := xs) (h := h) hL (show i + 5 < L by omega)
  obtain ⟨v, d1, w1, d2, w2, e1, e2, hI2⟩ := hop [xs (i + 1), xs (i + 2), xs (i + 3)] rfl d w hI
  simp only [List.map_cons, List.map_nil] at e1 e2
  unfold law_a49
  refine wT_If.mpr ⟨false, (q_LL i, (S0, d2, w2)), ?_, fun h => (by cases h), fun _ => wT_Skip.mpr ⟨d2, w2, rfl, hI2⟩⟩
  simp [c2, x2, x1, xM, xK, xLi, xLa, q_ev, q_LL, o_iadd, o_lcmp, o_lor, o_lshl, o_land, o_i2l, q_n1, q_n2, q_n3, q_n4, q_n5, y1, y2, y3, y4, y5, r_x, r_m, e1, e2, lg_cmp_self]
theorem arm_50 (hop : q_opI Inv m_w_cell m_r_cell 3) (hL : L ≤ 3072) (hi : i + 6 ≤ L) (hI : Inv d w) : wT (law_a50 xs L) (q_LL i, (S0, d, w)) (fun σ1 => ∃ d2 w2, σ1 = (q_LL i, (S0, d2, w2)) ∧ Inv d2 w2) R := by
  have y1 := fun h => ev_sald (xs := xs) (h := h) hL (show i + 1 < L by omega)
  have y2 := fun h => ev_sald (xs := xs) (h := h) hL (show i + 2 < L by omega)
  have y3 := fun h => ev_sald (xs := xs) (h := h) hL (show i + 3 < L by omega)
  have y4 := fun h => ev_sald (xs := xs) (h := h) hL (show i + 4 < L by omega)
  have y5 := fun h => ev_sald (xs := xs) (h := h) hL (show i + 5 < L by omega)
  obtain ⟨v, d1, w1, d2, w2, e1, e2, hI2⟩ := hop [xs (i + 1), xs (i + 2), xs (i + 3)] rfl d w hI
  simp only [List.map_cons, List.map_nil] at e1 e2
  unfold law_a50
  refine wT_If.mpr ⟨false, (q_LL i, (S0, d2, w2)), ?_, fun h => (by cases h), fun _ => wT_Skip.mpr ⟨d2, w2, rfl, hI2⟩⟩
  simp [c2, x2, x1, xM, xK, xLi, xLa, q_ev, q_LL, o_iadd, o_lcmp, o_lor, o_lshl, o_land, o_i2l, q_n1, q_n2, q_n3, q_n4, q_n5, y1, y2, y3, y4, y5, r_x, r_m, e1, e2, lg_cmp_self]
theorem arm_51 (hop : q_opI Inv m_w_copy m_r_copy 5) (hL : L ≤ 3072) (hi : i + 6 ≤ L) (hI : Inv d w) : wT (law_a51 xs L) (q_LL i, (S0, d, w)) (fun σ1 => ∃ d2 w2, σ1 = (q_LL i, (S0, d2, w2)) ∧ Inv d2 w2) R := by
  have y1 := fun h => ev_sald (xs := xs) (h := h) hL (show i + 1 < L by omega)
  have y2 := fun h => ev_sald (xs := xs) (h := h) hL (show i + 2 < L by omega)
  have y3 := fun h => ev_sald (xs := xs) (h := h) hL (show i + 3 < L by omega)
  have y4 := fun h => ev_sald (xs := xs) (h := h) hL (show i + 4 < L by omega)
  have y5 := fun h => ev_sald (xs := xs) (h := h) hL (show i + 5 < L by omega)
  obtain ⟨v, d1, w1, d2, w2, e1, e2, hI2⟩ := hop [xs (i + 1), xs (i + 2), xs (i + 3), xs (i + 4), xs (i + 5)] rfl d w hI
  simp only [List.map_cons, List.map_nil] at e1 e2
  unfold law_a51
  refine wT_If.mpr ⟨false, (q_LL i, (S0, d2, w2)), ?_, fun h => (by cases h), fun _ => wT_Skip.mpr ⟨d2, w2, rfl, hI2⟩⟩
  simp [c2, x2, x1, xM, xK, xLi, xLa, q_ev, q_LL, o_iadd, o_lcmp, o_lor, o_lshl, o_land, o_i2l, q_n1, q_n2, q_n3, q_n4, q_n5, y1, y2, y3, y4, y5, r_x, r_m, e1, e2, lg_cmp_self]
theorem arm_52 (hop : q_opI Inv m_w_lampsBy m_r_lampsBy 4) (hL : L ≤ 3072) (hi : i + 6 ≤ L) (hI : Inv d w) : wT (law_a52 xs L) (q_LL i, (S0, d, w)) (fun σ1 => ∃ d2 w2, σ1 = (q_LL i, (S0, d2, w2)) ∧ Inv d2 w2) R := by
  have y1 := fun h => ev_sald (xs := xs) (h := h) hL (show i + 1 < L by omega)
  have y2 := fun h => ev_sald (xs := xs) (h := h) hL (show i + 2 < L by omega)
  have y3 := fun h => ev_sald (xs := xs) (h := h) hL (show i + 3 < L by omega)
  have y4 := fun h => ev_sald (xs := xs) (h := h) hL (show i + 4 < L by omega)
  have y5 := fun h => ev_sald (xs := xs) (h := h) hL (show i + 5 < L by omega)
  obtain ⟨v, d1, w1, d2, w2, e1, e2, hI2⟩ := hop [xs (i + 1), xs (i + 2), xs (i + 3), xs (i + 4)] rfl d w hI
  simp only [List.map_cons, List.map_nil] at e1 e2
  unfold law_a52
  refine wT_If.mpr ⟨false, (q_LL i, (S0, d2, w2)), ?_, fun h => (by cases h), fun _ => wT_Skip.mpr ⟨d2, w2, rfl, hI2⟩⟩
  simp [c2, x2, x1, xM, xK, xLi, xLa, q_ev, q_LL, o_iadd, o_lcmp, o_lor, o_lshl, o_land, o_i2l, q_n1, q_n2, q_n3, q_n4, q_n5, y1, y2, y3, y4, y5, r_x, r_m, e1, e2, lg_cmp_self]
theorem arm_53 (hop : q_opI Inv m_w_taken m_r_taken 2) (hL : L ≤ 3072) (hi : i + 6 ≤ L) (hI : Inv d w) : wT (law_a53 xs L) (q_LL i, (S0, d, w)) (fun σ1 => ∃ d2 w2, σ1 = (q_LL i, (S0, d2, w2)) ∧ Inv d2 w2) R := by
  have y1 := fun h => ev_sald (xs := xs) (h := h) hL (show i + 1 < L by omega)
  have y2 := fun h => ev_sald (xs := xs) (h := h) hL (show i + 2 < L by omega)
  have y3 := fun h => ev_sald (xs := xs) (h := h) hL (show i + 3 < L by omega)
  have y4 := fun h => ev_sald (xs := xs) (h := h) hL (show i + 4 < L by omega)
  have y5 := fun h => ev_sald (xs := xs) (h := h) hL (show i + 5 < L by omega)
  obtain ⟨v, d1, w1, d2, w2, e1, e2, hI2⟩ := hop [xs (i + 1), xs (i + 2)] rfl d w hI
  simp only [List.map_cons, List.map_nil] at e1 e2
  unfold law_a53
  refine wT_If.mpr ⟨false, (q_LL i, (S0, d2, w2)), ?_, fun h => (by cases h), fun _ => wT_Skip.mpr ⟨d2, w2, rfl, hI2⟩⟩
  simp [c2, x2, x1, xM, xK, xLi, xLa, q_ev, q_LL, o_iadd, o_lcmp, o_lor, o_lshl, o_land, o_i2l, q_n1, q_n2, q_n3, q_n4, q_n5, y1, y2, y3, y4, y5, r_x, r_m, e1, e2, lg_cmp_self]
def q_ops (Inv : (Nat → Nat → Int32) → (Nat → Nat → Int64) → Prop) : Prop := q_opI Inv m_w_fuse m_r_fuse 2 ∧
  q_opI Inv m_w_set m_r_set 2 ∧
  q_opI Inv m_w_count m_r_count 1 ∧
  q_opI Inv m_w_lamp m_r_lamp 4 ∧
  q_opI Inv m_w_lampTold m_r_lampTold 2 ∧
  q_opF Inv m_w_feed m_r_feed ∧
  q_opI Inv m_w_text m_r_text 0 ∧
  q_opI Inv m_w_force m_r_force 1 ∧
  q_opI Inv m_w_house m_r_house 1 ∧
  q_opI Inv m_w_fedBy m_r_fedBy 2 ∧
  q_opI Inv m_w_show m_r_show 1 ∧
  q_opI Inv m_w_bright m_r_bright 2 ∧
  q_opI Inv m_w_room m_r_room 2 ∧
  q_opI Inv m_w_nothing m_r_nothing 1 ∧
  q_opI Inv m_w_ask m_r_ask 2 ∧
  q_opI Inv m_w_forget m_r_forget 0 ∧
  q_opI Inv m_w_amiss m_r_amiss 2 ∧
  q_opI Inv m_w_miss m_r_miss 1 ∧
  q_opI Inv m_w_lets m_r_lets 0 ∧
  q_opI Inv m_w_likeliest m_r_likeliest 0 ∧
  q_opI Inv m_w_near m_r_near 1 ∧
  q_opI Inv m_w_parts m_r_parts 3 ∧
  q_opI Inv m_w_next m_r_next1 3 ∧
  q_opI Inv m_w_ahead m_r_ahead 2 ∧
  q_opI Inv m_w_plan m_r_plan 3 ∧
  q_opI Inv m_w_bound m_r_bound 0 ∧
  q_opI Inv m_w_sure m_r_sure 1 ∧
  q_opI Inv m_w_grey m_r_grey 0 ∧
  q_opI Inv m_w_live m_r_live 2 ∧
  q_opI Inv m_w_dead m_r_dead 1 ∧
  q_opI Inv m_w_touch m_r_touch 0 ∧
  q_opI Inv m_w_sums m_r_sums 1 ∧
  q_opI Inv m_w_which m_r_which 2 ∧
  q_opI Inv m_w_put m_r_put 1 ∧
  q_opI Inv m_w_label m_r_label 2 ∧
  q_opI Inv m_w_agree m_r_agree 2 ∧
  q_opI Inv m_w_right m_r_right 0 ∧
  q_opL Inv m_w_odds m_r_odds 2 ∧
  q_opI Inv m_w_wall m_r_wall 3 ∧
  q_opI Inv m_w_broken m_r_broken 3 ∧
  q_opI Inv m_w_load m_r_load 2 ∧
  q_opI Inv m_w_over m_r_over 1 ∧
  q_opI Inv m_w_thick m_r_thick 2 ∧
  q_opI Inv m_w_meter m_r_meter 1 ∧
  q_opI Inv m_w_witness m_r_witness 2 ∧
  q_opL Inv m_w_order m_r_order 2 ∧
  q_opI Inv m_w_drawn m_r_drawn 3 ∧
  q_opI Inv m_w_image m_r_image 0 ∧
  q_opI Inv m_w_back m_r_back 0 ∧
  q_opI Inv m_w_sheet m_r_sheet 3 ∧
  q_opI Inv m_w_cell m_r_cell 3 ∧
  q_opI Inv m_w_copy m_r_copy 5 ∧
  q_opI Inv m_w_lampsBy m_r_lampsBy 4 ∧
  q_opI Inv m_w_taken m_r_taken 2
theorem arm_all (H : q_ops Inv) (hL : L ≤ 3072) (hi : i + 6 ≤ L) (hI : Inv d w) (k : Nat) (hk : k < 54) : wT (([law_a0 xs L, law_a1 xs L, law_a2 xs L, law_a3 xs L, law_a4 xs L, law_a5 xs L, law_a6 xs L, law_a7 xs L, law_a8 xs L, law_a9 xs L, law_a10 xs L, law_a11 xs L, law_a12 xs L, law_a13 xs L, law_a14 xs L, law_a15 xs L, law_a16 xs L, law_a17 xs L, law_a18 xs L, law_a19 xs L, law_a20 xs L, law_a21 xs L, law_a22 xs L, law_a23 xs L, law_a24 xs L, law_a25 xs L, law_a26 xs L, law_a27 xs L, law_a28 xs L, law_a29 xs L, law_a30 xs L, law_a31 xs L, law_a32 xs L, law_a33 xs L, law_a34 xs L, law_a35 xs L, law_a36 xs L, law_a37 xs L, law_a38 xs L, law_a39 xs L, law_a40 xs L, law_a41 xs L, law_a42 xs L, law_a43 xs L, law_a44 xs L, law_a45 xs L, law_a46 xs L, law_a47 xs L, law_a48 xs L, law_a49 xs L, law_a50 xs L, law_a51 xs L, law_a52 xs L, law_a53 xs L] : List q_T).getD k sSkip) (q_LL i, (S0, d, w)) (fun σ1 => ∃ d2 w2, σ1 = (q_LL i, (S0, d2, w2)) ∧ Inv d2 w2) R := by
  match k, hk with
  | 0, _ => exact arm_0 (xs := xs) H.1 hL hi hI
  | 1, _ => exact arm_1 (xs := xs) H.2.1 hL hi hI
  | 2, _ => exact arm_2 (xs := xs) H.2.2.1 hL hi hI
  | 3, _ => exact arm_3 (xs := xs) H.2.2.2.1 hL hi hI
  | 4, _ => exact arm_4 (xs := xs) H.2.2.2.2.1 hL hi hI
  | 5, _ => exact arm_5 (xs := xs) H.2.2.2.2.2.1 hL hi hI
  | 6, _ => exact arm_6 (xs := xs) H.2.2.2.2.2.2.1 hL hi hI
  | 7, _ => exact arm_7 (xs := xs) H.2.2.2.2.2.2.2.1 hL hi hI
  | 8, _ => exact arm_8 (xs := xs) H.2.2.2.2.2.2.2.2.1 hL hi hI
  | 9, _ => exact arm_9 (xs := xs) H.2.2.2.2.2.2.2.2.2.1 hL hi hI
  | 10, _ => exact arm_10 (xs := xs) H.2.2.2.2.2.2.2.2.2.2.1 hL hi hI
  | 11, _ => exact arm_11 (xs := xs) H.2.2.2.2.2.2.2.2.2.2.2.1 hL hi hI
  | 12, _ => exact arm_12 (xs := xs) H.2.2.2.2.2.2.2.2.2.2.2.2.1 hL hi hI
  | 13, _ => exact arm_13 (xs := xs) H.2.2.2.2.2.2.2.2.2.2.2.2.2.1 hL hi hI
  | 14, _ => exact arm_14 (xs := xs) H.2.2.2.2.2.2.2.2.2.2.2.2.2.2.1 hL hi hI
  | 15, _ => exact arm_15 (xs := xs) H.2.2.2.2.2.2.2.2.2.2.2.2.2.2.2.1 hL hi hI
  | 16, _ => exact arm_16 (xs := xs) H.2.2.2.2.2.2.2.2.2.2.2.2.2.2.2.2.1 hL hi hI
  | 17, _ => exact arm_17 (xs := xs) H.2.2.2.2.2.2.2.2.2.2.2.2.2.2.2.2.2.1 hL hi hI
  | 18, _ => exact arm_18 (xs := xs) H.2.2.2.2.2.2.2.2.2.2.2.2.2.2.2.2.2.2.1 hL hi hI
  | 19, _ => exact arm_19 (xs := xs) H.2.2.2.2.2.2.2.2.2.2.2.2.2.2.2.2.2.2.2.1 hL hi hI
  | 20, _ => exact arm_20 (xs := xs) H.2.2.2.2.2.2.2.2.2.2.2.2.2.2.2.2.2.2.2.2.1 hL hi hI
  | 21, _ => exact arm_21 (xs := xs) H.2.2.2.2.2.2.2.2.2.2.2.2.2.2.2.2.2.2.2.2.2.1 hL hi hI
  | 22, _ => exact arm_22 (xs := xs) H.2.2.2.2.2.2.2.2.2.2.2.2.2.2.2.2.2.2.2.2.2.2.1 hL hi hI
  | 23, _ => exact arm_23 (xs := xs) H.2.2.2.2.2.2.2.2.2.2.2.2.2.2.2.2.2.2.2.2.2.2.2.1 hL hi hI
  | 24, _ => exact arm_24 (xs := xs) H.2.2.2.2.2.2.2.2.2.2.2.2.2.2.2.2.2.2.2.2.2.2.2.2.1 hL hi hI
  | 25, _ => exact arm_25 (xs := xs) H.2.2.2.2.2.2.2.2.2.2.2.2.2.2.2.2.2.2.2.2.2.2.2.2.2.1 hL hi hI
  | 26, _ => exact arm_26 (xs := xs) H.2.2.2.2.2.2.2.2.2.2.2.2.2.2.2.2.2.2.2.2.2.2.2.2.2.2.1 hL hi hI
  | 27, _ => exact arm_27 (xs := xs) H.2.2.2.2.2.2.2.2.2.2.2.2.2.2.2.2.2.2.2.2.2.2.2.2.2.2.2.1 hL hi hI
  | 28, _ => exact arm_28 (xs := xs) H.2.2.2.2.2.2.2.2.2.2.2.2.2.2.2.2.2.2.2.2.2.2.2.2.2.2.2.2.1 hL hi hI
  | 29, _ => exact arm_29 (xs := xs) H.2.2.2.2.2.2.2.2.2.2.2.2.2.2.2.2.2.2.2.2.2.2.2.2.2.2.2.2.2.1 hL hi hI
  | 30, _ => exact arm_30 (xs := xs) H.2.2.2.2.2.2.2.2.2.2.2.2.2.2.2.2.2.2.2.2.2.2.2.2.2.2.2.2.2.2.1 hL hi hI
  | 31, _ => exact arm_31 (xs := xs) H.2.2.2.2.2.2.2.2.2.2.2.2.2.2.2.2.2.2.2.2.2.2.2.2.2.2.2.2.2.2.2.1 hL hi hI
  | 32, _ => exact arm_32 (xs := xs) H.2.2.2.2.2.2.2.2.2.2.2.2.2.2.2.2.2.2.2.2.2.2.2.2.2.2.2.2.2.2.2.2.1 hL hi hI
  | 33, _ => exact arm_33 (xs := xs) H.2.2.2.2.2.2.2.2.2.2.2.2.2.2.2.2.2.2.2.2.2.2.2.2.2.2.2.2.2.2.2.2.2.1 hL hi hI
  | 34, _ => exact arm_34 (xs := xs) H.2.2.2.2.2.2.2.2.2.2.2.2.2.2.2.2.2.2.2.2.2.2.2.2.2.2.2.2.2.2.2.2.2.2.1 hL hi hI
  | 35, _ => exact arm_35 (xs := xs) H.2.2.2.2.2.2.2.2.2.2.2.2.2.2.2.2.2.2.2.2.2.2.2.2.2.2.2.2.2.2.2.2.2.2.2.1 hL hi hI
  | 36, _ => exact arm_36 (xs := xs) H.2.2.2.2.2.2.2.2.2.2.2.2.2.2.2.2.2.2.2.2.2.2.2.2.2.2.2.2.2.2.2.2.2.2.2.2.1 hL hi hI
  | 37, _ => exact arm_37 (xs := xs) H.2.2.2.2.2.2.2.2.2.2.2.2.2.2.2.2.2.2.2.2.2.2.2.2.2.2.2.2.2.2.2.2.2.2.2.2.2.1 hL hi hI
  | 38, _ => exact arm_38 (xs := xs) H.2.2.2.2.2.2.2.2.2.2.2.2.2.2.2.2.2.2.2.2.2.2.2.2.2.2.2.2.2.2.2.2.2.2.2.2.2.2.1 hL hi hI
  | 39, _ => exact arm_39 (xs := xs) H.2.2.2.2.2.2.2.2.2.2.2.2.2.2.2.2.2.2.2.2.2.2.2.2.2.2.2.2.2.2.2.2.2.2.2.2.2.2.2.1 hL hi hI
  | 40, _ => exact arm_40 (xs := xs) H.2.2.2.2.2.2.2.2.2.2.2.2.2.2.2.2.2.2.2.2.2.2.2.2.2.2.2.2.2.2.2.2.2.2.2.2.2.2.2.2.1 hL hi hI
  | 41, _ => exact arm_41 (xs := xs) H.2.2.2.2.2.2.2.2.2.2.2.2.2.2.2.2.2.2.2.2.2.2.2.2.2.2.2.2.2.2.2.2.2.2.2.2.2.2.2.2.2.1 hL hi hI
  | 42, _ => exact arm_42 (xs := xs) H.2.2.2.2.2.2.2.2.2.2.2.2.2.2.2.2.2.2.2.2.2.2.2.2.2.2.2.2.2.2.2.2.2.2.2.2.2.2.2.2.2.2.1 hL hi hI
  | 43, _ => exact arm_43 (xs := xs) H.2.2.2.2.2.2.2.2.2.2.2.2.2.2.2.2.2.2.2.2.2.2.2.2.2.2.2.2.2.2.2.2.2.2.2.2.2.2.2.2.2.2.2.1 hL hi hI
  | 44, _ => exact arm_44 (xs := xs) H.2.2.2.2.2.2.2.2.2.2.2.2.2.2.2.2.2.2.2.2.2.2.2.2.2.2.2.2.2.2.2.2.2.2.2.2.2.2.2.2.2.2.2.2.1 hL hi hI
  | 45, _ => exact arm_45 (xs := xs) H.2.2.2.2.2.2.2.2.2.2.2.2.2.2.2.2.2.2.2.2.2.2.2.2.2.2.2.2.2.2.2.2.2.2.2.2.2.2.2.2.2.2.2.2.2.1 hL hi hI
  | 46, _ => exact arm_46 (xs := xs) H.2.2.2.2.2.2.2.2.2.2.2.2.2.2.2.2.2.2.2.2.2.2.2.2.2.2.2.2.2.2.2.2.2.2.2.2.2.2.2.2.2.2.2.2.2.2.1 hL hi hI
  | 47, _ => exact arm_47 (xs := xs) H.2.2.2.2.2.2.2.2.2.2.2.2.2.2.2.2.2.2.2.2.2.2.2.2.2.2.2.2.2.2.2.2.2.2.2.2.2.2.2.2.2.2.2.2.2.2.2.1 hL hi hI
  | 48, _ => exact arm_48 (xs := xs) H.2.2.2.2.2.2.2.2.2.2.2.2.2.2.2.2.2.2.2.2.2.2.2.2.2.2.2.2.2.2.2.2.2.2.2.2.2.2.2.2.2.2.2.2.2.2.2.2.1 hL hi hI
  | 49, _ => exact arm_49 (xs := xs) H.2.2.2.2.2.2.2.2.2.2.2.2.2.2.2.2.2.2.2.2.2.2.2.2.2.2.2.2.2.2.2.2.2.2.2.2.2.2.2.2.2.2.2.2.2.2.2.2.2.1 hL hi hI
  | 50, _ => exact arm_50 (xs := xs) H.2.2.2.2.2.2.2.2.2.2.2.2.2.2.2.2.2.2.2.2.2.2.2.2.2.2.2.2.2.2.2.2.2.2.2.2.2.2.2.2.2.2.2.2.2.2.2.2.2.2.1 hL hi hI
  | 51, _ => exact arm_51 (xs := xs) H.2.2.2.2.2.2.2.2.2.2.2.2.2.2.2.2.2.2.2.2.2.2.2.2.2.2.2.2.2.2.2.2.2.2.2.2.2.2.2.2.2.2.2.2.2.2.2.2.2.2.2.1 hL hi hI
  | 52, _ => exact arm_52 (xs := xs) H.2.2.2.2.2.2.2.2.2.2.2.2.2.2.2.2.2.2.2.2.2.2.2.2.2.2.2.2.2.2.2.2.2.2.2.2.2.2.2.2.2.2.2.2.2.2.2.2.2.2.2.2.1 hL hi hI
  | 53, _ => exact arm_53 (xs := xs) H.2.2.2.2.2.2.2.2.2.2.2.2.2.2.2.2.2.2.2.2.2.2.2.2.2.2.2.2.2.2.2.2.2.2.2.2.2.2.2.2.2.2.2.2.2.2.2.2.2.2.2.2.2 hL hi hI
  | k + 54, hk => exact absurd hk (by omega)
end
theorem wT_Sw {f : q_X} {lo : Int} {as : List q_T} {dd : q_T} {σ σ1 : q_S} {x : Int32} {N : q_S → Prop} {R : Option Value → q_H → Prop} (e : f σ = some (.int x, σ1)) (h1 : ∀ k, k < as.length → wT (as.getD k dd) σ1 N R) (h2 : wT dd σ1 N R) : wT (sSw f lo as dd) σ N R := by
  by_cases hx : lo ≤ x.toInt ∧ x.toInt < lo + as.length
  · have key : sSw f lo as dd σ = as.getD (x.toInt - lo).toNat dd σ1 := by unfold sSw; rw [e]; simp only [hx, and_self, if_true]
    have := h1 (x.toInt - lo).toNat (by omega)
    unfold wT at this ⊢
    rw [key]
    exact this
  · have key : sSw f lo as dd σ = dd σ1 := by unfold sSw; rw [e]; simp only [hx, if_false]
    unfold wT at h2 ⊢
    rw [key]
    exact h2
theorem q_lim6 {i L : Nat} (hL : L ≤ 3072) (hi : i ≤ 4000) : (nI i ≤ nI L - 6) ↔ i + 6 ≤ L := by
  by_cases h : 6 ≤ L
  · obtain ⟨M, rfl⟩ : ∃ M, L = M + 6 := ⟨L - 6, by omega⟩
    have e : nI (M + 6) - 6 = nI M := by rw [← q_n6 M]; exact Int32.add_sub_cancel _ _
    rw [e, q_nle (by omega) (by omega)]
    omega
  · have h0 : nI L - 6 < 0 := by
      have : ∀ L, L < 6 → nI L - 6 < 0 := by decide +kernel
      exact this L (by omega)
    constructor
    · intro h1
      have h3 : ¬ nI i < 0 := nI_pos (by omega)
      exact absurd (Int32.lt_of_le_of_lt h1 h0) h3
    · intro h1; omega
theorem law_loop {Inv : (Nat → Nat → Int32) → (Nat → Nat → Int64) → Prop} (H : q_ops Inv) {xs : Nat → Int32} {L : Nat} (hL : L ≤ 3072) {d : Nat → Nat → Int32} {w : Nat → Nat → Int64} (hI : Inv d w) : wT (sWh (c2 (fun x y => decide (x ≤ y)) (xLi 3) (x2 o_isub (x1 (o_salen L) (xLa 0)) (xK (.int 6)))) (sSeq (sSw (x2 o_iand (x2 (o_sald xs L) (xLa 0) (xLi 3)) (xK (.int 63))) 0 [law_a0 xs L, law_a1 xs L, law_a2 xs L, law_a3 xs L, law_a4 xs L, law_a5 xs L, law_a6 xs L, law_a7 xs L, law_a8 xs L, law_a9 xs L, law_a10 xs L, law_a11 xs L, law_a12 xs L, law_a13 xs L, law_a14 xs L, law_a15 xs L, law_a16 xs L, law_a17 xs L, law_a18 xs L, law_a19 xs L, law_a20 xs L, law_a21 xs L, law_a22 xs L, law_a23 xs L, law_a24 xs L, law_a25 xs L, law_a26 xs L, law_a27 xs L, law_a28 xs L, law_a29 xs L, law_a30 xs L, law_a31 xs L, law_a32 xs L, law_a33 xs L, law_a34 xs L, law_a35 xs L, law_a36 xs L, law_a37 xs L, law_a38 xs L, law_a39 xs L, law_a40 xs L, law_a41 xs L, law_a42 xs L, law_a43 xs L, law_a44 xs L, law_a45 xs L, law_a46 xs L, law_a47 xs L, law_a48 xs L, law_a49 xs L, law_a50 xs L, law_a51 xs L, law_a52 xs L, law_a53 xs L] sSkip) (sInc 3 6))) (q_LL 0, (S0, d, w)) (fun σ => ∃ i d w, σ = (q_LL i, (S0, d, w))) (fun _ _ => False) := by
  refine wT_for (fun j σ => ∃ d w, σ = (q_LL (6 * j), (S0, d, w)) ∧ Inv d w) (L / 6) (by omega) ⟨d, w, rfl, hI⟩ ?_ ?_
  · rintro j σ hj ⟨d, w, rfl, hI⟩
    have hi : 6 * j + 6 ≤ L := by omega
    refine ⟨true, (q_LL (6 * j), (S0, d, w)), ?_, rfl, ?_⟩
    · simp [c2, x2, x1, xK, xLi, xLa, q_LL, o_salen, o_isub]
      exact (q_lim6 hL (by omega)).mpr hi
    · refine wT_Seq.mpr ?_
      have e0 : (x2 o_iand (x2 (o_sald xs L) (xLa 0) (xLi 3)) (xK (.int 63))) (q_LL (6 * j), (S0, d, w)) = some (.int (xs (6 * j) &&& 63), (q_LL (6 * j), (S0, d, w))) := by
        simp [x2, xK, xLi, xLa, q_LL, o_iand, ev_sald hL (show 6 * j < L by omega)]
      refine wT_Sw e0 (fun k hk => (arm_all H hL hi hI k hk).mono ?_ (fun _ _ h => h)) ?_
      · rintro σ1 ⟨d2, w2, rfl, hI2⟩
        refine wT_Inc.mpr ⟨nI (6 * j), rfl, d2, w2, ?_, hI2⟩
        rw [q_n6]
        rfl
      · refine wT_Skip.mpr (wT_Inc.mpr ⟨nI (6 * j), rfl, d, w, ?_, hI⟩)
        rw [q_n6]
        rfl
  · rintro σ ⟨d, w, rfl, hI⟩
    refine ⟨false, (q_LL (6 * (L / 6)), (S0, d, w)), ?_, rfl, ⟨_, _, _, rfl⟩⟩
    simp [c2, x2, x1, xK, xLi, xLa, q_LL, o_salen, o_isub]
    have : ¬ (nI (6 * (L / 6)) ≤ nI L - 6) := fun h => by
      have := (q_lim6 hL (by omega)).mp h
      omega
    exact Int32.not_le.mp this
theorem S0_eq : iw_S31 ++ ir_T43 = S0 := of_decide_eq_true (show q_eqS (iw_S31 ++ ir_T43) S0 = true by decide +kernel)
/-- all that is left: an invariant that holds after the constructors and that every call keeps, both sides answering alike -/
theorem pure_of {Inv : (Nat → Nat → Int32) → (Nat → Nat → Int64) → Prop} (h0 : Inv ir_d43 ir_w43) (H : q_ops Inv) : q_pure := by
  intro L xs hL
  have hloc : q_loc 4 [.ref 4000000] = [some (.ref 4000000), none, none, none] := rfl
  rw [hloc]
  have hl0 : iw_S31.length = 135 := by decide +kernel
  have a1 : (sSta 1 (xIni (xNew 10 q_D10) (q_ini m_w_init) [])) ([some (.ref 4000000), none, none, none], ([], fun _ _ => 0, fun _ _ => 0)) = some (.inl ([some (.ref 4000000), some (.ref 0), none, none], (iw_S31, iw_d31, iw_w31))) := by
    have e1 : xNew 10 q_D10 ([some (.ref 4000000), none, none, none], ([], fun _ _ => 0, fun _ _ => 0)) = some (.ref 0, ([some (.ref 4000000), none, none, none], (iw_S0, iw_d0, iw_w0))) := rfl
    unfold sSta xIni
    simp only [e1, q_ev, q_ini, iw_all]
    rfl
  have a2 : (sSta 2 (xIni (xNew 11 q_D11) (q_ini m_r_init) [])) ([some (.ref 4000000), some (.ref 0), none, none], (iw_S31, iw_d31, iw_w31)) = some (.inl ([some (.ref 4000000), some (.ref 0), some (.ref 135), none], (S0, ir_d43, ir_w43))) := by
    have e1 : xNew 11 q_D11 ([some (.ref 4000000), some (.ref 0), none, none], (iw_S31, iw_d31, iw_w31)) = some (.ref 135, ([some (.ref 4000000), some (.ref 0), none, none], (iw_S31 ++ ir_T0, ir_d0, ir_w0))) := by
      unfold xNew
      simp only [hl0]
      rfl
    unfold sSta xIni
    simp only [e1, q_ev, q_ini, ir_all, S0_eq]
    rfl
  have a3 : (sSti 3 (xK (.int 0))) ([some (.ref 4000000), some (.ref 0), some (.ref 135), none], (S0, ir_d43, ir_w43)) = some (.inl (q_LL 0, (S0, ir_d43, ir_w43))) := rfl
  have K : wT (m_law xs L) ([some (.ref 4000000), none, none, none], ([], fun _ _ => 0, fun _ _ => 0)) (fun _ => False) (fun v h => v = some (.int 1) ∧ h.1 = S0) := by
    unfold m_law
    refine wT_Seq.mpr (Or.inl ⟨_, a1, wT_Seq.mpr (Or.inl ⟨_, a2, wT_Seq.mpr (Or.inl ⟨_, a3, wT_Seq.mpr ?_⟩)⟩)⟩)
    refine (law_loop H hL h0).mono ?_ (fun _ _ h => h.elim)
    rintro σ ⟨i, d, w, rfl⟩
    exact wT_RetZ.mpr ⟨_, _, rfl, 1, rfl, Or.inr rfl, rfl, rfl⟩
  rcases K with ⟨σ1, e, q⟩ | ⟨v, h, e, rfl, hs⟩
  · exact q.elim
  · refine ⟨h, e, ?_, ?_⟩
    · rw [hs]; decide +kernel
    · rw [hs]; decide +kernel
