/-! TEXTS: a part's codes are no more than its bytes -/
/-- what was read takes no more codes than bytes -/
def q_rl (A : q_A) (j : Nat) (r : Bool × Nat × List Nat) : Prop := r.1 = true → A.ps j + r.2.2.length ≤ A.ps r.2.1
theorem q_lpp_l {A : q_A} {f : Nat → Bool × Nat × List Nat} {p : Nat → Bool} (hf : ∀ i, q_rl A i (f i)) (hp : p 0 = false) (j0 : Nat) : ∀ n j C, A.ps j0 + C.length ≤ A.ps j → q_rl A j0 (q_lpp A f p n j C) := by
  intro n
  induction n with
  | zero => exact fun j C h _ => h
  | succ n ih =>
    intro j C h
    rw [q_lpp]
    by_cases e1 : p (A.tok (A.ps j)) = true
    · rw [if_pos e1]
      by_cases e2 : (f (j + 1)).1 = true
      · rw [if_pos e2]
        apply ih
        have h2 := hf (j + 1) e2
        have t0 : A.tok (A.ps j) ≠ 0 := fun z => by rw [z, hp] at e1; cases e1
        have h3 := A.tk_s j t0
        rw [List.length_append, List.length_append, List.length_cons, List.length_nil]
        omega
      · rw [if_neg e2]
        intro h; cases h
    · rw [if_neg e1]
      exact fun _ => h
theorem q_rl_f {A : q_A} {j i : Nat} : q_rl A j (false, i, []) := fun h => by cases h
theorem q_par_l (A : q_A) : ∀ n k o j, (k ≠ 7 → q_rl A j (q_par A n k o j)) ∧ ((q_par A n k o j).1 = true → A.ps j + (q_par A n k o j).2.2.length ≤ A.ps (q_par A n k o j).2.1 + 1) := by
  intro n
  induction n with
  | zero => exact fun k o j => ⟨fun _ => q_rl_f, fun h => by cases h⟩
  | succ n ih2 =>
    intro k o j
    have ih : ∀ k o j, k ≠ 7 → q_rl A j (q_par A n k o j) := fun k o j => (ih2 k o j).1
    by_cases k7 : k = 7
    · subst k7
      refine ⟨fun h => absurd rfl h, ?_⟩
      rw [q_par, if_neg (by omega), if_neg (by omega), if_neg (by omega), if_neg (by omega), if_neg (by omega), if_neg (by omega), if_neg (by omega), if_pos rfl]
      by_cases e : (q_par A n 6 o j).1 = true
      · rw [if_pos e]
        intro _
        have h := ih 6 o j (by omega) e
        dsimp only
        rw [List.length_append, List.length_cons, List.length_nil]
        omega
      · rw [if_neg e]
        intro h; cases h
    suffices g : q_rl A j (q_par A (n + 1) k o j) from ⟨fun _ => g, fun h => Nat.le_succ_of_le (g h)⟩
    have lp : ∀ k2 (p : Nat → Bool) N, k2 ≠ 7 → p 0 = false → q_rl A j (if (q_par A n k2 o j).1 = true then q_lpp A (q_par A n k2 o) p N (q_par A n k2 o j).2.1 (q_par A n k2 o j).2.2 else (false, (q_par A n k2 o j).2.1, [])) := by
      intro k2 p N hk hp
      by_cases e : (q_par A n k2 o j).1 = true
      · rw [if_pos e]
        exact q_lpp_l (fun i => ih k2 o i hk) hp j N _ _ (ih k2 o j hk e)
      · rw [if_neg e]; exact q_rl_f
    rw [q_par]
    by_cases k0 : k = 0
    · rw [if_pos k0]; exact lp 1 _ _ (by omega) rfl
    rw [if_neg k0]
    by_cases k1 : k = 1
    · rw [if_pos k1]; exact lp 2 _ _ (by omega) rfl
    rw [if_neg k1]
    by_cases k2 : k = 2
    · rw [if_pos k2]
      by_cases e : A.tok (A.ps j) = 305
      · rw [if_pos e]
        by_cases e2 : 5 ≤ o
        · rw [if_pos e2]; exact q_rl_f
        rw [if_neg e2]
        by_cases e3 : (q_par A n 2 (o + 1) (j + 1)).1 = true
        · rw [if_pos e3]
          intro _
          have h := ih 2 (o + 1) (j + 1) (by omega) e3
          have h3 := A.tk_s j (by omega)
          dsimp only
          rw [List.length_append, List.length_cons, List.length_nil]
          omega
        · rw [if_neg e3]; exact q_rl_f
      · rw [if_neg e]; exact ih 3 o j (by omega)
    rw [if_neg k2]
    by_cases k3 : k = 3
    · rw [if_pos k3]; exact lp 4 _ _ (by omega) rfl
    rw [if_neg k3]
    by_cases k4 : k = 4
    · rw [if_pos k4]; exact lp 5 _ _ (by omega) rfl
    rw [if_neg k4]
    by_cases k5 : k = 5
    · rw [if_pos k5]; exact lp 6 _ _ (by omega) rfl
    rw [if_neg k5]
    by_cases k6 : k = 6
    · rw [if_pos k6]
      by_cases e1 : A.tok (A.ps j) = 2
      · rw [if_pos e1]; exact fun _ => A.tk_s j (by omega)
      rw [if_neg e1]
      by_cases e2 : 306 ≤ A.tok (A.ps j)
      · rw [if_pos e2]; exact fun _ => A.tk_s j (by omega)
      rw [if_neg e2]
      by_cases e3 : 5 ≤ o
      · rw [if_pos e3]; exact q_rl_f
      rw [if_neg e3]
      have tm := A.tk_m j
      by_cases e4 : A.tok (A.ps j) = 45
      · rw [if_pos e4]; exact fun h => by have := (ih2 7 (o + 1) (j + 1)).2 h; have := A.tk_s j (by omega); omega
      rw [if_neg e4]
      by_cases e5 : A.tok (A.ps j) = 40
      · rw [if_pos e5]; exact fun h => by have := ih 8 (o + 1) (j + 1) (by omega) h; omega
      rw [if_neg e5]; exact q_rl_f
    rw [if_neg k6, if_neg k7]
    by_cases e1 : (q_par A n 0 o j).1 = true
    · rw [if_pos e1]
      by_cases e2 : A.tok (A.ps (q_par A n 0 o j).2.1) = 41
      · rw [if_pos e2]
        intro _
        have h := ih 0 o j (by omega) e1
        have := A.tk_m (q_par A n 0 o j).2.1
        dsimp only
        omega
      · rw [if_neg e2]; exact q_rl_f
    · rw [if_neg e1]; exact q_rl_f
/-- the fuel that a kind asks for -/
def q_nd (k o : Nat) : Nat := 9 * (5 - o) + [7, 6, 5, 4, 3, 2, 1, 2, 8].getD k 0
/-- the end of a reading by the class -/
def q_cP (A : q_A) (w : Nat → Nat → Int64) (d : Nat → Nat → Int32) (O : List Nat) (r : Bool × Nat × List Nat) (rr : Option Value) (hh : q_H) : Prop := rr = some (.int (nI (q_tbb r.1))) ∧ ∃ d1, hh = (S0, d1, w) ∧ q_tfw d d1 ∧ d1 33 4 = nI (A.tpl (A.ps r.2.1)) ∧ (r.1 = true → q_tps A d1 r.2.1 (O ++ r.2.2))
/-- a kind's contract -/
def q_ct (A : q_A) (w : Nat → Nat → Int64) (n k o : Nat) : Prop := ∀ d O j, q_Rw A d → q_tps A d j O → O.length + (if k = 7 then 1 else 0) ≤ A.ps j → wM (m_par n k) [.ref 33, .int (nI o)] (S0, d, w) (q_cP A w d O (q_par A n k o j))
section
variable {A : q_A} {d : Nat → Nat → Int32} {w : Nat → Nat → Int64} {Q : Option Value → q_H → Prop}
theorem ct_7 (hO : q_Ok A) {n o : Nat} (ih : q_ct A w n 6 o) : q_ct A w (n + 1) 7 o := by
  intro d O j hR h hl
  rw [if_pos rfl] at hl
  have e : q_par A (n + 1) 7 o j = if (q_par A n 6 o j).1 = true then (true, (q_par A n 6 o j).2.1, (q_par A n 6 o j).2.2 ++ [19]) else (false, (q_par A n 6 o j).2.1, []) := by
    rw [q_par, if_neg (by omega), if_neg (by omega), if_neg (by omega), if_neg (by omega), if_neg (by omega), if_neg (by omega), if_neg (by omega), if_pos rfl]
  rw [e]
  have ln := (q_par_l A n 6 o j).1 (by omega)
  have i1 := ih d O j hR h (by rw [if_neg (by omega)]; omega)
  generalize q_par A n 6 o j = r at *
  obtain ⟨b, j1, C⟩ := r
  show wM (q_meth 2 2 (b_reader_readNegated (m_par n))) _ _ _
  unfold b_reader_readNegated
  (try dsimp only); simp (maxSteps := 1000000) (disch := first | omega | rfl) only [uM_meth, ↓reduceIte, ↓q_pickN, ↓q_pick0, ↓q_pick1, ↓q_pick2, ↓q_pick3, ↓q_pick4, ↓q_pick5, ↓q_pick6, ↓q_pick7, ↓q_pick8, ↓q_pick9, ↓q_pick10, ↓q_pick11, ↓sp_within, ↓sp_in, ↓sp_has, ↓sp_bitsBelow, ↓sp_isSubset, ↓sp_max, ↓wr_x, ↓wr_m, ↓wr_now, ↓wr_kept, ↓wr_reader, ↓wr_draft, ↓wr_mach, ↓wr_sum, ↓wr_lamp, ↓wr_house, ↓wr_label, ↓wr_text, ↓wr_sheet, ↓wr_ask, ↓wr_kask, ↓c_isRooms, ↓c_isRoom, ↓c_isSheet, ↓r_areRooms, ↓r_ones, ↓px_lrA, ↓px_lrB, ↓px_lrH, ↓px_lcmp, ↓c_lotAfter, ↓px_ineg1, ↓px_ineg2, ↓px_isubg, ↓sp_min, ↓c_tellNames, ↓px_skA, ↓px_skG, ↓sp_abs, ↓r_size, ↓ph_x_13, ↓ph_x_14, ↓ph_x_15, ↓ph_x_16, ↓ph_x_17, ↓ph_now_2, ↓ph_now_3, ↓ph_reader_1, ↓ph_m_4, ↓ph_m_7, ↓ph_m_14, ↓ph_m_16, ↓ph_m_22, ↓ph_m_26, ↓ph_m_29, ↓pz_x, ↓pz_m, ↓wr_S1, ↓wr_S2, ↓px_blen2, ↓px_blen1, ↓px_sval2, ↓px_sval1, ↓px_scod2, ↓px_scod1, ↓px_bald2, ↓px_bald1, ↓uT_RetN, ↓px_i2bG, ↓c_len2, ↓c_char2, ↓uX_K, ↓uX_Str, ↓uX_1, ↓uX_2, ↓uA_nil, ↓uA_cons, ↓uX_M, ↓uC_1, ↓uC_2, ↓uC_T, ↓uT_Skip, ↓uT_Seq, ↓uT_2, ↓uT_3, ↓uT_2u, ↓uT_3u, ↓uT_M, ↓uT_Mp, ↓uT_Ret0, ↓uT_Ret, ↓uT_RetZ, ↓uT_RetL, ↓uT_RetR, ↓uT_Sw, ↓uX_Li, ↓uX_Lj, ↓uX_La, ↓uX_If, ↓uX_B, ↓uC_And, ↓uC_Or, ↓uT_If, ↓uT_ite, ↓uT_Sti, ↓uT_Sta, ↓uT_Stl, ↓uT_Inc, ↓uT_Dec, ↓gi_0, ↓gi_s, ↓gj_0, ↓gj_s, ↓ga_0, ↓ga_s, ↓sk_0, ↓sk_i, ↓sk_a, ↓sk_n, ↓sk_j, ↓sk2_0, ↓sk2_i, ↓sk2_a, ↓sk2_n, ↓sk2_j, ↓px_some, ↓px_int, ↓px_ref, ↓px_long, ↓px_iadd, ↓px_imul, ↓px_isub, ↓px_iand, ↓px_ior, ↓px_ixor, ↓px_ishl, ↓px_ishr, ↓px_iushr, ↓px_idiv, ↓px_irem, ↓px_i2l, ↓px_ladd, ↓px_lmul, ↓px_lor, ↓px_land, ↓px_g_x_0, ↓px_g_x_1, ↓px_g_x_2, ↓px_g_x_3, ↓px_g_x_4, ↓px_g_x_5, ↓px_g_x_6, ↓px_g_x_7, ↓px_g_x_8, ↓px_g_x_9, ↓px_g_x_10, ↓px_g_x_11, ↓px_g_x_12, ↓px_p_x_13, ↓px_p_x_14, ↓px_p_x_15, ↓px_p_x_16, ↓px_p_x_17, ↓px_p_x_18, ↓px_g_now_0, ↓px_g_now_1, ↓px_p_now_2, ↓px_p_now_3, ↓px_g_kept_0, ↓px_g_kept_1, ↓px_p_kept_2, ↓px_p_kept_3, ↓px_g_reader_0, ↓px_p_reader_1, ↓px_p_reader_2, ↓px_p_reader_3, ↓px_p_reader_4, ↓px_p_reader_5, ↓px_g_reader_6, ↓px_g_draft_0, ↓px_g_draft_1, ↓px_p_draft_2, ↓px_p_draft_3, ↓px_g_mach_0, ↓px_g_mach_1, ↓px_p_mach_2, ↓px_g_sum_0, ↓px_p_fuse_0, ↓px_p_fuse_1, ↓px_p_fuse_2, ↓px_p_lamp_0, ↓px_p_lamp_1, ↓px_p_lamp_2, ↓px_p_lamp_3, ↓px_p_lamp_4, ↓px_p_lamp_5, ↓px_g_house_0, ↓px_g_house_1, ↓px_p_house_2, ↓px_g_label_0, ↓px_g_label_1, ↓px_p_label_2, ↓px_g_text_0, ↓px_g_text_1, ↓px_p_text_2, ↓px_p_text_3, ↓px_g_sheet_0, ↓px_p_sheet_1, ↓px_p_sheet_2, ↓px_p_ask_0, ↓px_p_ask_1, ↓px_p_ask_2, ↓px_p_ask_3, ↓px_p_ask_4, ↓px_p_kask_0, ↓px_p_kask_1, ↓px_p_kask_2, ↓px_p_kask_3, ↓px_p_kask_4, ↓px_as_dials, ↓px_as_kdials, ↓px_as_bytes, ↓px_as_dsteps, ↓px_as_dends, ↓px_as_mnames, ↓px_as_mstack, ↓px_as_shows, ↓px_as_said, ↓px_as_fuseOf, ↓px_as_feeds, ↓px_as_lfuseOf, ↓px_as_lfeeds, ↓px_as_steps, ↓px_as_ends, ↓px_as_cells, ↓px_as_words, ↓px_ar_fuses, ↓px_ar_lamps, ↓px_ar_houses, ↓px_ar_labels, ↓px_ar_texts, ↓px_ar_sheets, ↓px_ar_asks, ↓px_ar_kasks, ↓px_g_reader_2, ↓px_g_reader_3, ↓px_g_reader_4, ↓px_g_reader_5, ↓px_g_draft_2, ↓px_g_draft_3, ↓px_g_mach_2, ↓px_g_house_2, ↓px_g_text_2, ↓px_g_text_3, ↓px_al_dsteps, ↓px_al_dends, ↓px_al_mnames, ↓px_al_mstack, ↓px_al_shows, ↓px_al_said, ↓px_al_lfeeds, ↓px_al_steps, ↓px_al_words, ↓kW_F hO hR, ↓kW_L hO hR, ↓kW_H hO hR, ↓kW_K hO hR, ↓kW_T hO hR, ↓kW_img hO hR, ↓kW_N hO hR, ↓kW_law hO hR, ↓kW_out hO hR, ↓kW_on hO hR, ↓kW_hour hO hR, ↓kW_slips hO hR, ↓kW_iN hO hR, ↓kW_ilaw hO hR, ↓kW_iout hO hR, ↓kW_ion hO hR, ↓kW_ihour hO hR, ↓kW_islips hO hR, ↓kW_B hO hR, ↓kW_tape hO hR, ↓kW_bears hO hR, ↓kW_times hO hR, ↓kW_lends hO hR, ↓kW_kind hO hR, ↓kW_pow hO hR, ↓kW_room hO hR, ↓kW_sx hO hR, ↓kW_sy hO hR, ↓kW_more hO hR, ↓kW_fed hO hR, ↓kW_feeds hO hR, ↓kW_lab hO hR, ↓kW_year hO hR, ↓kW_ao hO hR, ↓kW_an hO hR, ↓kW_ah hO hR, ↓kW_ar hO hR, ↓kW_az hO hR, ↓kW_io hO hR, ↓kW_inn hO hR, ↓kW_ih hO hR, ↓kW_ir hO hR, ↓kW_iz hO hR, ↓kW_ends hO hR, ↓kW_sort hO hR, ↓kW_size hO hR, ↓kW_cell hO hR, ↓c_isOn hO hR, ↓c_lampsOn hO hR, ↓c_fedLamps hO hR, ↓c_litNow hO hR, ↓c_lampsIn hO hR, ↓c_isHouse hO hR, ↓c_isLamp hO hR, ↓c_isFuse hO hR, ↓c_isLabel hO hR, ↓c_isFuses hO hR, ↓c_amissLamps hO hR, ↓c_missesOf hO hR, ↓c_housesShowing hO hR, ↓c_letHouses hO hR, ↓c_housesFeeding hO hR, ↓c_agreedFuse hO hR, ↓c_agreements hO hR, ↓c_agreementsOver hO hR, ↓c_powerOf hO hR, ↓c_worthiest hO hR, ↓c_textInForce hO hR, ↓c_rowOf hO hR, ↓c_usedSwitches hO hR, ↓c_most0 hO hR, ↓c_most1 hO hR, ↓c_most2 hO hR, ↓c_most3 hO hR, ↓c_isMissing hO hR, ↓c_holds hO hR, ↓c_shWrite hO hR, ↓c_isWithin hO hR, ↓c_isLetter hO hR, ↓c_isDigit hO hR, Option.some.injEq, Value.int.injEq, Value.ref.injEq, Value.long.injEq, exists_eq_left', exists_eq_left, List.getElem?_cons_zero, List.getElem?_cons_succ, decide_eq_true_eq, decide_eq_false_iff_not, q_loc, q_ent, q_wid, q_st, q_st2, List.length_cons, List.length_nil, List.replicate, List.append_nil, List.cons_append, List.nil_append, o_iadd, o_isub, o_imul, o_iand, o_ior, o_ixor, o_ishl, o_ishr, o_iushr, o_ladd, o_lsub, o_lmul, o_land, o_lor, o_lshl, o_lshr, o_lushr, o_lcmp, o_ineg, o_i2l, o_l2i, o_i2b, o_i2s, o_i2c, q_addI, q_mulI, q_nle, q_lt, q_eq, if_true, if_false, true_and, and_true, false_and, and_false, and_self, true_implies, false_implies, implies_true, not_true_eq_false, not_false_eq_true, decide_true, decide_false, Bool.true_eq_false, Bool.false_eq_true, eq_self, reduceCtorEq, false_or, or_false, true_or, or_true, forall_eq, forall_eq', forall_const, Prod.mk.injEq, List.cons.injEq, exists_prop, Bool.decide_eq_true, Bool.decide_eq_false, Classical.not_not, decide_not, Bool.not_eq_true', Bool.not_eq_false', Bool.not_eq_true, Bool.not_eq_false, Nat.add_zero, Nat.zero_add, Nat.mul_zero, Nat.le_refl, Nat.reduceAdd, Nat.reduceMul, q_oor, q_onot, q_d_eq, ite_self, px_some, ne_eq, Nat.not_lt_zero, sl_said, sl_mnames, sl_mstack, Lz_0, Lz_1, Lz_2, Lz_3, Lz_4, Lz_5, Lz_6, Lz_7, Lz_8, Lz_9, Lz_10, Lz_11, Lz_12, Lz_13, Lz_14, Lz_15, Lz_16, Lz_17, Lz_18, Lz_19, Lz_23, Lz_24, Lz_30, Lz_32, Lz_40, Lz_41, Lz_42, Lz_43, Lz_45, Lz_48, Lz_57, Lz_59, Lz_60, Lz_61, Lz_63, Lz_64, Lz_97, Lz_99, Lz_100, Lz_110, Lz_120, Lz_122, Lz_127, Lz_160, Lz_200, Lz_255, Lz_256, Lz_300, Lz_301, Lz_302, Lz_303, Lz_304, Lz_305, Lz_306, Lz_311, Lz_312, Lz_599, Lz_768, Lz_999, Lz_1000, Lz_1023, Lz_1200, Lz_9999, Lz_99999, Lz_100000, n_shl1, n_sub, n_pow1, n_b0, n_b1, n_em1, n_em2, n_em3, n_em4, n_ne, n_ne2, n_nn, n_lneg, n_ltneg, n_negl, n_neglt, n_nt, n10, n01, q_ix_nI, q_inw2, Nat.zero_le, Nat.reduceEqDiff, Nat.reduceLeDiff, Nat.reduceLT, Nat.reduceSub, Nat.reducePow, Nat.reduceDiv, Nat.reduceMod, n_and1, n_or0, n_sub63, n_subB, n_tm, n_tm0, exists_and_left, exists_and_right, n_tm2, n_maxI, Nat.add_sub_cancel, r_x, g_x_0, g_x_1, g_x_2, g_x_3, g_x_4, g_x_5, g_x_6, g_x_7, g_x_8, g_x_9, g_x_10, g_x_11, g_x_12, g_x_13, p_x_13, g_x_14, p_x_14, g_x_15, p_x_15, g_x_16, p_x_16, g_x_17, p_x_17, g_x_18, p_x_18, r_now, g_now_0, g_now_1, g_now_2, p_now_2, g_now_3, p_now_3, r_kept, g_kept_0, g_kept_1, g_kept_2, p_kept_2, g_kept_3, p_kept_3, r_reader, g_reader_0, g_reader_1, p_reader_1, g_reader_2, p_reader_2, g_reader_3, p_reader_3, g_reader_4, p_reader_4, g_reader_5, p_reader_5, g_reader_6, r_draft, g_draft_0, g_draft_1, g_draft_2, p_draft_2, g_draft_3, p_draft_3, r_mach, g_mach_0, g_mach_1, g_mach_2, p_mach_2, r_sum, g_sum_0, r_fuse, g_fuse_0, p_fuse_0, g_fuse_1, p_fuse_1, g_fuse_2, p_fuse_2, r_lamp, g_lamp_0, p_lamp_0, g_lamp_1, p_lamp_1, g_lamp_2, p_lamp_2, g_lamp_3, p_lamp_3, g_lamp_4, p_lamp_4, g_lamp_5, p_lamp_5, r_house, g_house_0, g_house_1, g_house_2, p_house_2, r_label, g_label_0, g_label_1, g_label_2, p_label_2, r_text, g_text_0, g_text_1, g_text_2, p_text_2, g_text_3, p_text_3, r_sheet, g_sheet_0, g_sheet_1, p_sheet_1, g_sheet_2, p_sheet_2, r_ask, g_ask_0, p_ask_0, g_ask_1, p_ask_1, g_ask_2, p_ask_2, g_ask_3, p_ask_3, g_ask_4, p_ask_4, r_kask, g_kask_0, p_kask_0, g_kask_1, p_kask_1, g_kask_2, p_kask_2, g_kask_3, p_kask_3, g_kask_4, p_kask_4, al_dials, as_dials, al_kdials, as_kdials, al_bytes, as_bytes, al_dsteps, as_dsteps, al_dends, as_dends, al_mnames, as_mnames, al_mstack, as_mstack, al_shows, as_shows, al_said, as_said, al_fuseOf, as_fuseOf, al_feeds, as_feeds, al_lfuseOf, as_lfuseOf, al_lfeeds, as_lfeeds, al_steps, as_steps, al_ends, as_ends, al_cells, as_cells, al_words, as_words, ar_fuses, ar_lamps, ar_houses, ar_labels, ar_texts, ar_sheets, ar_asks, ar_kasks]
  refine i1.mono ?_
  rintro rr hh ⟨rfl, d1, rfl, f1, p1, s1⟩
  cases b with
  | false =>
    (try dsimp only); simp (maxSteps := 1000000) (disch := first | omega | rfl) only [show q_tbb false = 0 from rfl, ↓reduceIte, ↓q_pickN, ↓q_pick0, ↓q_pick1, ↓q_pick2, ↓q_pick3, ↓q_pick4, ↓q_pick5, ↓q_pick6, ↓q_pick7, ↓q_pick8, ↓q_pick9, ↓q_pick10, ↓q_pick11, ↓sp_within, ↓sp_in, ↓sp_has, ↓sp_bitsBelow, ↓sp_isSubset, ↓sp_max, ↓wr_x, ↓wr_m, ↓wr_now, ↓wr_kept, ↓wr_reader, ↓wr_draft, ↓wr_mach, ↓wr_sum, ↓wr_lamp, ↓wr_house, ↓wr_label, ↓wr_text, ↓wr_sheet, ↓wr_ask, ↓wr_kask, ↓c_isRooms, ↓c_isRoom, ↓c_isSheet, ↓r_areRooms, ↓r_ones, ↓px_lrA, ↓px_lrB, ↓px_lrH, ↓px_lcmp, ↓c_lotAfter, ↓px_ineg1, ↓px_ineg2, ↓px_isubg, ↓sp_min, ↓c_tellNames, ↓px_skA, ↓px_skG, ↓sp_abs, ↓r_size, ↓ph_x_13, ↓ph_x_14, ↓ph_x_15, ↓ph_x_16, ↓ph_x_17, ↓ph_now_2, ↓ph_now_3, ↓ph_reader_1, ↓ph_m_4, ↓ph_m_7, ↓ph_m_14, ↓ph_m_16, ↓ph_m_22, ↓ph_m_26, ↓ph_m_29, ↓pz_x, ↓pz_m, ↓wr_S1, ↓wr_S2, ↓px_blen2, ↓px_blen1, ↓px_sval2, ↓px_sval1, ↓px_scod2, ↓px_scod1, ↓px_bald2, ↓px_bald1, ↓uT_RetN, ↓px_i2bG, ↓c_len2, ↓c_char2, ↓uX_K, ↓uX_Str, ↓uX_1, ↓uX_2, ↓uA_nil, ↓uA_cons, ↓uX_M, ↓uC_1, ↓uC_2, ↓uC_T, ↓uT_Skip, ↓uT_Seq, ↓uT_2, ↓uT_3, ↓uT_2u, ↓uT_3u, ↓uT_M, ↓uT_Mp, ↓uT_Ret0, ↓uT_Ret, ↓uT_RetZ, ↓uT_RetL, ↓uT_RetR, ↓uT_Sw, ↓uX_Li, ↓uX_Lj, ↓uX_La, ↓uX_If, ↓uX_B, ↓uC_And, ↓uC_Or, ↓uT_If, ↓uT_ite, ↓uT_Sti, ↓uT_Sta, ↓uT_Stl, ↓uT_Inc, ↓uT_Dec, ↓gi_0, ↓gi_s, ↓gj_0, ↓gj_s, ↓ga_0, ↓ga_s, ↓sk_0, ↓sk_i, ↓sk_a, ↓sk_n, ↓sk_j, ↓sk2_0, ↓sk2_i, ↓sk2_a, ↓sk2_n, ↓sk2_j, ↓px_some, ↓px_int, ↓px_ref, ↓px_long, ↓px_iadd, ↓px_imul, ↓px_isub, ↓px_iand, ↓px_ior, ↓px_ixor, ↓px_ishl, ↓px_ishr, ↓px_iushr, ↓px_idiv, ↓px_irem, ↓px_i2l, ↓px_ladd, ↓px_lmul, ↓px_lor, ↓px_land, Option.some.injEq, Value.int.injEq, Value.ref.injEq, Value.long.injEq, exists_eq_left', exists_eq_left, List.getElem?_cons_zero, List.getElem?_cons_succ, decide_eq_true_eq, decide_eq_false_iff_not, q_loc, q_ent, q_wid, q_st, q_st2, List.length_cons, List.length_nil, List.replicate, List.append_nil, List.cons_append, List.nil_append, o_iadd, o_isub, o_imul, o_iand, o_ior, o_ixor, o_ishl, o_ishr, o_iushr, o_ladd, o_lsub, o_lmul, o_land, o_lor, o_lshl, o_lshr, o_lushr, o_lcmp, o_ineg, o_i2l, o_l2i, o_i2b, o_i2s, o_i2c, q_addI, q_mulI, q_nle, q_lt, q_eq, if_true, if_false, true_and, and_true, false_and, and_false, and_self, true_implies, false_implies, implies_true, not_true_eq_false, not_false_eq_true, decide_true, decide_false, Bool.true_eq_false, Bool.false_eq_true, eq_self, reduceCtorEq, false_or, or_false, true_or, or_true, forall_eq, forall_eq', forall_const, Prod.mk.injEq, List.cons.injEq, exists_prop, Bool.decide_eq_true, Bool.decide_eq_false, Classical.not_not, decide_not, Bool.not_eq_true', Bool.not_eq_false', Bool.not_eq_true, Bool.not_eq_false, Nat.add_zero, Nat.zero_add, Nat.mul_zero, Nat.le_refl, Nat.reduceAdd, Nat.reduceMul, q_oor, q_onot, q_d_eq, ite_self, px_some, ne_eq, Nat.not_lt_zero, sl_said, sl_mnames, sl_mstack, Lz_0, Lz_1, Lz_2, Lz_3, Lz_4, Lz_5, Lz_6, Lz_7, Lz_8, Lz_9, Lz_10, Lz_11, Lz_12, Lz_13, Lz_14, Lz_15, Lz_16, Lz_17, Lz_18, Lz_19, Lz_23, Lz_24, Lz_30, Lz_32, Lz_40, Lz_41, Lz_42, Lz_43, Lz_45, Lz_48, Lz_57, Lz_59, Lz_60, Lz_61, Lz_63, Lz_64, Lz_97, Lz_99, Lz_100, Lz_110, Lz_120, Lz_122, Lz_127, Lz_160, Lz_200, Lz_255, Lz_256, Lz_300, Lz_301, Lz_302, Lz_303, Lz_304, Lz_305, Lz_306, Lz_311, Lz_312, Lz_599, Lz_768, Lz_999, Lz_1000, Lz_1023, Lz_1200, Lz_9999, Lz_99999, Lz_100000, n_shl1, n_sub, n_pow1, n_b0, n_b1, n_em1, n_em2, n_em3, n_em4, n_ne, n_ne2, n_nn, n_lneg, n_ltneg, n_negl, n_neglt, n_nt, n10, n01, q_ix_nI, q_inw2, Nat.zero_le, Nat.reduceEqDiff, Nat.reduceLeDiff, Nat.reduceLT, Nat.reduceSub, Nat.reducePow, Nat.reduceDiv, Nat.reduceMod, n_and1, n_or0, n_sub63, n_subB, n_tm, n_tm0, exists_and_left, exists_and_right, n_tm2, n_maxI, Nat.add_sub_cancel]
    exact ⟨rfl, d1, rfl, f1, p1, fun h => by cases h⟩
  | true =>
    have s2 := s1 rfl
    have hl2 := ln rfl
    have pB := A.ps_B j1
    dsimp only at s2 hl2 p1
    have hR1 := q_Rw.fw hO hR f1
    have l5 := s2.2.2.2.2.1
    have oB := hO.B
    have lA : (O ++ C).length < 160 := by rw [List.length_append]; omega
    have f2 : q_tfw d1 (q_d (q_d d1 36 (O ++ C).length (q_stp 19)) 35 2 (nI ((O ++ C).length + 1))) := fun o k x => by rw [q_d_ne (by omega), q_d_ne (by omega)]
    have s3 := s2.add (c := 19) (by rw [List.length_append]; omega)
    (try dsimp only); simp (maxSteps := 1000000) (disch := first | omega | rfl) only [show q_tbb true = 1 from rfl, ↓ct_add hO hR1 l5 lA, ↓reduceIte, ↓q_pickN, ↓q_pick0, ↓q_pick1, ↓q_pick2, ↓q_pick3, ↓q_pick4, ↓q_pick5, ↓q_pick6, ↓q_pick7, ↓q_pick8, ↓q_pick9, ↓q_pick10, ↓q_pick11, ↓sp_within, ↓sp_in, ↓sp_has, ↓sp_bitsBelow, ↓sp_isSubset, ↓sp_max, ↓wr_x, ↓wr_m, ↓wr_now, ↓wr_kept, ↓wr_reader, ↓wr_draft, ↓wr_mach, ↓wr_sum, ↓wr_lamp, ↓wr_house, ↓wr_label, ↓wr_text, ↓wr_sheet, ↓wr_ask, ↓wr_kask, ↓c_isRooms, ↓c_isRoom, ↓c_isSheet, ↓r_areRooms, ↓r_ones, ↓px_lrA, ↓px_lrB, ↓px_lrH, ↓px_lcmp, ↓c_lotAfter, ↓px_ineg1, ↓px_ineg2, ↓px_isubg, ↓sp_min, ↓c_tellNames, ↓px_skA, ↓px_skG, ↓sp_abs, ↓r_size, ↓ph_x_13, ↓ph_x_14, ↓ph_x_15, ↓ph_x_16, ↓ph_x_17, ↓ph_now_2, ↓ph_now_3, ↓ph_reader_1, ↓ph_m_4, ↓ph_m_7, ↓ph_m_14, ↓ph_m_16, ↓ph_m_22, ↓ph_m_26, ↓ph_m_29, ↓pz_x, ↓pz_m, ↓wr_S1, ↓wr_S2, ↓px_blen2, ↓px_blen1, ↓px_sval2, ↓px_sval1, ↓px_scod2, ↓px_scod1, ↓px_bald2, ↓px_bald1, ↓uT_RetN, ↓px_i2bG, ↓c_len2, ↓c_char2, ↓uX_K, ↓uX_Str, ↓uX_1, ↓uX_2, ↓uA_nil, ↓uA_cons, ↓uX_M, ↓uC_1, ↓uC_2, ↓uC_T, ↓uT_Skip, ↓uT_Seq, ↓uT_2, ↓uT_3, ↓uT_2u, ↓uT_3u, ↓uT_M, ↓uT_Mp, ↓uT_Ret0, ↓uT_Ret, ↓uT_RetZ, ↓uT_RetL, ↓uT_RetR, ↓uT_Sw, ↓uX_Li, ↓uX_Lj, ↓uX_La, ↓uX_If, ↓uX_B, ↓uC_And, ↓uC_Or, ↓uT_If, ↓uT_ite, ↓uT_Sti, ↓uT_Sta, ↓uT_Stl, ↓uT_Inc, ↓uT_Dec, ↓gi_0, ↓gi_s, ↓gj_0, ↓gj_s, ↓ga_0, ↓ga_s, ↓sk_0, ↓sk_i, ↓sk_a, ↓sk_n, ↓sk_j, ↓sk2_0, ↓sk2_i, ↓sk2_a, ↓sk2_n, ↓sk2_j, ↓px_some, ↓px_int, ↓px_ref, ↓px_long, ↓px_iadd, ↓px_imul, ↓px_isub, ↓px_iand, ↓px_ior, ↓px_ixor, ↓px_ishl, ↓px_ishr, ↓px_iushr, ↓px_idiv, ↓px_irem, ↓px_i2l, ↓px_ladd, ↓px_lmul, ↓px_lor, ↓px_land, ↓px_g_x_0, ↓px_g_x_1, ↓px_g_x_2, ↓px_g_x_3, ↓px_g_x_4, ↓px_g_x_5, ↓px_g_x_6, ↓px_g_x_7, ↓px_g_x_8, ↓px_g_x_9, ↓px_g_x_10, ↓px_g_x_11, ↓px_g_x_12, ↓px_p_x_13, ↓px_p_x_14, ↓px_p_x_15, ↓px_p_x_16, ↓px_p_x_17, ↓px_p_x_18, ↓px_g_now_0, ↓px_g_now_1, ↓px_p_now_2, ↓px_p_now_3, ↓px_g_kept_0, ↓px_g_kept_1, ↓px_p_kept_2, ↓px_p_kept_3, ↓px_g_reader_0, ↓px_p_reader_1, ↓px_p_reader_2, ↓px_p_reader_3, ↓px_p_reader_4, ↓px_p_reader_5, ↓px_g_reader_6, ↓px_g_draft_0, ↓px_g_draft_1, ↓px_p_draft_2, ↓px_p_draft_3, ↓px_g_mach_0, ↓px_g_mach_1, ↓px_p_mach_2, ↓px_g_sum_0, ↓px_p_fuse_0, ↓px_p_fuse_1, ↓px_p_fuse_2, ↓px_p_lamp_0, ↓px_p_lamp_1, ↓px_p_lamp_2, ↓px_p_lamp_3, ↓px_p_lamp_4, ↓px_p_lamp_5, ↓px_g_house_0, ↓px_g_house_1, ↓px_p_house_2, ↓px_g_label_0, ↓px_g_label_1, ↓px_p_label_2, ↓px_g_text_0, ↓px_g_text_1, ↓px_p_text_2, ↓px_p_text_3, ↓px_g_sheet_0, ↓px_p_sheet_1, ↓px_p_sheet_2, ↓px_p_ask_0, ↓px_p_ask_1, ↓px_p_ask_2, ↓px_p_ask_3, ↓px_p_ask_4, ↓px_p_kask_0, ↓px_p_kask_1, ↓px_p_kask_2, ↓px_p_kask_3, ↓px_p_kask_4, ↓px_as_dials, ↓px_as_kdials, ↓px_as_bytes, ↓px_as_dsteps, ↓px_as_dends, ↓px_as_mnames, ↓px_as_mstack, ↓px_as_shows, ↓px_as_said, ↓px_as_fuseOf, ↓px_as_feeds, ↓px_as_lfuseOf, ↓px_as_lfeeds, ↓px_as_steps, ↓px_as_ends, ↓px_as_cells, ↓px_as_words, ↓px_ar_fuses, ↓px_ar_lamps, ↓px_ar_houses, ↓px_ar_labels, ↓px_ar_texts, ↓px_ar_sheets, ↓px_ar_asks, ↓px_ar_kasks, ↓px_g_reader_2, ↓px_g_reader_3, ↓px_g_reader_4, ↓px_g_reader_5, ↓px_g_draft_2, ↓px_g_draft_3, ↓px_g_mach_2, ↓px_g_house_2, ↓px_g_text_2, ↓px_g_text_3, ↓px_al_dsteps, ↓px_al_dends, ↓px_al_mnames, ↓px_al_mstack, ↓px_al_shows, ↓px_al_said, ↓px_al_lfeeds, ↓px_al_steps, ↓px_al_words, ↓kW_F hO hR1, ↓kW_L hO hR1, ↓kW_H hO hR1, ↓kW_K hO hR1, ↓kW_T hO hR1, ↓kW_img hO hR1, ↓kW_N hO hR1, ↓kW_law hO hR1, ↓kW_out hO hR1, ↓kW_on hO hR1, ↓kW_hour hO hR1, ↓kW_slips hO hR1, ↓kW_iN hO hR1, ↓kW_ilaw hO hR1, ↓kW_iout hO hR1, ↓kW_ion hO hR1, ↓kW_ihour hO hR1, ↓kW_islips hO hR1, ↓kW_B hO hR1, ↓kW_tape hO hR1, ↓kW_bears hO hR1, ↓kW_times hO hR1, ↓kW_lends hO hR1, ↓kW_kind hO hR1, ↓kW_pow hO hR1, ↓kW_room hO hR1, ↓kW_sx hO hR1, ↓kW_sy hO hR1, ↓kW_more hO hR1, ↓kW_fed hO hR1, ↓kW_feeds hO hR1, ↓kW_lab hO hR1, ↓kW_year hO hR1, ↓kW_ao hO hR1, ↓kW_an hO hR1, ↓kW_ah hO hR1, ↓kW_ar hO hR1, ↓kW_az hO hR1, ↓kW_io hO hR1, ↓kW_inn hO hR1, ↓kW_ih hO hR1, ↓kW_ir hO hR1, ↓kW_iz hO hR1, ↓kW_ends hO hR1, ↓kW_sort hO hR1, ↓kW_size hO hR1, ↓kW_cell hO hR1, ↓c_isOn hO hR1, ↓c_lampsOn hO hR1, ↓c_fedLamps hO hR1, ↓c_litNow hO hR1, ↓c_lampsIn hO hR1, ↓c_isHouse hO hR1, ↓c_isLamp hO hR1, ↓c_isFuse hO hR1, ↓c_isLabel hO hR1, ↓c_isFuses hO hR1, ↓c_amissLamps hO hR1, ↓c_missesOf hO hR1, ↓c_housesShowing hO hR1, ↓c_letHouses hO hR1, ↓c_housesFeeding hO hR1, ↓c_agreedFuse hO hR1, ↓c_agreements hO hR1, ↓c_agreementsOver hO hR1, ↓c_powerOf hO hR1, ↓c_worthiest hO hR1, ↓c_textInForce hO hR1, ↓c_rowOf hO hR1, ↓c_usedSwitches hO hR1, ↓c_most0 hO hR1, ↓c_most1 hO hR1, ↓c_most2 hO hR1, ↓c_most3 hO hR1, ↓c_isMissing hO hR1, ↓c_holds hO hR1, ↓c_shWrite hO hR1, ↓c_isWithin hO hR1, ↓c_isLetter hO hR1, ↓c_isDigit hO hR1, Option.some.injEq, Value.int.injEq, Value.ref.injEq, Value.long.injEq, exists_eq_left', exists_eq_left, List.getElem?_cons_zero, List.getElem?_cons_succ, decide_eq_true_eq, decide_eq_false_iff_not, q_loc, q_ent, q_wid, q_st, q_st2, List.length_cons, List.length_nil, List.replicate, List.append_nil, List.cons_append, List.nil_append, o_iadd, o_isub, o_imul, o_iand, o_ior, o_ixor, o_ishl, o_ishr, o_iushr, o_ladd, o_lsub, o_lmul, o_land, o_lor, o_lshl, o_lshr, o_lushr, o_lcmp, o_ineg, o_i2l, o_l2i, o_i2b, o_i2s, o_i2c, q_addI, q_mulI, q_nle, q_lt, q_eq, if_true, if_false, true_and, and_true, false_and, and_false, and_self, true_implies, false_implies, implies_true, not_true_eq_false, not_false_eq_true, decide_true, decide_false, Bool.true_eq_false, Bool.false_eq_true, eq_self, reduceCtorEq, false_or, or_false, true_or, or_true, forall_eq, forall_eq', forall_const, Prod.mk.injEq, List.cons.injEq, exists_prop, Bool.decide_eq_true, Bool.decide_eq_false, Classical.not_not, decide_not, Bool.not_eq_true', Bool.not_eq_false', Bool.not_eq_true, Bool.not_eq_false, Nat.add_zero, Nat.zero_add, Nat.mul_zero, Nat.le_refl, Nat.reduceAdd, Nat.reduceMul, q_oor, q_onot, q_d_eq, ite_self, px_some, ne_eq, Nat.not_lt_zero, sl_said, sl_mnames, sl_mstack, Lz_0, Lz_1, Lz_2, Lz_3, Lz_4, Lz_5, Lz_6, Lz_7, Lz_8, Lz_9, Lz_10, Lz_11, Lz_12, Lz_13, Lz_14, Lz_15, Lz_16, Lz_17, Lz_18, Lz_19, Lz_23, Lz_24, Lz_30, Lz_32, Lz_40, Lz_41, Lz_42, Lz_43, Lz_45, Lz_48, Lz_57, Lz_59, Lz_60, Lz_61, Lz_63, Lz_64, Lz_97, Lz_99, Lz_100, Lz_110, Lz_120, Lz_122, Lz_127, Lz_160, Lz_200, Lz_255, Lz_256, Lz_300, Lz_301, Lz_302, Lz_303, Lz_304, Lz_305, Lz_306, Lz_311, Lz_312, Lz_599, Lz_768, Lz_999, Lz_1000, Lz_1023, Lz_1200, Lz_9999, Lz_99999, Lz_100000, n_shl1, n_sub, n_pow1, n_b0, n_b1, n_em1, n_em2, n_em3, n_em4, n_ne, n_ne2, n_nn, n_lneg, n_ltneg, n_negl, n_neglt, n_nt, n10, n01, q_ix_nI, q_inw2, Nat.zero_le, Nat.reduceEqDiff, Nat.reduceLeDiff, Nat.reduceLT, Nat.reduceSub, Nat.reducePow, Nat.reduceDiv, Nat.reduceMod, n_and1, n_or0, n_sub63, n_subB, n_tm, n_tm0, exists_and_left, exists_and_right, n_tm2, n_maxI, Nat.add_sub_cancel, r_x, g_x_0, g_x_1, g_x_2, g_x_3, g_x_4, g_x_5, g_x_6, g_x_7, g_x_8, g_x_9, g_x_10, g_x_11, g_x_12, g_x_13, p_x_13, g_x_14, p_x_14, g_x_15, p_x_15, g_x_16, p_x_16, g_x_17, p_x_17, g_x_18, p_x_18, r_now, g_now_0, g_now_1, g_now_2, p_now_2, g_now_3, p_now_3, r_kept, g_kept_0, g_kept_1, g_kept_2, p_kept_2, g_kept_3, p_kept_3, r_reader, g_reader_0, g_reader_1, p_reader_1, g_reader_2, p_reader_2, g_reader_3, p_reader_3, g_reader_4, p_reader_4, g_reader_5, p_reader_5, g_reader_6, r_draft, g_draft_0, g_draft_1, g_draft_2, p_draft_2, g_draft_3, p_draft_3, r_mach, g_mach_0, g_mach_1, g_mach_2, p_mach_2, r_sum, g_sum_0, r_fuse, g_fuse_0, p_fuse_0, g_fuse_1, p_fuse_1, g_fuse_2, p_fuse_2, r_lamp, g_lamp_0, p_lamp_0, g_lamp_1, p_lamp_1, g_lamp_2, p_lamp_2, g_lamp_3, p_lamp_3, g_lamp_4, p_lamp_4, g_lamp_5, p_lamp_5, r_house, g_house_0, g_house_1, g_house_2, p_house_2, r_label, g_label_0, g_label_1, g_label_2, p_label_2, r_text, g_text_0, g_text_1, g_text_2, p_text_2, g_text_3, p_text_3, r_sheet, g_sheet_0, g_sheet_1, p_sheet_1, g_sheet_2, p_sheet_2, r_ask, g_ask_0, p_ask_0, g_ask_1, p_ask_1, g_ask_2, p_ask_2, g_ask_3, p_ask_3, g_ask_4, p_ask_4, r_kask, g_kask_0, p_kask_0, g_kask_1, p_kask_1, g_kask_2, p_kask_2, g_kask_3, p_kask_3, g_kask_4, p_kask_4, al_dials, as_dials, al_kdials, as_kdials, al_bytes, as_bytes, al_dsteps, as_dsteps, al_dends, as_dends, al_mnames, as_mnames, al_mstack, as_mstack, al_shows, as_shows, al_said, as_said, al_fuseOf, as_fuseOf, al_feeds, as_feeds, al_lfuseOf, as_lfuseOf, al_lfeeds, as_lfeeds, al_steps, as_steps, al_ends, as_ends, al_cells, as_cells, al_words, as_words, ar_fuses, ar_lamps, ar_houses, ar_labels, ar_texts, ar_sheets, ar_asks, ar_kasks]
    exact ⟨rfl, _, rfl, f1.tr f2, by (repeat (first | rw [q_d_eq] | rw [q_d_ne (by omega)])); exact p1, fun _ => by rw [← List.append_assoc]; exact s3⟩
end
