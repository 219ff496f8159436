/-! TWO SIDES: a call's contract on each, and what they give together; receivers; literal places (written by wip/gen/two.py) -/
theorem q_Rw.lo {A : q_A} {d d2 : Nat → Nat → Int32} (ok : q_Ok A) (hh : q_Rw A d) (e : ∀ o k, o < 135 → d2 o k = d o k) : q_Rw A d2 := by
  have oF := ok.F; have oL := ok.L; have oH := ok.H; have oK := ok.K; have oT := ok.T; have oB := ok.B
  refine ⟨?_, ?_, ?_, ?_, ?_, ?_, ?_, ?_, ?_, ?_, ?_, ?_, ?_, ?_, ?_, ?_, ?_, ?_, ?_, ?_, ?_, ?_, ?_, ?_, ?_, ?_, ?_, ?_, ?_, ?_, ?_, ?_, ?_, ?_, ?_, ?_, ?_, ?_, ?_, ?_, ?_, ?_, ?_, ?_, ?_, ?_, ?_, ?_, ?_⟩
  · rw [e _ _ (by omega)]; exact hh.F
  · rw [e _ _ (by omega)]; exact hh.L
  · rw [e _ _ (by omega)]; exact hh.H
  · rw [e _ _ (by omega)]; exact hh.K
  · rw [e _ _ (by omega)]; exact hh.T
  · rw [e _ _ (by omega)]; exact hh.img
  · rw [e _ _ (by omega)]; exact hh.N
  · rw [e _ _ (by omega)]; exact hh.law
  · rw [e _ _ (by omega)]; exact hh.out
  · rw [e _ _ (by omega)]; exact hh.on
  · rw [e _ _ (by omega)]; exact hh.hour
  · rw [e _ _ (by omega)]; exact hh.slips
  · rw [e _ _ (by omega)]; exact hh.iN
  · rw [e _ _ (by omega)]; exact hh.ilaw
  · rw [e _ _ (by omega)]; exact hh.iout
  · rw [e _ _ (by omega)]; exact hh.ion
  · rw [e _ _ (by omega)]; exact hh.ihour
  · rw [e _ _ (by omega)]; exact hh.islips
  · rw [e _ _ (by omega)]; exact hh.B
  · intro i h0; rw [e _ _ (by omega)]; exact hh.tape _ h0
  · intro i h0; rw [e _ _ (by omega)]; exact hh.bears _ h0
  · intro i h0; rw [e _ _ (by omega)]; exact hh.times _ h0
  · intro i h0; rw [e _ _ (by omega)]; exact hh.lends _ h0
  · intro l h0; rw [e _ _ (by omega)]; exact hh.kind _ h0
  · intro l h0; rw [e _ _ (by omega)]; exact hh.pow _ h0
  · intro l h0; rw [e _ _ (by omega)]; exact hh.room _ h0
  · intro l h0; rw [e _ _ (by omega)]; exact hh.sx _ h0
  · intro l h0; rw [e _ _ (by omega)]; exact hh.sy _ h0
  · intro l h0; rw [e _ _ (by omega)]; exact hh.more _ h0
  · intro h l h0 h1; rw [e _ _ (by omega)]; exact hh.fed _ _ h0 h1
  · intro h f h0 h1; rw [e _ _ (by omega)]; exact hh.feeds _ _ h0 h1
  · intro h f h0 h1 h2; rw [e _ _ (by omega)]; exact hh.feeds0 _ _ h0 h1 h2
  · intro k l h0 h1; rw [e _ _ (by omega)]; exact hh.lab _ _ h0 h1
  · intro k h0; rw [e _ _ (by omega)]; exact hh.year _ h0
  · intro k h0; rw [e _ _ (by omega)]; exact hh.ao _ h0
  · intro k h0; rw [e _ _ (by omega)]; exact hh.an _ h0
  · intro k h0; rw [e _ _ (by omega)]; exact hh.ah _ h0
  · intro k h0; rw [e _ _ (by omega)]; exact hh.ar _ h0
  · intro k h0; rw [e _ _ (by omega)]; exact hh.az _ h0
  · intro k h0; rw [e _ _ (by omega)]; exact hh.io _ h0
  · intro k h0; rw [e _ _ (by omega)]; exact hh.inn _ h0
  · intro k h0; rw [e _ _ (by omega)]; exact hh.ih _ h0
  · intro k h0; rw [e _ _ (by omega)]; exact hh.ir _ h0
  · intro k h0; rw [e _ _ (by omega)]; exact hh.iz _ h0
  · intro t p h0 h1; rw [e _ _ (by omega)]; exact hh.ends _ _ h0 h1
  · intro t p i h0 h1 h2; rw [e _ _ (by omega)]; exact hh.stp _ _ _ h0 h1 h2
  · intro s h0; rw [e _ _ (by omega)]; exact hh.sort _ h0
  · intro s h0; rw [e _ _ (by omega)]; exact hh.size _ h0
  · intro s i h0 h1; rw [e _ _ (by omega)]; exact hh.cell _ _ h0 h1
theorem q_Rr.hi {A : q_A} {d d2 : Nat → Nat → Int32} (ok : q_Ok A) (hh : q_Rr A d) (e : ∀ o k, 135 ≤ o → d2 o k = d o k) : q_Rr A d2 := by
  have oF := ok.F; have oL := ok.L; have oH := ok.H; have oK := ok.K; have oT := ok.T; have oB := ok.B
  refine ⟨?_, ?_, ?_, ?_, ?_, ?_, ?_, ?_, ?_, ?_, ?_, ?_, ?_, ?_, ?_, ?_, ?_, ?_, ?_, ?_, ?_, ?_, ?_, ?_, ?_, ?_, ?_, ?_, ?_, ?_, ?_, ?_, ?_, ?_, ?_, ?_, ?_, ?_, ?_, ?_, ?_, ?_, ?_, ?_, ?_, ?_⟩
  · rw [e _ _ (by omega)]; exact hh.out
  · rw [e _ _ (by omega)]; exact hh.on
  · rw [e _ _ (by omega)]; exact hh.hour
  · rw [e _ _ (by omega)]; exact hh.slips
  · rw [e _ _ (by omega)]; exact hh.F
  · rw [e _ _ (by omega)]; exact hh.L
  · rw [e _ _ (by omega)]; exact hh.H
  · rw [e _ _ (by omega)]; exact hh.N
  · rw [e _ _ (by omega)]; exact hh.K
  · rw [e _ _ (by omega)]; exact hh.B
  · rw [e _ _ (by omega)]; exact hh.T
  · rw [e _ _ (by omega)]; exact hh.law
  · rw [e _ _ (by omega)]; exact hh.img
  · rw [e _ _ (by omega)]; exact hh.iout
  · rw [e _ _ (by omega)]; exact hh.ion
  · rw [e _ _ (by omega)]; exact hh.ihour
  · rw [e _ _ (by omega)]; exact hh.islips
  · rw [e _ _ (by omega)]; exact hh.iN
  · rw [e _ _ (by omega)]; exact hh.ilaw
  · intro i h0; rw [e _ _ (by omega)]; exact hh.bears _ h0
  · intro i h0; rw [e _ _ (by omega)]; exact hh.times _ h0
  · intro l h0; rw [e _ _ (by omega)]; exact hh.kind _ h0
  · intro l h0; rw [e _ _ (by omega)]; exact hh.pow _ h0
  · intro l h0; rw [e _ _ (by omega)]; exact hh.room _ h0
  · intro l h0; rw [e _ _ (by omega)]; exact hh.sx _ h0
  · intro l h0; rw [e _ _ (by omega)]; exact hh.sy _ h0
  · intro l h0; rw [e _ _ (by omega)]; exact hh.more _ h0
  · intro h l h0 h1; rw [e _ _ (by omega)]; exact hh.fed _ _ h0 h1
  · intro k h0; rw [e _ _ (by omega)]; exact hh.ao _ h0
  · intro k h0; rw [e _ _ (by omega)]; exact hh.an _ h0
  · intro k h0; rw [e _ _ (by omega)]; exact hh.ah _ h0
  · intro k h0; rw [e _ _ (by omega)]; exact hh.ar _ h0
  · intro k h0; rw [e _ _ (by omega)]; exact hh.az _ h0
  · intro k h0; rw [e _ _ (by omega)]; exact hh.year _ h0
  · intro k l h0 h1; rw [e _ _ (by omega)]; exact hh.lab _ _ h0 h1
  · intro i h0; rw [e _ _ (by omega)]; exact hh.tape _ h0
  · intro t p i h0 h1 h2; rw [e _ _ (by omega)]; exact hh.cod _ _ _ h0 h1 h2
  · intro t p h0 h1; rw [e _ _ (by omega)]; exact hh.starts _ _ h0 h1
  · intro k h0; rw [e _ _ (by omega)]; exact hh.io _ h0
  · intro k h0; rw [e _ _ (by omega)]; exact hh.inn _ h0
  · intro k h0; rw [e _ _ (by omega)]; exact hh.ih _ h0
  · intro k h0; rw [e _ _ (by omega)]; exact hh.ir _ h0
  · intro k h0; rw [e _ _ (by omega)]; exact hh.iz _ h0
  · intro s h0; rw [e _ _ (by omega)]; exact hh.sort _ h0
  · intro s h0; rw [e _ _ (by omega)]; exact hh.size _ h0
  · intro s i h0 h1; rw [e _ _ (by omega)]; exact hh.cell _ _ h0 h1
def cW (m : q_M) (as : List Value) (A A' : q_A) (v : Value) : Prop := ∀ d w, q_Rw A d → wM m (.ref 0 :: as) (S0, d, w) (fun r h => r = some v ∧ ∃ d1 w1, h = (S0, d1, w1) ∧ (∀ o k, 135 ≤ o → d1 o k = d o k) ∧ q_Rw A' d1 ∧ ∀ i, w1 163 i = w 163 i)
def cR (m : q_M) (as : List Value) (A A' : q_A) (v : Value) : Prop := ∀ d w, q_Rr A d → q_Rl w → wM m (.ref 135 :: as) (S0, d, w) (fun r h => r = some v ∧ ∃ d1, h = (S0, d1, w) ∧ (∀ o k, o < 135 → d1 o k = d o k) ∧ q_Rr A' d1)
theorem cW_pure {m : q_M} {as : List Value} {A : q_A} {v : Value} (h : ∀ d w (Q : Option Value → q_H → Prop), q_Rw A d → (wM m (.ref 0 :: as) (S0, d, w) Q ↔ Q (some v) (S0, d, w))) : cW m as A A v := fun d w hR => (h d w _ hR).mpr ⟨rfl, d, w, rfl, fun _ _ _ => rfl, hR, fun _ => rfl⟩
theorem cR_pure {m : q_M} {as : List Value} {A : q_A} {v : Value} (h : ∀ d w (Q : Option Value → q_H → Prop), q_Rr A d → (wM m (.ref 135 :: as) (S0, d, w) Q ↔ Q (some v) (S0, d, w))) : cR m as A A v := fun d w hR _ => (h d w _ hR).mpr ⟨rfl, d, rfl, fun _ _ _ => rfl, hR⟩
def q_Inv (d : Nat → Nat → Int32) (w : Nat → Nat → Int64) : Prop := ∃ A, q_J A d w
theorem q_two {mw mr : q_M} {as : List Value} {A A' : q_A} {v : Value} {d : Nat → Nat → Int32} {w : Nat → Nat → Int64} (hJ : q_J A d w) (hO : q_Ok A') (hw : cW mw as A A' v) (hr : cR mr as A A' v) : ∃ d1 w1 d2 w2, mw (.ref 0 :: as) (S0, d, w) = some (some v, (S0, d1, w1)) ∧ mr (.ref 135 :: as) (S0, d1, w1) = some (some v, (S0, d2, w2)) ∧ q_Inv d2 w2 := by
  obtain ⟨r, h, e1, rfl, d1, w1, rfl, f1, k1, l1⟩ := hw d w hJ.cw
  have k2 : q_Rr A d1 := hJ.cr.hi hJ.ok f1
  have k3 : q_Rl w1 := fun i hi => (l1 i).trans (hJ.cl i hi)
  obtain ⟨r, h, e2, rfl, d2, rfl, f2, k4⟩ := hr d1 w1 k2 k3
  exact ⟨d1, w1, d2, w1, e1, e2, A', hO, k1.lo hO f2, k4, k3⟩
theorem q_op1 {mw mr : q_M} {n : Nat} (H : ∀ (as : List Int32), as.length = n → ∀ A, q_Ok A → ∃ A' v, q_Ok A' ∧ cW mw (as.map Value.int) A A' (.int v) ∧ cR mr (as.map Value.int) A A' (.int v)) : q_opI q_Inv mw mr n := by
  rintro as hl d w ⟨A, hJ⟩
  obtain ⟨A', v, hO, hw, hr⟩ := H as hl A hJ.ok
  obtain ⟨d1, w1, d2, w2, z⟩ := q_two hJ hO hw hr
  exact ⟨v, d1, w1, d2, w2, z⟩
theorem q_opl {mw mr : q_M} {n : Nat} (H : ∀ (as : List Int32), as.length = n → ∀ A, q_Ok A → ∃ A' v, q_Ok A' ∧ cW mw (as.map Value.int) A A' (.long v) ∧ cR mr (as.map Value.int) A A' (.long v)) : q_opL q_Inv mw mr n := by
  rintro as hl d w ⟨A, hJ⟩
  obtain ⟨A', v, hO, hw, hr⟩ := H as hl A hJ.ok
  obtain ⟨d1, w1, d2, w2, z⟩ := q_two hJ hO hw hr
  exact ⟨v, d1, w1, d2, w2, z⟩
theorem q_opf {mw mr : q_M} (H : ∀ (x : Int64) (n : Int32) A, q_Ok A → ∃ A' v, q_Ok A' ∧ cW mw [.long x, .int n] A A' (.int v) ∧ cR mr [.long x, .int n] A A' (.int v)) : q_opF q_Inv mw mr := by
  rintro x n d w ⟨A, hJ⟩
  obtain ⟨A', v, hO, hw, hr⟩ := H x n A hJ.ok
  obtain ⟨d1, w1, d2, w2, z⟩ := q_two hJ hO hw hr
  exact ⟨v, d1, w1, d2, w2, z⟩
section
variable {d : Nat → Nat → Int32} {w : Nat → Nat → Int64} {m : q_M} {as : List Value} {Q : Option Value → q_H → Prop}
theorem wr_x : wM (q_R 10 m) (.ref 0 :: as) (S0, d, w) Q ↔ wM m (.ref 0 :: as) (S0, d, w) Q := by unfold wM; rw [r_x]
theorem wr_m : wM (q_R 11 m) (.ref 135 :: as) (S0, d, w) Q ↔ wM m (.ref 135 :: as) (S0, d, w) Q := by unfold wM; rw [r_m]
theorem wr_now : wM (q_R 4 m) (.ref 7 :: as) (S0, d, w) Q ↔ wM m (.ref 7 :: as) (S0, d, w) Q := by unfold wM; rw [r_now]
theorem wr_kept : wM (q_R 4 m) (.ref 20 :: as) (S0, d, w) Q ↔ wM m (.ref 20 :: as) (S0, d, w) Q := by unfold wM; rw [r_kept]
theorem wr_reader : wM (q_R 5 m) (.ref 33 :: as) (S0, d, w) Q ↔ wM m (.ref 33 :: as) (S0, d, w) Q := by unfold wM; rw [r_reader]
theorem wr_draft : wM (q_R 8 m) (.ref 35 :: as) (S0, d, w) Q ↔ wM m (.ref 35 :: as) (S0, d, w) Q := by unfold wM; rw [r_draft]
theorem wr_mach : wM (q_R 3 m) (.ref 38 :: as) (S0, d, w) Q ↔ wM m (.ref 38 :: as) (S0, d, w) Q := by unfold wM; rw [r_mach]
theorem wr_sum : wM (q_R 7 m) (.ref 41 :: as) (S0, d, w) Q ↔ wM m (.ref 41 :: as) (S0, d, w) Q := by unfold wM; rw [r_sum]
theorem wr_lamp {i : Nat} (hi : i < 10) : wM (q_R 2 m) (.ref (51 + i) :: as) (S0, d, w) Q ↔ wM m (.ref (51 + i) :: as) (S0, d, w) Q := by unfold wM; rw [r_lamp hi]
theorem wr_house {i : Nat} (hi : i < 12) : wM (q_R 9 m) (.ref (61 + 3 * i) :: as) (S0, d, w) Q ↔ wM m (.ref (61 + 3 * i) :: as) (S0, d, w) Q := by unfold wM; rw [r_house hi]
theorem wr_label {i : Nat} (hi : i < 4) : wM (q_R 9 m) (.ref (97 + 3 * i) :: as) (S0, d, w) Q ↔ wM m (.ref (97 + 3 * i) :: as) (S0, d, w) Q := by unfold wM; rw [r_label hi]
theorem wr_text {i : Nat} (hi : i < 6) : wM (q_R 8 m) (.ref (109 + 3 * i) :: as) (S0, d, w) Q ↔ wM m (.ref (109 + 3 * i) :: as) (S0, d, w) Q := by unfold wM; rw [r_text hi]
theorem wr_sheet {i : Nat} (hi : i < 4) : wM (q_R 6 m) (.ref (127 + 2 * i) :: as) (S0, d, w) Q ↔ wM m (.ref (127 + 2 * i) :: as) (S0, d, w) Q := by unfold wM; rw [r_sheet hi]
theorem wr_ask {i : Nat} (hi : i < 10) : wM (q_R 0 m) (.ref (10 + i) :: as) (S0, d, w) Q ↔ wM m (.ref (10 + i) :: as) (S0, d, w) Q := by unfold wM; rw [r_ask hi]
theorem wr_kask {i : Nat} (hi : i < 10) : wM (q_R 0 m) (.ref (23 + i) :: as) (S0, d, w) Q ↔ wM m (.ref (23 + i) :: as) (S0, d, w) Q := by unfold wM; rw [r_kask hi]
end
section
variable {d : Nat → Nat → Int32} {w : Nat → Nat → Int64} {v : Int32}
theorem sl_said : o_alen (S0, d, w) (.ref 44) = some (.int 110) := by
  unfold o_alen
  simp only [sa_said]
  rfl
theorem sl_mnames : o_alen (S0, d, w) (.ref 39) = some (.int 6) := by
  unfold o_alen
  simp only [sa_mnames]
  rfl
theorem sl_mstack : o_alen (S0, d, w) (.ref 40) = some (.int 160) := by
  unfold o_alen
  simp only [sa_mstack]
  rfl
end
theorem Lz_0 : (0 : Int32) = nI 0 := by decide
theorem Lz_1 : (1 : Int32) = nI 1 := by decide
theorem Lz_2 : (2 : Int32) = nI 2 := by decide
theorem Lz_3 : (3 : Int32) = nI 3 := by decide
theorem Lz_4 : (4 : Int32) = nI 4 := by decide
theorem Lz_5 : (5 : Int32) = nI 5 := by decide
theorem Lz_6 : (6 : Int32) = nI 6 := by decide
theorem Lz_7 : (7 : Int32) = nI 7 := by decide
theorem Lz_8 : (8 : Int32) = nI 8 := by decide
theorem Lz_9 : (9 : Int32) = nI 9 := by decide
theorem Lz_10 : (10 : Int32) = nI 10 := by decide
theorem Lz_11 : (11 : Int32) = nI 11 := by decide
theorem Lz_12 : (12 : Int32) = nI 12 := by decide
theorem Lz_13 : (13 : Int32) = nI 13 := by decide
theorem Lz_14 : (14 : Int32) = nI 14 := by decide
theorem Lz_15 : (15 : Int32) = nI 15 := by decide
theorem Lz_16 : (16 : Int32) = nI 16 := by decide
theorem Lz_17 : (17 : Int32) = nI 17 := by decide
theorem Lz_18 : (18 : Int32) = nI 18 := by decide
theorem Lz_19 : (19 : Int32) = nI 19 := by decide
theorem Lz_23 : (23 : Int32) = nI 23 := by decide
theorem Lz_24 : (24 : Int32) = nI 24 := by decide
theorem Lz_30 : (30 : Int32) = nI 30 := by decide
theorem Lz_32 : (32 : Int32) = nI 32 := by decide
theorem Lz_40 : (40 : Int32) = nI 40 := by decide
theorem Lz_41 : (41 : Int32) = nI 41 := by decide
theorem Lz_42 : (42 : Int32) = nI 42 := by decide
theorem Lz_43 : (43 : Int32) = nI 43 := by decide
theorem Lz_45 : (45 : Int32) = nI 45 := by decide
theorem Lz_48 : (48 : Int32) = nI 48 := by decide
theorem Lz_57 : (57 : Int32) = nI 57 := by decide
theorem Lz_59 : (59 : Int32) = nI 59 := by decide
theorem Lz_60 : (60 : Int32) = nI 60 := by decide
theorem Lz_61 : (61 : Int32) = nI 61 := by decide
theorem Lz_63 : (63 : Int32) = nI 63 := by decide
theorem Lz_64 : (64 : Int32) = nI 64 := by decide
theorem Lz_97 : (97 : Int32) = nI 97 := by decide
theorem Lz_99 : (99 : Int32) = nI 99 := by decide
theorem Lz_100 : (100 : Int32) = nI 100 := by decide
theorem Lz_110 : (110 : Int32) = nI 110 := by decide
theorem Lz_120 : (120 : Int32) = nI 120 := by decide
theorem Lz_122 : (122 : Int32) = nI 122 := by decide
theorem Lz_127 : (127 : Int32) = nI 127 := by decide
theorem Lz_160 : (160 : Int32) = nI 160 := by decide
theorem Lz_200 : (200 : Int32) = nI 200 := by decide
theorem Lz_255 : (255 : Int32) = nI 255 := by decide
theorem Lz_256 : (256 : Int32) = nI 256 := by decide
theorem Lz_300 : (300 : Int32) = nI 300 := by decide
theorem Lz_301 : (301 : Int32) = nI 301 := by decide
theorem Lz_302 : (302 : Int32) = nI 302 := by decide
theorem Lz_303 : (303 : Int32) = nI 303 := by decide
theorem Lz_304 : (304 : Int32) = nI 304 := by decide
theorem Lz_305 : (305 : Int32) = nI 305 := by decide
theorem Lz_306 : (306 : Int32) = nI 306 := by decide
theorem Lz_311 : (311 : Int32) = nI 311 := by decide
theorem Lz_312 : (312 : Int32) = nI 312 := by decide
theorem Lz_599 : (599 : Int32) = nI 599 := by decide
theorem Lz_768 : (768 : Int32) = nI 768 := by decide
theorem Lz_999 : (999 : Int32) = nI 999 := by decide
theorem Lz_1000 : (1000 : Int32) = nI 1000 := by decide
theorem Lz_1023 : (1023 : Int32) = nI 1023 := by decide
theorem Lz_1200 : (1200 : Int32) = nI 1200 := by decide
theorem Lz_9999 : (9999 : Int32) = nI 9999 := by decide
theorem Lz_99999 : (99999 : Int32) = nI 99999 := by decide
theorem Lz_100000 : (100000 : Int32) = nI 100000 := by decide
theorem n_shl1 {n : Nat} (hn : n ≤ 30) : nI 1 <<< (nI n &&& 31) = nI (2 ^ n) := (by decide +kernel : ∀ n, n ≤ 30 → nI 1 <<< (nI n &&& 31) = nI (2 ^ n)) n hn
theorem n_sub {a b : Nat} (h : b ≤ a) : nI a - nI b = nI (a - b) := by
  obtain ⟨k, rfl⟩ : ∃ k, a = k + b := ⟨a - b, by omega⟩
  rw [← q_addI k b, Nat.add_sub_cancel]
  exact Int32.add_sub_cancel (nI k) (nI b)
theorem n_pow1 {n : Nat} : nI (2 ^ n) - nI 1 = nI (2 ^ n - 1) := n_sub Nat.one_le_two_pow
theorem n_b0 {p : Prop} [Decidable p] : ((if p then nI 1 else nI 0) = nI 0) ↔ ¬ p := q_b10
theorem n_b1 {p : Prop} [Decidable p] : ((if p then nI 1 else nI 0) = nI 1) ↔ p := q_b11
theorem n_em1 {p : Prop} : (¬ p ∨ p) ↔ True := ⟨fun _ => trivial, fun _ => (Classical.em p).symm⟩
theorem n_em2 {p : Prop} : (p ∨ ¬ p) ↔ True := ⟨fun _ => trivial, fun _ => Classical.em p⟩
theorem n_em3 {b : Bool} : (b = false ∨ b = true) ↔ True := by cases b <;> simp
theorem n_em4 {b : Bool} : (b = true ∨ b = false) ↔ True := by cases b <;> simp
theorem n_neg {k : Nat} (hk : k < 2 ^ 31) : (-nI k).toInt = -(k : Int) := by
  rw [Int32.toInt_neg, nI_toInt hk]
  apply Int.bmod_eq_of_le <;> omega
theorem n_ne {n k : Nat} (h0 : 0 < k) (hk : k < 2 ^ 31) (hn : n < 2 ^ 31) : (nI n = -nI k) ↔ False := by
  refine ⟨fun h => ?_, False.elim⟩
  have := congrArg Int32.toInt h
  rw [n_neg hk, nI_toInt hn] at this
  omega
theorem n_ne2 {n k : Nat} (h0 : 0 < k) (hk : k < 2 ^ 31) (hn : n < 2 ^ 31) : (-nI k = nI n) ↔ False := ⟨fun h => (n_ne h0 hk hn).mp h.symm, False.elim⟩
theorem n_nn {n k : Nat} (hk : k < 2 ^ 31) (hn : n < 2 ^ 31) : (-nI k = -nI n) ↔ k = n := by
  refine ⟨fun h => ?_, fun h => by rw [h]⟩
  have := congrArg Int32.toInt h
  rw [n_neg hk, n_neg hn] at this
  omega
theorem n_lneg {n k : Nat} (h0 : 0 < k) (hk : k < 2 ^ 31) (hn : n < 2 ^ 31) : (nI n ≤ -nI k) ↔ False := by
  rw [Int32.le_iff_toInt_le, n_neg hk, nI_toInt hn]
  exact ⟨fun h => by omega, False.elim⟩
theorem n_ltneg {n k : Nat} (hk : k < 2 ^ 31) (hn : n < 2 ^ 31) : (nI n < -nI k) ↔ False := by
  rw [Int32.lt_iff_toInt_lt, n_neg hk, nI_toInt hn]
  exact ⟨fun h => by omega, False.elim⟩
theorem n_negl {n k : Nat} (hk : k < 2 ^ 31) (hn : n < 2 ^ 31) : (-nI k ≤ nI n) ↔ True := by
  rw [Int32.le_iff_toInt_le, n_neg hk, nI_toInt hn]
  exact ⟨fun _ => trivial, fun _ => by omega⟩
theorem n_neglt {n k : Nat} (h0 : 0 < k) (hk : k < 2 ^ 31) (hn : n < 2 ^ 31) : (-nI k < nI n) ↔ True := by
  rw [Int32.lt_iff_toInt_lt, n_neg hk, nI_toInt hn]
  exact ⟨fun _ => trivial, fun _ => by omega⟩
/-- all bits turned -/
def q_nt (x : Int32) : Int32 := x ^^^ -1
theorem n10 : (nI 1 = nI 0) ↔ False := by decide
theorem n01 : (nI 0 = nI 1) ↔ False := by decide
theorem n_nt {x : Int32} : x ^^^ -nI 1 = q_nt x := by unfold q_nt; exact congrArg (x ^^^ ·) (by decide)
/-- an index into the first n numbers -/
def q_ix (x : Int32) (n : Nat) : Bool := decide (0 ≤ x ∧ x ≤ nI n - 1)
theorem nI_sub1 {n : Nat} (h : 0 < n) : nI n - 1 = nI (n - 1) := by
  obtain ⟨k, rfl⟩ : ∃ k, n = k + 1 := ⟨n - 1, by omega⟩
  rw [← q_addI k 1]
  show nI k + nI 1 - 1 = nI (k + 1 - 1)
  rw [Nat.add_sub_cancel]
  exact Int32.add_sub_cancel (nI k) 1
theorem q_ix_iff {x : Int32} {n : Nat} (hn : n < 2 ^ 31) : q_ix x n = true ↔ ∃ k, k < n ∧ x = nI k := by
  unfold q_ix
  rw [decide_eq_true_iff]
  rcases Nat.eq_zero_or_pos n with h | h
  · subst h
    constructor
    · rintro ⟨h1, h2⟩
      have h1 := Int32.le_iff_toInt_le.mp h1
      have h2 := Int32.le_iff_toInt_le.mp h2
      have e0 : (0 : Int32).toInt = 0 := rfl
      have e1 : (nI 0 - 1).toInt = -1 := by decide +kernel
      omega
    · rintro ⟨k, h1, h2⟩
      omega
  · rw [nI_sub1 h]
    constructor
    · rintro ⟨h1, h2⟩
      obtain ⟨k, hk, e⟩ := q_idx2 (by omega) h1 h2
      exact ⟨k, by omega, e⟩
    · rintro ⟨k, hk, rfl⟩
      exact ⟨(q_nle (a := 0) (by omega) (by omega)).mpr (Nat.zero_le _), (q_nle (by omega) (by omega)).mpr (by omega)⟩
theorem q_ix_nI {k n : Nat} (hn : n < 2 ^ 31) (hk : k < n) : q_ix (nI k) n = true := (q_ix_iff hn).mpr ⟨k, hk, rfl⟩
theorem q_inw {x : Int32} {n : Nat} : (0 ≤ x ∧ x ≤ nI n - 1) ↔ q_ix x n = true := by unfold q_ix; rw [decide_eq_true_iff]
theorem q_inw2 {x : Int32} {n : Nat} : (nI 0 ≤ x ∧ x ≤ nI n - nI 1) ↔ q_ix x n = true := q_inw
theorem q_opI0 {mw mr : q_M} (H : ∀ A, q_Ok A → ∃ A' v, q_Ok A' ∧ cW mw [] A A' (.int v) ∧ cR mr [] A A' (.int v)) : q_opI q_Inv mw mr 0 := by
  refine q_op1 fun as hl A hO => ?_
  match as, hl with
  | [], _ => exact H  A hO
theorem q_opI1 {mw mr : q_M} (H : ∀ (x : Int32) A, q_Ok A → ∃ A' v, q_Ok A' ∧ cW mw [.int x] A A' (.int v) ∧ cR mr [.int x] A A' (.int v)) : q_opI q_Inv mw mr 1 := by
  refine q_op1 fun as hl A hO => ?_
  match as, hl with
  | [x], _ => exact H x A hO
theorem q_opI2 {mw mr : q_M} (H : ∀ (x y : Int32) A, q_Ok A → ∃ A' v, q_Ok A' ∧ cW mw [.int x, .int y] A A' (.int v) ∧ cR mr [.int x, .int y] A A' (.int v)) : q_opI q_Inv mw mr 2 := by
  refine q_op1 fun as hl A hO => ?_
  match as, hl with
  | [x, y], _ => exact H x y A hO
theorem q_opI3 {mw mr : q_M} (H : ∀ (x y z : Int32) A, q_Ok A → ∃ A' v, q_Ok A' ∧ cW mw [.int x, .int y, .int z] A A' (.int v) ∧ cR mr [.int x, .int y, .int z] A A' (.int v)) : q_opI q_Inv mw mr 3 := by
  refine q_op1 fun as hl A hO => ?_
  match as, hl with
  | [x, y, z], _ => exact H x y z A hO
theorem q_opI4 {mw mr : q_M} (H : ∀ (x y z u : Int32) A, q_Ok A → ∃ A' v, q_Ok A' ∧ cW mw [.int x, .int y, .int z, .int u] A A' (.int v) ∧ cR mr [.int x, .int y, .int z, .int u] A A' (.int v)) : q_opI q_Inv mw mr 4 := by
  refine q_op1 fun as hl A hO => ?_
  match as, hl with
  | [x, y, z, u], _ => exact H x y z u A hO
theorem q_opI5 {mw mr : q_M} (H : ∀ (x y z u t : Int32) A, q_Ok A → ∃ A' v, q_Ok A' ∧ cW mw [.int x, .int y, .int z, .int u, .int t] A A' (.int v) ∧ cR mr [.int x, .int y, .int z, .int u, .int t] A A' (.int v)) : q_opI q_Inv mw mr 5 := by
  refine q_op1 fun as hl A hO => ?_
  match as, hl with
  | [x, y, z, u, t], _ => exact H x y z u t A hO
theorem q_opl2 {mw mr : q_M} (H : ∀ (x y : Int32) A, q_Ok A → ∃ A' v, q_Ok A' ∧ cW mw [.int x, .int y] A A' (.long v) ∧ cR mr [.int x, .int y] A A' (.long v)) : q_opL q_Inv mw mr 2 := by
  refine q_opl fun as hl A hO => ?_
  match as, hl with
  | [x, y], _ => exact H x y A hO
