/-! READING AND WRITING THE STATE AFTER THE CONSTRUCTORS (written by wip/gen/acc.py) -/
def S0_0 : List q_Sh := [.inr (.inr (10, [some (some 1), some (some 2), some (some 3), some (some 4), some (some 5), some (some 6), some (some 7), some (some 20), some (some 33), some (some 38), some (some 41), some (some 43), some (some 44), none, none, none, none, none, none])),
  .inr (.inl (3, [some 45, some 46, some 47, some 48, some 49, some 50])),
  .inr (.inl (4, [some 51, some 52, some 53, some 54, some 55, some 56, some 57, some 58, some 59, some 60])),
  .inr (.inl (7, [some 61, some 64, some 67, some 70, some 73, some 76, some 79, some 82, some 85, some 88, some 91, some 94])),
  .inr (.inl (7, [some 97, some 100, some 103, some 106])),
  .inr (.inl (6, [some 109, some 112, some 115, some 118, some 121, some 124])),
  .inr (.inl (5, [some 127, some 129, some 131, some 133])),
  .inr (.inr (4, [some (some 8), some (some 9), none, none])),
  .inl (0, 4),
  .inr (.inl (2, [some 10, some 11, some 12, some 13, some 14, some 15, some 16, some 17, some 18, some 19])),
  .inr (.inr (0, [none, none, none, none, none])),
  .inr (.inr (0, [none, none, none, none, none])),
  .inr (.inr (0, [none, none, none, none, none])),
  .inr (.inr (0, [none, none, none, none, none])),
  .inr (.inr (0, [none, none, none, none, none])),
  .inr (.inr (0, [none, none, none, none, none])),
  .inr (.inr (0, [none, none, none, none, none])),
  .inr (.inr (0, [none, none, none, none, none])),
  .inr (.inr (0, [none, none, none, none, none])),
  .inr (.inr (0, [none, none, none, none, none])),
  .inr (.inr (4, [some (some 21), some (some 22), none, none])),
  .inl (0, 4),
  .inr (.inl (2, [some 23, some 24, some 25, some 26, some 27, some 28, some 29, some 30, some 31, some 32])),
  .inr (.inr (0, [none, none, none, none, none])),
  .inr (.inr (0, [none, none, none, none, none])),
  .inr (.inr (0, [none, none, none, none, none])),
  .inr (.inr (0, [none, none, none, none, none])),
  .inr (.inr (0, [none, none, none, none, none])),
  .inr (.inr (0, [none, none, none, none, none])),
  .inr (.inr (0, [none, none, none, none, none]))]
def S0_1 : List q_Sh := [.inr (.inr (0, [none, none, none, none, none])),
  .inr (.inr (0, [none, none, none, none, none])),
  .inr (.inr (0, [none, none, none, none, none])),
  .inr (.inr (5, [some (some 34), none, none, none, none, none, some (some 35)])),
  .inl (0, 160),
  .inr (.inr (8, [some (some 36), some (some 37), none, none])),
  .inl (0, 160),
  .inl (0, 3),
  .inr (.inr (3, [some (some 39), some (some 40), none])),
  .inl (0, 6),
  .inl (0, 160),
  .inr (.inr (7, [some (some 42)])),
  .inl (1, 16),
  .inl (0, 768),
  .inl (0, 110),
  .inr (.inr (1, [none, none, none])),
  .inr (.inr (1, [none, none, none])),
  .inr (.inr (1, [none, none, none])),
  .inr (.inr (1, [none, none, none])),
  .inr (.inr (1, [none, none, none])),
  .inr (.inr (1, [none, none, none])),
  .inr (.inr (2, [none, none, none, none, none, none])),
  .inr (.inr (2, [none, none, none, none, none, none])),
  .inr (.inr (2, [none, none, none, none, none, none])),
  .inr (.inr (2, [none, none, none, none, none, none])),
  .inr (.inr (2, [none, none, none, none, none, none])),
  .inr (.inr (2, [none, none, none, none, none, none])),
  .inr (.inr (2, [none, none, none, none, none, none])),
  .inr (.inr (2, [none, none, none, none, none, none])),
  .inr (.inr (2, [none, none, none, none, none, none]))]
def S0_2 : List q_Sh := [.inr (.inr (2, [none, none, none, none, none, none])),
  .inr (.inr (9, [some (some 62), some (some 63), none])),
  .inl (0, 10),
  .inl (0, 6),
  .inr (.inr (9, [some (some 65), some (some 66), none])),
  .inl (0, 10),
  .inl (0, 6),
  .inr (.inr (9, [some (some 68), some (some 69), none])),
  .inl (0, 10),
  .inl (0, 6),
  .inr (.inr (9, [some (some 71), some (some 72), none])),
  .inl (0, 10),
  .inl (0, 6),
  .inr (.inr (9, [some (some 74), some (some 75), none])),
  .inl (0, 10),
  .inl (0, 6),
  .inr (.inr (9, [some (some 77), some (some 78), none])),
  .inl (0, 10),
  .inl (0, 6),
  .inr (.inr (9, [some (some 80), some (some 81), none])),
  .inl (0, 10),
  .inl (0, 6),
  .inr (.inr (9, [some (some 83), some (some 84), none])),
  .inl (0, 10),
  .inl (0, 6),
  .inr (.inr (9, [some (some 86), some (some 87), none])),
  .inl (0, 10),
  .inl (0, 6),
  .inr (.inr (9, [some (some 89), some (some 90), none])),
  .inl (0, 10)]
def S0_3 : List q_Sh := [.inl (0, 6),
  .inr (.inr (9, [some (some 92), some (some 93), none])),
  .inl (0, 10),
  .inl (0, 6),
  .inr (.inr (9, [some (some 95), some (some 96), none])),
  .inl (0, 10),
  .inl (0, 6),
  .inr (.inr (9, [some (some 98), some (some 99), none])),
  .inl (0, 10),
  .inl (0, 6),
  .inr (.inr (9, [some (some 101), some (some 102), none])),
  .inl (0, 10),
  .inl (0, 6),
  .inr (.inr (9, [some (some 104), some (some 105), none])),
  .inl (0, 10),
  .inl (0, 6),
  .inr (.inr (9, [some (some 107), some (some 108), none])),
  .inl (0, 10),
  .inl (0, 6),
  .inr (.inr (8, [some (some 110), some (some 111), none, none])),
  .inl (0, 160),
  .inl (0, 3),
  .inr (.inr (8, [some (some 113), some (some 114), none, none])),
  .inl (0, 160),
  .inl (0, 3),
  .inr (.inr (8, [some (some 116), some (some 117), none, none])),
  .inl (0, 160),
  .inl (0, 3),
  .inr (.inr (8, [some (some 119), some (some 120), none, none])),
  .inl (0, 160)]
def S0_4 : List q_Sh := [.inl (0, 3),
  .inr (.inr (8, [some (some 122), some (some 123), none, none])),
  .inl (0, 160),
  .inl (0, 3),
  .inr (.inr (8, [some (some 125), some (some 126), none, none])),
  .inl (0, 160),
  .inl (0, 3),
  .inr (.inr (6, [some (some 128), none, none])),
  .inl (0, 40),
  .inr (.inr (6, [some (some 130), none, none])),
  .inl (0, 40),
  .inr (.inr (6, [some (some 132), none, none])),
  .inl (0, 40),
  .inr (.inr (6, [some (some 134), none, none])),
  .inl (0, 40),
  .inr (.inr (11, [none, none, none, none, none, some (some 136), some (some 137), none, some (some 138), some (some 139), some (some 140), some (some 141), some (some 142), some (some 143), none, some (some 144), none, some (some 145), some (some 146), some (some 147), some (some 148), some (some 149), none, some (some 150), some (some 151), some (some 152), none, some (some 153), some (some 154), none, none, none, none, none, none, none, none, none, some (some 155), some (some 156), some (some 157), some (some 158), some (some 159), some (some 160), some (some 161), some (some 162), none, none, none, none, some (some 163), some (some 164), none, none, none, some (some 165), some (some 166), some (some 167), none, some (some 168), some (some 169), some (some 170)])),
  .inl (0, 6),
  .inl (0, 6),
  .inl (0, 10),
  .inl (0, 10),
  .inl (0, 10),
  .inl (0, 10),
  .inl (0, 10),
  .inl (0, 10),
  .inl (0, 120),
  .inl (0, 10),
  .inl (0, 10),
  .inl (0, 10),
  .inl (0, 10),
  .inl (0, 10)]
def S0_5 : List q_Sh := [.inl (0, 4),
  .inl (0, 40),
  .inl (0, 160),
  .inl (0, 1200),
  .inl (0, 24),
  .inl (0, 10),
  .inl (0, 10),
  .inl (0, 10),
  .inl (0, 10),
  .inl (0, 10),
  .inl (0, 4),
  .inl (0, 4),
  .inl (0, 160),
  .inl (1, 12),
  .inl (0, 200),
  .inl (0, 200),
  .inl (0, 6),
  .inl (0, 12),
  .inl (0, 12),
  .inl (0, 1000),
  .inl (0, 6)]
def S0 : List q_Sh := S0_0 ++ (S0_1 ++ (S0_2 ++ (S0_3 ++ (S0_4 ++ (S0_5)))))
def q_eqO (a b : Option q_Sh) : Bool := decide (a = b)
theorem q_eqO_of {a b : Option q_Sh} (h : q_eqO a b = true) : a = b := of_decide_eq_true h
theorem q_all {n : Nat} {f : Nat → Bool} (h : (List.range n).all f = true) {i : Nat} (hi : i < n) : f i = true := List.all_eq_true.mp h i (List.mem_range.mpr hi)
theorem ev_getI {ci k o : Nat} {d : Nat → Nat → Int32} {w : Nat → Nat → Int64} {fl : List (Option (Option Nat))} (h : S0[o]? = some (.inr (.inr (ci, fl)))) (hf : fl[k]? = some none) : o_get ci k (S0, d, w) (.ref o) = some (.int (d o k)) := by
  unfold o_get
  simp only [h, hf, if_true, q_fa]
theorem ev_getA {ci k o r : Nat} {d : Nat → Nat → Int32} {w : Nat → Nat → Int64} {fl : List (Option (Option Nat))} (h : S0[o]? = some (.inr (.inr (ci, fl)))) (hf : fl[k]? = some (some (some r))) : o_get ci k (S0, d, w) (.ref o) = some (.ref r) := by
  unfold o_get
  simp only [h, hf, if_true, q_fa, va_rf]
theorem ev_put {ci k o : Nat} {d : Nat → Nat → Int32} {w : Nat → Nat → Int64} {fl : List (Option (Option Nat))} {v : Int32} (h : S0[o]? = some (.inr (.inr (ci, fl)))) (hf : fl[k]? = some none) : e_put ci k (S0, d, w) (.ref o) (.int v) = some (S0, q_d d o k v, w) := by
  unfold e_put
  simp only [h, hf, and_self, if_true]
theorem ev_putZ {ci k o : Nat} {d : Nat → Nat → Int32} {w : Nat → Nat → Int64} {fl : List (Option (Option Nat))} (h : S0[o]? = some (.inr (.inr (ci, fl)))) (hf : fl[k]? = some none) : e_putZ ci k (S0, d, w) (.ref o) (.int 1) = some (S0, q_d d o k 1, w) := by
  unfold e_putZ
  simp [h, hf]
theorem ev_R {ci o : Nat} {d : Nat → Nat → Int32} {w : Nat → Nat → Int64} {fl : List (Option (Option Nat))} {m : q_M} {as : List Value} (h : S0[o]? = some (.inr (.inr (ci, fl)))) : q_R ci m (.ref o :: as) (S0, d, w) = m (.ref o :: as) (S0, d, w) := by
  unfold q_R
  simp only [h, if_true]
theorem ev_iald {o n j : Nat} {d : Nat → Nat → Int32} {w : Nat → Nat → Int64} (h : S0[o]? = some (.inl (0, n))) (hn : n < 100000) (hj : j < n) : o_iald (S0, d, w) (.ref o) (.int (nI j)) = some (.int (d o j)) := by
  have hj2 : j < 2 ^ 31 := by omega
  unfold o_iald
  simp only [h, nI_clamp hj2, nI_pos hj2, hj, not_false_eq_true, and_self, if_true]
theorem ev_iast {o n j : Nat} {d : Nat → Nat → Int32} {w : Nat → Nat → Int64} {v : Int32} (h : S0[o]? = some (.inl (0, n))) (hn : n < 100000) (hj : j < n) : e_iast (S0, d, w) (.ref o) (.int (nI j)) (.int v) = some (S0, q_d d o j v, w) := by
  have hj2 : j < 2 ^ 31 := by omega
  unfold e_iast
  simp only [h, nI_clamp hj2, nI_pos hj2, hj, not_false_eq_true, and_self, if_true]
theorem ev_lald {o n j : Nat} {d : Nat → Nat → Int32} {w : Nat → Nat → Int64} (h : S0[o]? = some (.inl (1, n))) (hn : n < 100000) (hj : j < n) : o_lald (S0, d, w) (.ref o) (.int (nI j)) = some (.long (w o j)) := by
  have hj2 : j < 2 ^ 31 := by omega
  unfold o_lald
  simp only [h, nI_clamp hj2, nI_pos hj2, hj, not_false_eq_true, and_self, if_true]
theorem ev_last {o n j : Nat} {d : Nat → Nat → Int32} {w : Nat → Nat → Int64} {v : Int64} (h : S0[o]? = some (.inl (1, n))) (hn : n < 100000) (hj : j < n) : e_last (S0, d, w) (.ref o) (.int (nI j)) (.long v) = some (S0, d, q_w w o j v) := by
  have hj2 : j < 2 ^ 31 := by omega
  unfold e_last
  simp only [h, nI_clamp hj2, nI_pos hj2, hj, not_false_eq_true, and_self, if_true]
theorem ev_aald {t o j e : Nat} {d : Nat → Nat → Int32} {w : Nat → Nat → Int64} {r : List (Option Nat)} (h : S0[o]? = some (.inr (.inl (t + 2, r)))) (hn : r.length < 100000) (hj : r[j]? = some (some e)) : o_aald t (S0, d, w) (.ref o) (.int (nI j)) = some (.ref e) := by
  have hl : j < r.length := (List.getElem?_eq_some_iff.mp hj).1
  have hj2 : j < 2 ^ 31 := by omega
  unfold o_aald
  simp only [h, nI_clamp hj2, nI_pos hj2, hl, not_false_eq_true, and_self, if_true, List.getD_eq_getElem?_getD, hj, Option.getD_some, va_rf]
theorem sh_x : S0[0]? = some (.inr (.inr (10, [some (some 1), some (some 2), some (some 3), some (some 4), some (some 5), some (some 6), some (some 7), some (some 20), some (some 33), some (some 38), some (some 41), some (some 43), some (some 44), none, none, none, none, none, none]))) := by decide +kernel
theorem r_x {d : Nat → Nat → Int32} {w : Nat → Nat → Int64} {m : q_M} {as : List Value} : q_R 10 m (.ref (0) :: as) (S0, d, w) = m (.ref (0) :: as) (S0, d, w) := ev_R (sh_x)
theorem g_x_0 {d : Nat → Nat → Int32} {w : Nat → Nat → Int64} : o_get 10 0 (S0, d, w) (.ref (0)) = some (.ref (1)) := ev_getA (sh_x) rfl
theorem g_x_1 {d : Nat → Nat → Int32} {w : Nat → Nat → Int64} : o_get 10 1 (S0, d, w) (.ref (0)) = some (.ref (2)) := ev_getA (sh_x) rfl
theorem g_x_2 {d : Nat → Nat → Int32} {w : Nat → Nat → Int64} : o_get 10 2 (S0, d, w) (.ref (0)) = some (.ref (3)) := ev_getA (sh_x) rfl
theorem g_x_3 {d : Nat → Nat → Int32} {w : Nat → Nat → Int64} : o_get 10 3 (S0, d, w) (.ref (0)) = some (.ref (4)) := ev_getA (sh_x) rfl
theorem g_x_4 {d : Nat → Nat → Int32} {w : Nat → Nat → Int64} : o_get 10 4 (S0, d, w) (.ref (0)) = some (.ref (5)) := ev_getA (sh_x) rfl
theorem g_x_5 {d : Nat → Nat → Int32} {w : Nat → Nat → Int64} : o_get 10 5 (S0, d, w) (.ref (0)) = some (.ref (6)) := ev_getA (sh_x) rfl
theorem g_x_6 {d : Nat → Nat → Int32} {w : Nat → Nat → Int64} : o_get 10 6 (S0, d, w) (.ref (0)) = some (.ref (7)) := ev_getA (sh_x) rfl
theorem g_x_7 {d : Nat → Nat → Int32} {w : Nat → Nat → Int64} : o_get 10 7 (S0, d, w) (.ref (0)) = some (.ref (20)) := ev_getA (sh_x) rfl
theorem g_x_8 {d : Nat → Nat → Int32} {w : Nat → Nat → Int64} : o_get 10 8 (S0, d, w) (.ref (0)) = some (.ref (33)) := ev_getA (sh_x) rfl
theorem g_x_9 {d : Nat → Nat → Int32} {w : Nat → Nat → Int64} : o_get 10 9 (S0, d, w) (.ref (0)) = some (.ref (38)) := ev_getA (sh_x) rfl
theorem g_x_10 {d : Nat → Nat → Int32} {w : Nat → Nat → Int64} : o_get 10 10 (S0, d, w) (.ref (0)) = some (.ref (41)) := ev_getA (sh_x) rfl
theorem g_x_11 {d : Nat → Nat → Int32} {w : Nat → Nat → Int64} : o_get 10 11 (S0, d, w) (.ref (0)) = some (.ref (43)) := ev_getA (sh_x) rfl
theorem g_x_12 {d : Nat → Nat → Int32} {w : Nat → Nat → Int64} : o_get 10 12 (S0, d, w) (.ref (0)) = some (.ref (44)) := ev_getA (sh_x) rfl
theorem g_x_13 {d : Nat → Nat → Int32} {w : Nat → Nat → Int64} : o_get 10 13 (S0, d, w) (.ref (0)) = some (.int (d (0) 13)) := ev_getI (sh_x) rfl
theorem p_x_13 {d : Nat → Nat → Int32} {w : Nat → Nat → Int64} {v : Int32} : e_put 10 13 (S0, d, w) (.ref (0)) (.int v) = some (S0, q_d d (0) 13 v, w) := ev_put (sh_x) rfl
theorem g_x_14 {d : Nat → Nat → Int32} {w : Nat → Nat → Int64} : o_get 10 14 (S0, d, w) (.ref (0)) = some (.int (d (0) 14)) := ev_getI (sh_x) rfl
theorem p_x_14 {d : Nat → Nat → Int32} {w : Nat → Nat → Int64} {v : Int32} : e_put 10 14 (S0, d, w) (.ref (0)) (.int v) = some (S0, q_d d (0) 14 v, w) := ev_put (sh_x) rfl
theorem g_x_15 {d : Nat → Nat → Int32} {w : Nat → Nat → Int64} : o_get 10 15 (S0, d, w) (.ref (0)) = some (.int (d (0) 15)) := ev_getI (sh_x) rfl
theorem p_x_15 {d : Nat → Nat → Int32} {w : Nat → Nat → Int64} {v : Int32} : e_put 10 15 (S0, d, w) (.ref (0)) (.int v) = some (S0, q_d d (0) 15 v, w) := ev_put (sh_x) rfl
theorem g_x_16 {d : Nat → Nat → Int32} {w : Nat → Nat → Int64} : o_get 10 16 (S0, d, w) (.ref (0)) = some (.int (d (0) 16)) := ev_getI (sh_x) rfl
theorem p_x_16 {d : Nat → Nat → Int32} {w : Nat → Nat → Int64} {v : Int32} : e_put 10 16 (S0, d, w) (.ref (0)) (.int v) = some (S0, q_d d (0) 16 v, w) := ev_put (sh_x) rfl
theorem g_x_17 {d : Nat → Nat → Int32} {w : Nat → Nat → Int64} : o_get 10 17 (S0, d, w) (.ref (0)) = some (.int (d (0) 17)) := ev_getI (sh_x) rfl
theorem p_x_17 {d : Nat → Nat → Int32} {w : Nat → Nat → Int64} {v : Int32} : e_put 10 17 (S0, d, w) (.ref (0)) (.int v) = some (S0, q_d d (0) 17 v, w) := ev_put (sh_x) rfl
theorem g_x_18 {d : Nat → Nat → Int32} {w : Nat → Nat → Int64} : o_get 10 18 (S0, d, w) (.ref (0)) = some (.int (d (0) 18)) := ev_getI (sh_x) rfl
theorem p_x_18 {d : Nat → Nat → Int32} {w : Nat → Nat → Int64} : e_putZ 10 18 (S0, d, w) (.ref (0)) (.int 1) = some (S0, q_d d (0) 18 1, w) := ev_putZ (sh_x) rfl
theorem sh_m : S0[135]? = some (.inr (.inr (11, [none, none, none, none, none, some (some 136), some (some 137), none, some (some 138), some (some 139), some (some 140), some (some 141), some (some 142), some (some 143), none, some (some 144), none, some (some 145), some (some 146), some (some 147), some (some 148), some (some 149), none, some (some 150), some (some 151), some (some 152), none, some (some 153), some (some 154), none, none, none, none, none, none, none, none, none, some (some 155), some (some 156), some (some 157), some (some 158), some (some 159), some (some 160), some (some 161), some (some 162), none, none, none, none, some (some 163), some (some 164), none, none, none, some (some 165), some (some 166), some (some 167), none, some (some 168), some (some 169), some (some 170)]))) := by decide +kernel
theorem r_m {d : Nat → Nat → Int32} {w : Nat → Nat → Int64} {m : q_M} {as : List Value} : q_R 11 m (.ref (135) :: as) (S0, d, w) = m (.ref (135) :: as) (S0, d, w) := ev_R (sh_m)
theorem g_m_0 {d : Nat → Nat → Int32} {w : Nat → Nat → Int64} : o_get 11 0 (S0, d, w) (.ref (135)) = some (.int (d (135) 0)) := ev_getI (sh_m) rfl
theorem p_m_0 {d : Nat → Nat → Int32} {w : Nat → Nat → Int64} {v : Int32} : e_put 11 0 (S0, d, w) (.ref (135)) (.int v) = some (S0, q_d d (135) 0 v, w) := ev_put (sh_m) rfl
theorem g_m_1 {d : Nat → Nat → Int32} {w : Nat → Nat → Int64} : o_get 11 1 (S0, d, w) (.ref (135)) = some (.int (d (135) 1)) := ev_getI (sh_m) rfl
theorem p_m_1 {d : Nat → Nat → Int32} {w : Nat → Nat → Int64} {v : Int32} : e_put 11 1 (S0, d, w) (.ref (135)) (.int v) = some (S0, q_d d (135) 1 v, w) := ev_put (sh_m) rfl
theorem g_m_2 {d : Nat → Nat → Int32} {w : Nat → Nat → Int64} : o_get 11 2 (S0, d, w) (.ref (135)) = some (.int (d (135) 2)) := ev_getI (sh_m) rfl
theorem p_m_2 {d : Nat → Nat → Int32} {w : Nat → Nat → Int64} {v : Int32} : e_put 11 2 (S0, d, w) (.ref (135)) (.int v) = some (S0, q_d d (135) 2 v, w) := ev_put (sh_m) rfl
theorem g_m_3 {d : Nat → Nat → Int32} {w : Nat → Nat → Int64} : o_get 11 3 (S0, d, w) (.ref (135)) = some (.int (d (135) 3)) := ev_getI (sh_m) rfl
theorem p_m_3 {d : Nat → Nat → Int32} {w : Nat → Nat → Int64} {v : Int32} : e_put 11 3 (S0, d, w) (.ref (135)) (.int v) = some (S0, q_d d (135) 3 v, w) := ev_put (sh_m) rfl
theorem g_m_4 {d : Nat → Nat → Int32} {w : Nat → Nat → Int64} : o_get 11 4 (S0, d, w) (.ref (135)) = some (.int (d (135) 4)) := ev_getI (sh_m) rfl
theorem p_m_4 {d : Nat → Nat → Int32} {w : Nat → Nat → Int64} {v : Int32} : e_put 11 4 (S0, d, w) (.ref (135)) (.int v) = some (S0, q_d d (135) 4 v, w) := ev_put (sh_m) rfl
theorem g_m_5 {d : Nat → Nat → Int32} {w : Nat → Nat → Int64} : o_get 11 5 (S0, d, w) (.ref (135)) = some (.ref (136)) := ev_getA (sh_m) rfl
theorem g_m_6 {d : Nat → Nat → Int32} {w : Nat → Nat → Int64} : o_get 11 6 (S0, d, w) (.ref (135)) = some (.ref (137)) := ev_getA (sh_m) rfl
theorem g_m_7 {d : Nat → Nat → Int32} {w : Nat → Nat → Int64} : o_get 11 7 (S0, d, w) (.ref (135)) = some (.int (d (135) 7)) := ev_getI (sh_m) rfl
theorem p_m_7 {d : Nat → Nat → Int32} {w : Nat → Nat → Int64} {v : Int32} : e_put 11 7 (S0, d, w) (.ref (135)) (.int v) = some (S0, q_d d (135) 7 v, w) := ev_put (sh_m) rfl
theorem g_m_8 {d : Nat → Nat → Int32} {w : Nat → Nat → Int64} : o_get 11 8 (S0, d, w) (.ref (135)) = some (.ref (138)) := ev_getA (sh_m) rfl
theorem g_m_9 {d : Nat → Nat → Int32} {w : Nat → Nat → Int64} : o_get 11 9 (S0, d, w) (.ref (135)) = some (.ref (139)) := ev_getA (sh_m) rfl
theorem g_m_10 {d : Nat → Nat → Int32} {w : Nat → Nat → Int64} : o_get 11 10 (S0, d, w) (.ref (135)) = some (.ref (140)) := ev_getA (sh_m) rfl
theorem g_m_11 {d : Nat → Nat → Int32} {w : Nat → Nat → Int64} : o_get 11 11 (S0, d, w) (.ref (135)) = some (.ref (141)) := ev_getA (sh_m) rfl
theorem g_m_12 {d : Nat → Nat → Int32} {w : Nat → Nat → Int64} : o_get 11 12 (S0, d, w) (.ref (135)) = some (.ref (142)) := ev_getA (sh_m) rfl
theorem g_m_13 {d : Nat → Nat → Int32} {w : Nat → Nat → Int64} : o_get 11 13 (S0, d, w) (.ref (135)) = some (.ref (143)) := ev_getA (sh_m) rfl
theorem g_m_14 {d : Nat → Nat → Int32} {w : Nat → Nat → Int64} : o_get 11 14 (S0, d, w) (.ref (135)) = some (.int (d (135) 14)) := ev_getI (sh_m) rfl
theorem p_m_14 {d : Nat → Nat → Int32} {w : Nat → Nat → Int64} {v : Int32} : e_put 11 14 (S0, d, w) (.ref (135)) (.int v) = some (S0, q_d d (135) 14 v, w) := ev_put (sh_m) rfl
theorem g_m_15 {d : Nat → Nat → Int32} {w : Nat → Nat → Int64} : o_get 11 15 (S0, d, w) (.ref (135)) = some (.ref (144)) := ev_getA (sh_m) rfl
theorem g_m_16 {d : Nat → Nat → Int32} {w : Nat → Nat → Int64} : o_get 11 16 (S0, d, w) (.ref (135)) = some (.int (d (135) 16)) := ev_getI (sh_m) rfl
theorem p_m_16 {d : Nat → Nat → Int32} {w : Nat → Nat → Int64} {v : Int32} : e_put 11 16 (S0, d, w) (.ref (135)) (.int v) = some (S0, q_d d (135) 16 v, w) := ev_put (sh_m) rfl
theorem g_m_17 {d : Nat → Nat → Int32} {w : Nat → Nat → Int64} : o_get 11 17 (S0, d, w) (.ref (135)) = some (.ref (145)) := ev_getA (sh_m) rfl
theorem g_m_18 {d : Nat → Nat → Int32} {w : Nat → Nat → Int64} : o_get 11 18 (S0, d, w) (.ref (135)) = some (.ref (146)) := ev_getA (sh_m) rfl
theorem g_m_19 {d : Nat → Nat → Int32} {w : Nat → Nat → Int64} : o_get 11 19 (S0, d, w) (.ref (135)) = some (.ref (147)) := ev_getA (sh_m) rfl
theorem g_m_20 {d : Nat → Nat → Int32} {w : Nat → Nat → Int64} : o_get 11 20 (S0, d, w) (.ref (135)) = some (.ref (148)) := ev_getA (sh_m) rfl
theorem g_m_21 {d : Nat → Nat → Int32} {w : Nat → Nat → Int64} : o_get 11 21 (S0, d, w) (.ref (135)) = some (.ref (149)) := ev_getA (sh_m) rfl
theorem g_m_22 {d : Nat → Nat → Int32} {w : Nat → Nat → Int64} : o_get 11 22 (S0, d, w) (.ref (135)) = some (.int (d (135) 22)) := ev_getI (sh_m) rfl
theorem p_m_22 {d : Nat → Nat → Int32} {w : Nat → Nat → Int64} {v : Int32} : e_put 11 22 (S0, d, w) (.ref (135)) (.int v) = some (S0, q_d d (135) 22 v, w) := ev_put (sh_m) rfl
theorem g_m_23 {d : Nat → Nat → Int32} {w : Nat → Nat → Int64} : o_get 11 23 (S0, d, w) (.ref (135)) = some (.ref (150)) := ev_getA (sh_m) rfl
theorem g_m_24 {d : Nat → Nat → Int32} {w : Nat → Nat → Int64} : o_get 11 24 (S0, d, w) (.ref (135)) = some (.ref (151)) := ev_getA (sh_m) rfl
theorem g_m_25 {d : Nat → Nat → Int32} {w : Nat → Nat → Int64} : o_get 11 25 (S0, d, w) (.ref (135)) = some (.ref (152)) := ev_getA (sh_m) rfl
theorem g_m_26 {d : Nat → Nat → Int32} {w : Nat → Nat → Int64} : o_get 11 26 (S0, d, w) (.ref (135)) = some (.int (d (135) 26)) := ev_getI (sh_m) rfl
theorem p_m_26 {d : Nat → Nat → Int32} {w : Nat → Nat → Int64} {v : Int32} : e_put 11 26 (S0, d, w) (.ref (135)) (.int v) = some (S0, q_d d (135) 26 v, w) := ev_put (sh_m) rfl
theorem g_m_27 {d : Nat → Nat → Int32} {w : Nat → Nat → Int64} : o_get 11 27 (S0, d, w) (.ref (135)) = some (.ref (153)) := ev_getA (sh_m) rfl
theorem g_m_28 {d : Nat → Nat → Int32} {w : Nat → Nat → Int64} : o_get 11 28 (S0, d, w) (.ref (135)) = some (.ref (154)) := ev_getA (sh_m) rfl
theorem g_m_29 {d : Nat → Nat → Int32} {w : Nat → Nat → Int64} : o_get 11 29 (S0, d, w) (.ref (135)) = some (.int (d (135) 29)) := ev_getI (sh_m) rfl
theorem p_m_29 {d : Nat → Nat → Int32} {w : Nat → Nat → Int64} {v : Int32} : e_put 11 29 (S0, d, w) (.ref (135)) (.int v) = some (S0, q_d d (135) 29 v, w) := ev_put (sh_m) rfl
theorem g_m_30 {d : Nat → Nat → Int32} {w : Nat → Nat → Int64} : o_get 11 30 (S0, d, w) (.ref (135)) = some (.int (d (135) 30)) := ev_getI (sh_m) rfl
theorem p_m_30 {d : Nat → Nat → Int32} {w : Nat → Nat → Int64} {v : Int32} : e_put 11 30 (S0, d, w) (.ref (135)) (.int v) = some (S0, q_d d (135) 30 v, w) := ev_put (sh_m) rfl
theorem g_m_31 {d : Nat → Nat → Int32} {w : Nat → Nat → Int64} : o_get 11 31 (S0, d, w) (.ref (135)) = some (.int (d (135) 31)) := ev_getI (sh_m) rfl
theorem p_m_31 {d : Nat → Nat → Int32} {w : Nat → Nat → Int64} : e_putZ 11 31 (S0, d, w) (.ref (135)) (.int 1) = some (S0, q_d d (135) 31 1, w) := ev_putZ (sh_m) rfl
theorem g_m_32 {d : Nat → Nat → Int32} {w : Nat → Nat → Int64} : o_get 11 32 (S0, d, w) (.ref (135)) = some (.int (d (135) 32)) := ev_getI (sh_m) rfl
theorem p_m_32 {d : Nat → Nat → Int32} {w : Nat → Nat → Int64} {v : Int32} : e_put 11 32 (S0, d, w) (.ref (135)) (.int v) = some (S0, q_d d (135) 32 v, w) := ev_put (sh_m) rfl
theorem g_m_33 {d : Nat → Nat → Int32} {w : Nat → Nat → Int64} : o_get 11 33 (S0, d, w) (.ref (135)) = some (.int (d (135) 33)) := ev_getI (sh_m) rfl
theorem p_m_33 {d : Nat → Nat → Int32} {w : Nat → Nat → Int64} {v : Int32} : e_put 11 33 (S0, d, w) (.ref (135)) (.int v) = some (S0, q_d d (135) 33 v, w) := ev_put (sh_m) rfl
theorem g_m_34 {d : Nat → Nat → Int32} {w : Nat → Nat → Int64} : o_get 11 34 (S0, d, w) (.ref (135)) = some (.int (d (135) 34)) := ev_getI (sh_m) rfl
theorem p_m_34 {d : Nat → Nat → Int32} {w : Nat → Nat → Int64} {v : Int32} : e_put 11 34 (S0, d, w) (.ref (135)) (.int v) = some (S0, q_d d (135) 34 v, w) := ev_put (sh_m) rfl
theorem g_m_35 {d : Nat → Nat → Int32} {w : Nat → Nat → Int64} : o_get 11 35 (S0, d, w) (.ref (135)) = some (.int (d (135) 35)) := ev_getI (sh_m) rfl
theorem p_m_35 {d : Nat → Nat → Int32} {w : Nat → Nat → Int64} {v : Int32} : e_put 11 35 (S0, d, w) (.ref (135)) (.int v) = some (S0, q_d d (135) 35 v, w) := ev_put (sh_m) rfl
theorem g_m_36 {d : Nat → Nat → Int32} {w : Nat → Nat → Int64} : o_get 11 36 (S0, d, w) (.ref (135)) = some (.int (d (135) 36)) := ev_getI (sh_m) rfl
theorem p_m_36 {d : Nat → Nat → Int32} {w : Nat → Nat → Int64} {v : Int32} : e_put 11 36 (S0, d, w) (.ref (135)) (.int v) = some (S0, q_d d (135) 36 v, w) := ev_put (sh_m) rfl
theorem g_m_37 {d : Nat → Nat → Int32} {w : Nat → Nat → Int64} : o_get 11 37 (S0, d, w) (.ref (135)) = some (.int (d (135) 37)) := ev_getI (sh_m) rfl
theorem p_m_37 {d : Nat → Nat → Int32} {w : Nat → Nat → Int64} {v : Int32} : e_put 11 37 (S0, d, w) (.ref (135)) (.int v) = some (S0, q_d d (135) 37 v, w) := ev_put (sh_m) rfl
theorem g_m_38 {d : Nat → Nat → Int32} {w : Nat → Nat → Int64} : o_get 11 38 (S0, d, w) (.ref (135)) = some (.ref (155)) := ev_getA (sh_m) rfl
theorem g_m_39 {d : Nat → Nat → Int32} {w : Nat → Nat → Int64} : o_get 11 39 (S0, d, w) (.ref (135)) = some (.ref (156)) := ev_getA (sh_m) rfl
theorem g_m_40 {d : Nat → Nat → Int32} {w : Nat → Nat → Int64} : o_get 11 40 (S0, d, w) (.ref (135)) = some (.ref (157)) := ev_getA (sh_m) rfl
theorem g_m_41 {d : Nat → Nat → Int32} {w : Nat → Nat → Int64} : o_get 11 41 (S0, d, w) (.ref (135)) = some (.ref (158)) := ev_getA (sh_m) rfl
theorem g_m_42 {d : Nat → Nat → Int32} {w : Nat → Nat → Int64} : o_get 11 42 (S0, d, w) (.ref (135)) = some (.ref (159)) := ev_getA (sh_m) rfl
theorem g_m_43 {d : Nat → Nat → Int32} {w : Nat → Nat → Int64} : o_get 11 43 (S0, d, w) (.ref (135)) = some (.ref (160)) := ev_getA (sh_m) rfl
theorem g_m_44 {d : Nat → Nat → Int32} {w : Nat → Nat → Int64} : o_get 11 44 (S0, d, w) (.ref (135)) = some (.ref (161)) := ev_getA (sh_m) rfl
theorem g_m_45 {d : Nat → Nat → Int32} {w : Nat → Nat → Int64} : o_get 11 45 (S0, d, w) (.ref (135)) = some (.ref (162)) := ev_getA (sh_m) rfl
theorem g_m_46 {d : Nat → Nat → Int32} {w : Nat → Nat → Int64} : o_get 11 46 (S0, d, w) (.ref (135)) = some (.int (d (135) 46)) := ev_getI (sh_m) rfl
theorem p_m_46 {d : Nat → Nat → Int32} {w : Nat → Nat → Int64} {v : Int32} : e_put 11 46 (S0, d, w) (.ref (135)) (.int v) = some (S0, q_d d (135) 46 v, w) := ev_put (sh_m) rfl
theorem g_m_47 {d : Nat → Nat → Int32} {w : Nat → Nat → Int64} : o_get 11 47 (S0, d, w) (.ref (135)) = some (.int (d (135) 47)) := ev_getI (sh_m) rfl
theorem p_m_47 {d : Nat → Nat → Int32} {w : Nat → Nat → Int64} {v : Int32} : e_put 11 47 (S0, d, w) (.ref (135)) (.int v) = some (S0, q_d d (135) 47 v, w) := ev_put (sh_m) rfl
theorem g_m_48 {d : Nat → Nat → Int32} {w : Nat → Nat → Int64} : o_get 11 48 (S0, d, w) (.ref (135)) = some (.int (d (135) 48)) := ev_getI (sh_m) rfl
theorem p_m_48 {d : Nat → Nat → Int32} {w : Nat → Nat → Int64} {v : Int32} : e_put 11 48 (S0, d, w) (.ref (135)) (.int v) = some (S0, q_d d (135) 48 v, w) := ev_put (sh_m) rfl
theorem g_m_49 {d : Nat → Nat → Int32} {w : Nat → Nat → Int64} : o_get 11 49 (S0, d, w) (.ref (135)) = some (.int (d (135) 49)) := ev_getI (sh_m) rfl
theorem p_m_49 {d : Nat → Nat → Int32} {w : Nat → Nat → Int64} {v : Int32} : e_put 11 49 (S0, d, w) (.ref (135)) (.int v) = some (S0, q_d d (135) 49 v, w) := ev_put (sh_m) rfl
theorem g_m_50 {d : Nat → Nat → Int32} {w : Nat → Nat → Int64} : o_get 11 50 (S0, d, w) (.ref (135)) = some (.ref (163)) := ev_getA (sh_m) rfl
theorem g_m_51 {d : Nat → Nat → Int32} {w : Nat → Nat → Int64} : o_get 11 51 (S0, d, w) (.ref (135)) = some (.ref (164)) := ev_getA (sh_m) rfl
theorem g_m_52 {d : Nat → Nat → Int32} {w : Nat → Nat → Int64} : o_get 11 52 (S0, d, w) (.ref (135)) = some (.int (d (135) 52)) := ev_getI (sh_m) rfl
theorem p_m_52 {d : Nat → Nat → Int32} {w : Nat → Nat → Int64} {v : Int32} : e_put 11 52 (S0, d, w) (.ref (135)) (.int v) = some (S0, q_d d (135) 52 v, w) := ev_put (sh_m) rfl
theorem g_m_53 {d : Nat → Nat → Int32} {w : Nat → Nat → Int64} : o_get 11 53 (S0, d, w) (.ref (135)) = some (.int (d (135) 53)) := ev_getI (sh_m) rfl
theorem p_m_53 {d : Nat → Nat → Int32} {w : Nat → Nat → Int64} {v : Int32} : e_put 11 53 (S0, d, w) (.ref (135)) (.int v) = some (S0, q_d d (135) 53 v, w) := ev_put (sh_m) rfl
theorem g_m_54 {d : Nat → Nat → Int32} {w : Nat → Nat → Int64} : o_get 11 54 (S0, d, w) (.ref (135)) = some (.int (d (135) 54)) := ev_getI (sh_m) rfl
theorem p_m_54 {d : Nat → Nat → Int32} {w : Nat → Nat → Int64} {v : Int32} : e_put 11 54 (S0, d, w) (.ref (135)) (.int v) = some (S0, q_d d (135) 54 v, w) := ev_put (sh_m) rfl
theorem g_m_55 {d : Nat → Nat → Int32} {w : Nat → Nat → Int64} : o_get 11 55 (S0, d, w) (.ref (135)) = some (.ref (165)) := ev_getA (sh_m) rfl
theorem g_m_56 {d : Nat → Nat → Int32} {w : Nat → Nat → Int64} : o_get 11 56 (S0, d, w) (.ref (135)) = some (.ref (166)) := ev_getA (sh_m) rfl
theorem g_m_57 {d : Nat → Nat → Int32} {w : Nat → Nat → Int64} : o_get 11 57 (S0, d, w) (.ref (135)) = some (.ref (167)) := ev_getA (sh_m) rfl
theorem g_m_58 {d : Nat → Nat → Int32} {w : Nat → Nat → Int64} : o_get 11 58 (S0, d, w) (.ref (135)) = some (.int (d (135) 58)) := ev_getI (sh_m) rfl
theorem p_m_58 {d : Nat → Nat → Int32} {w : Nat → Nat → Int64} {v : Int32} : e_put 11 58 (S0, d, w) (.ref (135)) (.int v) = some (S0, q_d d (135) 58 v, w) := ev_put (sh_m) rfl
theorem g_m_59 {d : Nat → Nat → Int32} {w : Nat → Nat → Int64} : o_get 11 59 (S0, d, w) (.ref (135)) = some (.ref (168)) := ev_getA (sh_m) rfl
theorem g_m_60 {d : Nat → Nat → Int32} {w : Nat → Nat → Int64} : o_get 11 60 (S0, d, w) (.ref (135)) = some (.ref (169)) := ev_getA (sh_m) rfl
theorem g_m_61 {d : Nat → Nat → Int32} {w : Nat → Nat → Int64} : o_get 11 61 (S0, d, w) (.ref (135)) = some (.ref (170)) := ev_getA (sh_m) rfl
theorem sh_now : S0[7]? = some (.inr (.inr (4, [some (some 8), some (some 9), none, none]))) := by decide +kernel
theorem r_now {d : Nat → Nat → Int32} {w : Nat → Nat → Int64} {m : q_M} {as : List Value} : q_R 4 m (.ref (7) :: as) (S0, d, w) = m (.ref (7) :: as) (S0, d, w) := ev_R (sh_now)
theorem g_now_0 {d : Nat → Nat → Int32} {w : Nat → Nat → Int64} : o_get 4 0 (S0, d, w) (.ref (7)) = some (.ref (8)) := ev_getA (sh_now) rfl
theorem g_now_1 {d : Nat → Nat → Int32} {w : Nat → Nat → Int64} : o_get 4 1 (S0, d, w) (.ref (7)) = some (.ref (9)) := ev_getA (sh_now) rfl
theorem g_now_2 {d : Nat → Nat → Int32} {w : Nat → Nat → Int64} : o_get 4 2 (S0, d, w) (.ref (7)) = some (.int (d (7) 2)) := ev_getI (sh_now) rfl
theorem p_now_2 {d : Nat → Nat → Int32} {w : Nat → Nat → Int64} {v : Int32} : e_put 4 2 (S0, d, w) (.ref (7)) (.int v) = some (S0, q_d d (7) 2 v, w) := ev_put (sh_now) rfl
theorem g_now_3 {d : Nat → Nat → Int32} {w : Nat → Nat → Int64} : o_get 4 3 (S0, d, w) (.ref (7)) = some (.int (d (7) 3)) := ev_getI (sh_now) rfl
theorem p_now_3 {d : Nat → Nat → Int32} {w : Nat → Nat → Int64} {v : Int32} : e_put 4 3 (S0, d, w) (.ref (7)) (.int v) = some (S0, q_d d (7) 3 v, w) := ev_put (sh_now) rfl
theorem sh_kept : S0[20]? = some (.inr (.inr (4, [some (some 21), some (some 22), none, none]))) := by decide +kernel
theorem r_kept {d : Nat → Nat → Int32} {w : Nat → Nat → Int64} {m : q_M} {as : List Value} : q_R 4 m (.ref (20) :: as) (S0, d, w) = m (.ref (20) :: as) (S0, d, w) := ev_R (sh_kept)
theorem g_kept_0 {d : Nat → Nat → Int32} {w : Nat → Nat → Int64} : o_get 4 0 (S0, d, w) (.ref (20)) = some (.ref (21)) := ev_getA (sh_kept) rfl
theorem g_kept_1 {d : Nat → Nat → Int32} {w : Nat → Nat → Int64} : o_get 4 1 (S0, d, w) (.ref (20)) = some (.ref (22)) := ev_getA (sh_kept) rfl
theorem g_kept_2 {d : Nat → Nat → Int32} {w : Nat → Nat → Int64} : o_get 4 2 (S0, d, w) (.ref (20)) = some (.int (d (20) 2)) := ev_getI (sh_kept) rfl
theorem p_kept_2 {d : Nat → Nat → Int32} {w : Nat → Nat → Int64} {v : Int32} : e_put 4 2 (S0, d, w) (.ref (20)) (.int v) = some (S0, q_d d (20) 2 v, w) := ev_put (sh_kept) rfl
theorem g_kept_3 {d : Nat → Nat → Int32} {w : Nat → Nat → Int64} : o_get 4 3 (S0, d, w) (.ref (20)) = some (.int (d (20) 3)) := ev_getI (sh_kept) rfl
theorem p_kept_3 {d : Nat → Nat → Int32} {w : Nat → Nat → Int64} {v : Int32} : e_put 4 3 (S0, d, w) (.ref (20)) (.int v) = some (S0, q_d d (20) 3 v, w) := ev_put (sh_kept) rfl
theorem sh_reader : S0[33]? = some (.inr (.inr (5, [some (some 34), none, none, none, none, none, some (some 35)]))) := by decide +kernel
theorem r_reader {d : Nat → Nat → Int32} {w : Nat → Nat → Int64} {m : q_M} {as : List Value} : q_R 5 m (.ref (33) :: as) (S0, d, w) = m (.ref (33) :: as) (S0, d, w) := ev_R (sh_reader)
theorem g_reader_0 {d : Nat → Nat → Int32} {w : Nat → Nat → Int64} : o_get 5 0 (S0, d, w) (.ref (33)) = some (.ref (34)) := ev_getA (sh_reader) rfl
theorem g_reader_1 {d : Nat → Nat → Int32} {w : Nat → Nat → Int64} : o_get 5 1 (S0, d, w) (.ref (33)) = some (.int (d (33) 1)) := ev_getI (sh_reader) rfl
theorem p_reader_1 {d : Nat → Nat → Int32} {w : Nat → Nat → Int64} {v : Int32} : e_put 5 1 (S0, d, w) (.ref (33)) (.int v) = some (S0, q_d d (33) 1 v, w) := ev_put (sh_reader) rfl
theorem g_reader_2 {d : Nat → Nat → Int32} {w : Nat → Nat → Int64} : o_get 5 2 (S0, d, w) (.ref (33)) = some (.int (d (33) 2)) := ev_getI (sh_reader) rfl
theorem p_reader_2 {d : Nat → Nat → Int32} {w : Nat → Nat → Int64} {v : Int32} : e_put 5 2 (S0, d, w) (.ref (33)) (.int v) = some (S0, q_d d (33) 2 v, w) := ev_put (sh_reader) rfl
theorem g_reader_3 {d : Nat → Nat → Int32} {w : Nat → Nat → Int64} : o_get 5 3 (S0, d, w) (.ref (33)) = some (.int (d (33) 3)) := ev_getI (sh_reader) rfl
theorem p_reader_3 {d : Nat → Nat → Int32} {w : Nat → Nat → Int64} {v : Int32} : e_put 5 3 (S0, d, w) (.ref (33)) (.int v) = some (S0, q_d d (33) 3 v, w) := ev_put (sh_reader) rfl
theorem g_reader_4 {d : Nat → Nat → Int32} {w : Nat → Nat → Int64} : o_get 5 4 (S0, d, w) (.ref (33)) = some (.int (d (33) 4)) := ev_getI (sh_reader) rfl
theorem p_reader_4 {d : Nat → Nat → Int32} {w : Nat → Nat → Int64} {v : Int32} : e_put 5 4 (S0, d, w) (.ref (33)) (.int v) = some (S0, q_d d (33) 4 v, w) := ev_put (sh_reader) rfl
theorem g_reader_5 {d : Nat → Nat → Int32} {w : Nat → Nat → Int64} : o_get 5 5 (S0, d, w) (.ref (33)) = some (.int (d (33) 5)) := ev_getI (sh_reader) rfl
theorem p_reader_5 {d : Nat → Nat → Int32} {w : Nat → Nat → Int64} {v : Int32} : e_put 5 5 (S0, d, w) (.ref (33)) (.int v) = some (S0, q_d d (33) 5 v, w) := ev_put (sh_reader) rfl
theorem g_reader_6 {d : Nat → Nat → Int32} {w : Nat → Nat → Int64} : o_get 5 6 (S0, d, w) (.ref (33)) = some (.ref (35)) := ev_getA (sh_reader) rfl
theorem sh_draft : S0[35]? = some (.inr (.inr (8, [some (some 36), some (some 37), none, none]))) := by decide +kernel
theorem r_draft {d : Nat → Nat → Int32} {w : Nat → Nat → Int64} {m : q_M} {as : List Value} : q_R 8 m (.ref (35) :: as) (S0, d, w) = m (.ref (35) :: as) (S0, d, w) := ev_R (sh_draft)
theorem g_draft_0 {d : Nat → Nat → Int32} {w : Nat → Nat → Int64} : o_get 8 0 (S0, d, w) (.ref (35)) = some (.ref (36)) := ev_getA (sh_draft) rfl
theorem g_draft_1 {d : Nat → Nat → Int32} {w : Nat → Nat → Int64} : o_get 8 1 (S0, d, w) (.ref (35)) = some (.ref (37)) := ev_getA (sh_draft) rfl
theorem g_draft_2 {d : Nat → Nat → Int32} {w : Nat → Nat → Int64} : o_get 8 2 (S0, d, w) (.ref (35)) = some (.int (d (35) 2)) := ev_getI (sh_draft) rfl
theorem p_draft_2 {d : Nat → Nat → Int32} {w : Nat → Nat → Int64} {v : Int32} : e_put 8 2 (S0, d, w) (.ref (35)) (.int v) = some (S0, q_d d (35) 2 v, w) := ev_put (sh_draft) rfl
theorem g_draft_3 {d : Nat → Nat → Int32} {w : Nat → Nat → Int64} : o_get 8 3 (S0, d, w) (.ref (35)) = some (.int (d (35) 3)) := ev_getI (sh_draft) rfl
theorem p_draft_3 {d : Nat → Nat → Int32} {w : Nat → Nat → Int64} {v : Int32} : e_put 8 3 (S0, d, w) (.ref (35)) (.int v) = some (S0, q_d d (35) 3 v, w) := ev_put (sh_draft) rfl
theorem sh_mach : S0[38]? = some (.inr (.inr (3, [some (some 39), some (some 40), none]))) := by decide +kernel
theorem r_mach {d : Nat → Nat → Int32} {w : Nat → Nat → Int64} {m : q_M} {as : List Value} : q_R 3 m (.ref (38) :: as) (S0, d, w) = m (.ref (38) :: as) (S0, d, w) := ev_R (sh_mach)
theorem g_mach_0 {d : Nat → Nat → Int32} {w : Nat → Nat → Int64} : o_get 3 0 (S0, d, w) (.ref (38)) = some (.ref (39)) := ev_getA (sh_mach) rfl
theorem g_mach_1 {d : Nat → Nat → Int32} {w : Nat → Nat → Int64} : o_get 3 1 (S0, d, w) (.ref (38)) = some (.ref (40)) := ev_getA (sh_mach) rfl
theorem g_mach_2 {d : Nat → Nat → Int32} {w : Nat → Nat → Int64} : o_get 3 2 (S0, d, w) (.ref (38)) = some (.int (d (38) 2)) := ev_getI (sh_mach) rfl
theorem p_mach_2 {d : Nat → Nat → Int32} {w : Nat → Nat → Int64} {v : Int32} : e_put 3 2 (S0, d, w) (.ref (38)) (.int v) = some (S0, q_d d (38) 2 v, w) := ev_put (sh_mach) rfl
theorem sh_sum : S0[41]? = some (.inr (.inr (7, [some (some 42)]))) := by decide +kernel
theorem r_sum {d : Nat → Nat → Int32} {w : Nat → Nat → Int64} {m : q_M} {as : List Value} : q_R 7 m (.ref (41) :: as) (S0, d, w) = m (.ref (41) :: as) (S0, d, w) := ev_R (sh_sum)
theorem g_sum_0 {d : Nat → Nat → Int32} {w : Nat → Nat → Int64} : o_get 7 0 (S0, d, w) (.ref (41)) = some (.ref (42)) := ev_getA (sh_sum) rfl
theorem sh_fuse {i : Nat} (hi : i < 6) : S0[45 + i]? = some (.inr (.inr (1, [none, none, none]))) := q_eqO_of (q_all (n := 6) (f := fun i => q_eqO S0[45 + i]? (some (.inr (.inr (1, [none, none, none]))))) (by decide +kernel) hi)
theorem r_fuse {d : Nat → Nat → Int32} {w : Nat → Nat → Int64} {m : q_M} {as : List Value} {i : Nat} (hi : i < 6) : q_R 1 m (.ref (45 + i) :: as) (S0, d, w) = m (.ref (45 + i) :: as) (S0, d, w) := ev_R (sh_fuse hi)
theorem g_fuse_0 {d : Nat → Nat → Int32} {w : Nat → Nat → Int64} {i : Nat} (hi : i < 6) : o_get 1 0 (S0, d, w) (.ref (45 + i)) = some (.int (d (45 + i) 0)) := ev_getI (sh_fuse hi) rfl
theorem p_fuse_0 {d : Nat → Nat → Int32} {w : Nat → Nat → Int64} {i : Nat} (hi : i < 6) {v : Int32} : e_put 1 0 (S0, d, w) (.ref (45 + i)) (.int v) = some (S0, q_d d (45 + i) 0 v, w) := ev_put (sh_fuse hi) rfl
theorem g_fuse_1 {d : Nat → Nat → Int32} {w : Nat → Nat → Int64} {i : Nat} (hi : i < 6) : o_get 1 1 (S0, d, w) (.ref (45 + i)) = some (.int (d (45 + i) 1)) := ev_getI (sh_fuse hi) rfl
theorem p_fuse_1 {d : Nat → Nat → Int32} {w : Nat → Nat → Int64} {i : Nat} (hi : i < 6) {v : Int32} : e_put 1 1 (S0, d, w) (.ref (45 + i)) (.int v) = some (S0, q_d d (45 + i) 1 v, w) := ev_put (sh_fuse hi) rfl
theorem g_fuse_2 {d : Nat → Nat → Int32} {w : Nat → Nat → Int64} {i : Nat} (hi : i < 6) : o_get 1 2 (S0, d, w) (.ref (45 + i)) = some (.int (d (45 + i) 2)) := ev_getI (sh_fuse hi) rfl
theorem p_fuse_2 {d : Nat → Nat → Int32} {w : Nat → Nat → Int64} {i : Nat} (hi : i < 6) {v : Int32} : e_put 1 2 (S0, d, w) (.ref (45 + i)) (.int v) = some (S0, q_d d (45 + i) 2 v, w) := ev_put (sh_fuse hi) rfl
theorem sh_lamp {i : Nat} (hi : i < 10) : S0[51 + i]? = some (.inr (.inr (2, [none, none, none, none, none, none]))) := q_eqO_of (q_all (n := 10) (f := fun i => q_eqO S0[51 + i]? (some (.inr (.inr (2, [none, none, none, none, none, none]))))) (by decide +kernel) hi)
theorem r_lamp {d : Nat → Nat → Int32} {w : Nat → Nat → Int64} {m : q_M} {as : List Value} {i : Nat} (hi : i < 10) : q_R 2 m (.ref (51 + i) :: as) (S0, d, w) = m (.ref (51 + i) :: as) (S0, d, w) := ev_R (sh_lamp hi)
theorem g_lamp_0 {d : Nat → Nat → Int32} {w : Nat → Nat → Int64} {i : Nat} (hi : i < 10) : o_get 2 0 (S0, d, w) (.ref (51 + i)) = some (.int (d (51 + i) 0)) := ev_getI (sh_lamp hi) rfl
theorem p_lamp_0 {d : Nat → Nat → Int32} {w : Nat → Nat → Int64} {i : Nat} (hi : i < 10) {v : Int32} : e_put 2 0 (S0, d, w) (.ref (51 + i)) (.int v) = some (S0, q_d d (51 + i) 0 v, w) := ev_put (sh_lamp hi) rfl
theorem g_lamp_1 {d : Nat → Nat → Int32} {w : Nat → Nat → Int64} {i : Nat} (hi : i < 10) : o_get 2 1 (S0, d, w) (.ref (51 + i)) = some (.int (d (51 + i) 1)) := ev_getI (sh_lamp hi) rfl
theorem p_lamp_1 {d : Nat → Nat → Int32} {w : Nat → Nat → Int64} {i : Nat} (hi : i < 10) {v : Int32} : e_put 2 1 (S0, d, w) (.ref (51 + i)) (.int v) = some (S0, q_d d (51 + i) 1 v, w) := ev_put (sh_lamp hi) rfl
theorem g_lamp_2 {d : Nat → Nat → Int32} {w : Nat → Nat → Int64} {i : Nat} (hi : i < 10) : o_get 2 2 (S0, d, w) (.ref (51 + i)) = some (.int (d (51 + i) 2)) := ev_getI (sh_lamp hi) rfl
theorem p_lamp_2 {d : Nat → Nat → Int32} {w : Nat → Nat → Int64} {i : Nat} (hi : i < 10) {v : Int32} : e_put 2 2 (S0, d, w) (.ref (51 + i)) (.int v) = some (S0, q_d d (51 + i) 2 v, w) := ev_put (sh_lamp hi) rfl
theorem g_lamp_3 {d : Nat → Nat → Int32} {w : Nat → Nat → Int64} {i : Nat} (hi : i < 10) : o_get 2 3 (S0, d, w) (.ref (51 + i)) = some (.int (d (51 + i) 3)) := ev_getI (sh_lamp hi) rfl
theorem p_lamp_3 {d : Nat → Nat → Int32} {w : Nat → Nat → Int64} {i : Nat} (hi : i < 10) {v : Int32} : e_put 2 3 (S0, d, w) (.ref (51 + i)) (.int v) = some (S0, q_d d (51 + i) 3 v, w) := ev_put (sh_lamp hi) rfl
theorem g_lamp_4 {d : Nat → Nat → Int32} {w : Nat → Nat → Int64} {i : Nat} (hi : i < 10) : o_get 2 4 (S0, d, w) (.ref (51 + i)) = some (.int (d (51 + i) 4)) := ev_getI (sh_lamp hi) rfl
theorem p_lamp_4 {d : Nat → Nat → Int32} {w : Nat → Nat → Int64} {i : Nat} (hi : i < 10) {v : Int32} : e_put 2 4 (S0, d, w) (.ref (51 + i)) (.int v) = some (S0, q_d d (51 + i) 4 v, w) := ev_put (sh_lamp hi) rfl
theorem g_lamp_5 {d : Nat → Nat → Int32} {w : Nat → Nat → Int64} {i : Nat} (hi : i < 10) : o_get 2 5 (S0, d, w) (.ref (51 + i)) = some (.int (d (51 + i) 5)) := ev_getI (sh_lamp hi) rfl
theorem p_lamp_5 {d : Nat → Nat → Int32} {w : Nat → Nat → Int64} {i : Nat} (hi : i < 10) {v : Int32} : e_put 2 5 (S0, d, w) (.ref (51 + i)) (.int v) = some (S0, q_d d (51 + i) 5 v, w) := ev_put (sh_lamp hi) rfl
theorem sh_house {i : Nat} (hi : i < 12) : S0[61 + 3 * i]? = some (.inr (.inr (9, [some (some (62 + 3 * i)), some (some (63 + 3 * i)), none]))) := q_eqO_of (q_all (n := 12) (f := fun i => q_eqO S0[61 + 3 * i]? (some (.inr (.inr (9, [some (some (62 + 3 * i)), some (some (63 + 3 * i)), none]))))) (by decide +kernel) hi)
theorem r_house {d : Nat → Nat → Int32} {w : Nat → Nat → Int64} {m : q_M} {as : List Value} {i : Nat} (hi : i < 12) : q_R 9 m (.ref (61 + 3 * i) :: as) (S0, d, w) = m (.ref (61 + 3 * i) :: as) (S0, d, w) := ev_R (sh_house hi)
theorem g_house_0 {d : Nat → Nat → Int32} {w : Nat → Nat → Int64} {i : Nat} (hi : i < 12) : o_get 9 0 (S0, d, w) (.ref (61 + 3 * i)) = some (.ref (62 + 3 * i)) := ev_getA (sh_house hi) rfl
theorem g_house_1 {d : Nat → Nat → Int32} {w : Nat → Nat → Int64} {i : Nat} (hi : i < 12) : o_get 9 1 (S0, d, w) (.ref (61 + 3 * i)) = some (.ref (63 + 3 * i)) := ev_getA (sh_house hi) rfl
theorem g_house_2 {d : Nat → Nat → Int32} {w : Nat → Nat → Int64} {i : Nat} (hi : i < 12) : o_get 9 2 (S0, d, w) (.ref (61 + 3 * i)) = some (.int (d (61 + 3 * i) 2)) := ev_getI (sh_house hi) rfl
theorem p_house_2 {d : Nat → Nat → Int32} {w : Nat → Nat → Int64} {i : Nat} (hi : i < 12) {v : Int32} : e_put 9 2 (S0, d, w) (.ref (61 + 3 * i)) (.int v) = some (S0, q_d d (61 + 3 * i) 2 v, w) := ev_put (sh_house hi) rfl
theorem sh_label {i : Nat} (hi : i < 4) : S0[97 + 3 * i]? = some (.inr (.inr (9, [some (some (98 + 3 * i)), some (some (99 + 3 * i)), none]))) := q_eqO_of (q_all (n := 4) (f := fun i => q_eqO S0[97 + 3 * i]? (some (.inr (.inr (9, [some (some (98 + 3 * i)), some (some (99 + 3 * i)), none]))))) (by decide +kernel) hi)
theorem r_label {d : Nat → Nat → Int32} {w : Nat → Nat → Int64} {m : q_M} {as : List Value} {i : Nat} (hi : i < 4) : q_R 9 m (.ref (97 + 3 * i) :: as) (S0, d, w) = m (.ref (97 + 3 * i) :: as) (S0, d, w) := ev_R (sh_label hi)
theorem g_label_0 {d : Nat → Nat → Int32} {w : Nat → Nat → Int64} {i : Nat} (hi : i < 4) : o_get 9 0 (S0, d, w) (.ref (97 + 3 * i)) = some (.ref (98 + 3 * i)) := ev_getA (sh_label hi) rfl
theorem g_label_1 {d : Nat → Nat → Int32} {w : Nat → Nat → Int64} {i : Nat} (hi : i < 4) : o_get 9 1 (S0, d, w) (.ref (97 + 3 * i)) = some (.ref (99 + 3 * i)) := ev_getA (sh_label hi) rfl
theorem g_label_2 {d : Nat → Nat → Int32} {w : Nat → Nat → Int64} {i : Nat} (hi : i < 4) : o_get 9 2 (S0, d, w) (.ref (97 + 3 * i)) = some (.int (d (97 + 3 * i) 2)) := ev_getI (sh_label hi) rfl
theorem p_label_2 {d : Nat → Nat → Int32} {w : Nat → Nat → Int64} {i : Nat} (hi : i < 4) {v : Int32} : e_put 9 2 (S0, d, w) (.ref (97 + 3 * i)) (.int v) = some (S0, q_d d (97 + 3 * i) 2 v, w) := ev_put (sh_label hi) rfl
theorem sh_text {i : Nat} (hi : i < 6) : S0[109 + 3 * i]? = some (.inr (.inr (8, [some (some (110 + 3 * i)), some (some (111 + 3 * i)), none, none]))) := q_eqO_of (q_all (n := 6) (f := fun i => q_eqO S0[109 + 3 * i]? (some (.inr (.inr (8, [some (some (110 + 3 * i)), some (some (111 + 3 * i)), none, none]))))) (by decide +kernel) hi)
theorem r_text {d : Nat → Nat → Int32} {w : Nat → Nat → Int64} {m : q_M} {as : List Value} {i : Nat} (hi : i < 6) : q_R 8 m (.ref (109 + 3 * i) :: as) (S0, d, w) = m (.ref (109 + 3 * i) :: as) (S0, d, w) := ev_R (sh_text hi)
theorem g_text_0 {d : Nat → Nat → Int32} {w : Nat → Nat → Int64} {i : Nat} (hi : i < 6) : o_get 8 0 (S0, d, w) (.ref (109 + 3 * i)) = some (.ref (110 + 3 * i)) := ev_getA (sh_text hi) rfl
theorem g_text_1 {d : Nat → Nat → Int32} {w : Nat → Nat → Int64} {i : Nat} (hi : i < 6) : o_get 8 1 (S0, d, w) (.ref (109 + 3 * i)) = some (.ref (111 + 3 * i)) := ev_getA (sh_text hi) rfl
theorem g_text_2 {d : Nat → Nat → Int32} {w : Nat → Nat → Int64} {i : Nat} (hi : i < 6) : o_get 8 2 (S0, d, w) (.ref (109 + 3 * i)) = some (.int (d (109 + 3 * i) 2)) := ev_getI (sh_text hi) rfl
theorem p_text_2 {d : Nat → Nat → Int32} {w : Nat → Nat → Int64} {i : Nat} (hi : i < 6) {v : Int32} : e_put 8 2 (S0, d, w) (.ref (109 + 3 * i)) (.int v) = some (S0, q_d d (109 + 3 * i) 2 v, w) := ev_put (sh_text hi) rfl
theorem g_text_3 {d : Nat → Nat → Int32} {w : Nat → Nat → Int64} {i : Nat} (hi : i < 6) : o_get 8 3 (S0, d, w) (.ref (109 + 3 * i)) = some (.int (d (109 + 3 * i) 3)) := ev_getI (sh_text hi) rfl
theorem p_text_3 {d : Nat → Nat → Int32} {w : Nat → Nat → Int64} {i : Nat} (hi : i < 6) {v : Int32} : e_put 8 3 (S0, d, w) (.ref (109 + 3 * i)) (.int v) = some (S0, q_d d (109 + 3 * i) 3 v, w) := ev_put (sh_text hi) rfl
theorem sh_sheet {i : Nat} (hi : i < 4) : S0[127 + 2 * i]? = some (.inr (.inr (6, [some (some (128 + 2 * i)), none, none]))) := q_eqO_of (q_all (n := 4) (f := fun i => q_eqO S0[127 + 2 * i]? (some (.inr (.inr (6, [some (some (128 + 2 * i)), none, none]))))) (by decide +kernel) hi)
theorem r_sheet {d : Nat → Nat → Int32} {w : Nat → Nat → Int64} {m : q_M} {as : List Value} {i : Nat} (hi : i < 4) : q_R 6 m (.ref (127 + 2 * i) :: as) (S0, d, w) = m (.ref (127 + 2 * i) :: as) (S0, d, w) := ev_R (sh_sheet hi)
theorem g_sheet_0 {d : Nat → Nat → Int32} {w : Nat → Nat → Int64} {i : Nat} (hi : i < 4) : o_get 6 0 (S0, d, w) (.ref (127 + 2 * i)) = some (.ref (128 + 2 * i)) := ev_getA (sh_sheet hi) rfl
theorem g_sheet_1 {d : Nat → Nat → Int32} {w : Nat → Nat → Int64} {i : Nat} (hi : i < 4) : o_get 6 1 (S0, d, w) (.ref (127 + 2 * i)) = some (.int (d (127 + 2 * i) 1)) := ev_getI (sh_sheet hi) rfl
theorem p_sheet_1 {d : Nat → Nat → Int32} {w : Nat → Nat → Int64} {i : Nat} (hi : i < 4) {v : Int32} : e_put 6 1 (S0, d, w) (.ref (127 + 2 * i)) (.int v) = some (S0, q_d d (127 + 2 * i) 1 v, w) := ev_put (sh_sheet hi) rfl
theorem g_sheet_2 {d : Nat → Nat → Int32} {w : Nat → Nat → Int64} {i : Nat} (hi : i < 4) : o_get 6 2 (S0, d, w) (.ref (127 + 2 * i)) = some (.int (d (127 + 2 * i) 2)) := ev_getI (sh_sheet hi) rfl
theorem p_sheet_2 {d : Nat → Nat → Int32} {w : Nat → Nat → Int64} {i : Nat} (hi : i < 4) {v : Int32} : e_put 6 2 (S0, d, w) (.ref (127 + 2 * i)) (.int v) = some (S0, q_d d (127 + 2 * i) 2 v, w) := ev_put (sh_sheet hi) rfl
theorem sh_ask {i : Nat} (hi : i < 10) : S0[10 + i]? = some (.inr (.inr (0, [none, none, none, none, none]))) := q_eqO_of (q_all (n := 10) (f := fun i => q_eqO S0[10 + i]? (some (.inr (.inr (0, [none, none, none, none, none]))))) (by decide +kernel) hi)
theorem r_ask {d : Nat → Nat → Int32} {w : Nat → Nat → Int64} {m : q_M} {as : List Value} {i : Nat} (hi : i < 10) : q_R 0 m (.ref (10 + i) :: as) (S0, d, w) = m (.ref (10 + i) :: as) (S0, d, w) := ev_R (sh_ask hi)
theorem g_ask_0 {d : Nat → Nat → Int32} {w : Nat → Nat → Int64} {i : Nat} (hi : i < 10) : o_get 0 0 (S0, d, w) (.ref (10 + i)) = some (.int (d (10 + i) 0)) := ev_getI (sh_ask hi) rfl
theorem p_ask_0 {d : Nat → Nat → Int32} {w : Nat → Nat → Int64} {i : Nat} (hi : i < 10) {v : Int32} : e_put 0 0 (S0, d, w) (.ref (10 + i)) (.int v) = some (S0, q_d d (10 + i) 0 v, w) := ev_put (sh_ask hi) rfl
theorem g_ask_1 {d : Nat → Nat → Int32} {w : Nat → Nat → Int64} {i : Nat} (hi : i < 10) : o_get 0 1 (S0, d, w) (.ref (10 + i)) = some (.int (d (10 + i) 1)) := ev_getI (sh_ask hi) rfl
theorem p_ask_1 {d : Nat → Nat → Int32} {w : Nat → Nat → Int64} {i : Nat} (hi : i < 10) {v : Int32} : e_put 0 1 (S0, d, w) (.ref (10 + i)) (.int v) = some (S0, q_d d (10 + i) 1 v, w) := ev_put (sh_ask hi) rfl
theorem g_ask_2 {d : Nat → Nat → Int32} {w : Nat → Nat → Int64} {i : Nat} (hi : i < 10) : o_get 0 2 (S0, d, w) (.ref (10 + i)) = some (.int (d (10 + i) 2)) := ev_getI (sh_ask hi) rfl
theorem p_ask_2 {d : Nat → Nat → Int32} {w : Nat → Nat → Int64} {i : Nat} (hi : i < 10) {v : Int32} : e_put 0 2 (S0, d, w) (.ref (10 + i)) (.int v) = some (S0, q_d d (10 + i) 2 v, w) := ev_put (sh_ask hi) rfl
theorem g_ask_3 {d : Nat → Nat → Int32} {w : Nat → Nat → Int64} {i : Nat} (hi : i < 10) : o_get 0 3 (S0, d, w) (.ref (10 + i)) = some (.int (d (10 + i) 3)) := ev_getI (sh_ask hi) rfl
theorem p_ask_3 {d : Nat → Nat → Int32} {w : Nat → Nat → Int64} {i : Nat} (hi : i < 10) {v : Int32} : e_put 0 3 (S0, d, w) (.ref (10 + i)) (.int v) = some (S0, q_d d (10 + i) 3 v, w) := ev_put (sh_ask hi) rfl
theorem g_ask_4 {d : Nat → Nat → Int32} {w : Nat → Nat → Int64} {i : Nat} (hi : i < 10) : o_get 0 4 (S0, d, w) (.ref (10 + i)) = some (.int (d (10 + i) 4)) := ev_getI (sh_ask hi) rfl
theorem p_ask_4 {d : Nat → Nat → Int32} {w : Nat → Nat → Int64} {i : Nat} (hi : i < 10) {v : Int32} : e_put 0 4 (S0, d, w) (.ref (10 + i)) (.int v) = some (S0, q_d d (10 + i) 4 v, w) := ev_put (sh_ask hi) rfl
theorem sh_kask {i : Nat} (hi : i < 10) : S0[23 + i]? = some (.inr (.inr (0, [none, none, none, none, none]))) := q_eqO_of (q_all (n := 10) (f := fun i => q_eqO S0[23 + i]? (some (.inr (.inr (0, [none, none, none, none, none]))))) (by decide +kernel) hi)
theorem r_kask {d : Nat → Nat → Int32} {w : Nat → Nat → Int64} {m : q_M} {as : List Value} {i : Nat} (hi : i < 10) : q_R 0 m (.ref (23 + i) :: as) (S0, d, w) = m (.ref (23 + i) :: as) (S0, d, w) := ev_R (sh_kask hi)
theorem g_kask_0 {d : Nat → Nat → Int32} {w : Nat → Nat → Int64} {i : Nat} (hi : i < 10) : o_get 0 0 (S0, d, w) (.ref (23 + i)) = some (.int (d (23 + i) 0)) := ev_getI (sh_kask hi) rfl
theorem p_kask_0 {d : Nat → Nat → Int32} {w : Nat → Nat → Int64} {i : Nat} (hi : i < 10) {v : Int32} : e_put 0 0 (S0, d, w) (.ref (23 + i)) (.int v) = some (S0, q_d d (23 + i) 0 v, w) := ev_put (sh_kask hi) rfl
theorem g_kask_1 {d : Nat → Nat → Int32} {w : Nat → Nat → Int64} {i : Nat} (hi : i < 10) : o_get 0 1 (S0, d, w) (.ref (23 + i)) = some (.int (d (23 + i) 1)) := ev_getI (sh_kask hi) rfl
theorem p_kask_1 {d : Nat → Nat → Int32} {w : Nat → Nat → Int64} {i : Nat} (hi : i < 10) {v : Int32} : e_put 0 1 (S0, d, w) (.ref (23 + i)) (.int v) = some (S0, q_d d (23 + i) 1 v, w) := ev_put (sh_kask hi) rfl
theorem g_kask_2 {d : Nat → Nat → Int32} {w : Nat → Nat → Int64} {i : Nat} (hi : i < 10) : o_get 0 2 (S0, d, w) (.ref (23 + i)) = some (.int (d (23 + i) 2)) := ev_getI (sh_kask hi) rfl
theorem p_kask_2 {d : Nat → Nat → Int32} {w : Nat → Nat → Int64} {i : Nat} (hi : i < 10) {v : Int32} : e_put 0 2 (S0, d, w) (.ref (23 + i)) (.int v) = some (S0, q_d d (23 + i) 2 v, w) := ev_put (sh_kask hi) rfl
theorem g_kask_3 {d : Nat → Nat → Int32} {w : Nat → Nat → Int64} {i : Nat} (hi : i < 10) : o_get 0 3 (S0, d, w) (.ref (23 + i)) = some (.int (d (23 + i) 3)) := ev_getI (sh_kask hi) rfl
theorem p_kask_3 {d : Nat → Nat → Int32} {w : Nat → Nat → Int64} {i : Nat} (hi : i < 10) {v : Int32} : e_put 0 3 (S0, d, w) (.ref (23 + i)) (.int v) = some (S0, q_d d (23 + i) 3 v, w) := ev_put (sh_kask hi) rfl
theorem g_kask_4 {d : Nat → Nat → Int32} {w : Nat → Nat → Int64} {i : Nat} (hi : i < 10) : o_get 0 4 (S0, d, w) (.ref (23 + i)) = some (.int (d (23 + i) 4)) := ev_getI (sh_kask hi) rfl
theorem p_kask_4 {d : Nat → Nat → Int32} {w : Nat → Nat → Int64} {i : Nat} (hi : i < 10) {v : Int32} : e_put 0 4 (S0, d, w) (.ref (23 + i)) (.int v) = some (S0, q_d d (23 + i) 4 v, w) := ev_put (sh_kask hi) rfl
theorem sa_dials : S0[8]? = some (.inl (0, 4)) := by decide +kernel
theorem al_dials {d : Nat → Nat → Int32} {w : Nat → Nat → Int64} {j : Nat} (hj : j < 4) : o_iald (S0, d, w) (.ref (8)) (.int (nI j)) = some (.int (d (8) j)) := ev_iald (sa_dials) (by decide) hj
theorem as_dials {d : Nat → Nat → Int32} {w : Nat → Nat → Int64} {j : Nat} {v : Int32} (hj : j < 4) : e_iast (S0, d, w) (.ref (8)) (.int (nI j)) (.int v) = some (S0, q_d d (8) j v, w) := ev_iast (sa_dials) (by decide) hj
theorem sa_kdials : S0[21]? = some (.inl (0, 4)) := by decide +kernel
theorem al_kdials {d : Nat → Nat → Int32} {w : Nat → Nat → Int64} {j : Nat} (hj : j < 4) : o_iald (S0, d, w) (.ref (21)) (.int (nI j)) = some (.int (d (21) j)) := ev_iald (sa_kdials) (by decide) hj
theorem as_kdials {d : Nat → Nat → Int32} {w : Nat → Nat → Int64} {j : Nat} {v : Int32} (hj : j < 4) : e_iast (S0, d, w) (.ref (21)) (.int (nI j)) (.int v) = some (S0, q_d d (21) j v, w) := ev_iast (sa_kdials) (by decide) hj
theorem sa_bytes : S0[34]? = some (.inl (0, 160)) := by decide +kernel
theorem al_bytes {d : Nat → Nat → Int32} {w : Nat → Nat → Int64} {j : Nat} (hj : j < 160) : o_iald (S0, d, w) (.ref (34)) (.int (nI j)) = some (.int (d (34) j)) := ev_iald (sa_bytes) (by decide) hj
theorem as_bytes {d : Nat → Nat → Int32} {w : Nat → Nat → Int64} {j : Nat} {v : Int32} (hj : j < 160) : e_iast (S0, d, w) (.ref (34)) (.int (nI j)) (.int v) = some (S0, q_d d (34) j v, w) := ev_iast (sa_bytes) (by decide) hj
theorem sa_dsteps : S0[36]? = some (.inl (0, 160)) := by decide +kernel
theorem al_dsteps {d : Nat → Nat → Int32} {w : Nat → Nat → Int64} {j : Nat} (hj : j < 160) : o_iald (S0, d, w) (.ref (36)) (.int (nI j)) = some (.int (d (36) j)) := ev_iald (sa_dsteps) (by decide) hj
theorem as_dsteps {d : Nat → Nat → Int32} {w : Nat → Nat → Int64} {j : Nat} {v : Int32} (hj : j < 160) : e_iast (S0, d, w) (.ref (36)) (.int (nI j)) (.int v) = some (S0, q_d d (36) j v, w) := ev_iast (sa_dsteps) (by decide) hj
theorem sa_dends : S0[37]? = some (.inl (0, 3)) := by decide +kernel
theorem al_dends {d : Nat → Nat → Int32} {w : Nat → Nat → Int64} {j : Nat} (hj : j < 3) : o_iald (S0, d, w) (.ref (37)) (.int (nI j)) = some (.int (d (37) j)) := ev_iald (sa_dends) (by decide) hj
theorem as_dends {d : Nat → Nat → Int32} {w : Nat → Nat → Int64} {j : Nat} {v : Int32} (hj : j < 3) : e_iast (S0, d, w) (.ref (37)) (.int (nI j)) (.int v) = some (S0, q_d d (37) j v, w) := ev_iast (sa_dends) (by decide) hj
theorem sa_mnames : S0[39]? = some (.inl (0, 6)) := by decide +kernel
theorem al_mnames {d : Nat → Nat → Int32} {w : Nat → Nat → Int64} {j : Nat} (hj : j < 6) : o_iald (S0, d, w) (.ref (39)) (.int (nI j)) = some (.int (d (39) j)) := ev_iald (sa_mnames) (by decide) hj
theorem as_mnames {d : Nat → Nat → Int32} {w : Nat → Nat → Int64} {j : Nat} {v : Int32} (hj : j < 6) : e_iast (S0, d, w) (.ref (39)) (.int (nI j)) (.int v) = some (S0, q_d d (39) j v, w) := ev_iast (sa_mnames) (by decide) hj
theorem sa_mstack : S0[40]? = some (.inl (0, 160)) := by decide +kernel
theorem al_mstack {d : Nat → Nat → Int32} {w : Nat → Nat → Int64} {j : Nat} (hj : j < 160) : o_iald (S0, d, w) (.ref (40)) (.int (nI j)) = some (.int (d (40) j)) := ev_iald (sa_mstack) (by decide) hj
theorem as_mstack {d : Nat → Nat → Int32} {w : Nat → Nat → Int64} {j : Nat} {v : Int32} (hj : j < 160) : e_iast (S0, d, w) (.ref (40)) (.int (nI j)) (.int v) = some (S0, q_d d (40) j v, w) := ev_iast (sa_mstack) (by decide) hj
theorem sa_shows : S0[43]? = some (.inl (0, 768)) := by decide +kernel
theorem al_shows {d : Nat → Nat → Int32} {w : Nat → Nat → Int64} {j : Nat} (hj : j < 768) : o_iald (S0, d, w) (.ref (43)) (.int (nI j)) = some (.int (d (43) j)) := ev_iald (sa_shows) (by decide) hj
theorem as_shows {d : Nat → Nat → Int32} {w : Nat → Nat → Int64} {j : Nat} {v : Int32} (hj : j < 768) : e_iast (S0, d, w) (.ref (43)) (.int (nI j)) (.int v) = some (S0, q_d d (43) j v, w) := ev_iast (sa_shows) (by decide) hj
theorem sa_said : S0[44]? = some (.inl (0, 110)) := by decide +kernel
theorem al_said {d : Nat → Nat → Int32} {w : Nat → Nat → Int64} {j : Nat} (hj : j < 110) : o_iald (S0, d, w) (.ref (44)) (.int (nI j)) = some (.int (d (44) j)) := ev_iald (sa_said) (by decide) hj
theorem as_said {d : Nat → Nat → Int32} {w : Nat → Nat → Int64} {j : Nat} {v : Int32} (hj : j < 110) : e_iast (S0, d, w) (.ref (44)) (.int (nI j)) (.int v) = some (S0, q_d d (44) j v, w) := ev_iast (sa_said) (by decide) hj
theorem sa_fuseOf {i : Nat} (hi : i < 12) : S0[62 + 3 * i]? = some (.inl (0, 10)) := q_eqO_of (q_all (n := 12) (f := fun i => q_eqO S0[62 + 3 * i]? (some (.inl (0, 10)))) (by decide +kernel) hi)
theorem al_fuseOf {d : Nat → Nat → Int32} {w : Nat → Nat → Int64} {j : Nat} {i : Nat} (hi : i < 12) (hj : j < 10) : o_iald (S0, d, w) (.ref (62 + 3 * i)) (.int (nI j)) = some (.int (d (62 + 3 * i) j)) := ev_iald (sa_fuseOf hi) (by decide) hj
theorem as_fuseOf {d : Nat → Nat → Int32} {w : Nat → Nat → Int64} {j : Nat} {i : Nat} (hi : i < 12) {v : Int32} (hj : j < 10) : e_iast (S0, d, w) (.ref (62 + 3 * i)) (.int (nI j)) (.int v) = some (S0, q_d d (62 + 3 * i) j v, w) := ev_iast (sa_fuseOf hi) (by decide) hj
theorem sa_feeds {i : Nat} (hi : i < 12) : S0[63 + 3 * i]? = some (.inl (0, 6)) := q_eqO_of (q_all (n := 12) (f := fun i => q_eqO S0[63 + 3 * i]? (some (.inl (0, 6)))) (by decide +kernel) hi)
theorem al_feeds {d : Nat → Nat → Int32} {w : Nat → Nat → Int64} {j : Nat} {i : Nat} (hi : i < 12) (hj : j < 6) : o_iald (S0, d, w) (.ref (63 + 3 * i)) (.int (nI j)) = some (.int (d (63 + 3 * i) j)) := ev_iald (sa_feeds hi) (by decide) hj
theorem as_feeds {d : Nat → Nat → Int32} {w : Nat → Nat → Int64} {j : Nat} {i : Nat} (hi : i < 12) {v : Int32} (hj : j < 6) : e_iast (S0, d, w) (.ref (63 + 3 * i)) (.int (nI j)) (.int v) = some (S0, q_d d (63 + 3 * i) j v, w) := ev_iast (sa_feeds hi) (by decide) hj
theorem sa_lfuseOf {i : Nat} (hi : i < 4) : S0[98 + 3 * i]? = some (.inl (0, 10)) := q_eqO_of (q_all (n := 4) (f := fun i => q_eqO S0[98 + 3 * i]? (some (.inl (0, 10)))) (by decide +kernel) hi)
theorem al_lfuseOf {d : Nat → Nat → Int32} {w : Nat → Nat → Int64} {j : Nat} {i : Nat} (hi : i < 4) (hj : j < 10) : o_iald (S0, d, w) (.ref (98 + 3 * i)) (.int (nI j)) = some (.int (d (98 + 3 * i) j)) := ev_iald (sa_lfuseOf hi) (by decide) hj
theorem as_lfuseOf {d : Nat → Nat → Int32} {w : Nat → Nat → Int64} {j : Nat} {i : Nat} (hi : i < 4) {v : Int32} (hj : j < 10) : e_iast (S0, d, w) (.ref (98 + 3 * i)) (.int (nI j)) (.int v) = some (S0, q_d d (98 + 3 * i) j v, w) := ev_iast (sa_lfuseOf hi) (by decide) hj
theorem sa_lfeeds {i : Nat} (hi : i < 4) : S0[99 + 3 * i]? = some (.inl (0, 6)) := q_eqO_of (q_all (n := 4) (f := fun i => q_eqO S0[99 + 3 * i]? (some (.inl (0, 6)))) (by decide +kernel) hi)
theorem al_lfeeds {d : Nat → Nat → Int32} {w : Nat → Nat → Int64} {j : Nat} {i : Nat} (hi : i < 4) (hj : j < 6) : o_iald (S0, d, w) (.ref (99 + 3 * i)) (.int (nI j)) = some (.int (d (99 + 3 * i) j)) := ev_iald (sa_lfeeds hi) (by decide) hj
theorem as_lfeeds {d : Nat → Nat → Int32} {w : Nat → Nat → Int64} {j : Nat} {i : Nat} (hi : i < 4) {v : Int32} (hj : j < 6) : e_iast (S0, d, w) (.ref (99 + 3 * i)) (.int (nI j)) (.int v) = some (S0, q_d d (99 + 3 * i) j v, w) := ev_iast (sa_lfeeds hi) (by decide) hj
theorem sa_steps {i : Nat} (hi : i < 6) : S0[110 + 3 * i]? = some (.inl (0, 160)) := q_eqO_of (q_all (n := 6) (f := fun i => q_eqO S0[110 + 3 * i]? (some (.inl (0, 160)))) (by decide +kernel) hi)
theorem al_steps {d : Nat → Nat → Int32} {w : Nat → Nat → Int64} {j : Nat} {i : Nat} (hi : i < 6) (hj : j < 160) : o_iald (S0, d, w) (.ref (110 + 3 * i)) (.int (nI j)) = some (.int (d (110 + 3 * i) j)) := ev_iald (sa_steps hi) (by decide) hj
theorem as_steps {d : Nat → Nat → Int32} {w : Nat → Nat → Int64} {j : Nat} {i : Nat} (hi : i < 6) {v : Int32} (hj : j < 160) : e_iast (S0, d, w) (.ref (110 + 3 * i)) (.int (nI j)) (.int v) = some (S0, q_d d (110 + 3 * i) j v, w) := ev_iast (sa_steps hi) (by decide) hj
theorem sa_ends {i : Nat} (hi : i < 6) : S0[111 + 3 * i]? = some (.inl (0, 3)) := q_eqO_of (q_all (n := 6) (f := fun i => q_eqO S0[111 + 3 * i]? (some (.inl (0, 3)))) (by decide +kernel) hi)
theorem al_ends {d : Nat → Nat → Int32} {w : Nat → Nat → Int64} {j : Nat} {i : Nat} (hi : i < 6) (hj : j < 3) : o_iald (S0, d, w) (.ref (111 + 3 * i)) (.int (nI j)) = some (.int (d (111 + 3 * i) j)) := ev_iald (sa_ends hi) (by decide) hj
theorem as_ends {d : Nat → Nat → Int32} {w : Nat → Nat → Int64} {j : Nat} {i : Nat} (hi : i < 6) {v : Int32} (hj : j < 3) : e_iast (S0, d, w) (.ref (111 + 3 * i)) (.int (nI j)) (.int v) = some (S0, q_d d (111 + 3 * i) j v, w) := ev_iast (sa_ends hi) (by decide) hj
theorem sa_cells {i : Nat} (hi : i < 4) : S0[128 + 2 * i]? = some (.inl (0, 40)) := q_eqO_of (q_all (n := 4) (f := fun i => q_eqO S0[128 + 2 * i]? (some (.inl (0, 40)))) (by decide +kernel) hi)
theorem al_cells {d : Nat → Nat → Int32} {w : Nat → Nat → Int64} {j : Nat} {i : Nat} (hi : i < 4) (hj : j < 40) : o_iald (S0, d, w) (.ref (128 + 2 * i)) (.int (nI j)) = some (.int (d (128 + 2 * i) j)) := ev_iald (sa_cells hi) (by decide) hj
theorem as_cells {d : Nat → Nat → Int32} {w : Nat → Nat → Int64} {j : Nat} {i : Nat} (hi : i < 4) {v : Int32} (hj : j < 40) : e_iast (S0, d, w) (.ref (128 + 2 * i)) (.int (nI j)) (.int v) = some (S0, q_d d (128 + 2 * i) j v, w) := ev_iast (sa_cells hi) (by decide) hj
theorem sa_rbears : S0[136]? = some (.inl (0, 6)) := by decide +kernel
theorem al_rbears {d : Nat → Nat → Int32} {w : Nat → Nat → Int64} {j : Nat} (hj : j < 6) : o_iald (S0, d, w) (.ref (136)) (.int (nI j)) = some (.int (d (136) j)) := ev_iald (sa_rbears) (by decide) hj
theorem as_rbears {d : Nat → Nat → Int32} {w : Nat → Nat → Int64} {j : Nat} {v : Int32} (hj : j < 6) : e_iast (S0, d, w) (.ref (136)) (.int (nI j)) (.int v) = some (S0, q_d d (136) j v, w) := ev_iast (sa_rbears) (by decide) hj
theorem sa_rtimes : S0[137]? = some (.inl (0, 6)) := by decide +kernel
theorem al_rtimes {d : Nat → Nat → Int32} {w : Nat → Nat → Int64} {j : Nat} (hj : j < 6) : o_iald (S0, d, w) (.ref (137)) (.int (nI j)) = some (.int (d (137) j)) := ev_iald (sa_rtimes) (by decide) hj
theorem as_rtimes {d : Nat → Nat → Int32} {w : Nat → Nat → Int64} {j : Nat} {v : Int32} (hj : j < 6) : e_iast (S0, d, w) (.ref (137)) (.int (nI j)) (.int v) = some (S0, q_d d (137) j v, w) := ev_iast (sa_rtimes) (by decide) hj
theorem sa_rkind : S0[138]? = some (.inl (0, 10)) := by decide +kernel
theorem al_rkind {d : Nat → Nat → Int32} {w : Nat → Nat → Int64} {j : Nat} (hj : j < 10) : o_iald (S0, d, w) (.ref (138)) (.int (nI j)) = some (.int (d (138) j)) := ev_iald (sa_rkind) (by decide) hj
theorem as_rkind {d : Nat → Nat → Int32} {w : Nat → Nat → Int64} {j : Nat} {v : Int32} (hj : j < 10) : e_iast (S0, d, w) (.ref (138)) (.int (nI j)) (.int v) = some (S0, q_d d (138) j v, w) := ev_iast (sa_rkind) (by decide) hj
theorem sa_rpower : S0[139]? = some (.inl (0, 10)) := by decide +kernel
theorem al_rpower {d : Nat → Nat → Int32} {w : Nat → Nat → Int64} {j : Nat} (hj : j < 10) : o_iald (S0, d, w) (.ref (139)) (.int (nI j)) = some (.int (d (139) j)) := ev_iald (sa_rpower) (by decide) hj
theorem as_rpower {d : Nat → Nat → Int32} {w : Nat → Nat → Int64} {j : Nat} {v : Int32} (hj : j < 10) : e_iast (S0, d, w) (.ref (139)) (.int (nI j)) (.int v) = some (S0, q_d d (139) j v, w) := ev_iast (sa_rpower) (by decide) hj
theorem sa_rroomOf : S0[140]? = some (.inl (0, 10)) := by decide +kernel
theorem al_rroomOf {d : Nat → Nat → Int32} {w : Nat → Nat → Int64} {j : Nat} (hj : j < 10) : o_iald (S0, d, w) (.ref (140)) (.int (nI j)) = some (.int (d (140) j)) := ev_iald (sa_rroomOf) (by decide) hj
theorem as_rroomOf {d : Nat → Nat → Int32} {w : Nat → Nat → Int64} {j : Nat} {v : Int32} (hj : j < 10) : e_iast (S0, d, w) (.ref (140)) (.int (nI j)) (.int v) = some (S0, q_d d (140) j v, w) := ev_iast (sa_rroomOf) (by decide) hj
theorem sa_rswitchX : S0[141]? = some (.inl (0, 10)) := by decide +kernel
theorem al_rswitchX {d : Nat → Nat → Int32} {w : Nat → Nat → Int64} {j : Nat} (hj : j < 10) : o_iald (S0, d, w) (.ref (141)) (.int (nI j)) = some (.int (d (141) j)) := ev_iald (sa_rswitchX) (by decide) hj
theorem as_rswitchX {d : Nat → Nat → Int32} {w : Nat → Nat → Int64} {j : Nat} {v : Int32} (hj : j < 10) : e_iast (S0, d, w) (.ref (141)) (.int (nI j)) (.int v) = some (S0, q_d d (141) j v, w) := ev_iast (sa_rswitchX) (by decide) hj
theorem sa_rswitchY : S0[142]? = some (.inl (0, 10)) := by decide +kernel
theorem al_rswitchY {d : Nat → Nat → Int32} {w : Nat → Nat → Int64} {j : Nat} (hj : j < 10) : o_iald (S0, d, w) (.ref (142)) (.int (nI j)) = some (.int (d (142) j)) := ev_iald (sa_rswitchY) (by decide) hj
theorem as_rswitchY {d : Nat → Nat → Int32} {w : Nat → Nat → Int64} {j : Nat} {v : Int32} (hj : j < 10) : e_iast (S0, d, w) (.ref (142)) (.int (nI j)) (.int v) = some (S0, q_d d (142) j v, w) := ev_iast (sa_rswitchY) (by decide) hj
theorem sa_rmore : S0[143]? = some (.inl (0, 10)) := by decide +kernel
theorem al_rmore {d : Nat → Nat → Int32} {w : Nat → Nat → Int64} {j : Nat} (hj : j < 10) : o_iald (S0, d, w) (.ref (143)) (.int (nI j)) = some (.int (d (143) j)) := ev_iald (sa_rmore) (by decide) hj
theorem as_rmore {d : Nat → Nat → Int32} {w : Nat → Nat → Int64} {j : Nat} {v : Int32} (hj : j < 10) : e_iast (S0, d, w) (.ref (143)) (.int (nI j)) (.int v) = some (S0, q_d d (143) j v, w) := ev_iast (sa_rmore) (by decide) hj
theorem sa_rfed : S0[144]? = some (.inl (0, 120)) := by decide +kernel
theorem al_rfed {d : Nat → Nat → Int32} {w : Nat → Nat → Int64} {j : Nat} (hj : j < 120) : o_iald (S0, d, w) (.ref (144)) (.int (nI j)) = some (.int (d (144) j)) := ev_iald (sa_rfed) (by decide) hj
theorem as_rfed {d : Nat → Nat → Int32} {w : Nat → Nat → Int64} {j : Nat} {v : Int32} (hj : j < 120) : e_iast (S0, d, w) (.ref (144)) (.int (nI j)) (.int v) = some (S0, q_d d (144) j v, w) := ev_iast (sa_rfed) (by decide) hj
theorem sa_raskOuts : S0[145]? = some (.inl (0, 10)) := by decide +kernel
theorem al_raskOuts {d : Nat → Nat → Int32} {w : Nat → Nat → Int64} {j : Nat} (hj : j < 10) : o_iald (S0, d, w) (.ref (145)) (.int (nI j)) = some (.int (d (145) j)) := ev_iald (sa_raskOuts) (by decide) hj
theorem as_raskOuts {d : Nat → Nat → Int32} {w : Nat → Nat → Int64} {j : Nat} {v : Int32} (hj : j < 10) : e_iast (S0, d, w) (.ref (145)) (.int (nI j)) (.int v) = some (S0, q_d d (145) j v, w) := ev_iast (sa_raskOuts) (by decide) hj
theorem sa_raskOns : S0[146]? = some (.inl (0, 10)) := by decide +kernel
theorem al_raskOns {d : Nat → Nat → Int32} {w : Nat → Nat → Int64} {j : Nat} (hj : j < 10) : o_iald (S0, d, w) (.ref (146)) (.int (nI j)) = some (.int (d (146) j)) := ev_iald (sa_raskOns) (by decide) hj
theorem as_raskOns {d : Nat → Nat → Int32} {w : Nat → Nat → Int64} {j : Nat} {v : Int32} (hj : j < 10) : e_iast (S0, d, w) (.ref (146)) (.int (nI j)) (.int v) = some (S0, q_d d (146) j v, w) := ev_iast (sa_raskOns) (by decide) hj
theorem sa_raskHour : S0[147]? = some (.inl (0, 10)) := by decide +kernel
theorem al_raskHour {d : Nat → Nat → Int32} {w : Nat → Nat → Int64} {j : Nat} (hj : j < 10) : o_iald (S0, d, w) (.ref (147)) (.int (nI j)) = some (.int (d (147) j)) := ev_iald (sa_raskHour) (by decide) hj
theorem as_raskHour {d : Nat → Nat → Int32} {w : Nat → Nat → Int64} {j : Nat} {v : Int32} (hj : j < 10) : e_iast (S0, d, w) (.ref (147)) (.int (nI j)) (.int v) = some (S0, q_d d (147) j v, w) := ev_iast (sa_raskHour) (by decide) hj
theorem sa_raskRooms : S0[148]? = some (.inl (0, 10)) := by decide +kernel
theorem al_raskRooms {d : Nat → Nat → Int32} {w : Nat → Nat → Int64} {j : Nat} (hj : j < 10) : o_iald (S0, d, w) (.ref (148)) (.int (nI j)) = some (.int (d (148) j)) := ev_iald (sa_raskRooms) (by decide) hj
theorem as_raskRooms {d : Nat → Nat → Int32} {w : Nat → Nat → Int64} {j : Nat} {v : Int32} (hj : j < 10) : e_iast (S0, d, w) (.ref (148)) (.int (nI j)) (.int v) = some (S0, q_d d (148) j v, w) := ev_iast (sa_raskRooms) (by decide) hj
theorem sa_raskSeen : S0[149]? = some (.inl (0, 10)) := by decide +kernel
theorem al_raskSeen {d : Nat → Nat → Int32} {w : Nat → Nat → Int64} {j : Nat} (hj : j < 10) : o_iald (S0, d, w) (.ref (149)) (.int (nI j)) = some (.int (d (149) j)) := ev_iald (sa_raskSeen) (by decide) hj
theorem as_raskSeen {d : Nat → Nat → Int32} {w : Nat → Nat → Int64} {j : Nat} {v : Int32} (hj : j < 10) : e_iast (S0, d, w) (.ref (149)) (.int (nI j)) (.int v) = some (S0, q_d d (149) j v, w) := ev_iast (sa_raskSeen) (by decide) hj
theorem sa_ryears : S0[150]? = some (.inl (0, 4)) := by decide +kernel
theorem al_ryears {d : Nat → Nat → Int32} {w : Nat → Nat → Int64} {j : Nat} (hj : j < 4) : o_iald (S0, d, w) (.ref (150)) (.int (nI j)) = some (.int (d (150) j)) := ev_iald (sa_ryears) (by decide) hj
theorem as_ryears {d : Nat → Nat → Int32} {w : Nat → Nat → Int64} {j : Nat} {v : Int32} (hj : j < 4) : e_iast (S0, d, w) (.ref (150)) (.int (nI j)) (.int v) = some (S0, q_d d (150) j v, w) := ev_iast (sa_ryears) (by decide) hj
theorem sa_rlabelled : S0[151]? = some (.inl (0, 40)) := by decide +kernel
theorem al_rlabelled {d : Nat → Nat → Int32} {w : Nat → Nat → Int64} {j : Nat} (hj : j < 40) : o_iald (S0, d, w) (.ref (151)) (.int (nI j)) = some (.int (d (151) j)) := ev_iald (sa_rlabelled) (by decide) hj
theorem as_rlabelled {d : Nat → Nat → Int32} {w : Nat → Nat → Int64} {j : Nat} {v : Int32} (hj : j < 40) : e_iast (S0, d, w) (.ref (151)) (.int (nI j)) (.int v) = some (S0, q_d d (151) j v, w) := ev_iast (sa_rlabelled) (by decide) hj
theorem sa_rtape : S0[152]? = some (.inl (0, 160)) := by decide +kernel
theorem al_rtape {d : Nat → Nat → Int32} {w : Nat → Nat → Int64} {j : Nat} (hj : j < 160) : o_iald (S0, d, w) (.ref (152)) (.int (nI j)) = some (.int (d (152) j)) := ev_iald (sa_rtape) (by decide) hj
theorem as_rtape {d : Nat → Nat → Int32} {w : Nat → Nat → Int64} {j : Nat} {v : Int32} (hj : j < 160) : e_iast (S0, d, w) (.ref (152)) (.int (nI j)) (.int v) = some (S0, q_d d (152) j v, w) := ev_iast (sa_rtape) (by decide) hj
theorem sa_rcodes : S0[153]? = some (.inl (0, 1200)) := by decide +kernel
theorem al_rcodes {d : Nat → Nat → Int32} {w : Nat → Nat → Int64} {j : Nat} (hj : j < 1200) : o_iald (S0, d, w) (.ref (153)) (.int (nI j)) = some (.int (d (153) j)) := ev_iald (sa_rcodes) (by decide) hj
theorem as_rcodes {d : Nat → Nat → Int32} {w : Nat → Nat → Int64} {j : Nat} {v : Int32} (hj : j < 1200) : e_iast (S0, d, w) (.ref (153)) (.int (nI j)) (.int v) = some (S0, q_d d (153) j v, w) := ev_iast (sa_rcodes) (by decide) hj
theorem sa_rstarts : S0[154]? = some (.inl (0, 24)) := by decide +kernel
theorem al_rstarts {d : Nat → Nat → Int32} {w : Nat → Nat → Int64} {j : Nat} (hj : j < 24) : o_iald (S0, d, w) (.ref (154)) (.int (nI j)) = some (.int (d (154) j)) := ev_iald (sa_rstarts) (by decide) hj
theorem as_rstarts {d : Nat → Nat → Int32} {w : Nat → Nat → Int64} {j : Nat} {v : Int32} (hj : j < 24) : e_iast (S0, d, w) (.ref (154)) (.int (nI j)) (.int v) = some (S0, q_d d (154) j v, w) := ev_iast (sa_rstarts) (by decide) hj
theorem sa_rimageAskOuts : S0[155]? = some (.inl (0, 10)) := by decide +kernel
theorem al_rimageAskOuts {d : Nat → Nat → Int32} {w : Nat → Nat → Int64} {j : Nat} (hj : j < 10) : o_iald (S0, d, w) (.ref (155)) (.int (nI j)) = some (.int (d (155) j)) := ev_iald (sa_rimageAskOuts) (by decide) hj
theorem as_rimageAskOuts {d : Nat → Nat → Int32} {w : Nat → Nat → Int64} {j : Nat} {v : Int32} (hj : j < 10) : e_iast (S0, d, w) (.ref (155)) (.int (nI j)) (.int v) = some (S0, q_d d (155) j v, w) := ev_iast (sa_rimageAskOuts) (by decide) hj
theorem sa_rimageAskOns : S0[156]? = some (.inl (0, 10)) := by decide +kernel
theorem al_rimageAskOns {d : Nat → Nat → Int32} {w : Nat → Nat → Int64} {j : Nat} (hj : j < 10) : o_iald (S0, d, w) (.ref (156)) (.int (nI j)) = some (.int (d (156) j)) := ev_iald (sa_rimageAskOns) (by decide) hj
theorem as_rimageAskOns {d : Nat → Nat → Int32} {w : Nat → Nat → Int64} {j : Nat} {v : Int32} (hj : j < 10) : e_iast (S0, d, w) (.ref (156)) (.int (nI j)) (.int v) = some (S0, q_d d (156) j v, w) := ev_iast (sa_rimageAskOns) (by decide) hj
theorem sa_rimageAskHour : S0[157]? = some (.inl (0, 10)) := by decide +kernel
theorem al_rimageAskHour {d : Nat → Nat → Int32} {w : Nat → Nat → Int64} {j : Nat} (hj : j < 10) : o_iald (S0, d, w) (.ref (157)) (.int (nI j)) = some (.int (d (157) j)) := ev_iald (sa_rimageAskHour) (by decide) hj
theorem as_rimageAskHour {d : Nat → Nat → Int32} {w : Nat → Nat → Int64} {j : Nat} {v : Int32} (hj : j < 10) : e_iast (S0, d, w) (.ref (157)) (.int (nI j)) (.int v) = some (S0, q_d d (157) j v, w) := ev_iast (sa_rimageAskHour) (by decide) hj
theorem sa_rimageAskRooms : S0[158]? = some (.inl (0, 10)) := by decide +kernel
theorem al_rimageAskRooms {d : Nat → Nat → Int32} {w : Nat → Nat → Int64} {j : Nat} (hj : j < 10) : o_iald (S0, d, w) (.ref (158)) (.int (nI j)) = some (.int (d (158) j)) := ev_iald (sa_rimageAskRooms) (by decide) hj
theorem as_rimageAskRooms {d : Nat → Nat → Int32} {w : Nat → Nat → Int64} {j : Nat} {v : Int32} (hj : j < 10) : e_iast (S0, d, w) (.ref (158)) (.int (nI j)) (.int v) = some (S0, q_d d (158) j v, w) := ev_iast (sa_rimageAskRooms) (by decide) hj
theorem sa_rimageAskSeen : S0[159]? = some (.inl (0, 10)) := by decide +kernel
theorem al_rimageAskSeen {d : Nat → Nat → Int32} {w : Nat → Nat → Int64} {j : Nat} (hj : j < 10) : o_iald (S0, d, w) (.ref (159)) (.int (nI j)) = some (.int (d (159) j)) := ev_iald (sa_rimageAskSeen) (by decide) hj
theorem as_rimageAskSeen {d : Nat → Nat → Int32} {w : Nat → Nat → Int64} {j : Nat} {v : Int32} (hj : j < 10) : e_iast (S0, d, w) (.ref (159)) (.int (nI j)) (.int v) = some (S0, q_d d (159) j v, w) := ev_iast (sa_rimageAskSeen) (by decide) hj
theorem sa_rsheetSort : S0[160]? = some (.inl (0, 4)) := by decide +kernel
theorem al_rsheetSort {d : Nat → Nat → Int32} {w : Nat → Nat → Int64} {j : Nat} (hj : j < 4) : o_iald (S0, d, w) (.ref (160)) (.int (nI j)) = some (.int (d (160) j)) := ev_iald (sa_rsheetSort) (by decide) hj
theorem as_rsheetSort {d : Nat → Nat → Int32} {w : Nat → Nat → Int64} {j : Nat} {v : Int32} (hj : j < 4) : e_iast (S0, d, w) (.ref (160)) (.int (nI j)) (.int v) = some (S0, q_d d (160) j v, w) := ev_iast (sa_rsheetSort) (by decide) hj
theorem sa_rsheetSize : S0[161]? = some (.inl (0, 4)) := by decide +kernel
theorem al_rsheetSize {d : Nat → Nat → Int32} {w : Nat → Nat → Int64} {j : Nat} (hj : j < 4) : o_iald (S0, d, w) (.ref (161)) (.int (nI j)) = some (.int (d (161) j)) := ev_iald (sa_rsheetSize) (by decide) hj
theorem as_rsheetSize {d : Nat → Nat → Int32} {w : Nat → Nat → Int64} {j : Nat} {v : Int32} (hj : j < 4) : e_iast (S0, d, w) (.ref (161)) (.int (nI j)) (.int v) = some (S0, q_d d (161) j v, w) := ev_iast (sa_rsheetSize) (by decide) hj
theorem sa_rcells : S0[162]? = some (.inl (0, 160)) := by decide +kernel
theorem al_rcells {d : Nat → Nat → Int32} {w : Nat → Nat → Int64} {j : Nat} (hj : j < 160) : o_iald (S0, d, w) (.ref (162)) (.int (nI j)) = some (.int (d (162) j)) := ev_iald (sa_rcells) (by decide) hj
theorem as_rcells {d : Nat → Nat → Int32} {w : Nat → Nat → Int64} {j : Nat} {v : Int32} (hj : j < 160) : e_iast (S0, d, w) (.ref (162)) (.int (nI j)) (.int v) = some (S0, q_d d (162) j v, w) := ev_iast (sa_rcells) (by decide) hj
theorem sa_rheld : S0[164]? = some (.inl (0, 200)) := by decide +kernel
theorem al_rheld {d : Nat → Nat → Int32} {w : Nat → Nat → Int64} {j : Nat} (hj : j < 200) : o_iald (S0, d, w) (.ref (164)) (.int (nI j)) = some (.int (d (164) j)) := ev_iald (sa_rheld) (by decide) hj
theorem as_rheld {d : Nat → Nat → Int32} {w : Nat → Nat → Int64} {j : Nat} {v : Int32} (hj : j < 200) : e_iast (S0, d, w) (.ref (164)) (.int (nI j)) (.int v) = some (S0, q_d d (164) j v, w) := ev_iast (sa_rheld) (by decide) hj
theorem sa_rstack : S0[165]? = some (.inl (0, 200)) := by decide +kernel
theorem al_rstack {d : Nat → Nat → Int32} {w : Nat → Nat → Int64} {j : Nat} (hj : j < 200) : o_iald (S0, d, w) (.ref (165)) (.int (nI j)) = some (.int (d (165) j)) := ev_iald (sa_rstack) (by decide) hj
theorem as_rstack {d : Nat → Nat → Int32} {w : Nat → Nat → Int64} {j : Nat} {v : Int32} (hj : j < 200) : e_iast (S0, d, w) (.ref (165)) (.int (nI j)) (.int v) = some (S0, q_d d (165) j v, w) := ev_iast (sa_rstack) (by decide) hj
theorem sa_rnamed : S0[166]? = some (.inl (0, 6)) := by decide +kernel
theorem al_rnamed {d : Nat → Nat → Int32} {w : Nat → Nat → Int64} {j : Nat} (hj : j < 6) : o_iald (S0, d, w) (.ref (166)) (.int (nI j)) = some (.int (d (166) j)) := ev_iald (sa_rnamed) (by decide) hj
theorem as_rnamed {d : Nat → Nat → Int32} {w : Nat → Nat → Int64} {j : Nat} {v : Int32} (hj : j < 6) : e_iast (S0, d, w) (.ref (166)) (.int (nI j)) (.int v) = some (S0, q_d d (166) j v, w) := ev_iast (sa_rnamed) (by decide) hj
theorem sa_rshown : S0[167]? = some (.inl (0, 12)) := by decide +kernel
theorem al_rshown {d : Nat → Nat → Int32} {w : Nat → Nat → Int64} {j : Nat} (hj : j < 12) : o_iald (S0, d, w) (.ref (167)) (.int (nI j)) = some (.int (d (167) j)) := ev_iald (sa_rshown) (by decide) hj
theorem as_rshown {d : Nat → Nat → Int32} {w : Nat → Nat → Int64} {j : Nat} {v : Int32} (hj : j < 12) : e_iast (S0, d, w) (.ref (167)) (.int (nI j)) (.int v) = some (S0, q_d d (167) j v, w) := ev_iast (sa_rshown) (by decide) hj
theorem sa_rgroups : S0[168]? = some (.inl (0, 12)) := by decide +kernel
theorem al_rgroups {d : Nat → Nat → Int32} {w : Nat → Nat → Int64} {j : Nat} (hj : j < 12) : o_iald (S0, d, w) (.ref (168)) (.int (nI j)) = some (.int (d (168) j)) := ev_iald (sa_rgroups) (by decide) hj
theorem as_rgroups {d : Nat → Nat → Int32} {w : Nat → Nat → Int64} {j : Nat} {v : Int32} (hj : j < 12) : e_iast (S0, d, w) (.ref (168)) (.int (nI j)) (.int v) = some (S0, q_d d (168) j v, w) := ev_iast (sa_rgroups) (by decide) hj
theorem sa_rsumSeen : S0[169]? = some (.inl (0, 1000)) := by decide +kernel
theorem al_rsumSeen {d : Nat → Nat → Int32} {w : Nat → Nat → Int64} {j : Nat} (hj : j < 1000) : o_iald (S0, d, w) (.ref (169)) (.int (nI j)) = some (.int (d (169) j)) := ev_iald (sa_rsumSeen) (by decide) hj
theorem as_rsumSeen {d : Nat → Nat → Int32} {w : Nat → Nat → Int64} {j : Nat} {v : Int32} (hj : j < 1000) : e_iast (S0, d, w) (.ref (169)) (.int (nI j)) (.int v) = some (S0, q_d d (169) j v, w) := ev_iast (sa_rsumSeen) (by decide) hj
theorem sa_rfeeds : S0[170]? = some (.inl (0, 6)) := by decide +kernel
theorem al_rfeeds {d : Nat → Nat → Int32} {w : Nat → Nat → Int64} {j : Nat} (hj : j < 6) : o_iald (S0, d, w) (.ref (170)) (.int (nI j)) = some (.int (d (170) j)) := ev_iald (sa_rfeeds) (by decide) hj
theorem as_rfeeds {d : Nat → Nat → Int32} {w : Nat → Nat → Int64} {j : Nat} {v : Int32} (hj : j < 6) : e_iast (S0, d, w) (.ref (170)) (.int (nI j)) (.int v) = some (S0, q_d d (170) j v, w) := ev_iast (sa_rfeeds) (by decide) hj
theorem sa_words : S0[42]? = some (.inl (1, 16)) := by decide +kernel
theorem al_words {d : Nat → Nat → Int32} {w : Nat → Nat → Int64} {j : Nat} (hj : j < 16) : o_lald (S0, d, w) (.ref (42)) (.int (nI j)) = some (.long (w (42) j)) := ev_lald sa_words (by decide) hj
theorem as_words {d : Nat → Nat → Int32} {w : Nat → Nat → Int64} {j : Nat} {v : Int64} (hj : j < 16) : e_last (S0, d, w) (.ref (42)) (.int (nI j)) (.long v) = some (S0, d, q_w w (42) j v) := ev_last sa_words (by decide) hj
theorem sa_rwords : S0[163]? = some (.inl (1, 12)) := by decide +kernel
theorem al_rwords {d : Nat → Nat → Int32} {w : Nat → Nat → Int64} {j : Nat} (hj : j < 12) : o_lald (S0, d, w) (.ref (163)) (.int (nI j)) = some (.long (w (163) j)) := ev_lald sa_rwords (by decide) hj
theorem as_rwords {d : Nat → Nat → Int32} {w : Nat → Nat → Int64} {j : Nat} {v : Int64} (hj : j < 12) : e_last (S0, d, w) (.ref (163)) (.int (nI j)) (.long v) = some (S0, d, q_w w (163) j v) := ev_last sa_rwords (by decide) hj
theorem sr_fuses : S0[1]? = some (.inr (.inl (1 + 2, [some 45, some 46, some 47, some 48, some 49, some 50]))) := by decide +kernel
theorem ar_fuses {d : Nat → Nat → Int32} {w : Nat → Nat → Int64} {i : Nat} (hi : i < 6) : o_aald 1 (S0, d, w) (.ref 1) (.int (nI i)) = some (.ref (45 + i)) := ev_aald sr_fuses (by decide) ((by decide +kernel : ∀ i, i < 6 → ([some 45, some 46, some 47, some 48, some 49, some 50] : List (Option Nat))[i]? = some (some (45 + i))) i hi)
theorem sr_lamps : S0[2]? = some (.inr (.inl (2 + 2, [some 51, some 52, some 53, some 54, some 55, some 56, some 57, some 58, some 59, some 60]))) := by decide +kernel
theorem ar_lamps {d : Nat → Nat → Int32} {w : Nat → Nat → Int64} {i : Nat} (hi : i < 10) : o_aald 2 (S0, d, w) (.ref 2) (.int (nI i)) = some (.ref (51 + i)) := ev_aald sr_lamps (by decide) ((by decide +kernel : ∀ i, i < 10 → ([some 51, some 52, some 53, some 54, some 55, some 56, some 57, some 58, some 59, some 60] : List (Option Nat))[i]? = some (some (51 + i))) i hi)
theorem sr_houses : S0[3]? = some (.inr (.inl (5 + 2, [some 61, some 64, some 67, some 70, some 73, some 76, some 79, some 82, some 85, some 88, some 91, some 94]))) := by decide +kernel
theorem ar_houses {d : Nat → Nat → Int32} {w : Nat → Nat → Int64} {i : Nat} (hi : i < 12) : o_aald 5 (S0, d, w) (.ref 3) (.int (nI i)) = some (.ref (61 + 3 * i)) := ev_aald sr_houses (by decide) ((by decide +kernel : ∀ i, i < 12 → ([some 61, some 64, some 67, some 70, some 73, some 76, some 79, some 82, some 85, some 88, some 91, some 94] : List (Option Nat))[i]? = some (some (61 + 3 * i))) i hi)
theorem sr_labels : S0[4]? = some (.inr (.inl (5 + 2, [some 97, some 100, some 103, some 106]))) := by decide +kernel
theorem ar_labels {d : Nat → Nat → Int32} {w : Nat → Nat → Int64} {i : Nat} (hi : i < 4) : o_aald 5 (S0, d, w) (.ref 4) (.int (nI i)) = some (.ref (97 + 3 * i)) := ev_aald sr_labels (by decide) ((by decide +kernel : ∀ i, i < 4 → ([some 97, some 100, some 103, some 106] : List (Option Nat))[i]? = some (some (97 + 3 * i))) i hi)
theorem sr_texts : S0[5]? = some (.inr (.inl (4 + 2, [some 109, some 112, some 115, some 118, some 121, some 124]))) := by decide +kernel
theorem ar_texts {d : Nat → Nat → Int32} {w : Nat → Nat → Int64} {i : Nat} (hi : i < 6) : o_aald 4 (S0, d, w) (.ref 5) (.int (nI i)) = some (.ref (109 + 3 * i)) := ev_aald sr_texts (by decide) ((by decide +kernel : ∀ i, i < 6 → ([some 109, some 112, some 115, some 118, some 121, some 124] : List (Option Nat))[i]? = some (some (109 + 3 * i))) i hi)
theorem sr_sheets : S0[6]? = some (.inr (.inl (3 + 2, [some 127, some 129, some 131, some 133]))) := by decide +kernel
theorem ar_sheets {d : Nat → Nat → Int32} {w : Nat → Nat → Int64} {i : Nat} (hi : i < 4) : o_aald 3 (S0, d, w) (.ref 6) (.int (nI i)) = some (.ref (127 + 2 * i)) := ev_aald sr_sheets (by decide) ((by decide +kernel : ∀ i, i < 4 → ([some 127, some 129, some 131, some 133] : List (Option Nat))[i]? = some (some (127 + 2 * i))) i hi)
theorem sr_asks : S0[9]? = some (.inr (.inl (0 + 2, [some 10, some 11, some 12, some 13, some 14, some 15, some 16, some 17, some 18, some 19]))) := by decide +kernel
theorem ar_asks {d : Nat → Nat → Int32} {w : Nat → Nat → Int64} {i : Nat} (hi : i < 10) : o_aald 0 (S0, d, w) (.ref 9) (.int (nI i)) = some (.ref (10 + i)) := ev_aald sr_asks (by decide) ((by decide +kernel : ∀ i, i < 10 → ([some 10, some 11, some 12, some 13, some 14, some 15, some 16, some 17, some 18, some 19] : List (Option Nat))[i]? = some (some (10 + i))) i hi)
theorem sr_kasks : S0[22]? = some (.inr (.inl (0 + 2, [some 23, some 24, some 25, some 26, some 27, some 28, some 29, some 30, some 31, some 32]))) := by decide +kernel
theorem ar_kasks {d : Nat → Nat → Int32} {w : Nat → Nat → Int64} {i : Nat} (hi : i < 10) : o_aald 0 (S0, d, w) (.ref 22) (.int (nI i)) = some (.ref (23 + i)) := ev_aald sr_kasks (by decide) ((by decide +kernel : ∀ i, i < 10 → ([some 23, some 24, some 25, some 26, some 27, some 28, some 29, some 30, some 31, some 32] : List (Option Nat))[i]? = some (some (23 + i))) i hi)
