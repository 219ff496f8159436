/-! THE START: what both constructors leave (written by wip/gen/init0.py) -/
def q_A0 : q_A := q_mk (fun t _ _ => if t = 4 then 1 else 0) (fun t _ _ => if t = 22 then -1 else 0) (fun _ p => if p = 0 then [0] else if p = 1 then [100090, 5, 100007, 18, 17] else [0, 4, 16])
def q_zz (o k : Nat) (v : Int32) : Bool := decide (ir_d43 o k = v)
theorem q_zz_of {o k : Nat} {v : Int32} (h : q_zz o k v = true) : ir_d43 o k = v := of_decide_eq_true h
theorem q_a1 {a b : Bool} (h : (a && b) = true) : a = true := ((Bool.and_eq_true a b).mp h).1
theorem q_a2 {a b : Bool} (h : (a && b) = true) : b = true := ((Bool.and_eq_true a b).mp h).2
set_option maxRecDepth 100000 in
theorem i0_all : (q_zz 0 13 0 && (q_zz 0 14 0 && (q_zz 0 15 0 && (q_zz 0 16 0 && (q_zz 0 17 1 && (q_zz 0 18 0 && (q_zz 7 2 0 && (q_zz 7 3 0 && (q_zz 8 0 0 && (q_zz 8 1 0 && (q_zz 8 2 0 && (q_zz 8 3 0 && (q_zz 20 2 0 && (q_zz 20 3 0 && (q_zz 21 0 0 && (q_zz 21 1 0 && (q_zz 21 2 0 && (q_zz 21 3 0 && (q_zz 33 1 0 && (q_zz 135 0 0 && (q_zz 135 1 0 && (q_zz 135 2 0 && (q_zz 135 3 0 && (q_zz 135 4 0 && (q_zz 135 7 0 && (q_zz 135 14 0 && (q_zz 135 16 0 && (q_zz 135 22 0 && (q_zz 135 26 0 && (q_zz 135 29 1 && (q_zz 135 30 0 && (q_zz 135 31 0 && (q_zz 135 32 0 && (q_zz 135 33 0 && (q_zz 135 34 0 && (q_zz 135 35 0 && (q_zz 135 36 0 && (q_zz 135 37 0 && ((List.range 6).all (fun i => q_zz (45 + i) 2 0) && ((List.range 12).all (fun h => (List.range 6).all (fun f => q_zz (63 + 3 * h) f 0)) && ((List.range 10).all (fun k => q_zz (10 + k) 0 0) && ((List.range 10).all (fun k => q_zz 145 k 0) && ((List.range 10).all (fun k => q_zz (10 + k) 1 0) && ((List.range 10).all (fun k => q_zz 146 k 0) && ((List.range 10).all (fun k => q_zz (10 + k) 2 0) && ((List.range 10).all (fun k => q_zz 147 k 0) && ((List.range 10).all (fun k => q_zz (10 + k) 3 0) && ((List.range 10).all (fun k => q_zz 148 k 0) && ((List.range 10).all (fun k => q_zz (10 + k) 4 0) && ((List.range 10).all (fun k => q_zz 149 k 0) && ((List.range 10).all (fun k => q_zz (23 + k) 0 0) && ((List.range 10).all (fun k => q_zz 155 k 0) && ((List.range 10).all (fun k => q_zz (23 + k) 1 0) && ((List.range 10).all (fun k => q_zz 156 k 0) && ((List.range 10).all (fun k => q_zz (23 + k) 2 0) && ((List.range 10).all (fun k => q_zz 157 k 0) && ((List.range 10).all (fun k => q_zz (23 + k) 3 0) && ((List.range 10).all (fun k => q_zz 158 k 0) && ((List.range 10).all (fun k => q_zz (23 + k) 4 0) && ((List.range 10).all (fun k => q_zz 159 k 0) && ((List.range 3).all (fun p => q_zz 111 p (nI (q_to (q_A0.txt 0) (p + 1)))) && ((List.range 3).all (fun p => (List.range (q_A0.txt 0 p).length).all (fun i => q_zz 110 (q_to (q_A0.txt 0) p + i) (q_stp ((q_A0.txt 0 p).getD i 0)))) && ((List.range 4).all (fun s => q_zz (127 + 2 * s) 1 (-1)) && ((List.range 4).all (fun s => q_zz (127 + 2 * s) 2 0) && ((List.range 4).all (fun s => (List.range 40).all (fun i => q_zz (128 + 2 * s) i 0)) && ((List.range 3).all (fun p => (List.range (q_A0.txt 0 p).length).all (fun i => q_zz 153 (q_to (q_A0.txt 0) p + i) (nI ((q_A0.txt 0 p).getD i 0)))) && ((List.range 4).all (fun p => q_zz 154 p (nI (q_to (q_A0.txt 0) p))) && ((List.range 4).all (fun s => q_zz 160 s (-1)) && ((List.range 4).all (fun s => q_zz 161 s 0) && (List.range 4).all (fun s => (List.range 40).all (fun i => q_zz 162 (40 * s + i) 0))))))))))))))))))))))))))))))))))))))))))))))))))))))))))))))))))))))) = true := by decide +kernel
theorem i0_w_F : q_zz 0 13 0 = true := (q_a1 i0_all)
theorem i0_w_L : q_zz 0 14 0 = true := (q_a1 (q_a2 i0_all))
theorem i0_w_H : q_zz 0 15 0 = true := (q_a1 (q_a2 (q_a2 i0_all)))
theorem i0_w_K : q_zz 0 16 0 = true := (q_a1 (q_a2 (q_a2 (q_a2 i0_all))))
theorem i0_w_T : q_zz 0 17 1 = true := (q_a1 (q_a2 (q_a2 (q_a2 (q_a2 i0_all)))))
theorem i0_w_img : q_zz 0 18 0 = true := (q_a1 (q_a2 (q_a2 (q_a2 (q_a2 (q_a2 i0_all))))))
theorem i0_w_N : q_zz 7 2 0 = true := (q_a1 (q_a2 (q_a2 (q_a2 (q_a2 (q_a2 (q_a2 i0_all)))))))
theorem i0_w_law : q_zz 7 3 0 = true := (q_a1 (q_a2 (q_a2 (q_a2 (q_a2 (q_a2 (q_a2 (q_a2 i0_all))))))))
theorem i0_w_out : q_zz 8 0 0 = true := (q_a1 (q_a2 (q_a2 (q_a2 (q_a2 (q_a2 (q_a2 (q_a2 (q_a2 i0_all)))))))))
theorem i0_w_on : q_zz 8 1 0 = true := (q_a1 (q_a2 (q_a2 (q_a2 (q_a2 (q_a2 (q_a2 (q_a2 (q_a2 (q_a2 i0_all))))))))))
theorem i0_w_hour : q_zz 8 2 0 = true := (q_a1 (q_a2 (q_a2 (q_a2 (q_a2 (q_a2 (q_a2 (q_a2 (q_a2 (q_a2 (q_a2 i0_all)))))))))))
theorem i0_w_slips : q_zz 8 3 0 = true := (q_a1 (q_a2 (q_a2 (q_a2 (q_a2 (q_a2 (q_a2 (q_a2 (q_a2 (q_a2 (q_a2 (q_a2 i0_all))))))))))))
theorem i0_w_iN : q_zz 20 2 0 = true := (q_a1 (q_a2 (q_a2 (q_a2 (q_a2 (q_a2 (q_a2 (q_a2 (q_a2 (q_a2 (q_a2 (q_a2 (q_a2 i0_all)))))))))))))
theorem i0_w_ilaw : q_zz 20 3 0 = true := (q_a1 (q_a2 (q_a2 (q_a2 (q_a2 (q_a2 (q_a2 (q_a2 (q_a2 (q_a2 (q_a2 (q_a2 (q_a2 (q_a2 i0_all))))))))))))))
theorem i0_w_iout : q_zz 21 0 0 = true := (q_a1 (q_a2 (q_a2 (q_a2 (q_a2 (q_a2 (q_a2 (q_a2 (q_a2 (q_a2 (q_a2 (q_a2 (q_a2 (q_a2 (q_a2 i0_all)))))))))))))))
theorem i0_w_ion : q_zz 21 1 0 = true := (q_a1 (q_a2 (q_a2 (q_a2 (q_a2 (q_a2 (q_a2 (q_a2 (q_a2 (q_a2 (q_a2 (q_a2 (q_a2 (q_a2 (q_a2 (q_a2 i0_all))))))))))))))))
theorem i0_w_ihour : q_zz 21 2 0 = true := (q_a1 (q_a2 (q_a2 (q_a2 (q_a2 (q_a2 (q_a2 (q_a2 (q_a2 (q_a2 (q_a2 (q_a2 (q_a2 (q_a2 (q_a2 (q_a2 (q_a2 i0_all)))))))))))))))))
theorem i0_w_islips : q_zz 21 3 0 = true := (q_a1 (q_a2 (q_a2 (q_a2 (q_a2 (q_a2 (q_a2 (q_a2 (q_a2 (q_a2 (q_a2 (q_a2 (q_a2 (q_a2 (q_a2 (q_a2 (q_a2 (q_a2 i0_all))))))))))))))))))
theorem i0_w_B : q_zz 33 1 0 = true := (q_a1 (q_a2 (q_a2 (q_a2 (q_a2 (q_a2 (q_a2 (q_a2 (q_a2 (q_a2 (q_a2 (q_a2 (q_a2 (q_a2 (q_a2 (q_a2 (q_a2 (q_a2 (q_a2 i0_all)))))))))))))))))))
theorem i0_r_out : q_zz 135 0 0 = true := (q_a1 (q_a2 (q_a2 (q_a2 (q_a2 (q_a2 (q_a2 (q_a2 (q_a2 (q_a2 (q_a2 (q_a2 (q_a2 (q_a2 (q_a2 (q_a2 (q_a2 (q_a2 (q_a2 (q_a2 i0_all))))))))))))))))))))
theorem i0_r_on : q_zz 135 1 0 = true := (q_a1 (q_a2 (q_a2 (q_a2 (q_a2 (q_a2 (q_a2 (q_a2 (q_a2 (q_a2 (q_a2 (q_a2 (q_a2 (q_a2 (q_a2 (q_a2 (q_a2 (q_a2 (q_a2 (q_a2 (q_a2 i0_all)))))))))))))))))))))
theorem i0_r_hour : q_zz 135 2 0 = true := (q_a1 (q_a2 (q_a2 (q_a2 (q_a2 (q_a2 (q_a2 (q_a2 (q_a2 (q_a2 (q_a2 (q_a2 (q_a2 (q_a2 (q_a2 (q_a2 (q_a2 (q_a2 (q_a2 (q_a2 (q_a2 (q_a2 i0_all))))))))))))))))))))))
theorem i0_r_slips : q_zz 135 3 0 = true := (q_a1 (q_a2 (q_a2 (q_a2 (q_a2 (q_a2 (q_a2 (q_a2 (q_a2 (q_a2 (q_a2 (q_a2 (q_a2 (q_a2 (q_a2 (q_a2 (q_a2 (q_a2 (q_a2 (q_a2 (q_a2 (q_a2 (q_a2 i0_all)))))))))))))))))))))))
theorem i0_r_F : q_zz 135 4 0 = true := (q_a1 (q_a2 (q_a2 (q_a2 (q_a2 (q_a2 (q_a2 (q_a2 (q_a2 (q_a2 (q_a2 (q_a2 (q_a2 (q_a2 (q_a2 (q_a2 (q_a2 (q_a2 (q_a2 (q_a2 (q_a2 (q_a2 (q_a2 (q_a2 i0_all))))))))))))))))))))))))
theorem i0_r_L : q_zz 135 7 0 = true := (q_a1 (q_a2 (q_a2 (q_a2 (q_a2 (q_a2 (q_a2 (q_a2 (q_a2 (q_a2 (q_a2 (q_a2 (q_a2 (q_a2 (q_a2 (q_a2 (q_a2 (q_a2 (q_a2 (q_a2 (q_a2 (q_a2 (q_a2 (q_a2 (q_a2 i0_all)))))))))))))))))))))))))
theorem i0_r_H : q_zz 135 14 0 = true := (q_a1 (q_a2 (q_a2 (q_a2 (q_a2 (q_a2 (q_a2 (q_a2 (q_a2 (q_a2 (q_a2 (q_a2 (q_a2 (q_a2 (q_a2 (q_a2 (q_a2 (q_a2 (q_a2 (q_a2 (q_a2 (q_a2 (q_a2 (q_a2 (q_a2 (q_a2 i0_all))))))))))))))))))))))))))
theorem i0_r_N : q_zz 135 16 0 = true := (q_a1 (q_a2 (q_a2 (q_a2 (q_a2 (q_a2 (q_a2 (q_a2 (q_a2 (q_a2 (q_a2 (q_a2 (q_a2 (q_a2 (q_a2 (q_a2 (q_a2 (q_a2 (q_a2 (q_a2 (q_a2 (q_a2 (q_a2 (q_a2 (q_a2 (q_a2 (q_a2 i0_all)))))))))))))))))))))))))))
theorem i0_r_K : q_zz 135 22 0 = true := (q_a1 (q_a2 (q_a2 (q_a2 (q_a2 (q_a2 (q_a2 (q_a2 (q_a2 (q_a2 (q_a2 (q_a2 (q_a2 (q_a2 (q_a2 (q_a2 (q_a2 (q_a2 (q_a2 (q_a2 (q_a2 (q_a2 (q_a2 (q_a2 (q_a2 (q_a2 (q_a2 (q_a2 i0_all))))))))))))))))))))))))))))
theorem i0_r_B : q_zz 135 26 0 = true := (q_a1 (q_a2 (q_a2 (q_a2 (q_a2 (q_a2 (q_a2 (q_a2 (q_a2 (q_a2 (q_a2 (q_a2 (q_a2 (q_a2 (q_a2 (q_a2 (q_a2 (q_a2 (q_a2 (q_a2 (q_a2 (q_a2 (q_a2 (q_a2 (q_a2 (q_a2 (q_a2 (q_a2 (q_a2 i0_all)))))))))))))))))))))))))))))
theorem i0_r_T : q_zz 135 29 1 = true := (q_a1 (q_a2 (q_a2 (q_a2 (q_a2 (q_a2 (q_a2 (q_a2 (q_a2 (q_a2 (q_a2 (q_a2 (q_a2 (q_a2 (q_a2 (q_a2 (q_a2 (q_a2 (q_a2 (q_a2 (q_a2 (q_a2 (q_a2 (q_a2 (q_a2 (q_a2 (q_a2 (q_a2 (q_a2 (q_a2 i0_all))))))))))))))))))))))))))))))
theorem i0_r_law : q_zz 135 30 0 = true := (q_a1 (q_a2 (q_a2 (q_a2 (q_a2 (q_a2 (q_a2 (q_a2 (q_a2 (q_a2 (q_a2 (q_a2 (q_a2 (q_a2 (q_a2 (q_a2 (q_a2 (q_a2 (q_a2 (q_a2 (q_a2 (q_a2 (q_a2 (q_a2 (q_a2 (q_a2 (q_a2 (q_a2 (q_a2 (q_a2 (q_a2 i0_all)))))))))))))))))))))))))))))))
theorem i0_r_img : q_zz 135 31 0 = true := (q_a1 (q_a2 (q_a2 (q_a2 (q_a2 (q_a2 (q_a2 (q_a2 (q_a2 (q_a2 (q_a2 (q_a2 (q_a2 (q_a2 (q_a2 (q_a2 (q_a2 (q_a2 (q_a2 (q_a2 (q_a2 (q_a2 (q_a2 (q_a2 (q_a2 (q_a2 (q_a2 (q_a2 (q_a2 (q_a2 (q_a2 (q_a2 i0_all))))))))))))))))))))))))))))))))
theorem i0_r_iout : q_zz 135 32 0 = true := (q_a1 (q_a2 (q_a2 (q_a2 (q_a2 (q_a2 (q_a2 (q_a2 (q_a2 (q_a2 (q_a2 (q_a2 (q_a2 (q_a2 (q_a2 (q_a2 (q_a2 (q_a2 (q_a2 (q_a2 (q_a2 (q_a2 (q_a2 (q_a2 (q_a2 (q_a2 (q_a2 (q_a2 (q_a2 (q_a2 (q_a2 (q_a2 (q_a2 i0_all)))))))))))))))))))))))))))))))))
theorem i0_r_ion : q_zz 135 33 0 = true := (q_a1 (q_a2 (q_a2 (q_a2 (q_a2 (q_a2 (q_a2 (q_a2 (q_a2 (q_a2 (q_a2 (q_a2 (q_a2 (q_a2 (q_a2 (q_a2 (q_a2 (q_a2 (q_a2 (q_a2 (q_a2 (q_a2 (q_a2 (q_a2 (q_a2 (q_a2 (q_a2 (q_a2 (q_a2 (q_a2 (q_a2 (q_a2 (q_a2 (q_a2 i0_all))))))))))))))))))))))))))))))))))
theorem i0_r_ihour : q_zz 135 34 0 = true := (q_a1 (q_a2 (q_a2 (q_a2 (q_a2 (q_a2 (q_a2 (q_a2 (q_a2 (q_a2 (q_a2 (q_a2 (q_a2 (q_a2 (q_a2 (q_a2 (q_a2 (q_a2 (q_a2 (q_a2 (q_a2 (q_a2 (q_a2 (q_a2 (q_a2 (q_a2 (q_a2 (q_a2 (q_a2 (q_a2 (q_a2 (q_a2 (q_a2 (q_a2 (q_a2 i0_all)))))))))))))))))))))))))))))))))))
theorem i0_r_islips : q_zz 135 35 0 = true := (q_a1 (q_a2 (q_a2 (q_a2 (q_a2 (q_a2 (q_a2 (q_a2 (q_a2 (q_a2 (q_a2 (q_a2 (q_a2 (q_a2 (q_a2 (q_a2 (q_a2 (q_a2 (q_a2 (q_a2 (q_a2 (q_a2 (q_a2 (q_a2 (q_a2 (q_a2 (q_a2 (q_a2 (q_a2 (q_a2 (q_a2 (q_a2 (q_a2 (q_a2 (q_a2 (q_a2 i0_all))))))))))))))))))))))))))))))))))))
theorem i0_r_iN : q_zz 135 36 0 = true := (q_a1 (q_a2 (q_a2 (q_a2 (q_a2 (q_a2 (q_a2 (q_a2 (q_a2 (q_a2 (q_a2 (q_a2 (q_a2 (q_a2 (q_a2 (q_a2 (q_a2 (q_a2 (q_a2 (q_a2 (q_a2 (q_a2 (q_a2 (q_a2 (q_a2 (q_a2 (q_a2 (q_a2 (q_a2 (q_a2 (q_a2 (q_a2 (q_a2 (q_a2 (q_a2 (q_a2 (q_a2 i0_all)))))))))))))))))))))))))))))))))))))
theorem i0_r_ilaw : q_zz 135 37 0 = true := (q_a1 (q_a2 (q_a2 (q_a2 (q_a2 (q_a2 (q_a2 (q_a2 (q_a2 (q_a2 (q_a2 (q_a2 (q_a2 (q_a2 (q_a2 (q_a2 (q_a2 (q_a2 (q_a2 (q_a2 (q_a2 (q_a2 (q_a2 (q_a2 (q_a2 (q_a2 (q_a2 (q_a2 (q_a2 (q_a2 (q_a2 (q_a2 (q_a2 (q_a2 (q_a2 (q_a2 (q_a2 (q_a2 i0_all))))))))))))))))))))))))))))))))))))))
theorem i0_w_lends : (List.range 6).all (fun i => q_zz (45 + i) 2 0) = true := (q_a1 (q_a2 (q_a2 (q_a2 (q_a2 (q_a2 (q_a2 (q_a2 (q_a2 (q_a2 (q_a2 (q_a2 (q_a2 (q_a2 (q_a2 (q_a2 (q_a2 (q_a2 (q_a2 (q_a2 (q_a2 (q_a2 (q_a2 (q_a2 (q_a2 (q_a2 (q_a2 (q_a2 (q_a2 (q_a2 (q_a2 (q_a2 (q_a2 (q_a2 (q_a2 (q_a2 (q_a2 (q_a2 (q_a2 i0_all)))))))))))))))))))))))))))))))))))))))
theorem i0_w_feeds0 : (List.range 12).all (fun h => (List.range 6).all (fun f => q_zz (63 + 3 * h) f 0)) = true := (q_a1 (q_a2 (q_a2 (q_a2 (q_a2 (q_a2 (q_a2 (q_a2 (q_a2 (q_a2 (q_a2 (q_a2 (q_a2 (q_a2 (q_a2 (q_a2 (q_a2 (q_a2 (q_a2 (q_a2 (q_a2 (q_a2 (q_a2 (q_a2 (q_a2 (q_a2 (q_a2 (q_a2 (q_a2 (q_a2 (q_a2 (q_a2 (q_a2 (q_a2 (q_a2 (q_a2 (q_a2 (q_a2 (q_a2 (q_a2 i0_all))))))))))))))))))))))))))))))))))))))))
theorem i0_w_ao : (List.range 10).all (fun k => q_zz (10 + k) 0 0) = true := (q_a1 (q_a2 (q_a2 (q_a2 (q_a2 (q_a2 (q_a2 (q_a2 (q_a2 (q_a2 (q_a2 (q_a2 (q_a2 (q_a2 (q_a2 (q_a2 (q_a2 (q_a2 (q_a2 (q_a2 (q_a2 (q_a2 (q_a2 (q_a2 (q_a2 (q_a2 (q_a2 (q_a2 (q_a2 (q_a2 (q_a2 (q_a2 (q_a2 (q_a2 (q_a2 (q_a2 (q_a2 (q_a2 (q_a2 (q_a2 (q_a2 i0_all)))))))))))))))))))))))))))))))))))))))))
theorem i0_r_ao : (List.range 10).all (fun k => q_zz 145 k 0) = true := (q_a1 (q_a2 (q_a2 (q_a2 (q_a2 (q_a2 (q_a2 (q_a2 (q_a2 (q_a2 (q_a2 (q_a2 (q_a2 (q_a2 (q_a2 (q_a2 (q_a2 (q_a2 (q_a2 (q_a2 (q_a2 (q_a2 (q_a2 (q_a2 (q_a2 (q_a2 (q_a2 (q_a2 (q_a2 (q_a2 (q_a2 (q_a2 (q_a2 (q_a2 (q_a2 (q_a2 (q_a2 (q_a2 (q_a2 (q_a2 (q_a2 (q_a2 i0_all))))))))))))))))))))))))))))))))))))))))))
theorem i0_w_an : (List.range 10).all (fun k => q_zz (10 + k) 1 0) = true := (q_a1 (q_a2 (q_a2 (q_a2 (q_a2 (q_a2 (q_a2 (q_a2 (q_a2 (q_a2 (q_a2 (q_a2 (q_a2 (q_a2 (q_a2 (q_a2 (q_a2 (q_a2 (q_a2 (q_a2 (q_a2 (q_a2 (q_a2 (q_a2 (q_a2 (q_a2 (q_a2 (q_a2 (q_a2 (q_a2 (q_a2 (q_a2 (q_a2 (q_a2 (q_a2 (q_a2 (q_a2 (q_a2 (q_a2 (q_a2 (q_a2 (q_a2 (q_a2 i0_all)))))))))))))))))))))))))))))))))))))))))))
theorem i0_r_an : (List.range 10).all (fun k => q_zz 146 k 0) = true := (q_a1 (q_a2 (q_a2 (q_a2 (q_a2 (q_a2 (q_a2 (q_a2 (q_a2 (q_a2 (q_a2 (q_a2 (q_a2 (q_a2 (q_a2 (q_a2 (q_a2 (q_a2 (q_a2 (q_a2 (q_a2 (q_a2 (q_a2 (q_a2 (q_a2 (q_a2 (q_a2 (q_a2 (q_a2 (q_a2 (q_a2 (q_a2 (q_a2 (q_a2 (q_a2 (q_a2 (q_a2 (q_a2 (q_a2 (q_a2 (q_a2 (q_a2 (q_a2 (q_a2 i0_all))))))))))))))))))))))))))))))))))))))))))))
theorem i0_w_ah : (List.range 10).all (fun k => q_zz (10 + k) 2 0) = true := (q_a1 (q_a2 (q_a2 (q_a2 (q_a2 (q_a2 (q_a2 (q_a2 (q_a2 (q_a2 (q_a2 (q_a2 (q_a2 (q_a2 (q_a2 (q_a2 (q_a2 (q_a2 (q_a2 (q_a2 (q_a2 (q_a2 (q_a2 (q_a2 (q_a2 (q_a2 (q_a2 (q_a2 (q_a2 (q_a2 (q_a2 (q_a2 (q_a2 (q_a2 (q_a2 (q_a2 (q_a2 (q_a2 (q_a2 (q_a2 (q_a2 (q_a2 (q_a2 (q_a2 (q_a2 i0_all)))))))))))))))))))))))))))))))))))))))))))))
theorem i0_r_ah : (List.range 10).all (fun k => q_zz 147 k 0) = true := (q_a1 (q_a2 (q_a2 (q_a2 (q_a2 (q_a2 (q_a2 (q_a2 (q_a2 (q_a2 (q_a2 (q_a2 (q_a2 (q_a2 (q_a2 (q_a2 (q_a2 (q_a2 (q_a2 (q_a2 (q_a2 (q_a2 (q_a2 (q_a2 (q_a2 (q_a2 (q_a2 (q_a2 (q_a2 (q_a2 (q_a2 (q_a2 (q_a2 (q_a2 (q_a2 (q_a2 (q_a2 (q_a2 (q_a2 (q_a2 (q_a2 (q_a2 (q_a2 (q_a2 (q_a2 (q_a2 i0_all))))))))))))))))))))))))))))))))))))))))))))))
theorem i0_w_ar : (List.range 10).all (fun k => q_zz (10 + k) 3 0) = true := (q_a1 (q_a2 (q_a2 (q_a2 (q_a2 (q_a2 (q_a2 (q_a2 (q_a2 (q_a2 (q_a2 (q_a2 (q_a2 (q_a2 (q_a2 (q_a2 (q_a2 (q_a2 (q_a2 (q_a2 (q_a2 (q_a2 (q_a2 (q_a2 (q_a2 (q_a2 (q_a2 (q_a2 (q_a2 (q_a2 (q_a2 (q_a2 (q_a2 (q_a2 (q_a2 (q_a2 (q_a2 (q_a2 (q_a2 (q_a2 (q_a2 (q_a2 (q_a2 (q_a2 (q_a2 (q_a2 (q_a2 i0_all)))))))))))))))))))))))))))))))))))))))))))))))
theorem i0_r_ar : (List.range 10).all (fun k => q_zz 148 k 0) = true := (q_a1 (q_a2 (q_a2 (q_a2 (q_a2 (q_a2 (q_a2 (q_a2 (q_a2 (q_a2 (q_a2 (q_a2 (q_a2 (q_a2 (q_a2 (q_a2 (q_a2 (q_a2 (q_a2 (q_a2 (q_a2 (q_a2 (q_a2 (q_a2 (q_a2 (q_a2 (q_a2 (q_a2 (q_a2 (q_a2 (q_a2 (q_a2 (q_a2 (q_a2 (q_a2 (q_a2 (q_a2 (q_a2 (q_a2 (q_a2 (q_a2 (q_a2 (q_a2 (q_a2 (q_a2 (q_a2 (q_a2 (q_a2 i0_all))))))))))))))))))))))))))))))))))))))))))))))))
theorem i0_w_az : (List.range 10).all (fun k => q_zz (10 + k) 4 0) = true := (q_a1 (q_a2 (q_a2 (q_a2 (q_a2 (q_a2 (q_a2 (q_a2 (q_a2 (q_a2 (q_a2 (q_a2 (q_a2 (q_a2 (q_a2 (q_a2 (q_a2 (q_a2 (q_a2 (q_a2 (q_a2 (q_a2 (q_a2 (q_a2 (q_a2 (q_a2 (q_a2 (q_a2 (q_a2 (q_a2 (q_a2 (q_a2 (q_a2 (q_a2 (q_a2 (q_a2 (q_a2 (q_a2 (q_a2 (q_a2 (q_a2 (q_a2 (q_a2 (q_a2 (q_a2 (q_a2 (q_a2 (q_a2 (q_a2 i0_all)))))))))))))))))))))))))))))))))))))))))))))))))
theorem i0_r_az : (List.range 10).all (fun k => q_zz 149 k 0) = true := (q_a1 (q_a2 (q_a2 (q_a2 (q_a2 (q_a2 (q_a2 (q_a2 (q_a2 (q_a2 (q_a2 (q_a2 (q_a2 (q_a2 (q_a2 (q_a2 (q_a2 (q_a2 (q_a2 (q_a2 (q_a2 (q_a2 (q_a2 (q_a2 (q_a2 (q_a2 (q_a2 (q_a2 (q_a2 (q_a2 (q_a2 (q_a2 (q_a2 (q_a2 (q_a2 (q_a2 (q_a2 (q_a2 (q_a2 (q_a2 (q_a2 (q_a2 (q_a2 (q_a2 (q_a2 (q_a2 (q_a2 (q_a2 (q_a2 (q_a2 i0_all))))))))))))))))))))))))))))))))))))))))))))))))))
theorem i0_w_io : (List.range 10).all (fun k => q_zz (23 + k) 0 0) = true := (q_a1 (q_a2 (q_a2 (q_a2 (q_a2 (q_a2 (q_a2 (q_a2 (q_a2 (q_a2 (q_a2 (q_a2 (q_a2 (q_a2 (q_a2 (q_a2 (q_a2 (q_a2 (q_a2 (q_a2 (q_a2 (q_a2 (q_a2 (q_a2 (q_a2 (q_a2 (q_a2 (q_a2 (q_a2 (q_a2 (q_a2 (q_a2 (q_a2 (q_a2 (q_a2 (q_a2 (q_a2 (q_a2 (q_a2 (q_a2 (q_a2 (q_a2 (q_a2 (q_a2 (q_a2 (q_a2 (q_a2 (q_a2 (q_a2 (q_a2 (q_a2 i0_all)))))))))))))))))))))))))))))))))))))))))))))))))))
theorem i0_r_io : (List.range 10).all (fun k => q_zz 155 k 0) = true := (q_a1 (q_a2 (q_a2 (q_a2 (q_a2 (q_a2 (q_a2 (q_a2 (q_a2 (q_a2 (q_a2 (q_a2 (q_a2 (q_a2 (q_a2 (q_a2 (q_a2 (q_a2 (q_a2 (q_a2 (q_a2 (q_a2 (q_a2 (q_a2 (q_a2 (q_a2 (q_a2 (q_a2 (q_a2 (q_a2 (q_a2 (q_a2 (q_a2 (q_a2 (q_a2 (q_a2 (q_a2 (q_a2 (q_a2 (q_a2 (q_a2 (q_a2 (q_a2 (q_a2 (q_a2 (q_a2 (q_a2 (q_a2 (q_a2 (q_a2 (q_a2 (q_a2 i0_all))))))))))))))))))))))))))))))))))))))))))))))))))))
theorem i0_w_inn : (List.range 10).all (fun k => q_zz (23 + k) 1 0) = true := (q_a1 (q_a2 (q_a2 (q_a2 (q_a2 (q_a2 (q_a2 (q_a2 (q_a2 (q_a2 (q_a2 (q_a2 (q_a2 (q_a2 (q_a2 (q_a2 (q_a2 (q_a2 (q_a2 (q_a2 (q_a2 (q_a2 (q_a2 (q_a2 (q_a2 (q_a2 (q_a2 (q_a2 (q_a2 (q_a2 (q_a2 (q_a2 (q_a2 (q_a2 (q_a2 (q_a2 (q_a2 (q_a2 (q_a2 (q_a2 (q_a2 (q_a2 (q_a2 (q_a2 (q_a2 (q_a2 (q_a2 (q_a2 (q_a2 (q_a2 (q_a2 (q_a2 (q_a2 i0_all)))))))))))))))))))))))))))))))))))))))))))))))))))))
theorem i0_r_inn : (List.range 10).all (fun k => q_zz 156 k 0) = true := (q_a1 (q_a2 (q_a2 (q_a2 (q_a2 (q_a2 (q_a2 (q_a2 (q_a2 (q_a2 (q_a2 (q_a2 (q_a2 (q_a2 (q_a2 (q_a2 (q_a2 (q_a2 (q_a2 (q_a2 (q_a2 (q_a2 (q_a2 (q_a2 (q_a2 (q_a2 (q_a2 (q_a2 (q_a2 (q_a2 (q_a2 (q_a2 (q_a2 (q_a2 (q_a2 (q_a2 (q_a2 (q_a2 (q_a2 (q_a2 (q_a2 (q_a2 (q_a2 (q_a2 (q_a2 (q_a2 (q_a2 (q_a2 (q_a2 (q_a2 (q_a2 (q_a2 (q_a2 (q_a2 i0_all))))))))))))))))))))))))))))))))))))))))))))))))))))))
theorem i0_w_ih : (List.range 10).all (fun k => q_zz (23 + k) 2 0) = true := (q_a1 (q_a2 (q_a2 (q_a2 (q_a2 (q_a2 (q_a2 (q_a2 (q_a2 (q_a2 (q_a2 (q_a2 (q_a2 (q_a2 (q_a2 (q_a2 (q_a2 (q_a2 (q_a2 (q_a2 (q_a2 (q_a2 (q_a2 (q_a2 (q_a2 (q_a2 (q_a2 (q_a2 (q_a2 (q_a2 (q_a2 (q_a2 (q_a2 (q_a2 (q_a2 (q_a2 (q_a2 (q_a2 (q_a2 (q_a2 (q_a2 (q_a2 (q_a2 (q_a2 (q_a2 (q_a2 (q_a2 (q_a2 (q_a2 (q_a2 (q_a2 (q_a2 (q_a2 (q_a2 (q_a2 i0_all)))))))))))))))))))))))))))))))))))))))))))))))))))))))
theorem i0_r_ih : (List.range 10).all (fun k => q_zz 157 k 0) = true := (q_a1 (q_a2 (q_a2 (q_a2 (q_a2 (q_a2 (q_a2 (q_a2 (q_a2 (q_a2 (q_a2 (q_a2 (q_a2 (q_a2 (q_a2 (q_a2 (q_a2 (q_a2 (q_a2 (q_a2 (q_a2 (q_a2 (q_a2 (q_a2 (q_a2 (q_a2 (q_a2 (q_a2 (q_a2 (q_a2 (q_a2 (q_a2 (q_a2 (q_a2 (q_a2 (q_a2 (q_a2 (q_a2 (q_a2 (q_a2 (q_a2 (q_a2 (q_a2 (q_a2 (q_a2 (q_a2 (q_a2 (q_a2 (q_a2 (q_a2 (q_a2 (q_a2 (q_a2 (q_a2 (q_a2 (q_a2 i0_all))))))))))))))))))))))))))))))))))))))))))))))))))))))))
theorem i0_w_ir : (List.range 10).all (fun k => q_zz (23 + k) 3 0) = true := (q_a1 (q_a2 (q_a2 (q_a2 (q_a2 (q_a2 (q_a2 (q_a2 (q_a2 (q_a2 (q_a2 (q_a2 (q_a2 (q_a2 (q_a2 (q_a2 (q_a2 (q_a2 (q_a2 (q_a2 (q_a2 (q_a2 (q_a2 (q_a2 (q_a2 (q_a2 (q_a2 (q_a2 (q_a2 (q_a2 (q_a2 (q_a2 (q_a2 (q_a2 (q_a2 (q_a2 (q_a2 (q_a2 (q_a2 (q_a2 (q_a2 (q_a2 (q_a2 (q_a2 (q_a2 (q_a2 (q_a2 (q_a2 (q_a2 (q_a2 (q_a2 (q_a2 (q_a2 (q_a2 (q_a2 (q_a2 (q_a2 i0_all)))))))))))))))))))))))))))))))))))))))))))))))))))))))))
theorem i0_r_ir : (List.range 10).all (fun k => q_zz 158 k 0) = true := (q_a1 (q_a2 (q_a2 (q_a2 (q_a2 (q_a2 (q_a2 (q_a2 (q_a2 (q_a2 (q_a2 (q_a2 (q_a2 (q_a2 (q_a2 (q_a2 (q_a2 (q_a2 (q_a2 (q_a2 (q_a2 (q_a2 (q_a2 (q_a2 (q_a2 (q_a2 (q_a2 (q_a2 (q_a2 (q_a2 (q_a2 (q_a2 (q_a2 (q_a2 (q_a2 (q_a2 (q_a2 (q_a2 (q_a2 (q_a2 (q_a2 (q_a2 (q_a2 (q_a2 (q_a2 (q_a2 (q_a2 (q_a2 (q_a2 (q_a2 (q_a2 (q_a2 (q_a2 (q_a2 (q_a2 (q_a2 (q_a2 (q_a2 i0_all))))))))))))))))))))))))))))))))))))))))))))))))))))))))))
theorem i0_w_iz : (List.range 10).all (fun k => q_zz (23 + k) 4 0) = true := (q_a1 (q_a2 (q_a2 (q_a2 (q_a2 (q_a2 (q_a2 (q_a2 (q_a2 (q_a2 (q_a2 (q_a2 (q_a2 (q_a2 (q_a2 (q_a2 (q_a2 (q_a2 (q_a2 (q_a2 (q_a2 (q_a2 (q_a2 (q_a2 (q_a2 (q_a2 (q_a2 (q_a2 (q_a2 (q_a2 (q_a2 (q_a2 (q_a2 (q_a2 (q_a2 (q_a2 (q_a2 (q_a2 (q_a2 (q_a2 (q_a2 (q_a2 (q_a2 (q_a2 (q_a2 (q_a2 (q_a2 (q_a2 (q_a2 (q_a2 (q_a2 (q_a2 (q_a2 (q_a2 (q_a2 (q_a2 (q_a2 (q_a2 (q_a2 i0_all)))))))))))))))))))))))))))))))))))))))))))))))))))))))))))
theorem i0_r_iz : (List.range 10).all (fun k => q_zz 159 k 0) = true := (q_a1 (q_a2 (q_a2 (q_a2 (q_a2 (q_a2 (q_a2 (q_a2 (q_a2 (q_a2 (q_a2 (q_a2 (q_a2 (q_a2 (q_a2 (q_a2 (q_a2 (q_a2 (q_a2 (q_a2 (q_a2 (q_a2 (q_a2 (q_a2 (q_a2 (q_a2 (q_a2 (q_a2 (q_a2 (q_a2 (q_a2 (q_a2 (q_a2 (q_a2 (q_a2 (q_a2 (q_a2 (q_a2 (q_a2 (q_a2 (q_a2 (q_a2 (q_a2 (q_a2 (q_a2 (q_a2 (q_a2 (q_a2 (q_a2 (q_a2 (q_a2 (q_a2 (q_a2 (q_a2 (q_a2 (q_a2 (q_a2 (q_a2 (q_a2 (q_a2 i0_all))))))))))))))))))))))))))))))))))))))))))))))))))))))))))))
theorem i0_w_ends : (List.range 3).all (fun p => q_zz 111 p (nI (q_to (q_A0.txt 0) (p + 1)))) = true := (q_a1 (q_a2 (q_a2 (q_a2 (q_a2 (q_a2 (q_a2 (q_a2 (q_a2 (q_a2 (q_a2 (q_a2 (q_a2 (q_a2 (q_a2 (q_a2 (q_a2 (q_a2 (q_a2 (q_a2 (q_a2 (q_a2 (q_a2 (q_a2 (q_a2 (q_a2 (q_a2 (q_a2 (q_a2 (q_a2 (q_a2 (q_a2 (q_a2 (q_a2 (q_a2 (q_a2 (q_a2 (q_a2 (q_a2 (q_a2 (q_a2 (q_a2 (q_a2 (q_a2 (q_a2 (q_a2 (q_a2 (q_a2 (q_a2 (q_a2 (q_a2 (q_a2 (q_a2 (q_a2 (q_a2 (q_a2 (q_a2 (q_a2 (q_a2 (q_a2 (q_a2 i0_all)))))))))))))))))))))))))))))))))))))))))))))))))))))))))))))
theorem i0_w_stp : (List.range 3).all (fun p => (List.range (q_A0.txt 0 p).length).all (fun i => q_zz 110 (q_to (q_A0.txt 0) p + i) (q_stp ((q_A0.txt 0 p).getD i 0)))) = true := (q_a1 (q_a2 (q_a2 (q_a2 (q_a2 (q_a2 (q_a2 (q_a2 (q_a2 (q_a2 (q_a2 (q_a2 (q_a2 (q_a2 (q_a2 (q_a2 (q_a2 (q_a2 (q_a2 (q_a2 (q_a2 (q_a2 (q_a2 (q_a2 (q_a2 (q_a2 (q_a2 (q_a2 (q_a2 (q_a2 (q_a2 (q_a2 (q_a2 (q_a2 (q_a2 (q_a2 (q_a2 (q_a2 (q_a2 (q_a2 (q_a2 (q_a2 (q_a2 (q_a2 (q_a2 (q_a2 (q_a2 (q_a2 (q_a2 (q_a2 (q_a2 (q_a2 (q_a2 (q_a2 (q_a2 (q_a2 (q_a2 (q_a2 (q_a2 (q_a2 (q_a2 (q_a2 i0_all))))))))))))))))))))))))))))))))))))))))))))))))))))))))))))))
theorem i0_w_sort : (List.range 4).all (fun s => q_zz (127 + 2 * s) 1 (-1)) = true := (q_a1 (q_a2 (q_a2 (q_a2 (q_a2 (q_a2 (q_a2 (q_a2 (q_a2 (q_a2 (q_a2 (q_a2 (q_a2 (q_a2 (q_a2 (q_a2 (q_a2 (q_a2 (q_a2 (q_a2 (q_a2 (q_a2 (q_a2 (q_a2 (q_a2 (q_a2 (q_a2 (q_a2 (q_a2 (q_a2 (q_a2 (q_a2 (q_a2 (q_a2 (q_a2 (q_a2 (q_a2 (q_a2 (q_a2 (q_a2 (q_a2 (q_a2 (q_a2 (q_a2 (q_a2 (q_a2 (q_a2 (q_a2 (q_a2 (q_a2 (q_a2 (q_a2 (q_a2 (q_a2 (q_a2 (q_a2 (q_a2 (q_a2 (q_a2 (q_a2 (q_a2 (q_a2 (q_a2 i0_all)))))))))))))))))))))))))))))))))))))))))))))))))))))))))))))))
theorem i0_w_size : (List.range 4).all (fun s => q_zz (127 + 2 * s) 2 0) = true := (q_a1 (q_a2 (q_a2 (q_a2 (q_a2 (q_a2 (q_a2 (q_a2 (q_a2 (q_a2 (q_a2 (q_a2 (q_a2 (q_a2 (q_a2 (q_a2 (q_a2 (q_a2 (q_a2 (q_a2 (q_a2 (q_a2 (q_a2 (q_a2 (q_a2 (q_a2 (q_a2 (q_a2 (q_a2 (q_a2 (q_a2 (q_a2 (q_a2 (q_a2 (q_a2 (q_a2 (q_a2 (q_a2 (q_a2 (q_a2 (q_a2 (q_a2 (q_a2 (q_a2 (q_a2 (q_a2 (q_a2 (q_a2 (q_a2 (q_a2 (q_a2 (q_a2 (q_a2 (q_a2 (q_a2 (q_a2 (q_a2 (q_a2 (q_a2 (q_a2 (q_a2 (q_a2 (q_a2 (q_a2 i0_all))))))))))))))))))))))))))))))))))))))))))))))))))))))))))))))))
theorem i0_w_cell : (List.range 4).all (fun s => (List.range 40).all (fun i => q_zz (128 + 2 * s) i 0)) = true := (q_a1 (q_a2 (q_a2 (q_a2 (q_a2 (q_a2 (q_a2 (q_a2 (q_a2 (q_a2 (q_a2 (q_a2 (q_a2 (q_a2 (q_a2 (q_a2 (q_a2 (q_a2 (q_a2 (q_a2 (q_a2 (q_a2 (q_a2 (q_a2 (q_a2 (q_a2 (q_a2 (q_a2 (q_a2 (q_a2 (q_a2 (q_a2 (q_a2 (q_a2 (q_a2 (q_a2 (q_a2 (q_a2 (q_a2 (q_a2 (q_a2 (q_a2 (q_a2 (q_a2 (q_a2 (q_a2 (q_a2 (q_a2 (q_a2 (q_a2 (q_a2 (q_a2 (q_a2 (q_a2 (q_a2 (q_a2 (q_a2 (q_a2 (q_a2 (q_a2 (q_a2 (q_a2 (q_a2 (q_a2 (q_a2 i0_all)))))))))))))))))))))))))))))))))))))))))))))))))))))))))))))))))
theorem i0_r_cod : (List.range 3).all (fun p => (List.range (q_A0.txt 0 p).length).all (fun i => q_zz 153 (q_to (q_A0.txt 0) p + i) (nI ((q_A0.txt 0 p).getD i 0)))) = true := (q_a1 (q_a2 (q_a2 (q_a2 (q_a2 (q_a2 (q_a2 (q_a2 (q_a2 (q_a2 (q_a2 (q_a2 (q_a2 (q_a2 (q_a2 (q_a2 (q_a2 (q_a2 (q_a2 (q_a2 (q_a2 (q_a2 (q_a2 (q_a2 (q_a2 (q_a2 (q_a2 (q_a2 (q_a2 (q_a2 (q_a2 (q_a2 (q_a2 (q_a2 (q_a2 (q_a2 (q_a2 (q_a2 (q_a2 (q_a2 (q_a2 (q_a2 (q_a2 (q_a2 (q_a2 (q_a2 (q_a2 (q_a2 (q_a2 (q_a2 (q_a2 (q_a2 (q_a2 (q_a2 (q_a2 (q_a2 (q_a2 (q_a2 (q_a2 (q_a2 (q_a2 (q_a2 (q_a2 (q_a2 (q_a2 (q_a2 i0_all))))))))))))))))))))))))))))))))))))))))))))))))))))))))))))))))))
theorem i0_r_starts : (List.range 4).all (fun p => q_zz 154 p (nI (q_to (q_A0.txt 0) p))) = true := (q_a1 (q_a2 (q_a2 (q_a2 (q_a2 (q_a2 (q_a2 (q_a2 (q_a2 (q_a2 (q_a2 (q_a2 (q_a2 (q_a2 (q_a2 (q_a2 (q_a2 (q_a2 (q_a2 (q_a2 (q_a2 (q_a2 (q_a2 (q_a2 (q_a2 (q_a2 (q_a2 (q_a2 (q_a2 (q_a2 (q_a2 (q_a2 (q_a2 (q_a2 (q_a2 (q_a2 (q_a2 (q_a2 (q_a2 (q_a2 (q_a2 (q_a2 (q_a2 (q_a2 (q_a2 (q_a2 (q_a2 (q_a2 (q_a2 (q_a2 (q_a2 (q_a2 (q_a2 (q_a2 (q_a2 (q_a2 (q_a2 (q_a2 (q_a2 (q_a2 (q_a2 (q_a2 (q_a2 (q_a2 (q_a2 (q_a2 (q_a2 i0_all)))))))))))))))))))))))))))))))))))))))))))))))))))))))))))))))))))
theorem i0_r_sort : (List.range 4).all (fun s => q_zz 160 s (-1)) = true := (q_a1 (q_a2 (q_a2 (q_a2 (q_a2 (q_a2 (q_a2 (q_a2 (q_a2 (q_a2 (q_a2 (q_a2 (q_a2 (q_a2 (q_a2 (q_a2 (q_a2 (q_a2 (q_a2 (q_a2 (q_a2 (q_a2 (q_a2 (q_a2 (q_a2 (q_a2 (q_a2 (q_a2 (q_a2 (q_a2 (q_a2 (q_a2 (q_a2 (q_a2 (q_a2 (q_a2 (q_a2 (q_a2 (q_a2 (q_a2 (q_a2 (q_a2 (q_a2 (q_a2 (q_a2 (q_a2 (q_a2 (q_a2 (q_a2 (q_a2 (q_a2 (q_a2 (q_a2 (q_a2 (q_a2 (q_a2 (q_a2 (q_a2 (q_a2 (q_a2 (q_a2 (q_a2 (q_a2 (q_a2 (q_a2 (q_a2 (q_a2 (q_a2 i0_all))))))))))))))))))))))))))))))))))))))))))))))))))))))))))))))))))))
theorem i0_r_size : (List.range 4).all (fun s => q_zz 161 s 0) = true := (q_a1 (q_a2 (q_a2 (q_a2 (q_a2 (q_a2 (q_a2 (q_a2 (q_a2 (q_a2 (q_a2 (q_a2 (q_a2 (q_a2 (q_a2 (q_a2 (q_a2 (q_a2 (q_a2 (q_a2 (q_a2 (q_a2 (q_a2 (q_a2 (q_a2 (q_a2 (q_a2 (q_a2 (q_a2 (q_a2 (q_a2 (q_a2 (q_a2 (q_a2 (q_a2 (q_a2 (q_a2 (q_a2 (q_a2 (q_a2 (q_a2 (q_a2 (q_a2 (q_a2 (q_a2 (q_a2 (q_a2 (q_a2 (q_a2 (q_a2 (q_a2 (q_a2 (q_a2 (q_a2 (q_a2 (q_a2 (q_a2 (q_a2 (q_a2 (q_a2 (q_a2 (q_a2 (q_a2 (q_a2 (q_a2 (q_a2 (q_a2 (q_a2 (q_a2 i0_all)))))))))))))))))))))))))))))))))))))))))))))))))))))))))))))))))))))
theorem i0_r_cell : (List.range 4).all (fun s => (List.range 40).all (fun i => q_zz 162 (40 * s + i) 0)) = true := (q_a2 (q_a2 (q_a2 (q_a2 (q_a2 (q_a2 (q_a2 (q_a2 (q_a2 (q_a2 (q_a2 (q_a2 (q_a2 (q_a2 (q_a2 (q_a2 (q_a2 (q_a2 (q_a2 (q_a2 (q_a2 (q_a2 (q_a2 (q_a2 (q_a2 (q_a2 (q_a2 (q_a2 (q_a2 (q_a2 (q_a2 (q_a2 (q_a2 (q_a2 (q_a2 (q_a2 (q_a2 (q_a2 (q_a2 (q_a2 (q_a2 (q_a2 (q_a2 (q_a2 (q_a2 (q_a2 (q_a2 (q_a2 (q_a2 (q_a2 (q_a2 (q_a2 (q_a2 (q_a2 (q_a2 (q_a2 (q_a2 (q_a2 (q_a2 (q_a2 (q_a2 (q_a2 (q_a2 (q_a2 (q_a2 (q_a2 (q_a2 (q_a2 (q_a2 i0_all)))))))))))))))))))))))))))))))))))))))))))))))))))))))))))))))))))))
theorem i0_w : q_Rw q_A0 ir_d43 := by
  refine ⟨?_, ?_, ?_, ?_, ?_, ?_, ?_, ?_, ?_, ?_, ?_, ?_, ?_, ?_, ?_, ?_, ?_, ?_, ?_, ?_, ?_, ?_, ?_, ?_, ?_, ?_, ?_, ?_, ?_, ?_, ?_, ?_, ?_, ?_, ?_, ?_, ?_, ?_, ?_, ?_, ?_, ?_, ?_, ?_, ?_, ?_, ?_, ?_, ?_⟩
  · exact q_zz_of i0_w_F
  · exact q_zz_of i0_w_L
  · exact q_zz_of i0_w_H
  · exact q_zz_of i0_w_K
  · exact q_zz_of i0_w_T
  · exact q_zz_of i0_w_img
  · exact q_zz_of i0_w_N
  · exact q_zz_of i0_w_law
  · exact q_zz_of i0_w_out
  · exact q_zz_of i0_w_on
  · exact q_zz_of i0_w_hour
  · exact q_zz_of i0_w_slips
  · exact q_zz_of i0_w_iN
  · exact q_zz_of i0_w_ilaw
  · exact q_zz_of i0_w_iout
  · exact q_zz_of i0_w_ion
  · exact q_zz_of i0_w_ihour
  · exact q_zz_of i0_w_islips
  · exact q_zz_of i0_w_B
  · intro i h0; exact absurd h0 (Nat.not_lt_zero _)
  · intro i h0; exact absurd h0 (Nat.not_lt_zero _)
  · intro i h0; exact absurd h0 (Nat.not_lt_zero _)
  · intro i h0; exact q_zz_of (q_all i0_w_lends h0)
  · intro l h0; exact absurd h0 (Nat.not_lt_zero _)
  · intro l h0; exact absurd h0 (Nat.not_lt_zero _)
  · intro l h0; exact absurd h0 (Nat.not_lt_zero _)
  · intro l h0; exact absurd h0 (Nat.not_lt_zero _)
  · intro l h0; exact absurd h0 (Nat.not_lt_zero _)
  · intro l h0; exact absurd h0 (Nat.not_lt_zero _)
  · intro h l h0; exact absurd h0 (Nat.not_lt_zero _)
  · intro h f h0; exact absurd h0 (Nat.not_lt_zero _)
  · intro h f _ h1 h2; exact q_zz_of (q_all (q_all i0_w_feeds0 h1) h2)
  · intro k l h0; exact absurd h0 (Nat.not_lt_zero _)
  · intro k h0; exact absurd h0 (Nat.not_lt_zero _)
  · intro k h0; exact q_zz_of (q_all i0_w_ao h0)
  · intro k h0; exact q_zz_of (q_all i0_w_an h0)
  · intro k h0; exact q_zz_of (q_all i0_w_ah h0)
  · intro k h0; exact q_zz_of (q_all i0_w_ar h0)
  · intro k h0; exact q_zz_of (q_all i0_w_az h0)
  · intro k h0; exact q_zz_of (q_all i0_w_io h0)
  · intro k h0; exact q_zz_of (q_all i0_w_inn h0)
  · intro k h0; exact q_zz_of (q_all i0_w_ih h0)
  · intro k h0; exact q_zz_of (q_all i0_w_ir h0)
  · intro k h0; exact q_zz_of (q_all i0_w_iz h0)
  · intro t p (h0 : t < 1) h1
    have e : t = 0 := by omega
    subst e
    exact q_zz_of (q_all i0_w_ends h1)
  · intro t p i (h0 : t < 1) h1 h2
    have e : t = 0 := by omega
    subst e
    exact q_zz_of (q_all (q_all i0_w_stp h1) h2)
  · intro s h0; exact q_zz_of (q_all i0_w_sort h0)
  · intro s h0; exact q_zz_of (q_all i0_w_size h0)
  · intro s i h0 h1; exact q_zz_of (q_all (q_all i0_w_cell h0) h1)
theorem i0_r : q_Rr q_A0 ir_d43 := by
  refine ⟨?_, ?_, ?_, ?_, ?_, ?_, ?_, ?_, ?_, ?_, ?_, ?_, ?_, ?_, ?_, ?_, ?_, ?_, ?_, ?_, ?_, ?_, ?_, ?_, ?_, ?_, ?_, ?_, ?_, ?_, ?_, ?_, ?_, ?_, ?_, ?_, ?_, ?_, ?_, ?_, ?_, ?_, ?_, ?_, ?_, ?_⟩
  · exact q_zz_of i0_r_out
  · exact q_zz_of i0_r_on
  · exact q_zz_of i0_r_hour
  · exact q_zz_of i0_r_slips
  · exact q_zz_of i0_r_F
  · exact q_zz_of i0_r_L
  · exact q_zz_of i0_r_H
  · exact q_zz_of i0_r_N
  · exact q_zz_of i0_r_K
  · exact q_zz_of i0_r_B
  · exact q_zz_of i0_r_T
  · exact q_zz_of i0_r_law
  · exact q_zz_of i0_r_img
  · exact q_zz_of i0_r_iout
  · exact q_zz_of i0_r_ion
  · exact q_zz_of i0_r_ihour
  · exact q_zz_of i0_r_islips
  · exact q_zz_of i0_r_iN
  · exact q_zz_of i0_r_ilaw
  · intro i h0; exact absurd h0 (Nat.not_lt_zero _)
  · intro i h0; exact absurd h0 (Nat.not_lt_zero _)
  · intro l h0; exact absurd h0 (Nat.not_lt_zero _)
  · intro l h0; exact absurd h0 (Nat.not_lt_zero _)
  · intro l h0; exact absurd h0 (Nat.not_lt_zero _)
  · intro l h0; exact absurd h0 (Nat.not_lt_zero _)
  · intro l h0; exact absurd h0 (Nat.not_lt_zero _)
  · intro l h0; exact absurd h0 (Nat.not_lt_zero _)
  · intro h l h0; exact absurd h0 (Nat.not_lt_zero _)
  · intro k h0; exact q_zz_of (q_all i0_r_ao h0)
  · intro k h0; exact q_zz_of (q_all i0_r_an h0)
  · intro k h0; exact q_zz_of (q_all i0_r_ah h0)
  · intro k h0; exact q_zz_of (q_all i0_r_ar h0)
  · intro k h0; exact q_zz_of (q_all i0_r_az h0)
  · intro k h0; exact absurd h0 (Nat.not_lt_zero _)
  · intro k l h0; exact absurd h0 (Nat.not_lt_zero _)
  · intro i h0; exact absurd h0 (Nat.not_lt_zero _)
  · intro t p i (h0 : t < 1) h1 h2
    have e : t = 0 := by omega
    subst e
    rw [Nat.mul_zero, Nat.zero_add]
    exact q_zz_of (q_all (q_all i0_r_cod h1) h2)
  · intro t p (h0 : t < 1) h1
    have e : t = 0 := by omega
    subst e
    rw [Nat.mul_zero, Nat.zero_add]
    exact q_zz_of (q_all i0_r_starts h1)
  · intro k h0; exact q_zz_of (q_all i0_r_io h0)
  · intro k h0; exact q_zz_of (q_all i0_r_inn h0)
  · intro k h0; exact q_zz_of (q_all i0_r_ih h0)
  · intro k h0; exact q_zz_of (q_all i0_r_ir h0)
  · intro k h0; exact q_zz_of (q_all i0_r_iz h0)
  · intro s h0; exact q_zz_of (q_all i0_r_sort h0)
  · intro s h0; exact q_zz_of (q_all i0_r_size h0)
  · intro s i h0 h1; exact q_zz_of (q_all (q_all i0_r_cell h0) h1)
theorem i0_ok : q_Ok q_A0 := by
  refine ⟨by decide, by decide, by decide, by decide, by decide, by decide, by decide, by decide, by decide, by decide, by decide, by decide, ?_, ?_, ?_, ?_, ?_, ?_, ?_, ?_, ?_, ?_, ?_, ?_, ?_, ?_, ?_⟩
  · intro l h0; exact absurd h0 (Nat.not_lt_zero _)
  · intro l h0; exact absurd h0 (Nat.not_lt_zero _)
  · intro l h0; exact absurd h0 (Nat.not_lt_zero _)
  · intro l h0; exact absurd h0 (Nat.not_lt_zero _)
  · intro l h0; exact absurd h0 (Nat.not_lt_zero _)
  · intro l h0; exact absurd h0 (Nat.not_lt_zero _)
  · intro l h0; exact absurd h0 (Nat.not_lt_zero _)
  · intro h l h0; exact absurd h0 (Nat.not_lt_zero _)
  · intro h l h0; exact absurd h0 (Nat.not_lt_zero _)
  · intro s h0; exact Nat.zero_le _
  · intro s h0; exact Or.inl ⟨rfl, rfl⟩
  · intro i h0; exact absurd h0 (Nat.not_lt_zero _)
  · intro t p h0 h1
    rcases (show p = 0 ∨ p = 1 ∨ p = 2 by omega) with rfl | rfl | rfl <;> rfl
  · intro t p c h0 h1 h2
    unfold q_cok
    rcases (show p = 0 ∨ p = 1 ∨ p = 2 by omega) with rfl | rfl | rfl
    · have h2 : c ∈ [0] := h2
      simp at h2
      omega
    · have h2 : c ∈ [100090, 5, 100007, 18, 17] := h2
      simp at h2
      omega
    · have h2 : c ∈ [0, 4, 16] := h2
      simp at h2
      omega
  · intro t h0
    show 9 ≤ 160
    omega
theorem i0_inv : q_Inv ir_d43 ir_w43 := ⟨q_A0, i0_ok, i0_w, i0_r, fun _ _ => rfl⟩
