/-! DECODE ROWS (written by wip/gen/emit.py) -/
theorem d_r_agree_0 : decode prog_13_method_79_code 0 = .ok (.iload_n 1, 1) := by decide +kernel
theorem d_r_agree_1 : decode prog_13_method_79_code 1 = .ok (.iconst 0, 1) := by decide +kernel
theorem d_r_agree_11 : decode prog_13_method_79_code 11 = .ok (.ifCond .eq 20, 3) := by decide +kernel
theorem d_r_agree_14 : decode prog_13_method_79_code 14 = .ok (.aload_n 0, 1) := by decide +kernel
theorem d_r_agree_15 : decode prog_13_method_79_code 15 = .ok (.iload_n 2, 1) := by decide +kernel
theorem d_r_agree_16 : decode prog_13_method_79_code 16 = .ok (.invokevirtual 266, 3) := by decide +kernel
theorem d_r_agree_19 : decode prog_13_method_79_code 19 = .ok (.ifCond .eq 12, 3) := by decide +kernel
theorem d_r_agree_2 : decode prog_13_method_79_code 2 = .ok (.aload_n 0, 1) := by decide +kernel
theorem d_r_agree_22 : decode prog_13_method_79_code 22 = .ok (.aload_n 0, 1) := by decide +kernel
theorem d_r_agree_23 : decode prog_13_method_79_code 23 = .ok (.iload_n 1, 1) := by decide +kernel
theorem d_r_agree_24 : decode prog_13_method_79_code 24 = .ok (.iload_n 2, 1) := by decide +kernel
theorem d_r_agree_25 : decode prog_13_method_79_code 25 = .ok (.invokevirtual 341, 3) := by decide +kernel
theorem d_r_agree_28 : decode prog_13_method_79_code 28 = .ok (.goto 5, 3) := by decide +kernel
theorem d_r_agree_3 : decode prog_13_method_79_code 3 = .ok (.getfield 186, 3) := by decide +kernel
theorem d_r_agree_31 : decode prog_13_method_79_code 31 = .ok (.bipush (-5), 2) := by decide +kernel
theorem d_r_agree_33 : decode prog_13_method_79_code 33 = .ok (.ireturn, 1) := by decide +kernel
theorem d_r_agree_6 : decode prog_13_method_79_code 6 = .ok (.iconst 1, 1) := by decide +kernel
theorem d_r_agree_7 : decode prog_13_method_79_code 7 = .ok (.isub, 1) := by decide +kernel
theorem d_r_agree_8 : decode prog_13_method_79_code 8 = .ok (.invokestatic 153, 3) := by decide +kernel
theorem d_r_agreesAll_0 : decode prog_13_method_80_code 0 = .ok (.aload_n 0, 1) := by decide +kernel
theorem d_r_agreesAll_1 : decode prog_13_method_80_code 1 = .ok (.iconst 0, 1) := by decide +kernel
theorem d_r_agreesAll_11 : decode prog_13_method_80_code 11 = .ok (.iload 4, 2) := by decide +kernel
theorem d_r_agreesAll_13 : decode prog_13_method_80_code 13 = .ok (.aload_n 0, 1) := by decide +kernel
theorem d_r_agreesAll_14 : decode prog_13_method_80_code 14 = .ok (.getfield 157, 3) := by decide +kernel
theorem d_r_agreesAll_17 : decode prog_13_method_80_code 17 = .ok (.if_icmp .ge 33, 3) := by decide +kernel
theorem d_r_agreesAll_2 : decode prog_13_method_80_code 2 = .ok (.invokevirtual 311, 3) := by decide +kernel
theorem d_r_agreesAll_20 : decode prog_13_method_80_code 20 = .ok (.iload_n 3, 1) := by decide +kernel
theorem d_r_agreesAll_21 : decode prog_13_method_80_code 21 = .ok (.iload_n 2, 1) := by decide +kernel
theorem d_r_agreesAll_22 : decode prog_13_method_80_code 22 = .ok (.iload 4, 2) := by decide +kernel
theorem d_r_agreesAll_24 : decode prog_13_method_80_code 24 = .ok (.ishr, 1) := by decide +kernel
theorem d_r_agreesAll_25 : decode prog_13_method_80_code 25 = .ok (.iconst 1, 1) := by decide +kernel
theorem d_r_agreesAll_26 : decode prog_13_method_80_code 26 = .ok (.iand, 1) := by decide +kernel
theorem d_r_agreesAll_27 : decode prog_13_method_80_code 27 = .ok (.iconst 1, 1) := by decide +kernel
theorem d_r_agreesAll_28 : decode prog_13_method_80_code 28 = .ok (.if_icmp .ne 13, 3) := by decide +kernel
theorem d_r_agreesAll_31 : decode prog_13_method_80_code 31 = .ok (.aload_n 0, 1) := by decide +kernel
theorem d_r_agreesAll_32 : decode prog_13_method_80_code 32 = .ok (.iload_n 1, 1) := by decide +kernel
theorem d_r_agreesAll_33 : decode prog_13_method_80_code 33 = .ok (.iload 4, 2) := by decide +kernel
theorem d_r_agreesAll_35 : decode prog_13_method_80_code 35 = .ok (.invokevirtual 341, 3) := by decide +kernel
theorem d_r_agreesAll_38 : decode prog_13_method_80_code 38 = .ok (.goto 4, 3) := by decide +kernel
theorem d_r_agreesAll_41 : decode prog_13_method_80_code 41 = .ok (.iconst 0, 1) := by decide +kernel
theorem d_r_agreesAll_42 : decode prog_13_method_80_code 42 = .ok (.iadd, 1) := by decide +kernel
theorem d_r_agreesAll_43 : decode prog_13_method_80_code 43 = .ok (.istore_n 3, 1) := by decide +kernel
theorem d_r_agreesAll_44 : decode prog_13_method_80_code 44 = .ok (.iinc 4 1, 3) := by decide +kernel
theorem d_r_agreesAll_47 : decode prog_13_method_80_code 47 = .ok (.goto (-36), 3) := by decide +kernel
theorem d_r_agreesAll_5 : decode prog_13_method_80_code 5 = .ok (.istore_n 2, 1) := by decide +kernel
theorem d_r_agreesAll_50 : decode prog_13_method_80_code 50 = .ok (.iload_n 3, 1) := by decide +kernel
theorem d_r_agreesAll_51 : decode prog_13_method_80_code 51 = .ok (.ireturn, 1) := by decide +kernel
theorem d_r_agreesAll_6 : decode prog_13_method_80_code 6 = .ok (.iconst 0, 1) := by decide +kernel
theorem d_r_agreesAll_7 : decode prog_13_method_80_code 7 = .ok (.istore_n 3, 1) := by decide +kernel
theorem d_r_agreesAll_8 : decode prog_13_method_80_code 8 = .ok (.iconst 0, 1) := by decide +kernel
theorem d_r_agreesAll_9 : decode prog_13_method_80_code 9 = .ok (.istore 4, 2) := by decide +kernel
theorem d_r_agrees_0 : decode prog_13_method_78_code 0 = .ok (.iconst 0, 1) := by decide +kernel
theorem d_r_agrees_1 : decode prog_13_method_78_code 1 = .ok (.istore_n 3, 1) := by decide +kernel
theorem d_r_agrees_11 : decode prog_13_method_78_code 11 = .ok (.if_icmp .ge 44, 3) := by decide +kernel
theorem d_r_agrees_14 : decode prog_13_method_78_code 14 = .ok (.iload_n 3, 1) := by decide +kernel
theorem d_r_agrees_15 : decode prog_13_method_78_code 15 = .ok (.aload_n 0, 1) := by decide +kernel
theorem d_r_agrees_16 : decode prog_13_method_78_code 16 = .ok (.getfield 55, 3) := by decide +kernel
theorem d_r_agrees_19 : decode prog_13_method_78_code 19 = .ok (.bipush 10, 2) := by decide +kernel
theorem d_r_agrees_2 : decode prog_13_method_78_code 2 = .ok (.iconst 0, 1) := by decide +kernel
theorem d_r_agrees_21 : decode prog_13_method_78_code 21 = .ok (.iload_n 1, 1) := by decide +kernel
theorem d_r_agrees_22 : decode prog_13_method_78_code 22 = .ok (.imul, 1) := by decide +kernel
theorem d_r_agrees_23 : decode prog_13_method_78_code 23 = .ok (.iload 4, 2) := by decide +kernel
theorem d_r_agrees_25 : decode prog_13_method_78_code 25 = .ok (.iadd, 1) := by decide +kernel
theorem d_r_agrees_26 : decode prog_13_method_78_code 26 = .ok (.iaload, 1) := by decide +kernel
theorem d_r_agrees_27 : decode prog_13_method_78_code 27 = .ok (.aload_n 0, 1) := by decide +kernel
theorem d_r_agrees_28 : decode prog_13_method_78_code 28 = .ok (.getfield 34, 3) := by decide +kernel
theorem d_r_agrees_3 : decode prog_13_method_78_code 3 = .ok (.istore 4, 2) := by decide +kernel
theorem d_r_agrees_31 : decode prog_13_method_78_code 31 = .ok (.bipush 10, 2) := by decide +kernel
theorem d_r_agrees_33 : decode prog_13_method_78_code 33 = .ok (.iload_n 2, 1) := by decide +kernel
theorem d_r_agrees_34 : decode prog_13_method_78_code 34 = .ok (.imul, 1) := by decide +kernel
theorem d_r_agrees_35 : decode prog_13_method_78_code 35 = .ok (.iload 4, 2) := by decide +kernel
theorem d_r_agrees_37 : decode prog_13_method_78_code 37 = .ok (.iadd, 1) := by decide +kernel
theorem d_r_agrees_38 : decode prog_13_method_78_code 38 = .ok (.iaload, 1) := by decide +kernel
theorem d_r_agrees_39 : decode prog_13_method_78_code 39 = .ok (.if_icmp .ne 7, 3) := by decide +kernel
theorem d_r_agrees_42 : decode prog_13_method_78_code 42 = .ok (.iconst 1, 1) := by decide +kernel
theorem d_r_agrees_43 : decode prog_13_method_78_code 43 = .ok (.goto 4, 3) := by decide +kernel
theorem d_r_agrees_46 : decode prog_13_method_78_code 46 = .ok (.iconst 0, 1) := by decide +kernel
theorem d_r_agrees_47 : decode prog_13_method_78_code 47 = .ok (.iadd, 1) := by decide +kernel
theorem d_r_agrees_48 : decode prog_13_method_78_code 48 = .ok (.istore_n 3, 1) := by decide +kernel
theorem d_r_agrees_49 : decode prog_13_method_78_code 49 = .ok (.iinc 4 1, 3) := by decide +kernel
theorem d_r_agrees_5 : decode prog_13_method_78_code 5 = .ok (.iload 4, 2) := by decide +kernel
theorem d_r_agrees_52 : decode prog_13_method_78_code 52 = .ok (.goto (-47), 3) := by decide +kernel
theorem d_r_agrees_55 : decode prog_13_method_78_code 55 = .ok (.iload_n 3, 1) := by decide +kernel
theorem d_r_agrees_56 : decode prog_13_method_78_code 56 = .ok (.ireturn, 1) := by decide +kernel
theorem d_r_agrees_7 : decode prog_13_method_78_code 7 = .ok (.aload_n 0, 1) := by decide +kernel
theorem d_r_agrees_8 : decode prog_13_method_78_code 8 = .ok (.getfield 150, 3) := by decide +kernel
theorem d_r_ahead_0 : decode prog_13_method_62_code 0 = .ok (.iload_n 1, 1) := by decide +kernel
theorem d_r_ahead_1 : decode prog_13_method_62_code 1 = .ok (.invokestatic 292, 3) := by decide +kernel
theorem d_r_ahead_10 : decode prog_13_method_62_code 10 = .ok (.invokestatic 153, 3) := by decide +kernel
theorem d_r_ahead_100 : decode prog_13_method_62_code 100 = .ok (.iand, 1) := by decide +kernel
theorem d_r_ahead_101 : decode prog_13_method_62_code 101 = .ok (.iconst 1, 1) := by decide +kernel
theorem d_r_ahead_102 : decode prog_13_method_62_code 102 = .ok (.if_icmp .ne 13, 3) := by decide +kernel
theorem d_r_ahead_105 : decode prog_13_method_62_code 105 = .ok (.aload_n 0, 1) := by decide +kernel
theorem d_r_ahead_106 : decode prog_13_method_62_code 106 = .ok (.iload_n 3, 1) := by decide +kernel
theorem d_r_ahead_107 : decode prog_13_method_62_code 107 = .ok (.iload 8, 2) := by decide +kernel
theorem d_r_ahead_109 : decode prog_13_method_62_code 109 = .ok (.invokevirtual 317, 3) := by decide +kernel
theorem d_r_ahead_112 : decode prog_13_method_62_code 112 = .ok (.goto 4, 3) := by decide +kernel
theorem d_r_ahead_115 : decode prog_13_method_62_code 115 = .ok (.iconst 0, 1) := by decide +kernel
theorem d_r_ahead_116 : decode prog_13_method_62_code 116 = .ok (.iastore, 1) := by decide +kernel
theorem d_r_ahead_117 : decode prog_13_method_62_code 117 = .ok (.iinc 8 1, 3) := by decide +kernel
theorem d_r_ahead_120 : decode prog_13_method_62_code 120 = .ok (.goto (-40), 3) := by decide +kernel
theorem d_r_ahead_123 : decode prog_13_method_62_code 123 = .ok (.iconst 0, 1) := by decide +kernel
theorem d_r_ahead_124 : decode prog_13_method_62_code 124 = .ok (.istore 8, 2) := by decide +kernel
theorem d_r_ahead_126 : decode prog_13_method_62_code 126 = .ok (.iconst 0, 1) := by decide +kernel
theorem d_r_ahead_127 : decode prog_13_method_62_code 127 = .ok (.istore 9, 2) := by decide +kernel
theorem d_r_ahead_129 : decode prog_13_method_62_code 129 = .ok (.iload 9, 2) := by decide +kernel
theorem d_r_ahead_13 : decode prog_13_method_62_code 13 = .ok (.ifCond .ne 6, 3) := by decide +kernel
theorem d_r_ahead_131 : decode prog_13_method_62_code 131 = .ok (.aload_n 0, 1) := by decide +kernel
theorem d_r_ahead_132 : decode prog_13_method_62_code 132 = .ok (.getfield 157, 3) := by decide +kernel
theorem d_r_ahead_135 : decode prog_13_method_62_code 135 = .ok (.if_icmp .ge 71, 3) := by decide +kernel
theorem d_r_ahead_138 : decode prog_13_method_62_code 138 = .ok (.aload_n 0, 1) := by decide +kernel
theorem d_r_ahead_139 : decode prog_13_method_62_code 139 = .ok (.getfield 135, 3) := by decide +kernel
theorem d_r_ahead_142 : decode prog_13_method_62_code 142 = .ok (.iload 9, 2) := by decide +kernel
theorem d_r_ahead_144 : decode prog_13_method_62_code 144 = .ok (.iaload, 1) := by decide +kernel
theorem d_r_ahead_145 : decode prog_13_method_62_code 145 = .ok (.ifCond .eq 55, 3) := by decide +kernel
theorem d_r_ahead_148 : decode prog_13_method_62_code 148 = .ok (.aload_n 0, 1) := by decide +kernel
theorem d_r_ahead_149 : decode prog_13_method_62_code 149 = .ok (.getfield 135, 3) := by decide +kernel
theorem d_r_ahead_152 : decode prog_13_method_62_code 152 = .ok (.iload 9, 2) := by decide +kernel
theorem d_r_ahead_154 : decode prog_13_method_62_code 154 = .ok (.iaload, 1) := by decide +kernel
theorem d_r_ahead_155 : decode prog_13_method_62_code 155 = .ok (.iconst 1, 1) := by decide +kernel
theorem d_r_ahead_156 : decode prog_13_method_62_code 156 = .ok (.iload 9, 2) := by decide +kernel
theorem d_r_ahead_158 : decode prog_13_method_62_code 158 = .ok (.ishl, 1) := by decide +kernel
theorem d_r_ahead_159 : decode prog_13_method_62_code 159 = .ok (.iconst 1, 1) := by decide +kernel
theorem d_r_ahead_16 : decode prog_13_method_62_code 16 = .ok (.bipush (-2), 2) := by decide +kernel
theorem d_r_ahead_160 : decode prog_13_method_62_code 160 = .ok (.isub, 1) := by decide +kernel
theorem d_r_ahead_161 : decode prog_13_method_62_code 161 = .ok (.iand, 1) := by decide +kernel
theorem d_r_ahead_162 : decode prog_13_method_62_code 162 = .ok (.ifCond .ne 38, 3) := by decide +kernel
theorem d_r_ahead_165 : decode prog_13_method_62_code 165 = .ok (.aload_n 0, 1) := by decide +kernel
theorem d_r_ahead_166 : decode prog_13_method_62_code 166 = .ok (.aload_n 0, 1) := by decide +kernel
theorem d_r_ahead_167 : decode prog_13_method_62_code 167 = .ok (.getfield 135, 3) := by decide +kernel
theorem d_r_ahead_170 : decode prog_13_method_62_code 170 = .ok (.iload 9, 2) := by decide +kernel
theorem d_r_ahead_172 : decode prog_13_method_62_code 172 = .ok (.iaload, 1) := by decide +kernel
theorem d_r_ahead_173 : decode prog_13_method_62_code 173 = .ok (.iload 4, 2) := by decide +kernel
theorem d_r_ahead_175 : decode prog_13_method_62_code 175 = .ok (.iconst 2, 1) := by decide +kernel
theorem d_r_ahead_176 : decode prog_13_method_62_code 176 = .ok (.invokevirtual 326, 3) := by decide +kernel
theorem d_r_ahead_179 : decode prog_13_method_62_code 179 = .ok (.pop, 1) := by decide +kernel
theorem d_r_ahead_18 : decode prog_13_method_62_code 18 = .ok (.ireturn, 1) := by decide +kernel
theorem d_r_ahead_180 : decode prog_13_method_62_code 180 = .ok (.aload_n 0, 1) := by decide +kernel
theorem d_r_ahead_181 : decode prog_13_method_62_code 181 = .ok (.getfield 323, 3) := by decide +kernel
theorem d_r_ahead_184 : decode prog_13_method_62_code 184 = .ok (.iload 8, 2) := by decide +kernel
theorem d_r_ahead_186 : decode prog_13_method_62_code 186 = .ok (.if_icmp .le 10, 3) := by decide +kernel
theorem d_r_ahead_189 : decode prog_13_method_62_code 189 = .ok (.aload_n 0, 1) := by decide +kernel
theorem d_r_ahead_19 : decode prog_13_method_62_code 19 = .ok (.aload_n 0, 1) := by decide +kernel
theorem d_r_ahead_190 : decode prog_13_method_62_code 190 = .ok (.getfield 323, 3) := by decide +kernel
theorem d_r_ahead_193 : decode prog_13_method_62_code 193 = .ok (.goto 5, 3) := by decide +kernel
theorem d_r_ahead_196 : decode prog_13_method_62_code 196 = .ok (.iload 8, 2) := by decide +kernel
theorem d_r_ahead_198 : decode prog_13_method_62_code 198 = .ok (.istore 8, 2) := by decide +kernel
theorem d_r_ahead_20 : decode prog_13_method_62_code 20 = .ok (.iconst 0, 1) := by decide +kernel
theorem d_r_ahead_200 : decode prog_13_method_62_code 200 = .ok (.iinc 9 1, 3) := by decide +kernel
theorem d_r_ahead_203 : decode prog_13_method_62_code 203 = .ok (.goto (-74), 3) := by decide +kernel
theorem d_r_ahead_206 : decode prog_13_method_62_code 206 = .ok (.iload 5, 2) := by decide +kernel
theorem d_r_ahead_208 : decode prog_13_method_62_code 208 = .ok (.iconst (-1), 1) := by decide +kernel
theorem d_r_ahead_209 : decode prog_13_method_62_code 209 = .ok (.if_icmp .eq 10, 3) := by decide +kernel
theorem d_r_ahead_21 : decode prog_13_method_62_code 21 = .ok (.invokevirtual 311, 3) := by decide +kernel
theorem d_r_ahead_212 : decode prog_13_method_62_code 212 = .ok (.iload 8, 2) := by decide +kernel
theorem d_r_ahead_214 : decode prog_13_method_62_code 214 = .ok (.iload 6, 2) := by decide +kernel
theorem d_r_ahead_216 : decode prog_13_method_62_code 216 = .ok (.if_icmp .ge 11, 3) := by decide +kernel
theorem d_r_ahead_219 : decode prog_13_method_62_code 219 = .ok (.iload 7, 2) := by decide +kernel
theorem d_r_ahead_221 : decode prog_13_method_62_code 221 = .ok (.istore 5, 2) := by decide +kernel
theorem d_r_ahead_223 : decode prog_13_method_62_code 223 = .ok (.iload 8, 2) := by decide +kernel
theorem d_r_ahead_225 : decode prog_13_method_62_code 225 = .ok (.istore 6, 2) := by decide +kernel
theorem d_r_ahead_227 : decode prog_13_method_62_code 227 = .ok (.iinc 7 1, 3) := by decide +kernel
theorem d_r_ahead_230 : decode prog_13_method_62_code 230 = .ok (.goto (-183), 3) := by decide +kernel
theorem d_r_ahead_233 : decode prog_13_method_62_code 233 = .ok (.iload_n 2, 1) := by decide +kernel
theorem d_r_ahead_234 : decode prog_13_method_62_code 234 = .ok (.ifCond .ne 8, 3) := by decide +kernel
theorem d_r_ahead_237 : decode prog_13_method_62_code 237 = .ok (.iload 5, 2) := by decide +kernel
theorem d_r_ahead_239 : decode prog_13_method_62_code 239 = .ok (.goto 5, 3) := by decide +kernel
theorem d_r_ahead_24 : decode prog_13_method_62_code 24 = .ok (.istore_n 3, 1) := by decide +kernel
theorem d_r_ahead_242 : decode prog_13_method_62_code 242 = .ok (.iload 6, 2) := by decide +kernel
theorem d_r_ahead_244 : decode prog_13_method_62_code 244 = .ok (.ireturn, 1) := by decide +kernel
theorem d_r_ahead_25 : decode prog_13_method_62_code 25 = .ok (.iload_n 3, 1) := by decide +kernel
theorem d_r_ahead_26 : decode prog_13_method_62_code 26 = .ok (.ifCond .ne 5, 3) := by decide +kernel
theorem d_r_ahead_29 : decode prog_13_method_62_code 29 = .ok (.iconst (-1), 1) := by decide +kernel
theorem d_r_ahead_30 : decode prog_13_method_62_code 30 = .ok (.ireturn, 1) := by decide +kernel
theorem d_r_ahead_31 : decode prog_13_method_62_code 31 = .ok (.aload_n 0, 1) := by decide +kernel
theorem d_r_ahead_32 : decode prog_13_method_62_code 32 = .ok (.iload_n 1, 1) := by decide +kernel
theorem d_r_ahead_33 : decode prog_13_method_62_code 33 = .ok (.invokevirtual 295, 3) := by decide +kernel
theorem d_r_ahead_36 : decode prog_13_method_62_code 36 = .ok (.istore 4, 2) := by decide +kernel
theorem d_r_ahead_38 : decode prog_13_method_62_code 38 = .ok (.iconst (-1), 1) := by decide +kernel
theorem d_r_ahead_39 : decode prog_13_method_62_code 39 = .ok (.istore 5, 2) := by decide +kernel
theorem d_r_ahead_4 : decode prog_13_method_62_code 4 = .ok (.ifCond .eq 12, 3) := by decide +kernel
theorem d_r_ahead_41 : decode prog_13_method_62_code 41 = .ok (.iconst 0, 1) := by decide +kernel
theorem d_r_ahead_42 : decode prog_13_method_62_code 42 = .ok (.istore 6, 2) := by decide +kernel
theorem d_r_ahead_44 : decode prog_13_method_62_code 44 = .ok (.iconst 0, 1) := by decide +kernel
theorem d_r_ahead_45 : decode prog_13_method_62_code 45 = .ok (.istore 7, 2) := by decide +kernel
theorem d_r_ahead_47 : decode prog_13_method_62_code 47 = .ok (.iload 7, 2) := by decide +kernel
theorem d_r_ahead_49 : decode prog_13_method_62_code 49 = .ok (.iconst 1, 1) := by decide +kernel
theorem d_r_ahead_50 : decode prog_13_method_62_code 50 = .ok (.aload_n 0, 1) := by decide +kernel
theorem d_r_ahead_51 : decode prog_13_method_62_code 51 = .ok (.getfield 160, 3) := by decide +kernel
theorem d_r_ahead_54 : decode prog_13_method_62_code 54 = .ok (.ishl, 1) := by decide +kernel
theorem d_r_ahead_55 : decode prog_13_method_62_code 55 = .ok (.if_icmp .ge 178, 3) := by decide +kernel
theorem d_r_ahead_58 : decode prog_13_method_62_code 58 = .ok (.iload 7, 2) := by decide +kernel
theorem d_r_ahead_60 : decode prog_13_method_62_code 60 = .ok (.invokestatic 305, 3) := by decide +kernel
theorem d_r_ahead_63 : decode prog_13_method_62_code 63 = .ok (.iconst 2, 1) := by decide +kernel
theorem d_r_ahead_64 : decode prog_13_method_62_code 64 = .ok (.if_icmp .gt 163, 3) := by decide +kernel
theorem d_r_ahead_67 : decode prog_13_method_62_code 67 = .ok (.aload_n 0, 1) := by decide +kernel
theorem d_r_ahead_68 : decode prog_13_method_62_code 68 = .ok (.iload_n 3, 1) := by decide +kernel
theorem d_r_ahead_69 : decode prog_13_method_62_code 69 = .ok (.iload 7, 2) := by decide +kernel
theorem d_r_ahead_7 : decode prog_13_method_62_code 7 = .ok (.iload_n 2, 1) := by decide +kernel
theorem d_r_ahead_71 : decode prog_13_method_62_code 71 = .ok (.iload 4, 2) := by decide +kernel
theorem d_r_ahead_73 : decode prog_13_method_62_code 73 = .ok (.invokevirtual 314, 3) := by decide +kernel
theorem d_r_ahead_76 : decode prog_13_method_62_code 76 = .ok (.pop, 1) := by decide +kernel
theorem d_r_ahead_77 : decode prog_13_method_62_code 77 = .ok (.iconst 0, 1) := by decide +kernel
theorem d_r_ahead_78 : decode prog_13_method_62_code 78 = .ok (.istore 8, 2) := by decide +kernel
theorem d_r_ahead_8 : decode prog_13_method_62_code 8 = .ok (.iconst 0, 1) := by decide +kernel
theorem d_r_ahead_80 : decode prog_13_method_62_code 80 = .ok (.iload 8, 2) := by decide +kernel
theorem d_r_ahead_82 : decode prog_13_method_62_code 82 = .ok (.aload_n 0, 1) := by decide +kernel
theorem d_r_ahead_83 : decode prog_13_method_62_code 83 = .ok (.getfield 157, 3) := by decide +kernel
theorem d_r_ahead_86 : decode prog_13_method_62_code 86 = .ok (.if_icmp .ge 37, 3) := by decide +kernel
theorem d_r_ahead_89 : decode prog_13_method_62_code 89 = .ok (.aload_n 0, 1) := by decide +kernel
theorem d_r_ahead_9 : decode prog_13_method_62_code 9 = .ok (.iconst 1, 1) := by decide +kernel
theorem d_r_ahead_90 : decode prog_13_method_62_code 90 = .ok (.getfield 135, 3) := by decide +kernel
theorem d_r_ahead_93 : decode prog_13_method_62_code 93 = .ok (.iload 8, 2) := by decide +kernel
theorem d_r_ahead_95 : decode prog_13_method_62_code 95 = .ok (.iload_n 3, 1) := by decide +kernel
theorem d_r_ahead_96 : decode prog_13_method_62_code 96 = .ok (.iload 8, 2) := by decide +kernel
theorem d_r_ahead_98 : decode prog_13_method_62_code 98 = .ok (.ishr, 1) := by decide +kernel
theorem d_r_ahead_99 : decode prog_13_method_62_code 99 = .ok (.iconst 1, 1) := by decide +kernel
theorem d_r_amissIn_0 : decode prog_13_method_48_code 0 = .ok (.aload_n 0, 1) := by decide +kernel
theorem d_r_amissIn_1 : decode prog_13_method_48_code 1 = .ok (.iload_n 1, 1) := by decide +kernel
theorem d_r_amissIn_12 : decode prog_13_method_48_code 12 = .ok (.iload_n 2, 1) := by decide +kernel
theorem d_r_amissIn_13 : decode prog_13_method_48_code 13 = .ok (.iaload, 1) := by decide +kernel
theorem d_r_amissIn_14 : decode prog_13_method_48_code 14 = .ok (.aload_n 0, 1) := by decide +kernel
theorem d_r_amissIn_15 : decode prog_13_method_48_code 15 = .ok (.getfield 43, 3) := by decide +kernel
theorem d_r_amissIn_18 : decode prog_13_method_48_code 18 = .ok (.iload_n 2, 1) := by decide +kernel
theorem d_r_amissIn_19 : decode prog_13_method_48_code 19 = .ok (.iaload, 1) := by decide +kernel
theorem d_r_amissIn_2 : decode prog_13_method_48_code 2 = .ok (.aload_n 0, 1) := by decide +kernel
theorem d_r_amissIn_20 : decode prog_13_method_48_code 20 = .ok (.invokevirtual 275, 3) := by decide +kernel
theorem d_r_amissIn_23 : decode prog_13_method_48_code 23 = .ok (.aload_n 0, 1) := by decide +kernel
theorem d_r_amissIn_24 : decode prog_13_method_48_code 24 = .ok (.getfield 49, 3) := by decide +kernel
theorem d_r_amissIn_27 : decode prog_13_method_48_code 27 = .ok (.iload_n 2, 1) := by decide +kernel
theorem d_r_amissIn_28 : decode prog_13_method_48_code 28 = .ok (.iaload, 1) := by decide +kernel
theorem d_r_amissIn_29 : decode prog_13_method_48_code 29 = .ok (.ixor, 1) := by decide +kernel
theorem d_r_amissIn_3 : decode prog_13_method_48_code 3 = .ok (.getfield 37, 3) := by decide +kernel
theorem d_r_amissIn_30 : decode prog_13_method_48_code 30 = .ok (.aload_n 0, 1) := by decide +kernel
theorem d_r_amissIn_31 : decode prog_13_method_48_code 31 = .ok (.aload_n 0, 1) := by decide +kernel
theorem d_r_amissIn_32 : decode prog_13_method_48_code 32 = .ok (.getfield 46, 3) := by decide +kernel
theorem d_r_amissIn_35 : decode prog_13_method_48_code 35 = .ok (.iload_n 2, 1) := by decide +kernel
theorem d_r_amissIn_36 : decode prog_13_method_48_code 36 = .ok (.iaload, 1) := by decide +kernel
theorem d_r_amissIn_37 : decode prog_13_method_48_code 37 = .ok (.invokevirtual 295, 3) := by decide +kernel
theorem d_r_amissIn_40 : decode prog_13_method_48_code 40 = .ok (.iand, 1) := by decide +kernel
theorem d_r_amissIn_41 : decode prog_13_method_48_code 41 = .ok (.ireturn, 1) := by decide +kernel
theorem d_r_amissIn_6 : decode prog_13_method_48_code 6 = .ok (.iload_n 2, 1) := by decide +kernel
theorem d_r_amissIn_7 : decode prog_13_method_48_code 7 = .ok (.iaload, 1) := by decide +kernel
theorem d_r_amissIn_8 : decode prog_13_method_48_code 8 = .ok (.aload_n 0, 1) := by decide +kernel
theorem d_r_amissIn_9 : decode prog_13_method_48_code 9 = .ok (.getfield 40, 3) := by decide +kernel
theorem d_r_amiss_0 : decode prog_13_method_49_code 0 = .ok (.aload_n 0, 1) := by decide +kernel
theorem d_r_amiss_1 : decode prog_13_method_49_code 1 = .ok (.iload_n 1, 1) := by decide +kernel
theorem d_r_amiss_10 : decode prog_13_method_49_code 10 = .ok (.goto 28, 3) := by decide +kernel
theorem d_r_amiss_13 : decode prog_13_method_49_code 13 = .ok (.iload_n 2, 1) := by decide +kernel
theorem d_r_amiss_14 : decode prog_13_method_49_code 14 = .ok (.iconst 0, 1) := by decide +kernel
theorem d_r_amiss_15 : decode prog_13_method_49_code 15 = .ok (.aload_n 0, 1) := by decide +kernel
theorem d_r_amiss_16 : decode prog_13_method_49_code 16 = .ok (.getfield 183, 3) := by decide +kernel
theorem d_r_amiss_19 : decode prog_13_method_49_code 19 = .ok (.iconst 1, 1) := by decide +kernel
theorem d_r_amiss_2 : decode prog_13_method_49_code 2 = .ok (.invokevirtual 266, 3) := by decide +kernel
theorem d_r_amiss_20 : decode prog_13_method_49_code 20 = .ok (.isub, 1) := by decide +kernel
theorem d_r_amiss_21 : decode prog_13_method_49_code 21 = .ok (.invokestatic 153, 3) := by decide +kernel
theorem d_r_amiss_24 : decode prog_13_method_49_code 24 = .ok (.ifCond .eq 12, 3) := by decide +kernel
theorem d_r_amiss_27 : decode prog_13_method_49_code 27 = .ok (.aload_n 0, 1) := by decide +kernel
theorem d_r_amiss_28 : decode prog_13_method_49_code 28 = .ok (.iload_n 1, 1) := by decide +kernel
theorem d_r_amiss_29 : decode prog_13_method_49_code 29 = .ok (.iload_n 2, 1) := by decide +kernel
theorem d_r_amiss_30 : decode prog_13_method_49_code 30 = .ok (.invokevirtual 302, 3) := by decide +kernel
theorem d_r_amiss_33 : decode prog_13_method_49_code 33 = .ok (.goto 5, 3) := by decide +kernel
theorem d_r_amiss_36 : decode prog_13_method_49_code 36 = .ok (.bipush (-7), 2) := by decide +kernel
theorem d_r_amiss_38 : decode prog_13_method_49_code 38 = .ok (.ireturn, 1) := by decide +kernel
theorem d_r_amiss_5 : decode prog_13_method_49_code 5 = .ok (.ifCond .ne 8, 3) := by decide +kernel
theorem d_r_amiss_8 : decode prog_13_method_49_code 8 = .ok (.bipush (-5), 2) := by decide +kernel
theorem d_r_areFuses_0 : decode prog_13_method_7_code 0 = .ok (.iload_n 1, 1) := by decide +kernel
theorem d_r_areFuses_1 : decode prog_13_method_7_code 1 = .ok (.iconst 0, 1) := by decide +kernel
theorem d_r_areFuses_10 : decode prog_13_method_7_code 10 = .ok (.invokestatic 153, 3) := by decide +kernel
theorem d_r_areFuses_13 : decode prog_13_method_7_code 13 = .ok (.ireturn, 1) := by decide +kernel
theorem d_r_areFuses_2 : decode prog_13_method_7_code 2 = .ok (.iconst 1, 1) := by decide +kernel
theorem d_r_areFuses_3 : decode prog_13_method_7_code 3 = .ok (.aload_n 0, 1) := by decide +kernel
theorem d_r_areFuses_4 : decode prog_13_method_7_code 4 = .ok (.getfield 160, 3) := by decide +kernel
theorem d_r_areFuses_7 : decode prog_13_method_7_code 7 = .ok (.ishl, 1) := by decide +kernel
theorem d_r_areFuses_8 : decode prog_13_method_7_code 8 = .ok (.iconst 1, 1) := by decide +kernel
theorem d_r_areFuses_9 : decode prog_13_method_7_code 9 = .ok (.isub, 1) := by decide +kernel
theorem d_r_areRooms_0 : decode prog_13_method_8_code 0 = .ok (.iload_n 0, 1) := by decide +kernel
theorem d_r_areRooms_1 : decode prog_13_method_8_code 1 = .ok (.iconst 0, 1) := by decide +kernel
theorem d_r_areRooms_2 : decode prog_13_method_8_code 2 = .ok (.bipush 63, 2) := by decide +kernel
theorem d_r_areRooms_4 : decode prog_13_method_8_code 4 = .ok (.invokestatic 153, 3) := by decide +kernel
theorem d_r_areRooms_7 : decode prog_13_method_8_code 7 = .ok (.ireturn, 1) := by decide +kernel
theorem d_r_areThere_0 : decode prog_13_method_45_code 0 = .ok (.iload_n 1, 1) := by decide +kernel
theorem d_r_areThere_1 : decode prog_13_method_45_code 1 = .ok (.invokestatic 292, 3) := by decide +kernel
theorem d_r_areThere_12 : decode prog_13_method_45_code 12 = .ok (.invokestatic 153, 3) := by decide +kernel
theorem d_r_areThere_15 : decode prog_13_method_45_code 15 = .ok (.ifCond .eq 19, 3) := by decide +kernel
theorem d_r_areThere_18 : decode prog_13_method_45_code 18 = .ok (.iload_n 2, 1) := by decide +kernel
theorem d_r_areThere_19 : decode prog_13_method_45_code 19 = .ok (.aload_n 0, 1) := by decide +kernel
theorem d_r_areThere_20 : decode prog_13_method_45_code 20 = .ok (.iload_n 1, 1) := by decide +kernel
theorem d_r_areThere_21 : decode prog_13_method_45_code 21 = .ok (.invokevirtual 295, 3) := by decide +kernel
theorem d_r_areThere_24 : decode prog_13_method_45_code 24 = .ok (.iconst (-1), 1) := by decide +kernel
theorem d_r_areThere_25 : decode prog_13_method_45_code 25 = .ok (.ixor, 1) := by decide +kernel
theorem d_r_areThere_26 : decode prog_13_method_45_code 26 = .ok (.iand, 1) := by decide +kernel
theorem d_r_areThere_27 : decode prog_13_method_45_code 27 = .ok (.ifCond .ne 7, 3) := by decide +kernel
theorem d_r_areThere_30 : decode prog_13_method_45_code 30 = .ok (.iconst 1, 1) := by decide +kernel
theorem d_r_areThere_31 : decode prog_13_method_45_code 31 = .ok (.goto 4, 3) := by decide +kernel
theorem d_r_areThere_34 : decode prog_13_method_45_code 34 = .ok (.iconst 0, 1) := by decide +kernel
theorem d_r_areThere_35 : decode prog_13_method_45_code 35 = .ok (.ireturn, 1) := by decide +kernel
theorem d_r_areThere_4 : decode prog_13_method_45_code 4 = .ok (.ifCond .eq 30, 3) := by decide +kernel
theorem d_r_areThere_7 : decode prog_13_method_45_code 7 = .ok (.iload_n 2, 1) := by decide +kernel
theorem d_r_areThere_8 : decode prog_13_method_45_code 8 = .ok (.iconst 0, 1) := by decide +kernel
theorem d_r_areThere_9 : decode prog_13_method_45_code 9 = .ok (.sipush 1023, 3) := by decide +kernel
theorem d_r_ask_0 : decode prog_13_method_46_code 0 = .ok (.aload_n 0, 1) := by decide +kernel
theorem d_r_ask_1 : decode prog_13_method_46_code 1 = .ok (.iload_n 1, 1) := by decide +kernel
theorem d_r_ask_11 : decode prog_13_method_46_code 11 = .ok (.ireturn, 1) := by decide +kernel
theorem d_r_ask_12 : decode prog_13_method_46_code 12 = .ok (.aload_n 0, 1) := by decide +kernel
theorem d_r_ask_13 : decode prog_13_method_46_code 13 = .ok (.getfield 183, 3) := by decide +kernel
theorem d_r_ask_16 : decode prog_13_method_46_code 16 = .ok (.bipush 10, 2) := by decide +kernel
theorem d_r_ask_18 : decode prog_13_method_46_code 18 = .ok (.if_icmp .ne 6, 3) := by decide +kernel
theorem d_r_ask_2 : decode prog_13_method_46_code 2 = .ok (.iload_n 2, 1) := by decide +kernel
theorem d_r_ask_21 : decode prog_13_method_46_code 21 = .ok (.bipush (-4), 2) := by decide +kernel
theorem d_r_ask_23 : decode prog_13_method_46_code 23 = .ok (.ireturn, 1) := by decide +kernel
theorem d_r_ask_24 : decode prog_13_method_46_code 24 = .ok (.aload_n 0, 1) := by decide +kernel
theorem d_r_ask_25 : decode prog_13_method_46_code 25 = .ok (.getfield 37, 3) := by decide +kernel
theorem d_r_ask_28 : decode prog_13_method_46_code 28 = .ok (.aload_n 0, 1) := by decide +kernel
theorem d_r_ask_29 : decode prog_13_method_46_code 29 = .ok (.getfield 183, 3) := by decide +kernel
theorem d_r_ask_3 : decode prog_13_method_46_code 3 = .ok (.invokevirtual 298, 3) := by decide +kernel
theorem d_r_ask_32 : decode prog_13_method_46_code 32 = .ok (.aload_n 0, 1) := by decide +kernel
theorem d_r_ask_33 : decode prog_13_method_46_code 33 = .ok (.getfield 171, 3) := by decide +kernel
theorem d_r_ask_36 : decode prog_13_method_46_code 36 = .ok (.iastore, 1) := by decide +kernel
theorem d_r_ask_37 : decode prog_13_method_46_code 37 = .ok (.aload_n 0, 1) := by decide +kernel
theorem d_r_ask_38 : decode prog_13_method_46_code 38 = .ok (.getfield 40, 3) := by decide +kernel
theorem d_r_ask_41 : decode prog_13_method_46_code 41 = .ok (.aload_n 0, 1) := by decide +kernel
theorem d_r_ask_42 : decode prog_13_method_46_code 42 = .ok (.getfield 183, 3) := by decide +kernel
theorem d_r_ask_45 : decode prog_13_method_46_code 45 = .ok (.aload_n 0, 1) := by decide +kernel
theorem d_r_ask_46 : decode prog_13_method_46_code 46 = .ok (.getfield 174, 3) := by decide +kernel
theorem d_r_ask_49 : decode prog_13_method_46_code 49 = .ok (.iastore, 1) := by decide +kernel
theorem d_r_ask_50 : decode prog_13_method_46_code 50 = .ok (.aload_n 0, 1) := by decide +kernel
theorem d_r_ask_51 : decode prog_13_method_46_code 51 = .ok (.getfield 43, 3) := by decide +kernel
theorem d_r_ask_54 : decode prog_13_method_46_code 54 = .ok (.aload_n 0, 1) := by decide +kernel
theorem d_r_ask_55 : decode prog_13_method_46_code 55 = .ok (.getfield 183, 3) := by decide +kernel
theorem d_r_ask_58 : decode prog_13_method_46_code 58 = .ok (.aload_n 0, 1) := by decide +kernel
theorem d_r_ask_59 : decode prog_13_method_46_code 59 = .ok (.getfield 177, 3) := by decide +kernel
theorem d_r_ask_6 : decode prog_13_method_46_code 6 = .ok (.ifCond .ne 6, 3) := by decide +kernel
theorem d_r_ask_62 : decode prog_13_method_46_code 62 = .ok (.iastore, 1) := by decide +kernel
theorem d_r_ask_63 : decode prog_13_method_46_code 63 = .ok (.aload_n 0, 1) := by decide +kernel
theorem d_r_ask_64 : decode prog_13_method_46_code 64 = .ok (.getfield 46, 3) := by decide +kernel
theorem d_r_ask_67 : decode prog_13_method_46_code 67 = .ok (.aload_n 0, 1) := by decide +kernel
theorem d_r_ask_68 : decode prog_13_method_46_code 68 = .ok (.getfield 183, 3) := by decide +kernel
theorem d_r_ask_71 : decode prog_13_method_46_code 71 = .ok (.iload_n 1, 1) := by decide +kernel
theorem d_r_ask_72 : decode prog_13_method_46_code 72 = .ok (.iastore, 1) := by decide +kernel
theorem d_r_ask_73 : decode prog_13_method_46_code 73 = .ok (.aload_n 0, 1) := by decide +kernel
theorem d_r_ask_74 : decode prog_13_method_46_code 74 = .ok (.getfield 49, 3) := by decide +kernel
theorem d_r_ask_77 : decode prog_13_method_46_code 77 = .ok (.aload_n 0, 1) := by decide +kernel
theorem d_r_ask_78 : decode prog_13_method_46_code 78 = .ok (.getfield 183, 3) := by decide +kernel
theorem d_r_ask_81 : decode prog_13_method_46_code 81 = .ok (.iload_n 2, 1) := by decide +kernel
theorem d_r_ask_82 : decode prog_13_method_46_code 82 = .ok (.iastore, 1) := by decide +kernel
theorem d_r_ask_83 : decode prog_13_method_46_code 83 = .ok (.aload_n 0, 1) := by decide +kernel
theorem d_r_ask_84 : decode prog_13_method_46_code 84 = .ok (.dup, 1) := by decide +kernel
theorem d_r_ask_85 : decode prog_13_method_46_code 85 = .ok (.getfield 183, 3) := by decide +kernel
theorem d_r_ask_88 : decode prog_13_method_46_code 88 = .ok (.iconst 1, 1) := by decide +kernel
theorem d_r_ask_89 : decode prog_13_method_46_code 89 = .ok (.iadd, 1) := by decide +kernel
theorem d_r_ask_9 : decode prog_13_method_46_code 9 = .ok (.bipush (-2), 2) := by decide +kernel
theorem d_r_ask_90 : decode prog_13_method_46_code 90 = .ok (.putfield 183, 3) := by decide +kernel
theorem d_r_ask_93 : decode prog_13_method_46_code 93 = .ok (.aload_n 0, 1) := by decide +kernel
theorem d_r_ask_94 : decode prog_13_method_46_code 94 = .ok (.getfield 183, 3) := by decide +kernel
theorem d_r_ask_97 : decode prog_13_method_46_code 97 = .ok (.iconst 1, 1) := by decide +kernel
theorem d_r_ask_98 : decode prog_13_method_46_code 98 = .ok (.isub, 1) := by decide +kernel
theorem d_r_ask_99 : decode prog_13_method_46_code 99 = .ok (.ireturn, 1) := by decide +kernel
theorem d_r_back_0 : decode prog_13_method_97_code 0 = .ok (.aload_n 0, 1) := by decide +kernel
theorem d_r_back_1 : decode prog_13_method_97_code 1 = .ok (.getfield 370, 3) := by decide +kernel
theorem d_r_back_10 : decode prog_13_method_97_code 10 = .ok (.aload_n 0, 1) := by decide +kernel
theorem d_r_back_100 : decode prog_13_method_97_code 100 = .ok (.iaload, 1) := by decide +kernel
theorem d_r_back_101 : decode prog_13_method_97_code 101 = .ok (.iastore, 1) := by decide +kernel
theorem d_r_back_102 : decode prog_13_method_97_code 102 = .ok (.aload_n 0, 1) := by decide +kernel
theorem d_r_back_103 : decode prog_13_method_97_code 103 = .ok (.getfield 46, 3) := by decide +kernel
theorem d_r_back_106 : decode prog_13_method_97_code 106 = .ok (.iload_n 1, 1) := by decide +kernel
theorem d_r_back_107 : decode prog_13_method_97_code 107 = .ok (.aload_n 0, 1) := by decide +kernel
theorem d_r_back_108 : decode prog_13_method_97_code 108 = .ok (.getfield 80, 3) := by decide +kernel
theorem d_r_back_11 : decode prog_13_method_97_code 11 = .ok (.aload_n 0, 1) := by decide +kernel
theorem d_r_back_111 : decode prog_13_method_97_code 111 = .ok (.iload_n 1, 1) := by decide +kernel
theorem d_r_back_112 : decode prog_13_method_97_code 112 = .ok (.iaload, 1) := by decide +kernel
theorem d_r_back_113 : decode prog_13_method_97_code 113 = .ok (.iastore, 1) := by decide +kernel
theorem d_r_back_114 : decode prog_13_method_97_code 114 = .ok (.aload_n 0, 1) := by decide +kernel
theorem d_r_back_115 : decode prog_13_method_97_code 115 = .ok (.getfield 49, 3) := by decide +kernel
theorem d_r_back_118 : decode prog_13_method_97_code 118 = .ok (.iload_n 1, 1) := by decide +kernel
theorem d_r_back_119 : decode prog_13_method_97_code 119 = .ok (.aload_n 0, 1) := by decide +kernel
theorem d_r_back_12 : decode prog_13_method_97_code 12 = .ok (.getfield 374, 3) := by decide +kernel
theorem d_r_back_120 : decode prog_13_method_97_code 120 = .ok (.getfield 83, 3) := by decide +kernel
theorem d_r_back_123 : decode prog_13_method_97_code 123 = .ok (.iload_n 1, 1) := by decide +kernel
theorem d_r_back_124 : decode prog_13_method_97_code 124 = .ok (.iaload, 1) := by decide +kernel
theorem d_r_back_125 : decode prog_13_method_97_code 125 = .ok (.iastore, 1) := by decide +kernel
theorem d_r_back_126 : decode prog_13_method_97_code 126 = .ok (.iinc 1 1, 3) := by decide +kernel
theorem d_r_back_129 : decode prog_13_method_97_code 129 = .ok (.goto (-69), 3) := by decide +kernel
theorem d_r_back_132 : decode prog_13_method_97_code 132 = .ok (.aload_n 0, 1) := by decide +kernel
theorem d_r_back_133 : decode prog_13_method_97_code 133 = .ok (.getfield 183, 3) := by decide +kernel
theorem d_r_back_136 : decode prog_13_method_97_code 136 = .ok (.ireturn, 1) := by decide +kernel
theorem d_r_back_15 : decode prog_13_method_97_code 15 = .ok (.putfield 171, 3) := by decide +kernel
theorem d_r_back_18 : decode prog_13_method_97_code 18 = .ok (.aload_n 0, 1) := by decide +kernel
theorem d_r_back_19 : decode prog_13_method_97_code 19 = .ok (.aload_n 0, 1) := by decide +kernel
theorem d_r_back_20 : decode prog_13_method_97_code 20 = .ok (.getfield 377, 3) := by decide +kernel
theorem d_r_back_23 : decode prog_13_method_97_code 23 = .ok (.putfield 174, 3) := by decide +kernel
theorem d_r_back_26 : decode prog_13_method_97_code 26 = .ok (.aload_n 0, 1) := by decide +kernel
theorem d_r_back_27 : decode prog_13_method_97_code 27 = .ok (.aload_n 0, 1) := by decide +kernel
theorem d_r_back_28 : decode prog_13_method_97_code 28 = .ok (.getfield 380, 3) := by decide +kernel
theorem d_r_back_31 : decode prog_13_method_97_code 31 = .ok (.putfield 177, 3) := by decide +kernel
theorem d_r_back_34 : decode prog_13_method_97_code 34 = .ok (.aload_n 0, 1) := by decide +kernel
theorem d_r_back_35 : decode prog_13_method_97_code 35 = .ok (.aload_n 0, 1) := by decide +kernel
theorem d_r_back_36 : decode prog_13_method_97_code 36 = .ok (.getfield 383, 3) := by decide +kernel
theorem d_r_back_39 : decode prog_13_method_97_code 39 = .ok (.putfield 180, 3) := by decide +kernel
theorem d_r_back_4 : decode prog_13_method_97_code 4 = .ok (.ifCond .ne 6, 3) := by decide +kernel
theorem d_r_back_42 : decode prog_13_method_97_code 42 = .ok (.aload_n 0, 1) := by decide +kernel
theorem d_r_back_43 : decode prog_13_method_97_code 43 = .ok (.aload_n 0, 1) := by decide +kernel
theorem d_r_back_44 : decode prog_13_method_97_code 44 = .ok (.getfield 386, 3) := by decide +kernel
theorem d_r_back_47 : decode prog_13_method_97_code 47 = .ok (.putfield 183, 3) := by decide +kernel
theorem d_r_back_50 : decode prog_13_method_97_code 50 = .ok (.aload_n 0, 1) := by decide +kernel
theorem d_r_back_51 : decode prog_13_method_97_code 51 = .ok (.aload_n 0, 1) := by decide +kernel
theorem d_r_back_52 : decode prog_13_method_97_code 52 = .ok (.getfield 389, 3) := by decide +kernel
theorem d_r_back_55 : decode prog_13_method_97_code 55 = .ok (.putfield 189, 3) := by decide +kernel
theorem d_r_back_58 : decode prog_13_method_97_code 58 = .ok (.iconst 0, 1) := by decide +kernel
theorem d_r_back_59 : decode prog_13_method_97_code 59 = .ok (.istore_n 1, 1) := by decide +kernel
theorem d_r_back_60 : decode prog_13_method_97_code 60 = .ok (.iload_n 1, 1) := by decide +kernel
theorem d_r_back_61 : decode prog_13_method_97_code 61 = .ok (.bipush 10, 2) := by decide +kernel
theorem d_r_back_63 : decode prog_13_method_97_code 63 = .ok (.if_icmp .ge 69, 3) := by decide +kernel
theorem d_r_back_66 : decode prog_13_method_97_code 66 = .ok (.aload_n 0, 1) := by decide +kernel
theorem d_r_back_67 : decode prog_13_method_97_code 67 = .ok (.getfield 37, 3) := by decide +kernel
theorem d_r_back_7 : decode prog_13_method_97_code 7 = .ok (.bipush (-3), 2) := by decide +kernel
theorem d_r_back_70 : decode prog_13_method_97_code 70 = .ok (.iload_n 1, 1) := by decide +kernel
theorem d_r_back_71 : decode prog_13_method_97_code 71 = .ok (.aload_n 0, 1) := by decide +kernel
theorem d_r_back_72 : decode prog_13_method_97_code 72 = .ok (.getfield 71, 3) := by decide +kernel
theorem d_r_back_75 : decode prog_13_method_97_code 75 = .ok (.iload_n 1, 1) := by decide +kernel
theorem d_r_back_76 : decode prog_13_method_97_code 76 = .ok (.iaload, 1) := by decide +kernel
theorem d_r_back_77 : decode prog_13_method_97_code 77 = .ok (.iastore, 1) := by decide +kernel
theorem d_r_back_78 : decode prog_13_method_97_code 78 = .ok (.aload_n 0, 1) := by decide +kernel
theorem d_r_back_79 : decode prog_13_method_97_code 79 = .ok (.getfield 40, 3) := by decide +kernel
theorem d_r_back_82 : decode prog_13_method_97_code 82 = .ok (.iload_n 1, 1) := by decide +kernel
theorem d_r_back_83 : decode prog_13_method_97_code 83 = .ok (.aload_n 0, 1) := by decide +kernel
theorem d_r_back_84 : decode prog_13_method_97_code 84 = .ok (.getfield 74, 3) := by decide +kernel
theorem d_r_back_87 : decode prog_13_method_97_code 87 = .ok (.iload_n 1, 1) := by decide +kernel
theorem d_r_back_88 : decode prog_13_method_97_code 88 = .ok (.iaload, 1) := by decide +kernel
theorem d_r_back_89 : decode prog_13_method_97_code 89 = .ok (.iastore, 1) := by decide +kernel
theorem d_r_back_9 : decode prog_13_method_97_code 9 = .ok (.ireturn, 1) := by decide +kernel
theorem d_r_back_90 : decode prog_13_method_97_code 90 = .ok (.aload_n 0, 1) := by decide +kernel
theorem d_r_back_91 : decode prog_13_method_97_code 91 = .ok (.getfield 43, 3) := by decide +kernel
theorem d_r_back_94 : decode prog_13_method_97_code 94 = .ok (.iload_n 1, 1) := by decide +kernel
theorem d_r_back_95 : decode prog_13_method_97_code 95 = .ok (.aload_n 0, 1) := by decide +kernel
theorem d_r_back_96 : decode prog_13_method_97_code 96 = .ok (.getfield 77, 3) := by decide +kernel
theorem d_r_back_99 : decode prog_13_method_97_code 99 = .ok (.iload_n 1, 1) := by decide +kernel
theorem d_r_between_0 : decode prog_13_method_23_code 0 = .ok (.aload_n 0, 1) := by decide +kernel
theorem d_r_between_1 : decode prog_13_method_23_code 1 = .ok (.iload_n 1, 1) := by decide +kernel
theorem d_r_between_10 : decode prog_13_method_23_code 10 = .ok (.goto 7, 3) := by decide +kernel
theorem d_r_between_13 : decode prog_13_method_23_code 13 = .ok (.iload_n 1, 1) := by decide +kernel
theorem d_r_between_14 : decode prog_13_method_23_code 14 = .ok (.invokestatic 222, 3) := by decide +kernel
theorem d_r_between_17 : decode prog_13_method_23_code 17 = .ok (.invokevirtual 235, 3) := by decide +kernel
theorem d_r_between_2 : decode prog_13_method_23_code 2 = .ok (.invokestatic 222, 3) := by decide +kernel
theorem d_r_between_20 : decode prog_13_method_23_code 20 = .ok (.iload_n 1, 1) := by decide +kernel
theorem d_r_between_21 : decode prog_13_method_23_code 21 = .ok (.invokestatic 222, 3) := by decide +kernel
theorem d_r_between_24 : decode prog_13_method_23_code 24 = .ok (.iconst 4, 1) := by decide +kernel
theorem d_r_between_25 : decode prog_13_method_23_code 25 = .ok (.if_icmp .ne 30, 3) := by decide +kernel
theorem d_r_between_28 : decode prog_13_method_23_code 28 = .ok (.aload_n 0, 1) := by decide +kernel
theorem d_r_between_29 : decode prog_13_method_23_code 29 = .ok (.getfield 219, 3) := by decide +kernel
theorem d_r_between_32 : decode prog_13_method_23_code 32 = .ok (.ifCond .le 23, 3) := by decide +kernel
theorem d_r_between_35 : decode prog_13_method_23_code 35 = .ok (.aload_n 0, 1) := by decide +kernel
theorem d_r_between_36 : decode prog_13_method_23_code 36 = .ok (.getfield 123, 3) := by decide +kernel
theorem d_r_between_39 : decode prog_13_method_23_code 39 = .ok (.aload_n 0, 1) := by decide +kernel
theorem d_r_between_40 : decode prog_13_method_23_code 40 = .ok (.getfield 219, 3) := by decide +kernel
theorem d_r_between_43 : decode prog_13_method_23_code 43 = .ok (.iconst 1, 1) := by decide +kernel
theorem d_r_between_44 : decode prog_13_method_23_code 44 = .ok (.isub, 1) := by decide +kernel
theorem d_r_between_45 : decode prog_13_method_23_code 45 = .ok (.iaload, 1) := by decide +kernel
theorem d_r_between_46 : decode prog_13_method_23_code 46 = .ok (.invokestatic 222, 3) := by decide +kernel
theorem d_r_between_49 : decode prog_13_method_23_code 49 = .ok (.iconst 4, 1) := by decide +kernel
theorem d_r_between_5 : decode prog_13_method_23_code 5 = .ok (.iconst 4, 1) := by decide +kernel
theorem d_r_between_50 : decode prog_13_method_23_code 50 = .ok (.if_icmp .ne 5, 3) := by decide +kernel
theorem d_r_between_53 : decode prog_13_method_23_code 53 = .ok (.iconst 0, 1) := by decide +kernel
theorem d_r_between_54 : decode prog_13_method_23_code 54 = .ok (.ireturn, 1) := by decide +kernel
theorem d_r_between_55 : decode prog_13_method_23_code 55 = .ok (.aload_n 0, 1) := by decide +kernel
theorem d_r_between_56 : decode prog_13_method_23_code 56 = .ok (.iload_n 1, 1) := by decide +kernel
theorem d_r_between_57 : decode prog_13_method_23_code 57 = .ok (.invokevirtual 232, 3) := by decide +kernel
theorem d_r_between_6 : decode prog_13_method_23_code 6 = .ok (.if_icmp .ne 7, 3) := by decide +kernel
theorem d_r_between_60 : decode prog_13_method_23_code 60 = .ok (.iconst 1, 1) := by decide +kernel
theorem d_r_between_61 : decode prog_13_method_23_code 61 = .ok (.ireturn, 1) := by decide +kernel
theorem d_r_between_9 : decode prog_13_method_23_code 9 = .ok (.iconst 5, 1) := by decide +kernel
theorem d_r_bound_0 : decode prog_13_method_64_code 0 = .ok (.aload_n 0, 1) := by decide +kernel
theorem d_r_bound_1 : decode prog_13_method_64_code 1 = .ok (.iconst 0, 1) := by decide +kernel
theorem d_r_bound_10 : decode prog_13_method_64_code 10 = .ok (.istore_n 2, 1) := by decide +kernel
theorem d_r_bound_11 : decode prog_13_method_64_code 11 = .ok (.iconst 1, 1) := by decide +kernel
theorem d_r_bound_12 : decode prog_13_method_64_code 12 = .ok (.iload_n 2, 1) := by decide +kernel
theorem d_r_bound_13 : decode prog_13_method_64_code 13 = .ok (.ishl, 1) := by decide +kernel
theorem d_r_bound_14 : decode prog_13_method_64_code 14 = .ok (.iload_n 1, 1) := by decide +kernel
theorem d_r_bound_15 : decode prog_13_method_64_code 15 = .ok (.if_icmp .ge 9, 3) := by decide +kernel
theorem d_r_bound_18 : decode prog_13_method_64_code 18 = .ok (.iinc 2 1, 3) := by decide +kernel
theorem d_r_bound_2 : decode prog_13_method_64_code 2 = .ok (.invokevirtual 311, 3) := by decide +kernel
theorem d_r_bound_21 : decode prog_13_method_64_code 21 = .ok (.goto (-10), 3) := by decide +kernel
theorem d_r_bound_24 : decode prog_13_method_64_code 24 = .ok (.iload_n 2, 1) := by decide +kernel
theorem d_r_bound_25 : decode prog_13_method_64_code 25 = .ok (.ireturn, 1) := by decide +kernel
theorem d_r_bound_5 : decode prog_13_method_64_code 5 = .ok (.invokestatic 305, 3) := by decide +kernel
theorem d_r_bound_8 : decode prog_13_method_64_code 8 = .ok (.istore_n 1, 1) := by decide +kernel
theorem d_r_bound_9 : decode prog_13_method_64_code 9 = .ok (.iconst 0, 1) := by decide +kernel
theorem d_r_brightIn_0 : decode prog_13_method_40_code 0 = .ok (.aload_n 0, 1) := by decide +kernel
theorem d_r_brightIn_1 : decode prog_13_method_40_code 1 = .ok (.iload_n 1, 1) := by decide +kernel
theorem d_r_brightIn_10 : decode prog_13_method_40_code 10 = .ok (.iand, 1) := by decide +kernel
theorem d_r_brightIn_11 : decode prog_13_method_40_code 11 = .ok (.iconst 1, 1) := by decide +kernel
theorem d_r_brightIn_12 : decode prog_13_method_40_code 12 = .ok (.if_icmp .ne 25, 3) := by decide +kernel
theorem d_r_brightIn_15 : decode prog_13_method_40_code 15 = .ok (.aload_n 0, 1) := by decide +kernel
theorem d_r_brightIn_16 : decode prog_13_method_40_code 16 = .ok (.iconst 0, 1) := by decide +kernel
theorem d_r_brightIn_17 : decode prog_13_method_40_code 17 = .ok (.iload_n 2, 1) := by decide +kernel
theorem d_r_brightIn_18 : decode prog_13_method_40_code 18 = .ok (.aload_n 0, 1) := by decide +kernel
theorem d_r_brightIn_19 : decode prog_13_method_40_code 19 = .ok (.iload_n 2, 1) := by decide +kernel
theorem d_r_brightIn_2 : decode prog_13_method_40_code 2 = .ok (.invokevirtual 279, 3) := by decide +kernel
theorem d_r_brightIn_20 : decode prog_13_method_40_code 20 = .ok (.iload_n 3, 1) := by decide +kernel
theorem d_r_brightIn_21 : decode prog_13_method_40_code 21 = .ok (.invokevirtual 282, 3) := by decide +kernel
theorem d_r_brightIn_24 : decode prog_13_method_40_code 24 = .ok (.invokevirtual 286, 3) := by decide +kernel
theorem d_r_brightIn_27 : decode prog_13_method_40_code 27 = .ok (.aload_n 0, 1) := by decide +kernel
theorem d_r_brightIn_28 : decode prog_13_method_40_code 28 = .ok (.iload_n 2, 1) := by decide +kernel
theorem d_r_brightIn_29 : decode prog_13_method_40_code 29 = .ok (.iload_n 3, 1) := by decide +kernel
theorem d_r_brightIn_30 : decode prog_13_method_40_code 30 = .ok (.invokevirtual 282, 3) := by decide +kernel
theorem d_r_brightIn_33 : decode prog_13_method_40_code 33 = .ok (.idiv, 1) := by decide +kernel
theorem d_r_brightIn_34 : decode prog_13_method_40_code 34 = .ok (.goto 4, 3) := by decide +kernel
theorem d_r_brightIn_37 : decode prog_13_method_40_code 37 = .ok (.iconst 0, 1) := by decide +kernel
theorem d_r_brightIn_38 : decode prog_13_method_40_code 38 = .ok (.ireturn, 1) := by decide +kernel
theorem d_r_brightIn_5 : decode prog_13_method_40_code 5 = .ok (.istore_n 3, 1) := by decide +kernel
theorem d_r_brightIn_6 : decode prog_13_method_40_code 6 = .ok (.iload_n 3, 1) := by decide +kernel
theorem d_r_brightIn_7 : decode prog_13_method_40_code 7 = .ok (.iload_n 2, 1) := by decide +kernel
theorem d_r_brightIn_8 : decode prog_13_method_40_code 8 = .ok (.ishr, 1) := by decide +kernel
theorem d_r_brightIn_9 : decode prog_13_method_40_code 9 = .ok (.iconst 1, 1) := by decide +kernel
theorem d_r_bright_0 : decode prog_13_method_41_code 0 = .ok (.aload_n 0, 1) := by decide +kernel
theorem d_r_bright_1 : decode prog_13_method_41_code 1 = .ok (.iload_n 1, 1) := by decide +kernel
theorem d_r_bright_10 : decode prog_13_method_41_code 10 = .ok (.invokevirtual 195, 3) := by decide +kernel
theorem d_r_bright_13 : decode prog_13_method_41_code 13 = .ok (.ifCond .eq 12, 3) := by decide +kernel
theorem d_r_bright_16 : decode prog_13_method_41_code 16 = .ok (.aload_n 0, 1) := by decide +kernel
theorem d_r_bright_17 : decode prog_13_method_41_code 17 = .ok (.iload_n 1, 1) := by decide +kernel
theorem d_r_bright_18 : decode prog_13_method_41_code 18 = .ok (.iload_n 2, 1) := by decide +kernel
theorem d_r_bright_19 : decode prog_13_method_41_code 19 = .ok (.invokevirtual 289, 3) := by decide +kernel
theorem d_r_bright_2 : decode prog_13_method_41_code 2 = .ok (.invokevirtual 266, 3) := by decide +kernel
theorem d_r_bright_22 : decode prog_13_method_41_code 22 = .ok (.goto 5, 3) := by decide +kernel
theorem d_r_bright_25 : decode prog_13_method_41_code 25 = .ok (.bipush (-5), 2) := by decide +kernel
theorem d_r_bright_27 : decode prog_13_method_41_code 27 = .ok (.ireturn, 1) := by decide +kernel
theorem d_r_bright_5 : decode prog_13_method_41_code 5 = .ok (.ifCond .eq 20, 3) := by decide +kernel
theorem d_r_bright_8 : decode prog_13_method_41_code 8 = .ok (.aload_n 0, 1) := by decide +kernel
theorem d_r_bright_9 : decode prog_13_method_41_code 9 = .ok (.iload_n 2, 1) := by decide +kernel
theorem d_r_broken_0 : decode prog_13_method_86_code 0 = .ok (.aload_n 0, 1) := by decide +kernel
theorem d_r_broken_1 : decode prog_13_method_86_code 1 = .ok (.iload_n 1, 1) := by decide +kernel
theorem d_r_broken_10 : decode prog_13_method_86_code 10 = .ok (.ireturn, 1) := by decide +kernel
theorem d_r_broken_100 : decode prog_13_method_86_code 100 = .ok (.getfield 171, 3) := by decide +kernel
theorem d_r_broken_103 : decode prog_13_method_86_code 103 = .ok (.iconst 1, 1) := by decide +kernel
theorem d_r_broken_104 : decode prog_13_method_86_code 104 = .ok (.iload 6, 2) := by decide +kernel
theorem d_r_broken_106 : decode prog_13_method_86_code 106 = .ok (.ishl, 1) := by decide +kernel
theorem d_r_broken_107 : decode prog_13_method_86_code 107 = .ok (.ior, 1) := by decide +kernel
theorem d_r_broken_108 : decode prog_13_method_86_code 108 = .ok (.aload_n 0, 1) := by decide +kernel
theorem d_r_broken_109 : decode prog_13_method_86_code 109 = .ok (.getfield 174, 3) := by decide +kernel
theorem d_r_broken_11 : decode prog_13_method_86_code 11 = .ok (.aload_n 0, 1) := by decide +kernel
theorem d_r_broken_112 : decode prog_13_method_86_code 112 = .ok (.aload_n 0, 1) := by decide +kernel
theorem d_r_broken_113 : decode prog_13_method_86_code 113 = .ok (.getfield 177, 3) := by decide +kernel
theorem d_r_broken_116 : decode prog_13_method_86_code 116 = .ok (.invokevirtual 275, 3) := by decide +kernel
theorem d_r_broken_119 : decode prog_13_method_86_code 119 = .ok (.iload 4, 2) := by decide +kernel
theorem d_r_broken_12 : decode prog_13_method_86_code 12 = .ok (.iload_n 2, 1) := by decide +kernel
theorem d_r_broken_121 : decode prog_13_method_86_code 121 = .ok (.iand, 1) := by decide +kernel
theorem d_r_broken_122 : decode prog_13_method_86_code 122 = .ok (.iload_n 3, 1) := by decide +kernel
theorem d_r_broken_123 : decode prog_13_method_86_code 123 = .ok (.if_icmp .ne 13, 3) := by decide +kernel
theorem d_r_broken_126 : decode prog_13_method_86_code 126 = .ok (.iconst 1, 1) := by decide +kernel
theorem d_r_broken_127 : decode prog_13_method_86_code 127 = .ok (.bipush 16, 2) := by decide +kernel
theorem d_r_broken_129 : decode prog_13_method_86_code 129 = .ok (.iload 6, 2) := by decide +kernel
theorem d_r_broken_13 : decode prog_13_method_86_code 13 = .ok (.iload_n 3, 1) := by decide +kernel
theorem d_r_broken_131 : decode prog_13_method_86_code 131 = .ok (.iadd, 1) := by decide +kernel
theorem d_r_broken_132 : decode prog_13_method_86_code 132 = .ok (.ishl, 1) := by decide +kernel
theorem d_r_broken_133 : decode prog_13_method_86_code 133 = .ok (.goto 4, 3) := by decide +kernel
theorem d_r_broken_136 : decode prog_13_method_86_code 136 = .ok (.iconst 0, 1) := by decide +kernel
theorem d_r_broken_137 : decode prog_13_method_86_code 137 = .ok (.ior, 1) := by decide +kernel
theorem d_r_broken_138 : decode prog_13_method_86_code 138 = .ok (.istore 5, 2) := by decide +kernel
theorem d_r_broken_14 : decode prog_13_method_86_code 14 = .ok (.invokevirtual 298, 3) := by decide +kernel
theorem d_r_broken_140 : decode prog_13_method_86_code 140 = .ok (.iinc 6 1, 3) := by decide +kernel
theorem d_r_broken_143 : decode prog_13_method_86_code 143 = .ok (.goto (-57), 3) := by decide +kernel
theorem d_r_broken_146 : decode prog_13_method_86_code 146 = .ok (.iload 5, 2) := by decide +kernel
theorem d_r_broken_148 : decode prog_13_method_86_code 148 = .ok (.ireturn, 1) := by decide +kernel
theorem d_r_broken_17 : decode prog_13_method_86_code 17 = .ok (.ifCond .ne 6, 3) := by decide +kernel
theorem d_r_broken_2 : decode prog_13_method_86_code 2 = .ok (.invokevirtual 266, 3) := by decide +kernel
theorem d_r_broken_20 : decode prog_13_method_86_code 20 = .ok (.bipush (-7), 2) := by decide +kernel
theorem d_r_broken_22 : decode prog_13_method_86_code 22 = .ok (.ireturn, 1) := by decide +kernel
theorem d_r_broken_23 : decode prog_13_method_86_code 23 = .ok (.aload_n 0, 1) := by decide +kernel
theorem d_r_broken_24 : decode prog_13_method_86_code 24 = .ok (.iload_n 2, 1) := by decide +kernel
theorem d_r_broken_25 : decode prog_13_method_86_code 25 = .ok (.invokevirtual 295, 3) := by decide +kernel
theorem d_r_broken_28 : decode prog_13_method_86_code 28 = .ok (.istore 4, 2) := by decide +kernel
theorem d_r_broken_30 : decode prog_13_method_86_code 30 = .ok (.iconst 0, 1) := by decide +kernel
theorem d_r_broken_31 : decode prog_13_method_86_code 31 = .ok (.istore 5, 2) := by decide +kernel
theorem d_r_broken_33 : decode prog_13_method_86_code 33 = .ok (.iconst 0, 1) := by decide +kernel
theorem d_r_broken_34 : decode prog_13_method_86_code 34 = .ok (.istore 6, 2) := by decide +kernel
theorem d_r_broken_36 : decode prog_13_method_86_code 36 = .ok (.iload 6, 2) := by decide +kernel
theorem d_r_broken_38 : decode prog_13_method_86_code 38 = .ok (.aload_n 0, 1) := by decide +kernel
theorem d_r_broken_39 : decode prog_13_method_86_code 39 = .ok (.getfield 150, 3) := by decide +kernel
theorem d_r_broken_42 : decode prog_13_method_86_code 42 = .ok (.if_icmp .ge 41, 3) := by decide +kernel
theorem d_r_broken_45 : decode prog_13_method_86_code 45 = .ok (.iload 5, 2) := by decide +kernel
theorem d_r_broken_47 : decode prog_13_method_86_code 47 = .ok (.aload_n 0, 1) := by decide +kernel
theorem d_r_broken_48 : decode prog_13_method_86_code 48 = .ok (.iload_n 1, 1) := by decide +kernel
theorem d_r_broken_49 : decode prog_13_method_86_code 49 = .ok (.invokevirtual 279, 3) := by decide +kernel
theorem d_r_broken_5 : decode prog_13_method_86_code 5 = .ok (.ifCond .ne 6, 3) := by decide +kernel
theorem d_r_broken_52 : decode prog_13_method_86_code 52 = .ok (.iload 4, 2) := by decide +kernel
theorem d_r_broken_54 : decode prog_13_method_86_code 54 = .ok (.iand, 1) := by decide +kernel
theorem d_r_broken_55 : decode prog_13_method_86_code 55 = .ok (.iconst 1, 1) := by decide +kernel
theorem d_r_broken_56 : decode prog_13_method_86_code 56 = .ok (.iload 6, 2) := by decide +kernel
theorem d_r_broken_58 : decode prog_13_method_86_code 58 = .ok (.ishl, 1) := by decide +kernel
theorem d_r_broken_59 : decode prog_13_method_86_code 59 = .ok (.iconst (-1), 1) := by decide +kernel
theorem d_r_broken_60 : decode prog_13_method_86_code 60 = .ok (.ixor, 1) := by decide +kernel
theorem d_r_broken_61 : decode prog_13_method_86_code 61 = .ok (.iand, 1) := by decide +kernel
theorem d_r_broken_62 : decode prog_13_method_86_code 62 = .ok (.iload_n 3, 1) := by decide +kernel
theorem d_r_broken_63 : decode prog_13_method_86_code 63 = .ok (.if_icmp .ne 10, 3) := by decide +kernel
theorem d_r_broken_66 : decode prog_13_method_86_code 66 = .ok (.iconst 1, 1) := by decide +kernel
theorem d_r_broken_67 : decode prog_13_method_86_code 67 = .ok (.iload 6, 2) := by decide +kernel
theorem d_r_broken_69 : decode prog_13_method_86_code 69 = .ok (.ishl, 1) := by decide +kernel
theorem d_r_broken_70 : decode prog_13_method_86_code 70 = .ok (.goto 4, 3) := by decide +kernel
theorem d_r_broken_73 : decode prog_13_method_86_code 73 = .ok (.iconst 0, 1) := by decide +kernel
theorem d_r_broken_74 : decode prog_13_method_86_code 74 = .ok (.ior, 1) := by decide +kernel
theorem d_r_broken_75 : decode prog_13_method_86_code 75 = .ok (.istore 5, 2) := by decide +kernel
theorem d_r_broken_77 : decode prog_13_method_86_code 77 = .ok (.iinc 6 1, 3) := by decide +kernel
theorem d_r_broken_8 : decode prog_13_method_86_code 8 = .ok (.bipush (-5), 2) := by decide +kernel
theorem d_r_broken_80 : decode prog_13_method_86_code 80 = .ok (.goto (-44), 3) := by decide +kernel
theorem d_r_broken_83 : decode prog_13_method_86_code 83 = .ok (.iconst 0, 1) := by decide +kernel
theorem d_r_broken_84 : decode prog_13_method_86_code 84 = .ok (.istore 6, 2) := by decide +kernel
theorem d_r_broken_86 : decode prog_13_method_86_code 86 = .ok (.iload 6, 2) := by decide +kernel
theorem d_r_broken_88 : decode prog_13_method_86_code 88 = .ok (.aload_n 0, 1) := by decide +kernel
theorem d_r_broken_89 : decode prog_13_method_86_code 89 = .ok (.getfield 160, 3) := by decide +kernel
theorem d_r_broken_92 : decode prog_13_method_86_code 92 = .ok (.if_icmp .ge 54, 3) := by decide +kernel
theorem d_r_broken_95 : decode prog_13_method_86_code 95 = .ok (.iload 5, 2) := by decide +kernel
theorem d_r_broken_97 : decode prog_13_method_86_code 97 = .ok (.aload_n 0, 1) := by decide +kernel
theorem d_r_broken_98 : decode prog_13_method_86_code 98 = .ok (.iload_n 1, 1) := by decide +kernel
theorem d_r_broken_99 : decode prog_13_method_86_code 99 = .ok (.aload_n 0, 1) := by decide +kernel
theorem d_r_cell_0 : decode prog_13_method_99_code 0 = .ok (.iload_n 1, 1) := by decide +kernel
theorem d_r_cell_1 : decode prog_13_method_99_code 1 = .ok (.iconst 0, 1) := by decide +kernel
theorem d_r_cell_11 : decode prog_13_method_99_code 11 = .ok (.ireturn, 1) := by decide +kernel
theorem d_r_cell_12 : decode prog_13_method_99_code 12 = .ok (.aload_n 0, 1) := by decide +kernel
theorem d_r_cell_13 : decode prog_13_method_99_code 13 = .ok (.getfield 86, 3) := by decide +kernel
theorem d_r_cell_16 : decode prog_13_method_99_code 16 = .ok (.iload_n 1, 1) := by decide +kernel
theorem d_r_cell_17 : decode prog_13_method_99_code 17 = .ok (.iaload, 1) := by decide +kernel
theorem d_r_cell_18 : decode prog_13_method_99_code 18 = .ok (.iconst (-1), 1) := by decide +kernel
theorem d_r_cell_19 : decode prog_13_method_99_code 19 = .ok (.if_icmp .ne 6, 3) := by decide +kernel
theorem d_r_cell_2 : decode prog_13_method_99_code 2 = .ok (.iconst 3, 1) := by decide +kernel
theorem d_r_cell_22 : decode prog_13_method_99_code 22 = .ok (.bipush (-11), 2) := by decide +kernel
theorem d_r_cell_24 : decode prog_13_method_99_code 24 = .ok (.ireturn, 1) := by decide +kernel
theorem d_r_cell_25 : decode prog_13_method_99_code 25 = .ok (.iload_n 2, 1) := by decide +kernel
theorem d_r_cell_26 : decode prog_13_method_99_code 26 = .ok (.iconst 0, 1) := by decide +kernel
theorem d_r_cell_27 : decode prog_13_method_99_code 27 = .ok (.aload_n 0, 1) := by decide +kernel
theorem d_r_cell_28 : decode prog_13_method_99_code 28 = .ok (.getfield 89, 3) := by decide +kernel
theorem d_r_cell_3 : decode prog_13_method_99_code 3 = .ok (.invokestatic 153, 3) := by decide +kernel
theorem d_r_cell_31 : decode prog_13_method_99_code 31 = .ok (.iload_n 1, 1) := by decide +kernel
theorem d_r_cell_32 : decode prog_13_method_99_code 32 = .ok (.iaload, 1) := by decide +kernel
theorem d_r_cell_33 : decode prog_13_method_99_code 33 = .ok (.iconst 1, 1) := by decide +kernel
theorem d_r_cell_34 : decode prog_13_method_99_code 34 = .ok (.isub, 1) := by decide +kernel
theorem d_r_cell_35 : decode prog_13_method_99_code 35 = .ok (.invokestatic 153, 3) := by decide +kernel
theorem d_r_cell_38 : decode prog_13_method_99_code 38 = .ok (.ifCond .ne 6, 3) := by decide +kernel
theorem d_r_cell_41 : decode prog_13_method_99_code 41 = .ok (.bipush (-12), 2) := by decide +kernel
theorem d_r_cell_43 : decode prog_13_method_99_code 43 = .ok (.ireturn, 1) := by decide +kernel
theorem d_r_cell_44 : decode prog_13_method_99_code 44 = .ok (.aload_n 0, 1) := by decide +kernel
theorem d_r_cell_45 : decode prog_13_method_99_code 45 = .ok (.getfield 92, 3) := by decide +kernel
theorem d_r_cell_48 : decode prog_13_method_99_code 48 = .ok (.bipush 40, 2) := by decide +kernel
theorem d_r_cell_50 : decode prog_13_method_99_code 50 = .ok (.iload_n 1, 1) := by decide +kernel
theorem d_r_cell_51 : decode prog_13_method_99_code 51 = .ok (.imul, 1) := by decide +kernel
theorem d_r_cell_52 : decode prog_13_method_99_code 52 = .ok (.iload_n 2, 1) := by decide +kernel
theorem d_r_cell_53 : decode prog_13_method_99_code 53 = .ok (.iadd, 1) := by decide +kernel
theorem d_r_cell_54 : decode prog_13_method_99_code 54 = .ok (.aload_n 0, 1) := by decide +kernel
theorem d_r_cell_55 : decode prog_13_method_99_code 55 = .ok (.getfield 86, 3) := by decide +kernel
theorem d_r_cell_58 : decode prog_13_method_99_code 58 = .ok (.iload_n 1, 1) := by decide +kernel
theorem d_r_cell_59 : decode prog_13_method_99_code 59 = .ok (.iaload, 1) := by decide +kernel
theorem d_r_cell_6 : decode prog_13_method_99_code 6 = .ok (.ifCond .ne 6, 3) := by decide +kernel
theorem d_r_cell_60 : decode prog_13_method_99_code 60 = .ok (.ifCond .ne 8, 3) := by decide +kernel
theorem d_r_cell_63 : decode prog_13_method_99_code 63 = .ok (.iload_n 3, 1) := by decide +kernel
theorem d_r_cell_64 : decode prog_13_method_99_code 64 = .ok (.i2b, 1) := by decide +kernel
theorem d_r_cell_65 : decode prog_13_method_99_code 65 = .ok (.goto 19, 3) := by decide +kernel
theorem d_r_cell_68 : decode prog_13_method_99_code 68 = .ok (.aload_n 0, 1) := by decide +kernel
theorem d_r_cell_69 : decode prog_13_method_99_code 69 = .ok (.getfield 86, 3) := by decide +kernel
theorem d_r_cell_72 : decode prog_13_method_99_code 72 = .ok (.iload_n 1, 1) := by decide +kernel
theorem d_r_cell_73 : decode prog_13_method_99_code 73 = .ok (.iaload, 1) := by decide +kernel
theorem d_r_cell_74 : decode prog_13_method_99_code 74 = .ok (.iconst 1, 1) := by decide +kernel
theorem d_r_cell_75 : decode prog_13_method_99_code 75 = .ok (.if_icmp .ne 8, 3) := by decide +kernel
theorem d_r_cell_78 : decode prog_13_method_99_code 78 = .ok (.iload_n 3, 1) := by decide +kernel
theorem d_r_cell_79 : decode prog_13_method_99_code 79 = .ok (.i2s, 1) := by decide +kernel
theorem d_r_cell_80 : decode prog_13_method_99_code 80 = .ok (.goto 4, 3) := by decide +kernel
theorem d_r_cell_83 : decode prog_13_method_99_code 83 = .ok (.iload_n 3, 1) := by decide +kernel
theorem d_r_cell_84 : decode prog_13_method_99_code 84 = .ok (.iastore, 1) := by decide +kernel
theorem d_r_cell_85 : decode prog_13_method_99_code 85 = .ok (.iconst 1, 1) := by decide +kernel
theorem d_r_cell_86 : decode prog_13_method_99_code 86 = .ok (.ireturn, 1) := by decide +kernel
theorem d_r_cell_9 : decode prog_13_method_99_code 9 = .ok (.bipush (-2), 2) := by decide +kernel
theorem d_r_copy_0 : decode prog_13_method_100_code 0 = .ok (.iload_n 1, 1) := by decide +kernel
theorem d_r_copy_1 : decode prog_13_method_100_code 1 = .ok (.iconst 0, 1) := by decide +kernel
theorem d_r_copy_10 : decode prog_13_method_100_code 10 = .ok (.iconst 0, 1) := by decide +kernel
theorem d_r_copy_100 : decode prog_13_method_100_code 100 = .ok (.getfield 89, 3) := by decide +kernel
theorem d_r_copy_103 : decode prog_13_method_100_code 103 = .ok (.iload_n 1, 1) := by decide +kernel
theorem d_r_copy_104 : decode prog_13_method_100_code 104 = .ok (.iaload, 1) := by decide +kernel
theorem d_r_copy_105 : decode prog_13_method_100_code 105 = .ok (.iload_n 2, 1) := by decide +kernel
theorem d_r_copy_106 : decode prog_13_method_100_code 106 = .ok (.isub, 1) := by decide +kernel
theorem d_r_copy_107 : decode prog_13_method_100_code 107 = .ok (.if_icmp .gt 17, 3) := by decide +kernel
theorem d_r_copy_11 : decode prog_13_method_100_code 11 = .ok (.iconst 3, 1) := by decide +kernel
theorem d_r_copy_110 : decode prog_13_method_100_code 110 = .ok (.iload 5, 2) := by decide +kernel
theorem d_r_copy_112 : decode prog_13_method_100_code 112 = .ok (.aload_n 0, 1) := by decide +kernel
theorem d_r_copy_113 : decode prog_13_method_100_code 113 = .ok (.getfield 89, 3) := by decide +kernel
theorem d_r_copy_116 : decode prog_13_method_100_code 116 = .ok (.iload_n 3, 1) := by decide +kernel
theorem d_r_copy_117 : decode prog_13_method_100_code 117 = .ok (.iaload, 1) := by decide +kernel
theorem d_r_copy_118 : decode prog_13_method_100_code 118 = .ok (.iload 4, 2) := by decide +kernel
theorem d_r_copy_12 : decode prog_13_method_100_code 12 = .ok (.invokestatic 153, 3) := by decide +kernel
theorem d_r_copy_120 : decode prog_13_method_100_code 120 = .ok (.isub, 1) := by decide +kernel
theorem d_r_copy_121 : decode prog_13_method_100_code 121 = .ok (.if_icmp .le 6, 3) := by decide +kernel
theorem d_r_copy_124 : decode prog_13_method_100_code 124 = .ok (.bipush (-12), 2) := by decide +kernel
theorem d_r_copy_126 : decode prog_13_method_100_code 126 = .ok (.ireturn, 1) := by decide +kernel
theorem d_r_copy_127 : decode prog_13_method_100_code 127 = .ok (.bipush 40, 2) := by decide +kernel
theorem d_r_copy_129 : decode prog_13_method_100_code 129 = .ok (.iload_n 1, 1) := by decide +kernel
theorem d_r_copy_130 : decode prog_13_method_100_code 130 = .ok (.imul, 1) := by decide +kernel
theorem d_r_copy_131 : decode prog_13_method_100_code 131 = .ok (.iload_n 2, 1) := by decide +kernel
theorem d_r_copy_132 : decode prog_13_method_100_code 132 = .ok (.iadd, 1) := by decide +kernel
theorem d_r_copy_133 : decode prog_13_method_100_code 133 = .ok (.istore 6, 2) := by decide +kernel
theorem d_r_copy_135 : decode prog_13_method_100_code 135 = .ok (.bipush 40, 2) := by decide +kernel
theorem d_r_copy_137 : decode prog_13_method_100_code 137 = .ok (.iload_n 3, 1) := by decide +kernel
theorem d_r_copy_138 : decode prog_13_method_100_code 138 = .ok (.imul, 1) := by decide +kernel
theorem d_r_copy_139 : decode prog_13_method_100_code 139 = .ok (.iload 4, 2) := by decide +kernel
theorem d_r_copy_141 : decode prog_13_method_100_code 141 = .ok (.iadd, 1) := by decide +kernel
theorem d_r_copy_142 : decode prog_13_method_100_code 142 = .ok (.istore 7, 2) := by decide +kernel
theorem d_r_copy_144 : decode prog_13_method_100_code 144 = .ok (.iconst 0, 1) := by decide +kernel
theorem d_r_copy_145 : decode prog_13_method_100_code 145 = .ok (.istore 8, 2) := by decide +kernel
theorem d_r_copy_147 : decode prog_13_method_100_code 147 = .ok (.iload 8, 2) := by decide +kernel
theorem d_r_copy_149 : decode prog_13_method_100_code 149 = .ok (.iload 5, 2) := by decide +kernel
theorem d_r_copy_15 : decode prog_13_method_100_code 15 = .ok (.ifCond .ne 6, 3) := by decide +kernel
theorem d_r_copy_151 : decode prog_13_method_100_code 151 = .ok (.if_icmp .ge 50, 3) := by decide +kernel
theorem d_r_copy_154 : decode prog_13_method_100_code 154 = .ok (.iload 6, 2) := by decide +kernel
theorem d_r_copy_156 : decode prog_13_method_100_code 156 = .ok (.iload 7, 2) := by decide +kernel
theorem d_r_copy_158 : decode prog_13_method_100_code 158 = .ok (.if_icmp .ge 13, 3) := by decide +kernel
theorem d_r_copy_161 : decode prog_13_method_100_code 161 = .ok (.iload 5, 2) := by decide +kernel
theorem d_r_copy_163 : decode prog_13_method_100_code 163 = .ok (.iconst 1, 1) := by decide +kernel
theorem d_r_copy_164 : decode prog_13_method_100_code 164 = .ok (.isub, 1) := by decide +kernel
theorem d_r_copy_165 : decode prog_13_method_100_code 165 = .ok (.iload 8, 2) := by decide +kernel
theorem d_r_copy_167 : decode prog_13_method_100_code 167 = .ok (.isub, 1) := by decide +kernel
theorem d_r_copy_168 : decode prog_13_method_100_code 168 = .ok (.goto 5, 3) := by decide +kernel
theorem d_r_copy_171 : decode prog_13_method_100_code 171 = .ok (.iload 8, 2) := by decide +kernel
theorem d_r_copy_173 : decode prog_13_method_100_code 173 = .ok (.istore 9, 2) := by decide +kernel
theorem d_r_copy_175 : decode prog_13_method_100_code 175 = .ok (.aload_n 0, 1) := by decide +kernel
theorem d_r_copy_176 : decode prog_13_method_100_code 176 = .ok (.getfield 92, 3) := by decide +kernel
theorem d_r_copy_179 : decode prog_13_method_100_code 179 = .ok (.iload 7, 2) := by decide +kernel
theorem d_r_copy_18 : decode prog_13_method_100_code 18 = .ok (.bipush (-2), 2) := by decide +kernel
theorem d_r_copy_181 : decode prog_13_method_100_code 181 = .ok (.iload 9, 2) := by decide +kernel
theorem d_r_copy_183 : decode prog_13_method_100_code 183 = .ok (.iadd, 1) := by decide +kernel
theorem d_r_copy_184 : decode prog_13_method_100_code 184 = .ok (.aload_n 0, 1) := by decide +kernel
theorem d_r_copy_185 : decode prog_13_method_100_code 185 = .ok (.getfield 92, 3) := by decide +kernel
theorem d_r_copy_188 : decode prog_13_method_100_code 188 = .ok (.iload 6, 2) := by decide +kernel
theorem d_r_copy_190 : decode prog_13_method_100_code 190 = .ok (.iload 9, 2) := by decide +kernel
theorem d_r_copy_192 : decode prog_13_method_100_code 192 = .ok (.iadd, 1) := by decide +kernel
theorem d_r_copy_193 : decode prog_13_method_100_code 193 = .ok (.iaload, 1) := by decide +kernel
theorem d_r_copy_194 : decode prog_13_method_100_code 194 = .ok (.iastore, 1) := by decide +kernel
theorem d_r_copy_195 : decode prog_13_method_100_code 195 = .ok (.iinc 8 1, 3) := by decide +kernel
theorem d_r_copy_198 : decode prog_13_method_100_code 198 = .ok (.goto (-51), 3) := by decide +kernel
theorem d_r_copy_2 : decode prog_13_method_100_code 2 = .ok (.iconst 3, 1) := by decide +kernel
theorem d_r_copy_20 : decode prog_13_method_100_code 20 = .ok (.ireturn, 1) := by decide +kernel
theorem d_r_copy_201 : decode prog_13_method_100_code 201 = .ok (.iload 5, 2) := by decide +kernel
theorem d_r_copy_203 : decode prog_13_method_100_code 203 = .ok (.ireturn, 1) := by decide +kernel
theorem d_r_copy_21 : decode prog_13_method_100_code 21 = .ok (.aload_n 0, 1) := by decide +kernel
theorem d_r_copy_22 : decode prog_13_method_100_code 22 = .ok (.getfield 86, 3) := by decide +kernel
theorem d_r_copy_25 : decode prog_13_method_100_code 25 = .ok (.iload_n 1, 1) := by decide +kernel
theorem d_r_copy_26 : decode prog_13_method_100_code 26 = .ok (.iaload, 1) := by decide +kernel
theorem d_r_copy_27 : decode prog_13_method_100_code 27 = .ok (.iconst (-1), 1) := by decide +kernel
theorem d_r_copy_28 : decode prog_13_method_100_code 28 = .ok (.if_icmp .eq 13, 3) := by decide +kernel
theorem d_r_copy_3 : decode prog_13_method_100_code 3 = .ok (.invokestatic 153, 3) := by decide +kernel
theorem d_r_copy_31 : decode prog_13_method_100_code 31 = .ok (.aload_n 0, 1) := by decide +kernel
theorem d_r_copy_32 : decode prog_13_method_100_code 32 = .ok (.getfield 86, 3) := by decide +kernel
theorem d_r_copy_35 : decode prog_13_method_100_code 35 = .ok (.iload_n 3, 1) := by decide +kernel
theorem d_r_copy_36 : decode prog_13_method_100_code 36 = .ok (.iaload, 1) := by decide +kernel
theorem d_r_copy_37 : decode prog_13_method_100_code 37 = .ok (.iconst (-1), 1) := by decide +kernel
theorem d_r_copy_38 : decode prog_13_method_100_code 38 = .ok (.if_icmp .ne 6, 3) := by decide +kernel
theorem d_r_copy_41 : decode prog_13_method_100_code 41 = .ok (.bipush (-11), 2) := by decide +kernel
theorem d_r_copy_43 : decode prog_13_method_100_code 43 = .ok (.ireturn, 1) := by decide +kernel
theorem d_r_copy_44 : decode prog_13_method_100_code 44 = .ok (.aload_n 0, 1) := by decide +kernel
theorem d_r_copy_45 : decode prog_13_method_100_code 45 = .ok (.getfield 86, 3) := by decide +kernel
theorem d_r_copy_48 : decode prog_13_method_100_code 48 = .ok (.iload_n 1, 1) := by decide +kernel
theorem d_r_copy_49 : decode prog_13_method_100_code 49 = .ok (.iaload, 1) := by decide +kernel
theorem d_r_copy_50 : decode prog_13_method_100_code 50 = .ok (.aload_n 0, 1) := by decide +kernel
theorem d_r_copy_51 : decode prog_13_method_100_code 51 = .ok (.getfield 86, 3) := by decide +kernel
theorem d_r_copy_54 : decode prog_13_method_100_code 54 = .ok (.iload_n 3, 1) := by decide +kernel
theorem d_r_copy_55 : decode prog_13_method_100_code 55 = .ok (.iaload, 1) := by decide +kernel
theorem d_r_copy_56 : decode prog_13_method_100_code 56 = .ok (.if_icmp .eq 6, 3) := by decide +kernel
theorem d_r_copy_59 : decode prog_13_method_100_code 59 = .ok (.bipush (-13), 2) := by decide +kernel
theorem d_r_copy_6 : decode prog_13_method_100_code 6 = .ok (.ifCond .eq 12, 3) := by decide +kernel
theorem d_r_copy_61 : decode prog_13_method_100_code 61 = .ok (.ireturn, 1) := by decide +kernel
theorem d_r_copy_62 : decode prog_13_method_100_code 62 = .ok (.iload 5, 2) := by decide +kernel
theorem d_r_copy_64 : decode prog_13_method_100_code 64 = .ok (.ifCond .lt 60, 3) := by decide +kernel
theorem d_r_copy_67 : decode prog_13_method_100_code 67 = .ok (.iload_n 2, 1) := by decide +kernel
theorem d_r_copy_68 : decode prog_13_method_100_code 68 = .ok (.ifCond .lt 56, 3) := by decide +kernel
theorem d_r_copy_71 : decode prog_13_method_100_code 71 = .ok (.iload 4, 2) := by decide +kernel
theorem d_r_copy_73 : decode prog_13_method_100_code 73 = .ok (.ifCond .lt 51, 3) := by decide +kernel
theorem d_r_copy_76 : decode prog_13_method_100_code 76 = .ok (.iload_n 2, 1) := by decide +kernel
theorem d_r_copy_77 : decode prog_13_method_100_code 77 = .ok (.aload_n 0, 1) := by decide +kernel
theorem d_r_copy_78 : decode prog_13_method_100_code 78 = .ok (.getfield 89, 3) := by decide +kernel
theorem d_r_copy_81 : decode prog_13_method_100_code 81 = .ok (.iload_n 1, 1) := by decide +kernel
theorem d_r_copy_82 : decode prog_13_method_100_code 82 = .ok (.iaload, 1) := by decide +kernel
theorem d_r_copy_83 : decode prog_13_method_100_code 83 = .ok (.if_icmp .gt 41, 3) := by decide +kernel
theorem d_r_copy_86 : decode prog_13_method_100_code 86 = .ok (.iload 4, 2) := by decide +kernel
theorem d_r_copy_88 : decode prog_13_method_100_code 88 = .ok (.aload_n 0, 1) := by decide +kernel
theorem d_r_copy_89 : decode prog_13_method_100_code 89 = .ok (.getfield 89, 3) := by decide +kernel
theorem d_r_copy_9 : decode prog_13_method_100_code 9 = .ok (.iload_n 3, 1) := by decide +kernel
theorem d_r_copy_92 : decode prog_13_method_100_code 92 = .ok (.iload_n 3, 1) := by decide +kernel
theorem d_r_copy_93 : decode prog_13_method_100_code 93 = .ok (.iaload, 1) := by decide +kernel
theorem d_r_copy_94 : decode prog_13_method_100_code 94 = .ok (.if_icmp .gt 30, 3) := by decide +kernel
theorem d_r_copy_97 : decode prog_13_method_100_code 97 = .ok (.iload 5, 2) := by decide +kernel
theorem d_r_copy_99 : decode prog_13_method_100_code 99 = .ok (.aload_n 0, 1) := by decide +kernel
theorem d_r_count_0 : decode prog_13_method_12_code 0 = .ok (.iload_n 1, 1) := by decide +kernel
theorem d_r_count_1 : decode prog_13_method_12_code 1 = .ok (.tableswitch 123 0 11 #[63, 68, 73, 78, 83, 88, 93, 98, 103, 108, 113, 118], 63) := by decide +kernel
theorem d_r_count_100 : decode prog_13_method_12_code 100 = .ok (.getfield 183, 3) := by decide +kernel
theorem d_r_count_103 : decode prog_13_method_12_code 103 = .ok (.ireturn, 1) := by decide +kernel
theorem d_r_count_104 : decode prog_13_method_12_code 104 = .ok (.aload_n 0, 1) := by decide +kernel
theorem d_r_count_105 : decode prog_13_method_12_code 105 = .ok (.getfield 186, 3) := by decide +kernel
theorem d_r_count_108 : decode prog_13_method_12_code 108 = .ok (.ireturn, 1) := by decide +kernel
theorem d_r_count_109 : decode prog_13_method_12_code 109 = .ok (.aload_n 0, 1) := by decide +kernel
theorem d_r_count_110 : decode prog_13_method_12_code 110 = .ok (.getfield 67, 3) := by decide +kernel
theorem d_r_count_113 : decode prog_13_method_12_code 113 = .ok (.ireturn, 1) := by decide +kernel
theorem d_r_count_114 : decode prog_13_method_12_code 114 = .ok (.aload_n 0, 1) := by decide +kernel
theorem d_r_count_115 : decode prog_13_method_12_code 115 = .ok (.getfield 189, 3) := by decide +kernel
theorem d_r_count_118 : decode prog_13_method_12_code 118 = .ok (.ireturn, 1) := by decide +kernel
theorem d_r_count_119 : decode prog_13_method_12_code 119 = .ok (.aload_n 0, 1) := by decide +kernel
theorem d_r_count_120 : decode prog_13_method_12_code 120 = .ok (.getfield 192, 3) := by decide +kernel
theorem d_r_count_123 : decode prog_13_method_12_code 123 = .ok (.ireturn, 1) := by decide +kernel
theorem d_r_count_124 : decode prog_13_method_12_code 124 = .ok (.bipush (-2), 2) := by decide +kernel
theorem d_r_count_126 : decode prog_13_method_12_code 126 = .ok (.ireturn, 1) := by decide +kernel
theorem d_r_count_64 : decode prog_13_method_12_code 64 = .ok (.aload_n 0, 1) := by decide +kernel
theorem d_r_count_65 : decode prog_13_method_12_code 65 = .ok (.getfield 171, 3) := by decide +kernel
theorem d_r_count_68 : decode prog_13_method_12_code 68 = .ok (.ireturn, 1) := by decide +kernel
theorem d_r_count_69 : decode prog_13_method_12_code 69 = .ok (.aload_n 0, 1) := by decide +kernel
theorem d_r_count_70 : decode prog_13_method_12_code 70 = .ok (.getfield 174, 3) := by decide +kernel
theorem d_r_count_73 : decode prog_13_method_12_code 73 = .ok (.ireturn, 1) := by decide +kernel
theorem d_r_count_74 : decode prog_13_method_12_code 74 = .ok (.aload_n 0, 1) := by decide +kernel
theorem d_r_count_75 : decode prog_13_method_12_code 75 = .ok (.getfield 177, 3) := by decide +kernel
theorem d_r_count_78 : decode prog_13_method_12_code 78 = .ok (.ireturn, 1) := by decide +kernel
theorem d_r_count_79 : decode prog_13_method_12_code 79 = .ok (.aload_n 0, 1) := by decide +kernel
theorem d_r_count_80 : decode prog_13_method_12_code 80 = .ok (.getfield 180, 3) := by decide +kernel
theorem d_r_count_83 : decode prog_13_method_12_code 83 = .ok (.ireturn, 1) := by decide +kernel
theorem d_r_count_84 : decode prog_13_method_12_code 84 = .ok (.aload_n 0, 1) := by decide +kernel
theorem d_r_count_85 : decode prog_13_method_12_code 85 = .ok (.getfield 160, 3) := by decide +kernel
theorem d_r_count_88 : decode prog_13_method_12_code 88 = .ok (.ireturn, 1) := by decide +kernel
theorem d_r_count_89 : decode prog_13_method_12_code 89 = .ok (.aload_n 0, 1) := by decide +kernel
theorem d_r_count_90 : decode prog_13_method_12_code 90 = .ok (.getfield 150, 3) := by decide +kernel
theorem d_r_count_93 : decode prog_13_method_12_code 93 = .ok (.ireturn, 1) := by decide +kernel
theorem d_r_count_94 : decode prog_13_method_12_code 94 = .ok (.aload_n 0, 1) := by decide +kernel
theorem d_r_count_95 : decode prog_13_method_12_code 95 = .ok (.getfield 157, 3) := by decide +kernel
theorem d_r_count_98 : decode prog_13_method_12_code 98 = .ok (.ireturn, 1) := by decide +kernel
theorem d_r_count_99 : decode prog_13_method_12_code 99 = .ok (.aload_n 0, 1) := by decide +kernel
theorem d_r_dead_0 : decode prog_13_method_70_code 0 = .ok (.aload_n 0, 1) := by decide +kernel
theorem d_r_dead_1 : decode prog_13_method_70_code 1 = .ok (.iload_n 1, 1) := by decide +kernel
theorem d_r_dead_10 : decode prog_13_method_70_code 10 = .ok (.ireturn, 1) := by decide +kernel
theorem d_r_dead_11 : decode prog_13_method_70_code 11 = .ok (.aload_n 0, 1) := by decide +kernel
theorem d_r_dead_12 : decode prog_13_method_70_code 12 = .ok (.iconst 0, 1) := by decide +kernel
theorem d_r_dead_13 : decode prog_13_method_70_code 13 = .ok (.invokevirtual 311, 3) := by decide +kernel
theorem d_r_dead_16 : decode prog_13_method_70_code 16 = .ok (.istore_n 2, 1) := by decide +kernel
theorem d_r_dead_17 : decode prog_13_method_70_code 17 = .ok (.iconst (-1), 1) := by decide +kernel
theorem d_r_dead_18 : decode prog_13_method_70_code 18 = .ok (.istore_n 3, 1) := by decide +kernel
theorem d_r_dead_19 : decode prog_13_method_70_code 19 = .ok (.iconst 0, 1) := by decide +kernel
theorem d_r_dead_2 : decode prog_13_method_70_code 2 = .ok (.invokevirtual 195, 3) := by decide +kernel
theorem d_r_dead_20 : decode prog_13_method_70_code 20 = .ok (.istore 4, 2) := by decide +kernel
theorem d_r_dead_22 : decode prog_13_method_70_code 22 = .ok (.iload 4, 2) := by decide +kernel
theorem d_r_dead_24 : decode prog_13_method_70_code 24 = .ok (.iconst 1, 1) := by decide +kernel
theorem d_r_dead_25 : decode prog_13_method_70_code 25 = .ok (.aload_n 0, 1) := by decide +kernel
theorem d_r_dead_26 : decode prog_13_method_70_code 26 = .ok (.getfield 160, 3) := by decide +kernel
theorem d_r_dead_29 : decode prog_13_method_70_code 29 = .ok (.ishl, 1) := by decide +kernel
theorem d_r_dead_30 : decode prog_13_method_70_code 30 = .ok (.if_icmp .ge 40, 3) := by decide +kernel
theorem d_r_dead_33 : decode prog_13_method_70_code 33 = .ok (.aload_n 0, 1) := by decide +kernel
theorem d_r_dead_34 : decode prog_13_method_70_code 34 = .ok (.iload_n 1, 1) := by decide +kernel
theorem d_r_dead_35 : decode prog_13_method_70_code 35 = .ok (.iload 4, 2) := by decide +kernel
theorem d_r_dead_37 : decode prog_13_method_70_code 37 = .ok (.iload_n 2, 1) := by decide +kernel
theorem d_r_dead_38 : decode prog_13_method_70_code 38 = .ok (.invokevirtual 332, 3) := by decide +kernel
theorem d_r_dead_41 : decode prog_13_method_70_code 41 = .ok (.ifCond .ne 23, 3) := by decide +kernel
theorem d_r_dead_44 : decode prog_13_method_70_code 44 = .ok (.iload_n 3, 1) := by decide +kernel
theorem d_r_dead_45 : decode prog_13_method_70_code 45 = .ok (.iconst (-1), 1) := by decide +kernel
theorem d_r_dead_46 : decode prog_13_method_70_code 46 = .ok (.if_icmp .eq 15, 3) := by decide +kernel
theorem d_r_dead_49 : decode prog_13_method_70_code 49 = .ok (.iload 4, 2) := by decide +kernel
theorem d_r_dead_5 : decode prog_13_method_70_code 5 = .ok (.ifCond .ne 6, 3) := by decide +kernel
theorem d_r_dead_51 : decode prog_13_method_70_code 51 = .ok (.invokestatic 305, 3) := by decide +kernel
theorem d_r_dead_54 : decode prog_13_method_70_code 54 = .ok (.iload_n 3, 1) := by decide +kernel
theorem d_r_dead_55 : decode prog_13_method_70_code 55 = .ok (.invokestatic 305, 3) := by decide +kernel
theorem d_r_dead_58 : decode prog_13_method_70_code 58 = .ok (.if_icmp .ge 6, 3) := by decide +kernel
theorem d_r_dead_61 : decode prog_13_method_70_code 61 = .ok (.iload 4, 2) := by decide +kernel
theorem d_r_dead_63 : decode prog_13_method_70_code 63 = .ok (.istore_n 3, 1) := by decide +kernel
theorem d_r_dead_64 : decode prog_13_method_70_code 64 = .ok (.iinc 4 1, 3) := by decide +kernel
theorem d_r_dead_67 : decode prog_13_method_70_code 67 = .ok (.goto (-45), 3) := by decide +kernel
theorem d_r_dead_70 : decode prog_13_method_70_code 70 = .ok (.iload_n 3, 1) := by decide +kernel
theorem d_r_dead_71 : decode prog_13_method_70_code 71 = .ok (.ireturn, 1) := by decide +kernel
theorem d_r_dead_8 : decode prog_13_method_70_code 8 = .ok (.bipush (-5), 2) := by decide +kernel
theorem d_r_drawn_0 : decode prog_13_method_95_code 0 = .ok (.iload_n 1, 1) := by decide +kernel
theorem d_r_drawn_1 : decode prog_13_method_95_code 1 = .ok (.iconst 0, 1) := by decide +kernel
theorem d_r_drawn_101 : decode prog_13_method_95_code 101 = .ok (.ldc2_w 368, 3) := by decide +kernel
theorem d_r_drawn_104 : decode prog_13_method_95_code 104 = .ok (.lrem, 1) := by decide +kernel
theorem d_r_drawn_105 : decode prog_13_method_95_code 105 = .ok (.aload_n 0, 1) := by decide +kernel
theorem d_r_drawn_106 : decode prog_13_method_95_code 106 = .ok (.getfield 180, 3) := by decide +kernel
theorem d_r_drawn_109 : decode prog_13_method_95_code 109 = .ok (.i2l, 1) := by decide +kernel
theorem d_r_drawn_11 : decode prog_13_method_95_code 11 = .ok (.iload_n 2, 1) := by decide +kernel
theorem d_r_drawn_110 : decode prog_13_method_95_code 110 = .ok (.lcmp, 1) := by decide +kernel
theorem d_r_drawn_111 : decode prog_13_method_95_code 111 = .ok (.ifCond .ge 10, 3) := by decide +kernel
theorem d_r_drawn_114 : decode prog_13_method_95_code 114 = .ok (.iconst 1, 1) := by decide +kernel
theorem d_r_drawn_115 : decode prog_13_method_95_code 115 = .ok (.iload 8, 2) := by decide +kernel
theorem d_r_drawn_117 : decode prog_13_method_95_code 117 = .ok (.ishl, 1) := by decide +kernel
theorem d_r_drawn_118 : decode prog_13_method_95_code 118 = .ok (.goto 4, 3) := by decide +kernel
theorem d_r_drawn_12 : decode prog_13_method_95_code 12 = .ok (.invokestatic 292, 3) := by decide +kernel
theorem d_r_drawn_121 : decode prog_13_method_95_code 121 = .ok (.iconst 0, 1) := by decide +kernel
theorem d_r_drawn_122 : decode prog_13_method_95_code 122 = .ok (.ixor, 1) := by decide +kernel
theorem d_r_drawn_123 : decode prog_13_method_95_code 123 = .ok (.istore 7, 2) := by decide +kernel
theorem d_r_drawn_125 : decode prog_13_method_95_code 125 = .ok (.iinc 8 1, 3) := by decide +kernel
theorem d_r_drawn_128 : decode prog_13_method_95_code 128 = .ok (.goto (-52), 3) := by decide +kernel
theorem d_r_drawn_131 : decode prog_13_method_95_code 131 = .ok (.iload_n 3, 1) := by decide +kernel
theorem d_r_drawn_132 : decode prog_13_method_95_code 132 = .ok (.ifCond .ne 8, 3) := by decide +kernel
theorem d_r_drawn_135 : decode prog_13_method_95_code 135 = .ok (.iload 6, 2) := by decide +kernel
theorem d_r_drawn_137 : decode prog_13_method_95_code 137 = .ok (.goto 11, 3) := by decide +kernel
theorem d_r_drawn_140 : decode prog_13_method_95_code 140 = .ok (.iload 7, 2) := by decide +kernel
theorem d_r_drawn_142 : decode prog_13_method_95_code 142 = .ok (.aload_n 0, 1) := by decide +kernel
theorem d_r_drawn_143 : decode prog_13_method_95_code 143 = .ok (.iload_n 2, 1) := by decide +kernel
theorem d_r_drawn_144 : decode prog_13_method_95_code 144 = .ok (.invokevirtual 295, 3) := by decide +kernel
theorem d_r_drawn_147 : decode prog_13_method_95_code 147 = .ok (.iand, 1) := by decide +kernel
theorem d_r_drawn_148 : decode prog_13_method_95_code 148 = .ok (.ireturn, 1) := by decide +kernel
theorem d_r_drawn_15 : decode prog_13_method_95_code 15 = .ok (.ifCond .eq 12, 3) := by decide +kernel
theorem d_r_drawn_18 : decode prog_13_method_95_code 18 = .ok (.iload_n 3, 1) := by decide +kernel
theorem d_r_drawn_19 : decode prog_13_method_95_code 19 = .ok (.iconst 0, 1) := by decide +kernel
theorem d_r_drawn_2 : decode prog_13_method_95_code 2 = .ok (.ldc_w 361, 3) := by decide +kernel
theorem d_r_drawn_20 : decode prog_13_method_95_code 20 = .ok (.iconst 1, 1) := by decide +kernel
theorem d_r_drawn_21 : decode prog_13_method_95_code 21 = .ok (.invokestatic 153, 3) := by decide +kernel
theorem d_r_drawn_24 : decode prog_13_method_95_code 24 = .ok (.ifCond .ne 6, 3) := by decide +kernel
theorem d_r_drawn_27 : decode prog_13_method_95_code 27 = .ok (.bipush (-2), 2) := by decide +kernel
theorem d_r_drawn_29 : decode prog_13_method_95_code 29 = .ok (.ireturn, 1) := by decide +kernel
theorem d_r_drawn_30 : decode prog_13_method_95_code 30 = .ok (.aload_n 0, 1) := by decide +kernel
theorem d_r_drawn_31 : decode prog_13_method_95_code 31 = .ok (.getfield 157, 3) := by decide +kernel
theorem d_r_drawn_34 : decode prog_13_method_95_code 34 = .ok (.ifCond .ne 6, 3) := by decide +kernel
theorem d_r_drawn_37 : decode prog_13_method_95_code 37 = .ok (.bipush (-3), 2) := by decide +kernel
theorem d_r_drawn_39 : decode prog_13_method_95_code 39 = .ok (.ireturn, 1) := by decide +kernel
theorem d_r_drawn_40 : decode prog_13_method_95_code 40 = .ok (.iload_n 1, 1) := by decide +kernel
theorem d_r_drawn_41 : decode prog_13_method_95_code 41 = .ok (.i2l, 1) := by decide +kernel
theorem d_r_drawn_42 : decode prog_13_method_95_code 42 = .ok (.lconst 1, 1) := by decide +kernel
theorem d_r_drawn_43 : decode prog_13_method_95_code 43 = .ok (.ladd, 1) := by decide +kernel
theorem d_r_drawn_44 : decode prog_13_method_95_code 44 = .ok (.ldc2_w 364, 3) := by decide +kernel
theorem d_r_drawn_47 : decode prog_13_method_95_code 47 = .ok (.lmul, 1) := by decide +kernel
theorem d_r_drawn_48 : decode prog_13_method_95_code 48 = .ok (.ldc2_w 366, 3) := by decide +kernel
theorem d_r_drawn_5 : decode prog_13_method_95_code 5 = .ok (.invokestatic 153, 3) := by decide +kernel
theorem d_r_drawn_51 : decode prog_13_method_95_code 51 = .ok (.lrem, 1) := by decide +kernel
theorem d_r_drawn_52 : decode prog_13_method_95_code 52 = .ok (.lstore 4, 2) := by decide +kernel
theorem d_r_drawn_54 : decode prog_13_method_95_code 54 = .ok (.lload 4, 2) := by decide +kernel
theorem d_r_drawn_56 : decode prog_13_method_95_code 56 = .ok (.aload_n 0, 1) := by decide +kernel
theorem d_r_drawn_57 : decode prog_13_method_95_code 57 = .ok (.getfield 157, 3) := by decide +kernel
theorem d_r_drawn_60 : decode prog_13_method_95_code 60 = .ok (.i2l, 1) := by decide +kernel
theorem d_r_drawn_61 : decode prog_13_method_95_code 61 = .ok (.lrem, 1) := by decide +kernel
theorem d_r_drawn_62 : decode prog_13_method_95_code 62 = .ok (.l2i, 1) := by decide +kernel
theorem d_r_drawn_63 : decode prog_13_method_95_code 63 = .ok (.istore 6, 2) := by decide +kernel
theorem d_r_drawn_65 : decode prog_13_method_95_code 65 = .ok (.aload_n 0, 1) := by decide +kernel
theorem d_r_drawn_66 : decode prog_13_method_95_code 66 = .ok (.iload 6, 2) := by decide +kernel
theorem d_r_drawn_68 : decode prog_13_method_95_code 68 = .ok (.invokevirtual 279, 3) := by decide +kernel
theorem d_r_drawn_71 : decode prog_13_method_95_code 71 = .ok (.istore 7, 2) := by decide +kernel
theorem d_r_drawn_73 : decode prog_13_method_95_code 73 = .ok (.iconst 0, 1) := by decide +kernel
theorem d_r_drawn_74 : decode prog_13_method_95_code 74 = .ok (.istore 8, 2) := by decide +kernel
theorem d_r_drawn_76 : decode prog_13_method_95_code 76 = .ok (.iload 8, 2) := by decide +kernel
theorem d_r_drawn_78 : decode prog_13_method_95_code 78 = .ok (.aload_n 0, 1) := by decide +kernel
theorem d_r_drawn_79 : decode prog_13_method_95_code 79 = .ok (.getfield 150, 3) := by decide +kernel
theorem d_r_drawn_8 : decode prog_13_method_95_code 8 = .ok (.ifCond .eq 19, 3) := by decide +kernel
theorem d_r_drawn_82 : decode prog_13_method_95_code 82 = .ok (.if_icmp .ge 49, 3) := by decide +kernel
theorem d_r_drawn_85 : decode prog_13_method_95_code 85 = .ok (.lload 4, 2) := by decide +kernel
theorem d_r_drawn_87 : decode prog_13_method_95_code 87 = .ok (.ldc2_w 364, 3) := by decide +kernel
theorem d_r_drawn_90 : decode prog_13_method_95_code 90 = .ok (.lmul, 1) := by decide +kernel
theorem d_r_drawn_91 : decode prog_13_method_95_code 91 = .ok (.ldc2_w 366, 3) := by decide +kernel
theorem d_r_drawn_94 : decode prog_13_method_95_code 94 = .ok (.lrem, 1) := by decide +kernel
theorem d_r_drawn_95 : decode prog_13_method_95_code 95 = .ok (.lstore 4, 2) := by decide +kernel
theorem d_r_drawn_97 : decode prog_13_method_95_code 97 = .ok (.iload 7, 2) := by decide +kernel
theorem d_r_drawn_99 : decode prog_13_method_95_code 99 = .ok (.lload 4, 2) := by decide +kernel
theorem d_r_eRead_0 : decode prog_13_method_25_code 0 = .ok (.aload_n 0, 1) := by decide +kernel
theorem d_r_eRead_1 : decode prog_13_method_25_code 1 = .ok (.iconst 0, 1) := by decide +kernel
theorem d_r_eRead_10 : decode prog_13_method_25_code 10 = .ok (.iconst 1, 1) := by decide +kernel
theorem d_r_eRead_100 : decode prog_13_method_25_code 100 = .ok (.getfield 206, 3) := by decide +kernel
theorem d_r_eRead_103 : decode prog_13_method_25_code 103 = .ok (.bipush 45, 2) := by decide +kernel
theorem d_r_eRead_105 : decode prog_13_method_25_code 105 = .ok (.if_icmp .ne 19, 3) := by decide +kernel
theorem d_r_eRead_108 : decode prog_13_method_25_code 108 = .ok (.aload_n 0, 1) := by decide +kernel
theorem d_r_eRead_109 : decode prog_13_method_25_code 109 = .ok (.bipush 19, 2) := by decide +kernel
theorem d_r_eRead_11 : decode prog_13_method_25_code 11 = .ok (.istore_n 1, 1) := by decide +kernel
theorem d_r_eRead_111 : decode prog_13_method_25_code 111 = .ok (.invokevirtual 242, 3) := by decide +kernel
theorem d_r_eRead_114 : decode prog_13_method_25_code 114 = .ok (.ifCond .ne 5, 3) := by decide +kernel
theorem d_r_eRead_117 : decode prog_13_method_25_code 117 = .ok (.iconst 0, 1) := by decide +kernel
theorem d_r_eRead_118 : decode prog_13_method_25_code 118 = .ok (.ireturn, 1) := by decide +kernel
theorem d_r_eRead_119 : decode prog_13_method_25_code 119 = .ok (.iconst 0, 1) := by decide +kernel
theorem d_r_eRead_12 : decode prog_13_method_25_code 12 = .ok (.iconst 1, 1) := by decide +kernel
theorem d_r_eRead_120 : decode prog_13_method_25_code 120 = .ok (.istore_n 2, 1) := by decide +kernel
theorem d_r_eRead_121 : decode prog_13_method_25_code 121 = .ok (.goto (-107), 3) := by decide +kernel
theorem d_r_eRead_124 : decode prog_13_method_25_code 124 = .ok (.aload_n 0, 1) := by decide +kernel
theorem d_r_eRead_125 : decode prog_13_method_25_code 125 = .ok (.getfield 206, 3) := by decide +kernel
theorem d_r_eRead_128 : decode prog_13_method_25_code 128 = .ok (.bipush 40, 2) := by decide +kernel
theorem d_r_eRead_13 : decode prog_13_method_25_code 13 = .ok (.istore_n 2, 1) := by decide +kernel
theorem d_r_eRead_130 : decode prog_13_method_25_code 130 = .ok (.if_icmp .ne 18, 3) := by decide +kernel
theorem d_r_eRead_133 : decode prog_13_method_25_code 133 = .ok (.aload_n 0, 1) := by decide +kernel
theorem d_r_eRead_134 : decode prog_13_method_25_code 134 = .ok (.iconst 0, 1) := by decide +kernel
theorem d_r_eRead_135 : decode prog_13_method_25_code 135 = .ok (.invokevirtual 242, 3) := by decide +kernel
theorem d_r_eRead_138 : decode prog_13_method_25_code 138 = .ok (.ifCond .ne 5, 3) := by decide +kernel
theorem d_r_eRead_14 : decode prog_13_method_25_code 14 = .ok (.aload_n 0, 1) := by decide +kernel
theorem d_r_eRead_141 : decode prog_13_method_25_code 141 = .ok (.iconst 0, 1) := by decide +kernel
theorem d_r_eRead_142 : decode prog_13_method_25_code 142 = .ok (.ireturn, 1) := by decide +kernel
theorem d_r_eRead_143 : decode prog_13_method_25_code 143 = .ok (.iconst 1, 1) := by decide +kernel
theorem d_r_eRead_144 : decode prog_13_method_25_code 144 = .ok (.istore_n 2, 1) := by decide +kernel
theorem d_r_eRead_145 : decode prog_13_method_25_code 145 = .ok (.goto (-131), 3) := by decide +kernel
theorem d_r_eRead_148 : decode prog_13_method_25_code 148 = .ok (.iconst 0, 1) := by decide +kernel
theorem d_r_eRead_149 : decode prog_13_method_25_code 149 = .ok (.ireturn, 1) := by decide +kernel
theorem d_r_eRead_15 : decode prog_13_method_25_code 15 = .ok (.invokevirtual 238, 3) := by decide +kernel
theorem d_r_eRead_150 : decode prog_13_method_25_code 150 = .ok (.aload_n 0, 1) := by decide +kernel
theorem d_r_eRead_151 : decode prog_13_method_25_code 151 = .ok (.getfield 206, 3) := by decide +kernel
theorem d_r_eRead_154 : decode prog_13_method_25_code 154 = .ok (.bipush 59, 2) := by decide +kernel
theorem d_r_eRead_156 : decode prog_13_method_25_code 156 = .ok (.if_icmp .ne 21, 3) := by decide +kernel
theorem d_r_eRead_159 : decode prog_13_method_25_code 159 = .ok (.aload_n 0, 1) := by decide +kernel
theorem d_r_eRead_160 : decode prog_13_method_25_code 160 = .ok (.iconst 1, 1) := by decide +kernel
theorem d_r_eRead_161 : decode prog_13_method_25_code 161 = .ok (.invokevirtual 235, 3) := by decide +kernel
theorem d_r_eRead_164 : decode prog_13_method_25_code 164 = .ok (.aload_n 0, 1) := by decide +kernel
theorem d_r_eRead_165 : decode prog_13_method_25_code 165 = .ok (.getfield 219, 3) := by decide +kernel
theorem d_r_eRead_168 : decode prog_13_method_25_code 168 = .ok (.ifCond .ne 7, 3) := by decide +kernel
theorem d_r_eRead_171 : decode prog_13_method_25_code 171 = .ok (.iconst 1, 1) := by decide +kernel
theorem d_r_eRead_172 : decode prog_13_method_25_code 172 = .ok (.goto 4, 3) := by decide +kernel
theorem d_r_eRead_175 : decode prog_13_method_25_code 175 = .ok (.iconst 0, 1) := by decide +kernel
theorem d_r_eRead_176 : decode prog_13_method_25_code 176 = .ok (.ireturn, 1) := by decide +kernel
theorem d_r_eRead_177 : decode prog_13_method_25_code 177 = .ok (.aload_n 0, 1) := by decide +kernel
theorem d_r_eRead_178 : decode prog_13_method_25_code 178 = .ok (.getfield 206, 3) := by decide +kernel
theorem d_r_eRead_18 : decode prog_13_method_25_code 18 = .ok (.iload_n 1, 1) := by decide +kernel
theorem d_r_eRead_181 : decode prog_13_method_25_code 181 = .ok (.bipush 41, 2) := by decide +kernel
theorem d_r_eRead_183 : decode prog_13_method_25_code 183 = .ok (.if_icmp .ne 46, 3) := by decide +kernel
theorem d_r_eRead_186 : decode prog_13_method_25_code 186 = .ok (.aload_n 0, 1) := by decide +kernel
theorem d_r_eRead_187 : decode prog_13_method_25_code 187 = .ok (.iconst 1, 1) := by decide +kernel
theorem d_r_eRead_188 : decode prog_13_method_25_code 188 = .ok (.invokevirtual 235, 3) := by decide +kernel
theorem d_r_eRead_19 : decode prog_13_method_25_code 19 = .ok (.ifCond .eq 131, 3) := by decide +kernel
theorem d_r_eRead_191 : decode prog_13_method_25_code 191 = .ok (.aload_n 0, 1) := by decide +kernel
theorem d_r_eRead_192 : decode prog_13_method_25_code 192 = .ok (.getfield 219, 3) := by decide +kernel
theorem d_r_eRead_195 : decode prog_13_method_25_code 195 = .ok (.ifCond .ne 5, 3) := by decide +kernel
theorem d_r_eRead_198 : decode prog_13_method_25_code 198 = .ok (.iconst 0, 1) := by decide +kernel
theorem d_r_eRead_199 : decode prog_13_method_25_code 199 = .ok (.ireturn, 1) := by decide +kernel
theorem d_r_eRead_2 : decode prog_13_method_25_code 2 = .ok (.putfield 219, 3) := by decide +kernel
theorem d_r_eRead_200 : decode prog_13_method_25_code 200 = .ok (.aload_n 0, 1) := by decide +kernel
theorem d_r_eRead_201 : decode prog_13_method_25_code 201 = .ok (.dup, 1) := by decide +kernel
theorem d_r_eRead_202 : decode prog_13_method_25_code 202 = .ok (.getfield 219, 3) := by decide +kernel
theorem d_r_eRead_205 : decode prog_13_method_25_code 205 = .ok (.iconst 1, 1) := by decide +kernel
theorem d_r_eRead_206 : decode prog_13_method_25_code 206 = .ok (.isub, 1) := by decide +kernel
theorem d_r_eRead_207 : decode prog_13_method_25_code 207 = .ok (.putfield 219, 3) := by decide +kernel
theorem d_r_eRead_210 : decode prog_13_method_25_code 210 = .ok (.aload_n 0, 1) := by decide +kernel
theorem d_r_eRead_211 : decode prog_13_method_25_code 211 = .ok (.dup, 1) := by decide +kernel
theorem d_r_eRead_212 : decode prog_13_method_25_code 212 = .ok (.getfield 225, 3) := by decide +kernel
theorem d_r_eRead_215 : decode prog_13_method_25_code 215 = .ok (.iconst 1, 1) := by decide +kernel
theorem d_r_eRead_216 : decode prog_13_method_25_code 216 = .ok (.isub, 1) := by decide +kernel
theorem d_r_eRead_217 : decode prog_13_method_25_code 217 = .ok (.putfield 225, 3) := by decide +kernel
theorem d_r_eRead_22 : decode prog_13_method_25_code 22 = .ok (.aload_n 0, 1) := by decide +kernel
theorem d_r_eRead_220 : decode prog_13_method_25_code 220 = .ok (.aload_n 0, 1) := by decide +kernel
theorem d_r_eRead_221 : decode prog_13_method_25_code 221 = .ok (.bipush 7, 2) := by decide +kernel
theorem d_r_eRead_223 : decode prog_13_method_25_code 223 = .ok (.invokevirtual 235, 3) := by decide +kernel
theorem d_r_eRead_226 : decode prog_13_method_25_code 226 = .ok (.goto (-212), 3) := by decide +kernel
theorem d_r_eRead_229 : decode prog_13_method_25_code 229 = .ok (.aload_n 0, 1) := by decide +kernel
theorem d_r_eRead_23 : decode prog_13_method_25_code 23 = .ok (.getfield 206, 3) := by decide +kernel
theorem d_r_eRead_230 : decode prog_13_method_25_code 230 = .ok (.invokevirtual 245, 3) := by decide +kernel
theorem d_r_eRead_233 : decode prog_13_method_25_code 233 = .ok (.istore_n 3, 1) := by decide +kernel
theorem d_r_eRead_234 : decode prog_13_method_25_code 234 = .ok (.iload_n 3, 1) := by decide +kernel
theorem d_r_eRead_235 : decode prog_13_method_25_code 235 = .ok (.iconst (-1), 1) := by decide +kernel
theorem d_r_eRead_236 : decode prog_13_method_25_code 236 = .ok (.if_icmp .eq 11, 3) := by decide +kernel
theorem d_r_eRead_239 : decode prog_13_method_25_code 239 = .ok (.aload_n 0, 1) := by decide +kernel
theorem d_r_eRead_240 : decode prog_13_method_25_code 240 = .ok (.iload_n 3, 1) := by decide +kernel
theorem d_r_eRead_241 : decode prog_13_method_25_code 241 = .ok (.invokevirtual 249, 3) := by decide +kernel
theorem d_r_eRead_244 : decode prog_13_method_25_code 244 = .ok (.ifCond .ne 5, 3) := by decide +kernel
theorem d_r_eRead_247 : decode prog_13_method_25_code 247 = .ok (.iconst 0, 1) := by decide +kernel
theorem d_r_eRead_248 : decode prog_13_method_25_code 248 = .ok (.ireturn, 1) := by decide +kernel
theorem d_r_eRead_249 : decode prog_13_method_25_code 249 = .ok (.iconst 1, 1) := by decide +kernel
theorem d_r_eRead_250 : decode prog_13_method_25_code 250 = .ok (.istore_n 1, 1) := by decide +kernel
theorem d_r_eRead_251 : decode prog_13_method_25_code 251 = .ok (.iload_n 3, 1) := by decide +kernel
theorem d_r_eRead_252 : decode prog_13_method_25_code 252 = .ok (.bipush 12, 2) := by decide +kernel
theorem d_r_eRead_254 : decode prog_13_method_25_code 254 = .ok (.if_icmp .gt 7, 3) := by decide +kernel
theorem d_r_eRead_257 : decode prog_13_method_25_code 257 = .ok (.iconst 1, 1) := by decide +kernel
theorem d_r_eRead_258 : decode prog_13_method_25_code 258 = .ok (.goto 4, 3) := by decide +kernel
theorem d_r_eRead_26 : decode prog_13_method_25_code 26 = .ok (.iconst 1, 1) := by decide +kernel
theorem d_r_eRead_261 : decode prog_13_method_25_code 261 = .ok (.iconst 0, 1) := by decide +kernel
theorem d_r_eRead_262 : decode prog_13_method_25_code 262 = .ok (.istore_n 2, 1) := by decide +kernel
theorem d_r_eRead_263 : decode prog_13_method_25_code 263 = .ok (.goto (-249), 3) := by decide +kernel
theorem d_r_eRead_27 : decode prog_13_method_25_code 27 = .ok (.if_icmp .eq 11, 3) := by decide +kernel
theorem d_r_eRead_30 : decode prog_13_method_25_code 30 = .ok (.aload_n 0, 1) := by decide +kernel
theorem d_r_eRead_31 : decode prog_13_method_25_code 31 = .ok (.getfield 206, 3) := by decide +kernel
theorem d_r_eRead_34 : decode prog_13_method_25_code 34 = .ok (.iconst 2, 1) := by decide +kernel
theorem d_r_eRead_35 : decode prog_13_method_25_code 35 = .ok (.if_icmp .ne 40, 3) := by decide +kernel
theorem d_r_eRead_38 : decode prog_13_method_25_code 38 = .ok (.aload_n 0, 1) := by decide +kernel
theorem d_r_eRead_39 : decode prog_13_method_25_code 39 = .ok (.aload_n 0, 1) := by decide +kernel
theorem d_r_eRead_40 : decode prog_13_method_25_code 40 = .ok (.getfield 206, 3) := by decide +kernel
theorem d_r_eRead_43 : decode prog_13_method_25_code 43 = .ok (.iconst 1, 1) := by decide +kernel
theorem d_r_eRead_44 : decode prog_13_method_25_code 44 = .ok (.if_icmp .ne 13, 3) := by decide +kernel
theorem d_r_eRead_47 : decode prog_13_method_25_code 47 = .ok (.ldc 241, 2) := by decide +kernel
theorem d_r_eRead_49 : decode prog_13_method_25_code 49 = .ok (.aload_n 0, 1) := by decide +kernel
theorem d_r_eRead_5 : decode prog_13_method_25_code 5 = .ok (.aload_n 0, 1) := by decide +kernel
theorem d_r_eRead_50 : decode prog_13_method_25_code 50 = .ok (.getfield 209, 3) := by decide +kernel
theorem d_r_eRead_53 : decode prog_13_method_25_code 53 = .ok (.iadd, 1) := by decide +kernel
theorem d_r_eRead_54 : decode prog_13_method_25_code 54 = .ok (.goto 7, 3) := by decide +kernel
theorem d_r_eRead_57 : decode prog_13_method_25_code 57 = .ok (.aload_n 0, 1) := by decide +kernel
theorem d_r_eRead_58 : decode prog_13_method_25_code 58 = .ok (.getfield 209, 3) := by decide +kernel
theorem d_r_eRead_6 : decode prog_13_method_25_code 6 = .ok (.iconst 0, 1) := by decide +kernel
theorem d_r_eRead_61 : decode prog_13_method_25_code 61 = .ok (.invokevirtual 228, 3) := by decide +kernel
theorem d_r_eRead_64 : decode prog_13_method_25_code 64 = .ok (.aload_n 0, 1) := by decide +kernel
theorem d_r_eRead_65 : decode prog_13_method_25_code 65 = .ok (.bipush 7, 2) := by decide +kernel
theorem d_r_eRead_67 : decode prog_13_method_25_code 67 = .ok (.invokevirtual 235, 3) := by decide +kernel
theorem d_r_eRead_7 : decode prog_13_method_25_code 7 = .ok (.putfield 225, 3) := by decide +kernel
theorem d_r_eRead_70 : decode prog_13_method_25_code 70 = .ok (.iconst 0, 1) := by decide +kernel
theorem d_r_eRead_71 : decode prog_13_method_25_code 71 = .ok (.istore_n 1, 1) := by decide +kernel
theorem d_r_eRead_72 : decode prog_13_method_25_code 72 = .ok (.goto (-58), 3) := by decide +kernel
theorem d_r_eRead_75 : decode prog_13_method_25_code 75 = .ok (.aload_n 0, 1) := by decide +kernel
theorem d_r_eRead_76 : decode prog_13_method_25_code 76 = .ok (.getfield 206, 3) := by decide +kernel
theorem d_r_eRead_79 : decode prog_13_method_25_code 79 = .ok (.bipush 6, 2) := by decide +kernel
theorem d_r_eRead_81 : decode prog_13_method_25_code 81 = .ok (.if_icmp .ne 18, 3) := by decide +kernel
theorem d_r_eRead_84 : decode prog_13_method_25_code 84 = .ok (.iload_n 2, 1) := by decide +kernel
theorem d_r_eRead_85 : decode prog_13_method_25_code 85 = .ok (.ifCond .eq 14, 3) := by decide +kernel
theorem d_r_eRead_88 : decode prog_13_method_25_code 88 = .ok (.aload_n 0, 1) := by decide +kernel
theorem d_r_eRead_89 : decode prog_13_method_25_code 89 = .ok (.bipush 13, 2) := by decide +kernel
theorem d_r_eRead_91 : decode prog_13_method_25_code 91 = .ok (.invokevirtual 242, 3) := by decide +kernel
theorem d_r_eRead_94 : decode prog_13_method_25_code 94 = .ok (.ifCond .ne (-80), 3) := by decide +kernel
theorem d_r_eRead_97 : decode prog_13_method_25_code 97 = .ok (.iconst 0, 1) := by decide +kernel
theorem d_r_eRead_98 : decode prog_13_method_25_code 98 = .ok (.ireturn, 1) := by decide +kernel
theorem d_r_eRead_99 : decode prog_13_method_25_code 99 = .ok (.aload_n 0, 1) := by decide +kernel
theorem d_r_fedBy_0 : decode prog_13_method_33_code 0 = .ok (.aload_n 0, 1) := by decide +kernel
theorem d_r_fedBy_1 : decode prog_13_method_33_code 1 = .ok (.iload_n 1, 1) := by decide +kernel
theorem d_r_fedBy_10 : decode prog_13_method_33_code 10 = .ok (.invokevirtual 195, 3) := by decide +kernel
theorem d_r_fedBy_13 : decode prog_13_method_33_code 13 = .ok (.ifCond .eq 17, 3) := by decide +kernel
theorem d_r_fedBy_16 : decode prog_13_method_33_code 16 = .ok (.aload_n 0, 1) := by decide +kernel
theorem d_r_fedBy_17 : decode prog_13_method_33_code 17 = .ok (.getfield 34, 3) := by decide +kernel
theorem d_r_fedBy_2 : decode prog_13_method_33_code 2 = .ok (.invokevirtual 266, 3) := by decide +kernel
theorem d_r_fedBy_20 : decode prog_13_method_33_code 20 = .ok (.bipush 10, 2) := by decide +kernel
theorem d_r_fedBy_22 : decode prog_13_method_33_code 22 = .ok (.iload_n 1, 1) := by decide +kernel
theorem d_r_fedBy_23 : decode prog_13_method_33_code 23 = .ok (.imul, 1) := by decide +kernel
theorem d_r_fedBy_24 : decode prog_13_method_33_code 24 = .ok (.iload_n 2, 1) := by decide +kernel
theorem d_r_fedBy_25 : decode prog_13_method_33_code 25 = .ok (.iadd, 1) := by decide +kernel
theorem d_r_fedBy_26 : decode prog_13_method_33_code 26 = .ok (.iaload, 1) := by decide +kernel
theorem d_r_fedBy_27 : decode prog_13_method_33_code 27 = .ok (.goto 5, 3) := by decide +kernel
theorem d_r_fedBy_30 : decode prog_13_method_33_code 30 = .ok (.bipush (-5), 2) := by decide +kernel
theorem d_r_fedBy_32 : decode prog_13_method_33_code 32 = .ok (.ireturn, 1) := by decide +kernel
theorem d_r_fedBy_5 : decode prog_13_method_33_code 5 = .ok (.ifCond .eq 25, 3) := by decide +kernel
theorem d_r_fedBy_8 : decode prog_13_method_33_code 8 = .ok (.aload_n 0, 1) := by decide +kernel
theorem d_r_fedBy_9 : decode prog_13_method_33_code 9 = .ok (.iload_n 2, 1) := by decide +kernel
theorem d_r_feed_0 : decode prog_13_method_15_code 0 = .ok (.iload_n 3, 1) := by decide +kernel
theorem d_r_feed_1 : decode prog_13_method_15_code 1 = .ok (.iconst 1, 1) := by decide +kernel
theorem d_r_feed_10 : decode prog_13_method_15_code 10 = .ok (.bipush (-2), 2) := by decide +kernel
theorem d_r_feed_12 : decode prog_13_method_15_code 12 = .ok (.ireturn, 1) := by decide +kernel
theorem d_r_feed_13 : decode prog_13_method_15_code 13 = .ok (.aload_n 0, 1) := by decide +kernel
theorem d_r_feed_14 : decode prog_13_method_15_code 14 = .ok (.getfield 192, 3) := by decide +kernel
theorem d_r_feed_17 : decode prog_13_method_15_code 17 = .ok (.iload_n 3, 1) := by decide +kernel
theorem d_r_feed_18 : decode prog_13_method_15_code 18 = .ok (.iadd, 1) := by decide +kernel
theorem d_r_feed_19 : decode prog_13_method_15_code 19 = .ok (.sipush 160, 3) := by decide +kernel
theorem d_r_feed_2 : decode prog_13_method_15_code 2 = .ok (.bipush 8, 2) := by decide +kernel
theorem d_r_feed_22 : decode prog_13_method_15_code 22 = .ok (.if_icmp .le 6, 3) := by decide +kernel
theorem d_r_feed_25 : decode prog_13_method_15_code 25 = .ok (.bipush (-4), 2) := by decide +kernel
theorem d_r_feed_27 : decode prog_13_method_15_code 27 = .ok (.ireturn, 1) := by decide +kernel
theorem d_r_feed_28 : decode prog_13_method_15_code 28 = .ok (.iload_n 3, 1) := by decide +kernel
theorem d_r_feed_29 : decode prog_13_method_15_code 29 = .ok (.iconst 1, 1) := by decide +kernel
theorem d_r_feed_30 : decode prog_13_method_15_code 30 = .ok (.isub, 1) := by decide +kernel
theorem d_r_feed_31 : decode prog_13_method_15_code 31 = .ok (.istore 4, 2) := by decide +kernel
theorem d_r_feed_33 : decode prog_13_method_15_code 33 = .ok (.iload 4, 2) := by decide +kernel
theorem d_r_feed_35 : decode prog_13_method_15_code 35 = .ok (.ifCond .lt 40, 3) := by decide +kernel
theorem d_r_feed_38 : decode prog_13_method_15_code 38 = .ok (.aload_n 0, 1) := by decide +kernel
theorem d_r_feed_39 : decode prog_13_method_15_code 39 = .ok (.getfield 58, 3) := by decide +kernel
theorem d_r_feed_4 : decode prog_13_method_15_code 4 = .ok (.invokestatic 153, 3) := by decide +kernel
theorem d_r_feed_42 : decode prog_13_method_15_code 42 = .ok (.aload_n 0, 1) := by decide +kernel
theorem d_r_feed_43 : decode prog_13_method_15_code 43 = .ok (.getfield 192, 3) := by decide +kernel
theorem d_r_feed_46 : decode prog_13_method_15_code 46 = .ok (.lload_n 1, 1) := by decide +kernel
theorem d_r_feed_47 : decode prog_13_method_15_code 47 = .ok (.bipush 8, 2) := by decide +kernel
theorem d_r_feed_49 : decode prog_13_method_15_code 49 = .ok (.iload 4, 2) := by decide +kernel
theorem d_r_feed_51 : decode prog_13_method_15_code 51 = .ok (.imul, 1) := by decide +kernel
theorem d_r_feed_52 : decode prog_13_method_15_code 52 = .ok (.lshr, 1) := by decide +kernel
theorem d_r_feed_53 : decode prog_13_method_15_code 53 = .ok (.ldc2_w 198, 3) := by decide +kernel
theorem d_r_feed_56 : decode prog_13_method_15_code 56 = .ok (.land, 1) := by decide +kernel
theorem d_r_feed_57 : decode prog_13_method_15_code 57 = .ok (.l2i, 1) := by decide +kernel
theorem d_r_feed_58 : decode prog_13_method_15_code 58 = .ok (.iastore, 1) := by decide +kernel
theorem d_r_feed_59 : decode prog_13_method_15_code 59 = .ok (.aload_n 0, 1) := by decide +kernel
theorem d_r_feed_60 : decode prog_13_method_15_code 60 = .ok (.dup, 1) := by decide +kernel
theorem d_r_feed_61 : decode prog_13_method_15_code 61 = .ok (.getfield 192, 3) := by decide +kernel
theorem d_r_feed_64 : decode prog_13_method_15_code 64 = .ok (.iconst 1, 1) := by decide +kernel
theorem d_r_feed_65 : decode prog_13_method_15_code 65 = .ok (.iadd, 1) := by decide +kernel
theorem d_r_feed_66 : decode prog_13_method_15_code 66 = .ok (.putfield 192, 3) := by decide +kernel
theorem d_r_feed_69 : decode prog_13_method_15_code 69 = .ok (.iinc 4 (-1), 3) := by decide +kernel
theorem d_r_feed_7 : decode prog_13_method_15_code 7 = .ok (.ifCond .ne 6, 3) := by decide +kernel
theorem d_r_feed_72 : decode prog_13_method_15_code 72 = .ok (.goto (-39), 3) := by decide +kernel
theorem d_r_feed_75 : decode prog_13_method_15_code 75 = .ok (.aload_n 0, 1) := by decide +kernel
theorem d_r_feed_76 : decode prog_13_method_15_code 76 = .ok (.getfield 192, 3) := by decide +kernel
theorem d_r_feed_79 : decode prog_13_method_15_code 79 = .ok (.ireturn, 1) := by decide +kernel
theorem d_r_first_0 : decode prog_13_method_2_code 0 = .ok (.aload_n 0, 1) := by decide +kernel
theorem d_r_first_1 : decode prog_13_method_2_code 1 = .ok (.getfield 61, 3) := by decide +kernel
theorem d_r_first_11 : decode prog_13_method_2_code 11 = .ok (.iload_n 1, 1) := by decide +kernel
theorem d_r_first_12 : decode prog_13_method_2_code 12 = .ok (.iconst 1, 1) := by decide +kernel
theorem d_r_first_13 : decode prog_13_method_2_code 13 = .ok (.iadd, 1) := by decide +kernel
theorem d_r_first_14 : decode prog_13_method_2_code 14 = .ok (.iload_n 3, 1) := by decide +kernel
theorem d_r_first_15 : decode prog_13_method_2_code 15 = .ok (.iastore, 1) := by decide +kernel
theorem d_r_first_16 : decode prog_13_method_2_code 16 = .ok (.aload_n 0, 1) := by decide +kernel
theorem d_r_first_17 : decode prog_13_method_2_code 17 = .ok (.getfield 61, 3) := by decide +kernel
theorem d_r_first_20 : decode prog_13_method_2_code 20 = .ok (.iload_n 1, 1) := by decide +kernel
theorem d_r_first_21 : decode prog_13_method_2_code 21 = .ok (.iconst 2, 1) := by decide +kernel
theorem d_r_first_22 : decode prog_13_method_2_code 22 = .ok (.iadd, 1) := by decide +kernel
theorem d_r_first_23 : decode prog_13_method_2_code 23 = .ok (.iload 4, 2) := by decide +kernel
theorem d_r_first_25 : decode prog_13_method_2_code 25 = .ok (.iastore, 1) := by decide +kernel
theorem d_r_first_26 : decode prog_13_method_2_code 26 = .ok (.aload_n 0, 1) := by decide +kernel
theorem d_r_first_27 : decode prog_13_method_2_code 27 = .ok (.getfield 61, 3) := by decide +kernel
theorem d_r_first_30 : decode prog_13_method_2_code 30 = .ok (.iload_n 1, 1) := by decide +kernel
theorem d_r_first_31 : decode prog_13_method_2_code 31 = .ok (.iconst 3, 1) := by decide +kernel
theorem d_r_first_32 : decode prog_13_method_2_code 32 = .ok (.iadd, 1) := by decide +kernel
theorem d_r_first_33 : decode prog_13_method_2_code 33 = .ok (.iload 5, 2) := by decide +kernel
theorem d_r_first_35 : decode prog_13_method_2_code 35 = .ok (.iastore, 1) := by decide +kernel
theorem d_r_first_36 : decode prog_13_method_2_code 36 = .ok (.return_, 1) := by decide +kernel
theorem d_r_first_4 : decode prog_13_method_2_code 4 = .ok (.iload_n 1, 1) := by decide +kernel
theorem d_r_first_5 : decode prog_13_method_2_code 5 = .ok (.iload_n 2, 1) := by decide +kernel
theorem d_r_first_6 : decode prog_13_method_2_code 6 = .ok (.iastore, 1) := by decide +kernel
theorem d_r_first_7 : decode prog_13_method_2_code 7 = .ok (.aload_n 0, 1) := by decide +kernel
theorem d_r_first_8 : decode prog_13_method_2_code 8 = .ok (.getfield 61, 3) := by decide +kernel
theorem d_r_force_0 : decode prog_13_method_29_code 0 = .ok (.iload_n 1, 1) := by decide +kernel
theorem d_r_force_1 : decode prog_13_method_29_code 1 = .ok (.iconst 0, 1) := by decide +kernel
theorem d_r_force_11 : decode prog_13_method_29_code 11 = .ok (.ifCond .ne 6, 3) := by decide +kernel
theorem d_r_force_14 : decode prog_13_method_29_code 14 = .ok (.bipush (-2), 2) := by decide +kernel
theorem d_r_force_16 : decode prog_13_method_29_code 16 = .ok (.ireturn, 1) := by decide +kernel
theorem d_r_force_17 : decode prog_13_method_29_code 17 = .ok (.aload_n 0, 1) := by decide +kernel
theorem d_r_force_18 : decode prog_13_method_29_code 18 = .ok (.getfield 189, 3) := by decide +kernel
theorem d_r_force_2 : decode prog_13_method_29_code 2 = .ok (.aload_n 0, 1) := by decide +kernel
theorem d_r_force_21 : decode prog_13_method_29_code 21 = .ok (.istore_n 2, 1) := by decide +kernel
theorem d_r_force_22 : decode prog_13_method_29_code 22 = .ok (.aload_n 0, 1) := by decide +kernel
theorem d_r_force_23 : decode prog_13_method_29_code 23 = .ok (.iload_n 1, 1) := by decide +kernel
theorem d_r_force_24 : decode prog_13_method_29_code 24 = .ok (.putfield 189, 3) := by decide +kernel
theorem d_r_force_27 : decode prog_13_method_29_code 27 = .ok (.iload_n 2, 1) := by decide +kernel
theorem d_r_force_28 : decode prog_13_method_29_code 28 = .ok (.ireturn, 1) := by decide +kernel
theorem d_r_force_3 : decode prog_13_method_29_code 3 = .ok (.getfield 67, 3) := by decide +kernel
theorem d_r_force_6 : decode prog_13_method_29_code 6 = .ok (.iconst 1, 1) := by decide +kernel
theorem d_r_force_7 : decode prog_13_method_29_code 7 = .ok (.isub, 1) := by decide +kernel
theorem d_r_force_8 : decode prog_13_method_29_code 8 = .ok (.invokestatic 153, 3) := by decide +kernel
theorem d_r_forget_0 : decode prog_13_method_47_code 0 = .ok (.aload_n 0, 1) := by decide +kernel
theorem d_r_forget_1 : decode prog_13_method_47_code 1 = .ok (.getfield 183, 3) := by decide +kernel
theorem d_r_forget_10 : decode prog_13_method_47_code 10 = .ok (.aload_n 0, 1) := by decide +kernel
theorem d_r_forget_11 : decode prog_13_method_47_code 11 = .ok (.dup, 1) := by decide +kernel
theorem d_r_forget_12 : decode prog_13_method_47_code 12 = .ok (.getfield 183, 3) := by decide +kernel
theorem d_r_forget_15 : decode prog_13_method_47_code 15 = .ok (.iconst 1, 1) := by decide +kernel
theorem d_r_forget_16 : decode prog_13_method_47_code 16 = .ok (.isub, 1) := by decide +kernel
theorem d_r_forget_17 : decode prog_13_method_47_code 17 = .ok (.putfield 183, 3) := by decide +kernel
theorem d_r_forget_20 : decode prog_13_method_47_code 20 = .ok (.aload_n 0, 1) := by decide +kernel
theorem d_r_forget_21 : decode prog_13_method_47_code 21 = .ok (.getfield 183, 3) := by decide +kernel
theorem d_r_forget_24 : decode prog_13_method_47_code 24 = .ok (.ireturn, 1) := by decide +kernel
theorem d_r_forget_4 : decode prog_13_method_47_code 4 = .ok (.ifCond .ne 6, 3) := by decide +kernel
theorem d_r_forget_7 : decode prog_13_method_47_code 7 = .ok (.bipush (-3), 2) := by decide +kernel
theorem d_r_forget_9 : decode prog_13_method_47_code 9 = .ok (.ireturn, 1) := by decide +kernel
theorem d_r_fuse_0 : decode prog_13_method_10_code 0 = .ok (.iload_n 1, 1) := by decide +kernel
theorem d_r_fuse_1 : decode prog_13_method_10_code 1 = .ok (.iconst 0, 1) := by decide +kernel
theorem d_r_fuse_11 : decode prog_13_method_10_code 11 = .ok (.iload_n 2, 1) := by decide +kernel
theorem d_r_fuse_12 : decode prog_13_method_10_code 12 = .ok (.iconst 1, 1) := by decide +kernel
theorem d_r_fuse_13 : decode prog_13_method_10_code 13 = .ok (.bipush 99, 2) := by decide +kernel
theorem d_r_fuse_15 : decode prog_13_method_10_code 15 = .ok (.invokestatic 153, 3) := by decide +kernel
theorem d_r_fuse_18 : decode prog_13_method_10_code 18 = .ok (.ifCond .ne 6, 3) := by decide +kernel
theorem d_r_fuse_2 : decode prog_13_method_10_code 2 = .ok (.sipush 999, 3) := by decide +kernel
theorem d_r_fuse_21 : decode prog_13_method_10_code 21 = .ok (.bipush (-2), 2) := by decide +kernel
theorem d_r_fuse_23 : decode prog_13_method_10_code 23 = .ok (.ireturn, 1) := by decide +kernel
theorem d_r_fuse_24 : decode prog_13_method_10_code 24 = .ok (.aload_n 0, 1) := by decide +kernel
theorem d_r_fuse_25 : decode prog_13_method_10_code 25 = .ok (.getfield 160, 3) := by decide +kernel
theorem d_r_fuse_28 : decode prog_13_method_10_code 28 = .ok (.bipush 6, 2) := by decide +kernel
theorem d_r_fuse_30 : decode prog_13_method_10_code 30 = .ok (.if_icmp .ne 6, 3) := by decide +kernel
theorem d_r_fuse_33 : decode prog_13_method_10_code 33 = .ok (.bipush (-4), 2) := by decide +kernel
theorem d_r_fuse_35 : decode prog_13_method_10_code 35 = .ok (.ireturn, 1) := by decide +kernel
theorem d_r_fuse_36 : decode prog_13_method_10_code 36 = .ok (.aload_n 0, 1) := by decide +kernel
theorem d_r_fuse_37 : decode prog_13_method_10_code 37 = .ok (.getfield 7, 3) := by decide +kernel
theorem d_r_fuse_40 : decode prog_13_method_10_code 40 = .ok (.aload_n 0, 1) := by decide +kernel
theorem d_r_fuse_41 : decode prog_13_method_10_code 41 = .ok (.getfield 160, 3) := by decide +kernel
theorem d_r_fuse_44 : decode prog_13_method_10_code 44 = .ok (.iload_n 1, 1) := by decide +kernel
theorem d_r_fuse_45 : decode prog_13_method_10_code 45 = .ok (.iastore, 1) := by decide +kernel
theorem d_r_fuse_46 : decode prog_13_method_10_code 46 = .ok (.aload_n 0, 1) := by decide +kernel
theorem d_r_fuse_47 : decode prog_13_method_10_code 47 = .ok (.getfield 13, 3) := by decide +kernel
theorem d_r_fuse_5 : decode prog_13_method_10_code 5 = .ok (.invokestatic 153, 3) := by decide +kernel
theorem d_r_fuse_50 : decode prog_13_method_10_code 50 = .ok (.aload_n 0, 1) := by decide +kernel
theorem d_r_fuse_51 : decode prog_13_method_10_code 51 = .ok (.getfield 160, 3) := by decide +kernel
theorem d_r_fuse_54 : decode prog_13_method_10_code 54 = .ok (.iload_n 2, 1) := by decide +kernel
theorem d_r_fuse_55 : decode prog_13_method_10_code 55 = .ok (.iastore, 1) := by decide +kernel
theorem d_r_fuse_56 : decode prog_13_method_10_code 56 = .ok (.aload_n 0, 1) := by decide +kernel
theorem d_r_fuse_57 : decode prog_13_method_10_code 57 = .ok (.dup, 1) := by decide +kernel
theorem d_r_fuse_58 : decode prog_13_method_10_code 58 = .ok (.getfield 160, 3) := by decide +kernel
theorem d_r_fuse_61 : decode prog_13_method_10_code 61 = .ok (.iconst 1, 1) := by decide +kernel
theorem d_r_fuse_62 : decode prog_13_method_10_code 62 = .ok (.iadd, 1) := by decide +kernel
theorem d_r_fuse_63 : decode prog_13_method_10_code 63 = .ok (.putfield 160, 3) := by decide +kernel
theorem d_r_fuse_66 : decode prog_13_method_10_code 66 = .ok (.aload_n 0, 1) := by decide +kernel
theorem d_r_fuse_67 : decode prog_13_method_10_code 67 = .ok (.getfield 160, 3) := by decide +kernel
theorem d_r_fuse_70 : decode prog_13_method_10_code 70 = .ok (.iconst 1, 1) := by decide +kernel
theorem d_r_fuse_71 : decode prog_13_method_10_code 71 = .ok (.isub, 1) := by decide +kernel
theorem d_r_fuse_72 : decode prog_13_method_10_code 72 = .ok (.ireturn, 1) := by decide +kernel
theorem d_r_fuse_8 : decode prog_13_method_10_code 8 = .ok (.ifCond .eq 13, 3) := by decide +kernel
theorem d_r_greatest_0 : decode prog_13_method_58_code 0 = .ok (.aload_n 0, 1) := by decide +kernel
theorem d_r_greatest_1 : decode prog_13_method_58_code 1 = .ok (.iload_n 1, 1) := by decide +kernel
theorem d_r_greatest_11 : decode prog_13_method_58_code 11 = .ok (.iconst 0, 1) := by decide +kernel
theorem d_r_greatest_12 : decode prog_13_method_58_code 12 = .ok (.istore 5, 2) := by decide +kernel
theorem d_r_greatest_14 : decode prog_13_method_58_code 14 = .ok (.iload 5, 2) := by decide +kernel
theorem d_r_greatest_16 : decode prog_13_method_58_code 16 = .ok (.aload_n 0, 1) := by decide +kernel
theorem d_r_greatest_17 : decode prog_13_method_58_code 17 = .ok (.getfield 157, 3) := by decide +kernel
theorem d_r_greatest_2 : decode prog_13_method_58_code 2 = .ok (.iload_n 2, 1) := by decide +kernel
theorem d_r_greatest_20 : decode prog_13_method_58_code 20 = .ok (.if_icmp .ge 51, 3) := by decide +kernel
theorem d_r_greatest_23 : decode prog_13_method_58_code 23 = .ok (.iload_n 1, 1) := by decide +kernel
theorem d_r_greatest_24 : decode prog_13_method_58_code 24 = .ok (.iload 5, 2) := by decide +kernel
theorem d_r_greatest_26 : decode prog_13_method_58_code 26 = .ok (.ishr, 1) := by decide +kernel
theorem d_r_greatest_27 : decode prog_13_method_58_code 27 = .ok (.iconst 1, 1) := by decide +kernel
theorem d_r_greatest_28 : decode prog_13_method_58_code 28 = .ok (.iand, 1) := by decide +kernel
theorem d_r_greatest_29 : decode prog_13_method_58_code 29 = .ok (.iconst 1, 1) := by decide +kernel
theorem d_r_greatest_3 : decode prog_13_method_58_code 3 = .ok (.iload_n 3, 1) := by decide +kernel
theorem d_r_greatest_30 : decode prog_13_method_58_code 30 = .ok (.if_icmp .ne 16, 3) := by decide +kernel
theorem d_r_greatest_33 : decode prog_13_method_58_code 33 = .ok (.aload_n 0, 1) := by decide +kernel
theorem d_r_greatest_34 : decode prog_13_method_58_code 34 = .ok (.iload_n 1, 1) := by decide +kernel
theorem d_r_greatest_35 : decode prog_13_method_58_code 35 = .ok (.iload 5, 2) := by decide +kernel
theorem d_r_greatest_37 : decode prog_13_method_58_code 37 = .ok (.invokevirtual 317, 3) := by decide +kernel
theorem d_r_greatest_4 : decode prog_13_method_58_code 4 = .ok (.invokevirtual 314, 3) := by decide +kernel
theorem d_r_greatest_40 : decode prog_13_method_58_code 40 = .ok (.invokestatic 305, 3) := by decide +kernel
theorem d_r_greatest_43 : decode prog_13_method_58_code 43 = .ok (.goto 4, 3) := by decide +kernel
theorem d_r_greatest_46 : decode prog_13_method_58_code 46 = .ok (.iconst 0, 1) := by decide +kernel
theorem d_r_greatest_47 : decode prog_13_method_58_code 47 = .ok (.istore 6, 2) := by decide +kernel
theorem d_r_greatest_49 : decode prog_13_method_58_code 49 = .ok (.iload 6, 2) := by decide +kernel
theorem d_r_greatest_51 : decode prog_13_method_58_code 51 = .ok (.iload 4, 2) := by decide +kernel
theorem d_r_greatest_53 : decode prog_13_method_58_code 53 = .ok (.if_icmp .le 8, 3) := by decide +kernel
theorem d_r_greatest_56 : decode prog_13_method_58_code 56 = .ok (.iload 6, 2) := by decide +kernel
theorem d_r_greatest_58 : decode prog_13_method_58_code 58 = .ok (.goto 5, 3) := by decide +kernel
theorem d_r_greatest_61 : decode prog_13_method_58_code 61 = .ok (.iload 4, 2) := by decide +kernel
theorem d_r_greatest_63 : decode prog_13_method_58_code 63 = .ok (.istore 4, 2) := by decide +kernel
theorem d_r_greatest_65 : decode prog_13_method_58_code 65 = .ok (.iinc 5 1, 3) := by decide +kernel
theorem d_r_greatest_68 : decode prog_13_method_58_code 68 = .ok (.goto (-54), 3) := by decide +kernel
theorem d_r_greatest_7 : decode prog_13_method_58_code 7 = .ok (.pop, 1) := by decide +kernel
theorem d_r_greatest_71 : decode prog_13_method_58_code 71 = .ok (.iload 4, 2) := by decide +kernel
theorem d_r_greatest_73 : decode prog_13_method_58_code 73 = .ok (.ireturn, 1) := by decide +kernel
theorem d_r_greatest_8 : decode prog_13_method_58_code 8 = .ok (.iconst 0, 1) := by decide +kernel
theorem d_r_greatest_9 : decode prog_13_method_58_code 9 = .ok (.istore 4, 2) := by decide +kernel
theorem d_r_grey_0 : decode prog_13_method_67_code 0 = .ok (.iconst 0, 1) := by decide +kernel
theorem d_r_grey_1 : decode prog_13_method_67_code 1 = .ok (.istore_n 1, 1) := by decide +kernel
theorem d_r_grey_12 : decode prog_13_method_67_code 12 = .ok (.iload_n 1, 1) := by decide +kernel
theorem d_r_grey_13 : decode prog_13_method_67_code 13 = .ok (.aload_n 0, 1) := by decide +kernel
theorem d_r_grey_14 : decode prog_13_method_67_code 14 = .ok (.iload_n 2, 1) := by decide +kernel
theorem d_r_grey_15 : decode prog_13_method_67_code 15 = .ok (.invokevirtual 329, 3) := by decide +kernel
theorem d_r_grey_18 : decode prog_13_method_67_code 18 = .ok (.ifCond .ge 9, 3) := by decide +kernel
theorem d_r_grey_2 : decode prog_13_method_67_code 2 = .ok (.iconst 0, 1) := by decide +kernel
theorem d_r_grey_21 : decode prog_13_method_67_code 21 = .ok (.iconst 1, 1) := by decide +kernel
theorem d_r_grey_22 : decode prog_13_method_67_code 22 = .ok (.iload_n 2, 1) := by decide +kernel
theorem d_r_grey_23 : decode prog_13_method_67_code 23 = .ok (.ishl, 1) := by decide +kernel
theorem d_r_grey_24 : decode prog_13_method_67_code 24 = .ok (.goto 4, 3) := by decide +kernel
theorem d_r_grey_27 : decode prog_13_method_67_code 27 = .ok (.iconst 0, 1) := by decide +kernel
theorem d_r_grey_28 : decode prog_13_method_67_code 28 = .ok (.ior, 1) := by decide +kernel
theorem d_r_grey_29 : decode prog_13_method_67_code 29 = .ok (.istore_n 1, 1) := by decide +kernel
theorem d_r_grey_3 : decode prog_13_method_67_code 3 = .ok (.istore_n 2, 1) := by decide +kernel
theorem d_r_grey_30 : decode prog_13_method_67_code 30 = .ok (.iinc 2 1, 3) := by decide +kernel
theorem d_r_grey_33 : decode prog_13_method_67_code 33 = .ok (.goto (-29), 3) := by decide +kernel
theorem d_r_grey_36 : decode prog_13_method_67_code 36 = .ok (.iload_n 1, 1) := by decide +kernel
theorem d_r_grey_37 : decode prog_13_method_67_code 37 = .ok (.ireturn, 1) := by decide +kernel
theorem d_r_grey_4 : decode prog_13_method_67_code 4 = .ok (.iload_n 2, 1) := by decide +kernel
theorem d_r_grey_5 : decode prog_13_method_67_code 5 = .ok (.aload_n 0, 1) := by decide +kernel
theorem d_r_grey_6 : decode prog_13_method_67_code 6 = .ok (.getfield 150, 3) := by decide +kernel
theorem d_r_grey_9 : decode prog_13_method_67_code 9 = .ok (.if_icmp .ge 27, 3) := by decide +kernel
theorem d_r_holds_0 : decode prog_13_method_21_code 0 = .ok (.aload_n 0, 1) := by decide +kernel
theorem d_r_holds_1 : decode prog_13_method_21_code 1 = .ok (.getfield 123, 3) := by decide +kernel
theorem d_r_holds_10 : decode prog_13_method_21_code 10 = .ok (.aload_n 0, 1) := by decide +kernel
theorem d_r_holds_11 : decode prog_13_method_21_code 11 = .ok (.dup, 1) := by decide +kernel
theorem d_r_holds_12 : decode prog_13_method_21_code 12 = .ok (.getfield 219, 3) := by decide +kernel
theorem d_r_holds_15 : decode prog_13_method_21_code 15 = .ok (.iconst 1, 1) := by decide +kernel
theorem d_r_holds_16 : decode prog_13_method_21_code 16 = .ok (.iadd, 1) := by decide +kernel
theorem d_r_holds_17 : decode prog_13_method_21_code 17 = .ok (.putfield 219, 3) := by decide +kernel
theorem d_r_holds_20 : decode prog_13_method_21_code 20 = .ok (.return_, 1) := by decide +kernel
theorem d_r_holds_4 : decode prog_13_method_21_code 4 = .ok (.aload_n 0, 1) := by decide +kernel
theorem d_r_holds_5 : decode prog_13_method_21_code 5 = .ok (.getfield 219, 3) := by decide +kernel
theorem d_r_holds_8 : decode prog_13_method_21_code 8 = .ok (.iload_n 1, 1) := by decide +kernel
theorem d_r_holds_9 : decode prog_13_method_21_code 9 = .ok (.iastore, 1) := by decide +kernel
theorem d_r_house_0 : decode prog_13_method_32_code 0 = .ok (.aload_n 0, 1) := by decide +kernel
theorem d_r_house_1 : decode prog_13_method_32_code 1 = .ok (.iload_n 1, 1) := by decide +kernel
theorem d_r_house_10 : decode prog_13_method_32_code 10 = .ok (.iload_n 2, 1) := by decide +kernel
theorem d_r_house_11 : decode prog_13_method_32_code 11 = .ok (.ireturn, 1) := by decide +kernel
theorem d_r_house_12 : decode prog_13_method_32_code 12 = .ok (.aload_n 0, 1) := by decide +kernel
theorem d_r_house_13 : decode prog_13_method_32_code 13 = .ok (.getfield 157, 3) := by decide +kernel
theorem d_r_house_16 : decode prog_13_method_32_code 16 = .ok (.bipush 12, 2) := by decide +kernel
theorem d_r_house_18 : decode prog_13_method_32_code 18 = .ok (.if_icmp .ne 6, 3) := by decide +kernel
theorem d_r_house_2 : decode prog_13_method_32_code 2 = .ok (.invokevirtual 263, 3) := by decide +kernel
theorem d_r_house_21 : decode prog_13_method_32_code 21 = .ok (.bipush (-4), 2) := by decide +kernel
theorem d_r_house_23 : decode prog_13_method_32_code 23 = .ok (.ireturn, 1) := by decide +kernel
theorem d_r_house_24 : decode prog_13_method_32_code 24 = .ok (.iconst 0, 1) := by decide +kernel
theorem d_r_house_25 : decode prog_13_method_32_code 25 = .ok (.istore_n 3, 1) := by decide +kernel
theorem d_r_house_26 : decode prog_13_method_32_code 26 = .ok (.iload_n 3, 1) := by decide +kernel
theorem d_r_house_27 : decode prog_13_method_32_code 27 = .ok (.aload_n 0, 1) := by decide +kernel
theorem d_r_house_28 : decode prog_13_method_32_code 28 = .ok (.getfield 150, 3) := by decide +kernel
theorem d_r_house_31 : decode prog_13_method_32_code 31 = .ok (.if_icmp .ge 34, 3) := by decide +kernel
theorem d_r_house_34 : decode prog_13_method_32_code 34 = .ok (.aload_n 0, 1) := by decide +kernel
theorem d_r_house_35 : decode prog_13_method_32_code 35 = .ok (.getfield 34, 3) := by decide +kernel
theorem d_r_house_38 : decode prog_13_method_32_code 38 = .ok (.bipush 10, 2) := by decide +kernel
theorem d_r_house_40 : decode prog_13_method_32_code 40 = .ok (.aload_n 0, 1) := by decide +kernel
theorem d_r_house_41 : decode prog_13_method_32_code 41 = .ok (.getfield 157, 3) := by decide +kernel
theorem d_r_house_44 : decode prog_13_method_32_code 44 = .ok (.imul, 1) := by decide +kernel
theorem d_r_house_45 : decode prog_13_method_32_code 45 = .ok (.iload_n 3, 1) := by decide +kernel
theorem d_r_house_46 : decode prog_13_method_32_code 46 = .ok (.iadd, 1) := by decide +kernel
theorem d_r_house_47 : decode prog_13_method_32_code 47 = .ok (.aload_n 0, 1) := by decide +kernel
theorem d_r_house_48 : decode prog_13_method_32_code 48 = .ok (.getfield 92, 3) := by decide +kernel
theorem d_r_house_5 : decode prog_13_method_32_code 5 = .ok (.istore_n 2, 1) := by decide +kernel
theorem d_r_house_51 : decode prog_13_method_32_code 51 = .ok (.bipush 40, 2) := by decide +kernel
theorem d_r_house_53 : decode prog_13_method_32_code 53 = .ok (.iload_n 1, 1) := by decide +kernel
theorem d_r_house_54 : decode prog_13_method_32_code 54 = .ok (.imul, 1) := by decide +kernel
theorem d_r_house_55 : decode prog_13_method_32_code 55 = .ok (.iload_n 3, 1) := by decide +kernel
theorem d_r_house_56 : decode prog_13_method_32_code 56 = .ok (.iadd, 1) := by decide +kernel
theorem d_r_house_57 : decode prog_13_method_32_code 57 = .ok (.iaload, 1) := by decide +kernel
theorem d_r_house_58 : decode prog_13_method_32_code 58 = .ok (.iastore, 1) := by decide +kernel
theorem d_r_house_59 : decode prog_13_method_32_code 59 = .ok (.iinc 3 1, 3) := by decide +kernel
theorem d_r_house_6 : decode prog_13_method_32_code 6 = .ok (.iload_n 2, 1) := by decide +kernel
theorem d_r_house_62 : decode prog_13_method_32_code 62 = .ok (.goto (-36), 3) := by decide +kernel
theorem d_r_house_65 : decode prog_13_method_32_code 65 = .ok (.aload_n 0, 1) := by decide +kernel
theorem d_r_house_66 : decode prog_13_method_32_code 66 = .ok (.dup, 1) := by decide +kernel
theorem d_r_house_67 : decode prog_13_method_32_code 67 = .ok (.getfield 157, 3) := by decide +kernel
theorem d_r_house_7 : decode prog_13_method_32_code 7 = .ok (.ifCond .eq 5, 3) := by decide +kernel
theorem d_r_house_70 : decode prog_13_method_32_code 70 = .ok (.iconst 1, 1) := by decide +kernel
theorem d_r_house_71 : decode prog_13_method_32_code 71 = .ok (.iadd, 1) := by decide +kernel
theorem d_r_house_72 : decode prog_13_method_32_code 72 = .ok (.putfield 157, 3) := by decide +kernel
theorem d_r_house_75 : decode prog_13_method_32_code 75 = .ok (.aload_n 0, 1) := by decide +kernel
theorem d_r_house_76 : decode prog_13_method_32_code 76 = .ok (.getfield 157, 3) := by decide +kernel
theorem d_r_house_79 : decode prog_13_method_32_code 79 = .ok (.iconst 1, 1) := by decide +kernel
theorem d_r_house_80 : decode prog_13_method_32_code 80 = .ok (.isub, 1) := by decide +kernel
theorem d_r_house_81 : decode prog_13_method_32_code 81 = .ok (.ireturn, 1) := by decide +kernel
theorem d_r_image_0 : decode prog_13_method_96_code 0 = .ok (.aload_n 0, 1) := by decide +kernel
theorem d_r_image_1 : decode prog_13_method_96_code 1 = .ok (.iconst 1, 1) := by decide +kernel
theorem d_r_image_10 : decode prog_13_method_96_code 10 = .ok (.putfield 374, 3) := by decide +kernel
theorem d_r_image_101 : decode prog_13_method_96_code 101 = .ok (.iload_n 1, 1) := by decide +kernel
theorem d_r_image_102 : decode prog_13_method_96_code 102 = .ok (.aload_n 0, 1) := by decide +kernel
theorem d_r_image_103 : decode prog_13_method_96_code 103 = .ok (.getfield 46, 3) := by decide +kernel
theorem d_r_image_106 : decode prog_13_method_96_code 106 = .ok (.iload_n 1, 1) := by decide +kernel
theorem d_r_image_107 : decode prog_13_method_96_code 107 = .ok (.iaload, 1) := by decide +kernel
theorem d_r_image_108 : decode prog_13_method_96_code 108 = .ok (.iastore, 1) := by decide +kernel
theorem d_r_image_109 : decode prog_13_method_96_code 109 = .ok (.aload_n 0, 1) := by decide +kernel
theorem d_r_image_110 : decode prog_13_method_96_code 110 = .ok (.getfield 83, 3) := by decide +kernel
theorem d_r_image_113 : decode prog_13_method_96_code 113 = .ok (.iload_n 1, 1) := by decide +kernel
theorem d_r_image_114 : decode prog_13_method_96_code 114 = .ok (.aload_n 0, 1) := by decide +kernel
theorem d_r_image_115 : decode prog_13_method_96_code 115 = .ok (.getfield 49, 3) := by decide +kernel
theorem d_r_image_118 : decode prog_13_method_96_code 118 = .ok (.iload_n 1, 1) := by decide +kernel
theorem d_r_image_119 : decode prog_13_method_96_code 119 = .ok (.iaload, 1) := by decide +kernel
theorem d_r_image_120 : decode prog_13_method_96_code 120 = .ok (.iastore, 1) := by decide +kernel
theorem d_r_image_121 : decode prog_13_method_96_code 121 = .ok (.iinc 1 1, 3) := by decide +kernel
theorem d_r_image_124 : decode prog_13_method_96_code 124 = .ok (.goto (-69), 3) := by decide +kernel
theorem d_r_image_127 : decode prog_13_method_96_code 127 = .ok (.aload_n 0, 1) := by decide +kernel
theorem d_r_image_128 : decode prog_13_method_96_code 128 = .ok (.getfield 183, 3) := by decide +kernel
theorem d_r_image_13 : decode prog_13_method_96_code 13 = .ok (.aload_n 0, 1) := by decide +kernel
theorem d_r_image_131 : decode prog_13_method_96_code 131 = .ok (.ireturn, 1) := by decide +kernel
theorem d_r_image_14 : decode prog_13_method_96_code 14 = .ok (.aload_n 0, 1) := by decide +kernel
theorem d_r_image_15 : decode prog_13_method_96_code 15 = .ok (.getfield 174, 3) := by decide +kernel
theorem d_r_image_18 : decode prog_13_method_96_code 18 = .ok (.putfield 377, 3) := by decide +kernel
theorem d_r_image_2 : decode prog_13_method_96_code 2 = .ok (.putfield 370, 3) := by decide +kernel
theorem d_r_image_21 : decode prog_13_method_96_code 21 = .ok (.aload_n 0, 1) := by decide +kernel
theorem d_r_image_22 : decode prog_13_method_96_code 22 = .ok (.aload_n 0, 1) := by decide +kernel
theorem d_r_image_23 : decode prog_13_method_96_code 23 = .ok (.getfield 177, 3) := by decide +kernel
theorem d_r_image_26 : decode prog_13_method_96_code 26 = .ok (.putfield 380, 3) := by decide +kernel
theorem d_r_image_29 : decode prog_13_method_96_code 29 = .ok (.aload_n 0, 1) := by decide +kernel
theorem d_r_image_30 : decode prog_13_method_96_code 30 = .ok (.aload_n 0, 1) := by decide +kernel
theorem d_r_image_31 : decode prog_13_method_96_code 31 = .ok (.getfield 180, 3) := by decide +kernel
theorem d_r_image_34 : decode prog_13_method_96_code 34 = .ok (.putfield 383, 3) := by decide +kernel
theorem d_r_image_37 : decode prog_13_method_96_code 37 = .ok (.aload_n 0, 1) := by decide +kernel
theorem d_r_image_38 : decode prog_13_method_96_code 38 = .ok (.aload_n 0, 1) := by decide +kernel
theorem d_r_image_39 : decode prog_13_method_96_code 39 = .ok (.getfield 183, 3) := by decide +kernel
theorem d_r_image_42 : decode prog_13_method_96_code 42 = .ok (.putfield 386, 3) := by decide +kernel
theorem d_r_image_45 : decode prog_13_method_96_code 45 = .ok (.aload_n 0, 1) := by decide +kernel
theorem d_r_image_46 : decode prog_13_method_96_code 46 = .ok (.aload_n 0, 1) := by decide +kernel
theorem d_r_image_47 : decode prog_13_method_96_code 47 = .ok (.getfield 189, 3) := by decide +kernel
theorem d_r_image_5 : decode prog_13_method_96_code 5 = .ok (.aload_n 0, 1) := by decide +kernel
theorem d_r_image_50 : decode prog_13_method_96_code 50 = .ok (.putfield 389, 3) := by decide +kernel
theorem d_r_image_53 : decode prog_13_method_96_code 53 = .ok (.iconst 0, 1) := by decide +kernel
theorem d_r_image_54 : decode prog_13_method_96_code 54 = .ok (.istore_n 1, 1) := by decide +kernel
theorem d_r_image_55 : decode prog_13_method_96_code 55 = .ok (.iload_n 1, 1) := by decide +kernel
theorem d_r_image_56 : decode prog_13_method_96_code 56 = .ok (.bipush 10, 2) := by decide +kernel
theorem d_r_image_58 : decode prog_13_method_96_code 58 = .ok (.if_icmp .ge 69, 3) := by decide +kernel
theorem d_r_image_6 : decode prog_13_method_96_code 6 = .ok (.aload_n 0, 1) := by decide +kernel
theorem d_r_image_61 : decode prog_13_method_96_code 61 = .ok (.aload_n 0, 1) := by decide +kernel
theorem d_r_image_62 : decode prog_13_method_96_code 62 = .ok (.getfield 71, 3) := by decide +kernel
theorem d_r_image_65 : decode prog_13_method_96_code 65 = .ok (.iload_n 1, 1) := by decide +kernel
theorem d_r_image_66 : decode prog_13_method_96_code 66 = .ok (.aload_n 0, 1) := by decide +kernel
theorem d_r_image_67 : decode prog_13_method_96_code 67 = .ok (.getfield 37, 3) := by decide +kernel
theorem d_r_image_7 : decode prog_13_method_96_code 7 = .ok (.getfield 171, 3) := by decide +kernel
theorem d_r_image_70 : decode prog_13_method_96_code 70 = .ok (.iload_n 1, 1) := by decide +kernel
theorem d_r_image_71 : decode prog_13_method_96_code 71 = .ok (.iaload, 1) := by decide +kernel
theorem d_r_image_72 : decode prog_13_method_96_code 72 = .ok (.iastore, 1) := by decide +kernel
theorem d_r_image_73 : decode prog_13_method_96_code 73 = .ok (.aload_n 0, 1) := by decide +kernel
theorem d_r_image_74 : decode prog_13_method_96_code 74 = .ok (.getfield 74, 3) := by decide +kernel
theorem d_r_image_77 : decode prog_13_method_96_code 77 = .ok (.iload_n 1, 1) := by decide +kernel
theorem d_r_image_78 : decode prog_13_method_96_code 78 = .ok (.aload_n 0, 1) := by decide +kernel
theorem d_r_image_79 : decode prog_13_method_96_code 79 = .ok (.getfield 40, 3) := by decide +kernel
theorem d_r_image_82 : decode prog_13_method_96_code 82 = .ok (.iload_n 1, 1) := by decide +kernel
theorem d_r_image_83 : decode prog_13_method_96_code 83 = .ok (.iaload, 1) := by decide +kernel
theorem d_r_image_84 : decode prog_13_method_96_code 84 = .ok (.iastore, 1) := by decide +kernel
theorem d_r_image_85 : decode prog_13_method_96_code 85 = .ok (.aload_n 0, 1) := by decide +kernel
theorem d_r_image_86 : decode prog_13_method_96_code 86 = .ok (.getfield 77, 3) := by decide +kernel
theorem d_r_image_89 : decode prog_13_method_96_code 89 = .ok (.iload_n 1, 1) := by decide +kernel
theorem d_r_image_90 : decode prog_13_method_96_code 90 = .ok (.aload_n 0, 1) := by decide +kernel
theorem d_r_image_91 : decode prog_13_method_96_code 91 = .ok (.getfield 43, 3) := by decide +kernel
theorem d_r_image_94 : decode prog_13_method_96_code 94 = .ok (.iload_n 1, 1) := by decide +kernel
theorem d_r_image_95 : decode prog_13_method_96_code 95 = .ok (.iaload, 1) := by decide +kernel
theorem d_r_image_96 : decode prog_13_method_96_code 96 = .ok (.iastore, 1) := by decide +kernel
theorem d_r_image_97 : decode prog_13_method_96_code 97 = .ok (.aload_n 0, 1) := by decide +kernel
theorem d_r_image_98 : decode prog_13_method_96_code 98 = .ok (.getfield 80, 3) := by decide +kernel
theorem d_r_in_0 : decode prog_13_method_4_code 0 = .ok (.iload_n 0, 1) := by decide +kernel
theorem d_r_in_1 : decode prog_13_method_4_code 1 = .ok (.iload_n 1, 1) := by decide +kernel
theorem d_r_in_10 : decode prog_13_method_4_code 10 = .ok (.iconst 1, 1) := by decide +kernel
theorem d_r_in_11 : decode prog_13_method_4_code 11 = .ok (.goto 4, 3) := by decide +kernel
theorem d_r_in_14 : decode prog_13_method_4_code 14 = .ok (.iconst 0, 1) := by decide +kernel
theorem d_r_in_15 : decode prog_13_method_4_code 15 = .ok (.ireturn, 1) := by decide +kernel
theorem d_r_in_2 : decode prog_13_method_4_code 2 = .ok (.if_icmp .lt 12, 3) := by decide +kernel
theorem d_r_in_5 : decode prog_13_method_4_code 5 = .ok (.iload_n 0, 1) := by decide +kernel
theorem d_r_in_6 : decode prog_13_method_4_code 6 = .ok (.iload_n 2, 1) := by decide +kernel
theorem d_r_in_7 : decode prog_13_method_4_code 7 = .ok (.if_icmp .gt 7, 3) := by decide +kernel
theorem d_r_init_0 : decode prog_13_method_1_code 0 = .ok (.aload_n 0, 1) := by decide +kernel
theorem d_r_init_1 : decode prog_13_method_1_code 1 = .ok (.invokespecial 1, 3) := by decide +kernel
theorem d_r_init_100 : decode prog_13_method_1_code 100 = .ok (.aload_n 0, 1) := by decide +kernel
theorem d_r_init_101 : decode prog_13_method_1_code 101 = .ok (.bipush 10, 2) := by decide +kernel
theorem d_r_init_103 : decode prog_13_method_1_code 103 = .ok (.newarray .int, 2) := by decide +kernel
theorem d_r_init_105 : decode prog_13_method_1_code 105 = .ok (.putfield 46, 3) := by decide +kernel
theorem d_r_init_108 : decode prog_13_method_1_code 108 = .ok (.aload_n 0, 1) := by decide +kernel
theorem d_r_init_109 : decode prog_13_method_1_code 109 = .ok (.bipush 10, 2) := by decide +kernel
theorem d_r_init_111 : decode prog_13_method_1_code 111 = .ok (.newarray .int, 2) := by decide +kernel
theorem d_r_init_113 : decode prog_13_method_1_code 113 = .ok (.putfield 49, 3) := by decide +kernel
theorem d_r_init_116 : decode prog_13_method_1_code 116 = .ok (.aload_n 0, 1) := by decide +kernel
theorem d_r_init_117 : decode prog_13_method_1_code 117 = .ok (.iconst 4, 1) := by decide +kernel
theorem d_r_init_118 : decode prog_13_method_1_code 118 = .ok (.newarray .int, 2) := by decide +kernel
theorem d_r_init_12 : decode prog_13_method_1_code 12 = .ok (.aload_n 0, 1) := by decide +kernel
theorem d_r_init_120 : decode prog_13_method_1_code 120 = .ok (.putfield 52, 3) := by decide +kernel
theorem d_r_init_123 : decode prog_13_method_1_code 123 = .ok (.aload_n 0, 1) := by decide +kernel
theorem d_r_init_124 : decode prog_13_method_1_code 124 = .ok (.bipush 40, 2) := by decide +kernel
theorem d_r_init_126 : decode prog_13_method_1_code 126 = .ok (.newarray .int, 2) := by decide +kernel
theorem d_r_init_128 : decode prog_13_method_1_code 128 = .ok (.putfield 55, 3) := by decide +kernel
theorem d_r_init_13 : decode prog_13_method_1_code 13 = .ok (.bipush 6, 2) := by decide +kernel
theorem d_r_init_131 : decode prog_13_method_1_code 131 = .ok (.aload_n 0, 1) := by decide +kernel
theorem d_r_init_132 : decode prog_13_method_1_code 132 = .ok (.sipush 160, 3) := by decide +kernel
theorem d_r_init_135 : decode prog_13_method_1_code 135 = .ok (.newarray .int, 2) := by decide +kernel
theorem d_r_init_137 : decode prog_13_method_1_code 137 = .ok (.putfield 58, 3) := by decide +kernel
theorem d_r_init_140 : decode prog_13_method_1_code 140 = .ok (.aload_n 0, 1) := by decide +kernel
theorem d_r_init_141 : decode prog_13_method_1_code 141 = .ok (.sipush 1200, 3) := by decide +kernel
theorem d_r_init_144 : decode prog_13_method_1_code 144 = .ok (.newarray .int, 2) := by decide +kernel
theorem d_r_init_146 : decode prog_13_method_1_code 146 = .ok (.putfield 61, 3) := by decide +kernel
theorem d_r_init_149 : decode prog_13_method_1_code 149 = .ok (.aload_n 0, 1) := by decide +kernel
theorem d_r_init_15 : decode prog_13_method_1_code 15 = .ok (.newarray .int, 2) := by decide +kernel
theorem d_r_init_150 : decode prog_13_method_1_code 150 = .ok (.bipush 24, 2) := by decide +kernel
theorem d_r_init_152 : decode prog_13_method_1_code 152 = .ok (.newarray .int, 2) := by decide +kernel
theorem d_r_init_154 : decode prog_13_method_1_code 154 = .ok (.putfield 64, 3) := by decide +kernel
theorem d_r_init_157 : decode prog_13_method_1_code 157 = .ok (.aload_n 0, 1) := by decide +kernel
theorem d_r_init_158 : decode prog_13_method_1_code 158 = .ok (.iconst 1, 1) := by decide +kernel
theorem d_r_init_159 : decode prog_13_method_1_code 159 = .ok (.putfield 67, 3) := by decide +kernel
theorem d_r_init_162 : decode prog_13_method_1_code 162 = .ok (.aload_n 0, 1) := by decide +kernel
theorem d_r_init_163 : decode prog_13_method_1_code 163 = .ok (.bipush 10, 2) := by decide +kernel
theorem d_r_init_165 : decode prog_13_method_1_code 165 = .ok (.newarray .int, 2) := by decide +kernel
theorem d_r_init_167 : decode prog_13_method_1_code 167 = .ok (.putfield 71, 3) := by decide +kernel
theorem d_r_init_17 : decode prog_13_method_1_code 17 = .ok (.putfield 13, 3) := by decide +kernel
theorem d_r_init_170 : decode prog_13_method_1_code 170 = .ok (.aload_n 0, 1) := by decide +kernel
theorem d_r_init_171 : decode prog_13_method_1_code 171 = .ok (.bipush 10, 2) := by decide +kernel
theorem d_r_init_173 : decode prog_13_method_1_code 173 = .ok (.newarray .int, 2) := by decide +kernel
theorem d_r_init_175 : decode prog_13_method_1_code 175 = .ok (.putfield 74, 3) := by decide +kernel
theorem d_r_init_178 : decode prog_13_method_1_code 178 = .ok (.aload_n 0, 1) := by decide +kernel
theorem d_r_init_179 : decode prog_13_method_1_code 179 = .ok (.bipush 10, 2) := by decide +kernel
theorem d_r_init_181 : decode prog_13_method_1_code 181 = .ok (.newarray .int, 2) := by decide +kernel
theorem d_r_init_183 : decode prog_13_method_1_code 183 = .ok (.putfield 77, 3) := by decide +kernel
theorem d_r_init_186 : decode prog_13_method_1_code 186 = .ok (.aload_n 0, 1) := by decide +kernel
theorem d_r_init_187 : decode prog_13_method_1_code 187 = .ok (.bipush 10, 2) := by decide +kernel
theorem d_r_init_189 : decode prog_13_method_1_code 189 = .ok (.newarray .int, 2) := by decide +kernel
theorem d_r_init_191 : decode prog_13_method_1_code 191 = .ok (.putfield 80, 3) := by decide +kernel
theorem d_r_init_194 : decode prog_13_method_1_code 194 = .ok (.aload_n 0, 1) := by decide +kernel
theorem d_r_init_195 : decode prog_13_method_1_code 195 = .ok (.bipush 10, 2) := by decide +kernel
theorem d_r_init_197 : decode prog_13_method_1_code 197 = .ok (.newarray .int, 2) := by decide +kernel
theorem d_r_init_199 : decode prog_13_method_1_code 199 = .ok (.putfield 83, 3) := by decide +kernel
theorem d_r_init_20 : decode prog_13_method_1_code 20 = .ok (.aload_n 0, 1) := by decide +kernel
theorem d_r_init_202 : decode prog_13_method_1_code 202 = .ok (.aload_n 0, 1) := by decide +kernel
theorem d_r_init_203 : decode prog_13_method_1_code 203 = .ok (.iconst 4, 1) := by decide +kernel
theorem d_r_init_204 : decode prog_13_method_1_code 204 = .ok (.newarray .int, 2) := by decide +kernel
theorem d_r_init_206 : decode prog_13_method_1_code 206 = .ok (.dup, 1) := by decide +kernel
theorem d_r_init_207 : decode prog_13_method_1_code 207 = .ok (.iconst 0, 1) := by decide +kernel
theorem d_r_init_208 : decode prog_13_method_1_code 208 = .ok (.iconst (-1), 1) := by decide +kernel
theorem d_r_init_209 : decode prog_13_method_1_code 209 = .ok (.iastore, 1) := by decide +kernel
theorem d_r_init_21 : decode prog_13_method_1_code 21 = .ok (.bipush 10, 2) := by decide +kernel
theorem d_r_init_210 : decode prog_13_method_1_code 210 = .ok (.dup, 1) := by decide +kernel
theorem d_r_init_211 : decode prog_13_method_1_code 211 = .ok (.iconst 1, 1) := by decide +kernel
theorem d_r_init_212 : decode prog_13_method_1_code 212 = .ok (.iconst (-1), 1) := by decide +kernel
theorem d_r_init_213 : decode prog_13_method_1_code 213 = .ok (.iastore, 1) := by decide +kernel
theorem d_r_init_214 : decode prog_13_method_1_code 214 = .ok (.dup, 1) := by decide +kernel
theorem d_r_init_215 : decode prog_13_method_1_code 215 = .ok (.iconst 2, 1) := by decide +kernel
theorem d_r_init_216 : decode prog_13_method_1_code 216 = .ok (.iconst (-1), 1) := by decide +kernel
theorem d_r_init_217 : decode prog_13_method_1_code 217 = .ok (.iastore, 1) := by decide +kernel
theorem d_r_init_218 : decode prog_13_method_1_code 218 = .ok (.dup, 1) := by decide +kernel
theorem d_r_init_219 : decode prog_13_method_1_code 219 = .ok (.iconst 3, 1) := by decide +kernel
theorem d_r_init_220 : decode prog_13_method_1_code 220 = .ok (.iconst (-1), 1) := by decide +kernel
theorem d_r_init_221 : decode prog_13_method_1_code 221 = .ok (.iastore, 1) := by decide +kernel
theorem d_r_init_222 : decode prog_13_method_1_code 222 = .ok (.putfield 86, 3) := by decide +kernel
theorem d_r_init_225 : decode prog_13_method_1_code 225 = .ok (.aload_n 0, 1) := by decide +kernel
theorem d_r_init_226 : decode prog_13_method_1_code 226 = .ok (.iconst 4, 1) := by decide +kernel
theorem d_r_init_227 : decode prog_13_method_1_code 227 = .ok (.newarray .int, 2) := by decide +kernel
theorem d_r_init_229 : decode prog_13_method_1_code 229 = .ok (.putfield 89, 3) := by decide +kernel
theorem d_r_init_23 : decode prog_13_method_1_code 23 = .ok (.newarray .int, 2) := by decide +kernel
theorem d_r_init_232 : decode prog_13_method_1_code 232 = .ok (.aload_n 0, 1) := by decide +kernel
theorem d_r_init_233 : decode prog_13_method_1_code 233 = .ok (.sipush 160, 3) := by decide +kernel
theorem d_r_init_236 : decode prog_13_method_1_code 236 = .ok (.newarray .int, 2) := by decide +kernel
theorem d_r_init_238 : decode prog_13_method_1_code 238 = .ok (.putfield 92, 3) := by decide +kernel
theorem d_r_init_241 : decode prog_13_method_1_code 241 = .ok (.aload_n 0, 1) := by decide +kernel
theorem d_r_init_242 : decode prog_13_method_1_code 242 = .ok (.bipush 12, 2) := by decide +kernel
theorem d_r_init_244 : decode prog_13_method_1_code 244 = .ok (.newarray .long, 2) := by decide +kernel
theorem d_r_init_246 : decode prog_13_method_1_code 246 = .ok (.dup, 1) := by decide +kernel
theorem d_r_init_247 : decode prog_13_method_1_code 247 = .ok (.iconst 0, 1) := by decide +kernel
theorem d_r_init_248 : decode prog_13_method_1_code 248 = .ok (.ldc2_w 95, 3) := by decide +kernel
theorem d_r_init_25 : decode prog_13_method_1_code 25 = .ok (.putfield 16, 3) := by decide +kernel
theorem d_r_init_251 : decode prog_13_method_1_code 251 = .ok (.lastore, 1) := by decide +kernel
theorem d_r_init_252 : decode prog_13_method_1_code 252 = .ok (.dup, 1) := by decide +kernel
theorem d_r_init_253 : decode prog_13_method_1_code 253 = .ok (.iconst 1, 1) := by decide +kernel
theorem d_r_init_254 : decode prog_13_method_1_code 254 = .ok (.ldc2_w 97, 3) := by decide +kernel
theorem d_r_init_257 : decode prog_13_method_1_code 257 = .ok (.lastore, 1) := by decide +kernel
theorem d_r_init_258 : decode prog_13_method_1_code 258 = .ok (.dup, 1) := by decide +kernel
theorem d_r_init_259 : decode prog_13_method_1_code 259 = .ok (.iconst 2, 1) := by decide +kernel
theorem d_r_init_260 : decode prog_13_method_1_code 260 = .ok (.ldc2_w 99, 3) := by decide +kernel
theorem d_r_init_263 : decode prog_13_method_1_code 263 = .ok (.lastore, 1) := by decide +kernel
theorem d_r_init_264 : decode prog_13_method_1_code 264 = .ok (.dup, 1) := by decide +kernel
theorem d_r_init_265 : decode prog_13_method_1_code 265 = .ok (.iconst 3, 1) := by decide +kernel
theorem d_r_init_266 : decode prog_13_method_1_code 266 = .ok (.ldc2_w 101, 3) := by decide +kernel
theorem d_r_init_269 : decode prog_13_method_1_code 269 = .ok (.lastore, 1) := by decide +kernel
theorem d_r_init_270 : decode prog_13_method_1_code 270 = .ok (.dup, 1) := by decide +kernel
theorem d_r_init_271 : decode prog_13_method_1_code 271 = .ok (.iconst 4, 1) := by decide +kernel
theorem d_r_init_272 : decode prog_13_method_1_code 272 = .ok (.ldc2_w 103, 3) := by decide +kernel
theorem d_r_init_275 : decode prog_13_method_1_code 275 = .ok (.lastore, 1) := by decide +kernel
theorem d_r_init_276 : decode prog_13_method_1_code 276 = .ok (.dup, 1) := by decide +kernel
theorem d_r_init_277 : decode prog_13_method_1_code 277 = .ok (.iconst 5, 1) := by decide +kernel
theorem d_r_init_278 : decode prog_13_method_1_code 278 = .ok (.ldc2_w 105, 3) := by decide +kernel
theorem d_r_init_28 : decode prog_13_method_1_code 28 = .ok (.aload_n 0, 1) := by decide +kernel
theorem d_r_init_281 : decode prog_13_method_1_code 281 = .ok (.lastore, 1) := by decide +kernel
theorem d_r_init_282 : decode prog_13_method_1_code 282 = .ok (.dup, 1) := by decide +kernel
theorem d_r_init_283 : decode prog_13_method_1_code 283 = .ok (.bipush 6, 2) := by decide +kernel
theorem d_r_init_285 : decode prog_13_method_1_code 285 = .ok (.ldc2_w 107, 3) := by decide +kernel
theorem d_r_init_288 : decode prog_13_method_1_code 288 = .ok (.lastore, 1) := by decide +kernel
theorem d_r_init_289 : decode prog_13_method_1_code 289 = .ok (.dup, 1) := by decide +kernel
theorem d_r_init_29 : decode prog_13_method_1_code 29 = .ok (.bipush 10, 2) := by decide +kernel
theorem d_r_init_290 : decode prog_13_method_1_code 290 = .ok (.bipush 7, 2) := by decide +kernel
theorem d_r_init_292 : decode prog_13_method_1_code 292 = .ok (.ldc2_w 109, 3) := by decide +kernel
theorem d_r_init_295 : decode prog_13_method_1_code 295 = .ok (.lastore, 1) := by decide +kernel
theorem d_r_init_296 : decode prog_13_method_1_code 296 = .ok (.dup, 1) := by decide +kernel
theorem d_r_init_297 : decode prog_13_method_1_code 297 = .ok (.bipush 8, 2) := by decide +kernel
theorem d_r_init_299 : decode prog_13_method_1_code 299 = .ok (.ldc2_w 111, 3) := by decide +kernel
theorem d_r_init_302 : decode prog_13_method_1_code 302 = .ok (.lastore, 1) := by decide +kernel
theorem d_r_init_303 : decode prog_13_method_1_code 303 = .ok (.dup, 1) := by decide +kernel
theorem d_r_init_304 : decode prog_13_method_1_code 304 = .ok (.bipush 9, 2) := by decide +kernel
theorem d_r_init_306 : decode prog_13_method_1_code 306 = .ok (.ldc2_w 113, 3) := by decide +kernel
theorem d_r_init_309 : decode prog_13_method_1_code 309 = .ok (.lastore, 1) := by decide +kernel
theorem d_r_init_31 : decode prog_13_method_1_code 31 = .ok (.newarray .int, 2) := by decide +kernel
theorem d_r_init_310 : decode prog_13_method_1_code 310 = .ok (.dup, 1) := by decide +kernel
theorem d_r_init_311 : decode prog_13_method_1_code 311 = .ok (.bipush 10, 2) := by decide +kernel
theorem d_r_init_313 : decode prog_13_method_1_code 313 = .ok (.ldc2_w 115, 3) := by decide +kernel
theorem d_r_init_316 : decode prog_13_method_1_code 316 = .ok (.lastore, 1) := by decide +kernel
theorem d_r_init_317 : decode prog_13_method_1_code 317 = .ok (.dup, 1) := by decide +kernel
theorem d_r_init_318 : decode prog_13_method_1_code 318 = .ok (.bipush 11, 2) := by decide +kernel
theorem d_r_init_320 : decode prog_13_method_1_code 320 = .ok (.ldc2_w 117, 3) := by decide +kernel
theorem d_r_init_323 : decode prog_13_method_1_code 323 = .ok (.lastore, 1) := by decide +kernel
theorem d_r_init_324 : decode prog_13_method_1_code 324 = .ok (.putfield 119, 3) := by decide +kernel
theorem d_r_init_327 : decode prog_13_method_1_code 327 = .ok (.aload_n 0, 1) := by decide +kernel
theorem d_r_init_328 : decode prog_13_method_1_code 328 = .ok (.sipush 200, 3) := by decide +kernel
theorem d_r_init_33 : decode prog_13_method_1_code 33 = .ok (.putfield 19, 3) := by decide +kernel
theorem d_r_init_331 : decode prog_13_method_1_code 331 = .ok (.newarray .int, 2) := by decide +kernel
theorem d_r_init_333 : decode prog_13_method_1_code 333 = .ok (.putfield 123, 3) := by decide +kernel
theorem d_r_init_336 : decode prog_13_method_1_code 336 = .ok (.aload_n 0, 1) := by decide +kernel
theorem d_r_init_337 : decode prog_13_method_1_code 337 = .ok (.sipush 200, 3) := by decide +kernel
theorem d_r_init_340 : decode prog_13_method_1_code 340 = .ok (.newarray .int, 2) := by decide +kernel
theorem d_r_init_342 : decode prog_13_method_1_code 342 = .ok (.putfield 126, 3) := by decide +kernel
theorem d_r_init_345 : decode prog_13_method_1_code 345 = .ok (.aload_n 0, 1) := by decide +kernel
theorem d_r_init_346 : decode prog_13_method_1_code 346 = .ok (.bipush 6, 2) := by decide +kernel
theorem d_r_init_348 : decode prog_13_method_1_code 348 = .ok (.newarray .int, 2) := by decide +kernel
theorem d_r_init_350 : decode prog_13_method_1_code 350 = .ok (.putfield 129, 3) := by decide +kernel
theorem d_r_init_353 : decode prog_13_method_1_code 353 = .ok (.aload_n 0, 1) := by decide +kernel
theorem d_r_init_354 : decode prog_13_method_1_code 354 = .ok (.bipush 12, 2) := by decide +kernel
theorem d_r_init_356 : decode prog_13_method_1_code 356 = .ok (.newarray .int, 2) := by decide +kernel
theorem d_r_init_358 : decode prog_13_method_1_code 358 = .ok (.putfield 132, 3) := by decide +kernel
theorem d_r_init_36 : decode prog_13_method_1_code 36 = .ok (.aload_n 0, 1) := by decide +kernel
theorem d_r_init_361 : decode prog_13_method_1_code 361 = .ok (.aload_n 0, 1) := by decide +kernel
theorem d_r_init_362 : decode prog_13_method_1_code 362 = .ok (.bipush 12, 2) := by decide +kernel
theorem d_r_init_364 : decode prog_13_method_1_code 364 = .ok (.newarray .int, 2) := by decide +kernel
theorem d_r_init_366 : decode prog_13_method_1_code 366 = .ok (.putfield 135, 3) := by decide +kernel
theorem d_r_init_369 : decode prog_13_method_1_code 369 = .ok (.aload_n 0, 1) := by decide +kernel
theorem d_r_init_37 : decode prog_13_method_1_code 37 = .ok (.bipush 10, 2) := by decide +kernel
theorem d_r_init_370 : decode prog_13_method_1_code 370 = .ok (.sipush 1000, 3) := by decide +kernel
theorem d_r_init_373 : decode prog_13_method_1_code 373 = .ok (.newarray .int, 2) := by decide +kernel
theorem d_r_init_375 : decode prog_13_method_1_code 375 = .ok (.putfield 138, 3) := by decide +kernel
theorem d_r_init_378 : decode prog_13_method_1_code 378 = .ok (.aload_n 0, 1) := by decide +kernel
theorem d_r_init_379 : decode prog_13_method_1_code 379 = .ok (.bipush 6, 2) := by decide +kernel
theorem d_r_init_381 : decode prog_13_method_1_code 381 = .ok (.newarray .int, 2) := by decide +kernel
theorem d_r_init_383 : decode prog_13_method_1_code 383 = .ok (.putfield 141, 3) := by decide +kernel
theorem d_r_init_386 : decode prog_13_method_1_code 386 = .ok (.aload_n 0, 1) := by decide +kernel
theorem d_r_init_387 : decode prog_13_method_1_code 387 = .ok (.iconst 0, 1) := by decide +kernel
theorem d_r_init_388 : decode prog_13_method_1_code 388 = .ok (.iconst 0, 1) := by decide +kernel
theorem d_r_init_389 : decode prog_13_method_1_code 389 = .ok (.ldc 144, 2) := by decide +kernel
theorem d_r_init_39 : decode prog_13_method_1_code 39 = .ok (.newarray .int, 2) := by decide +kernel
theorem d_r_init_391 : decode prog_13_method_1_code 391 = .ok (.iconst 5, 1) := by decide +kernel
theorem d_r_init_392 : decode prog_13_method_1_code 392 = .ok (.ldc 145, 2) := by decide +kernel
theorem d_r_init_394 : decode prog_13_method_1_code 394 = .ok (.invokevirtual 146, 3) := by decide +kernel
theorem d_r_init_397 : decode prog_13_method_1_code 397 = .ok (.aload_n 0, 1) := by decide +kernel
theorem d_r_init_398 : decode prog_13_method_1_code 398 = .ok (.iconst 4, 1) := by decide +kernel
theorem d_r_init_399 : decode prog_13_method_1_code 399 = .ok (.bipush 18, 2) := by decide +kernel
theorem d_r_init_4 : decode prog_13_method_1_code 4 = .ok (.aload_n 0, 1) := by decide +kernel
theorem d_r_init_401 : decode prog_13_method_1_code 401 = .ok (.bipush 17, 2) := by decide +kernel
theorem d_r_init_403 : decode prog_13_method_1_code 403 = .ok (.iconst 0, 1) := by decide +kernel
theorem d_r_init_404 : decode prog_13_method_1_code 404 = .ok (.iconst 4, 1) := by decide +kernel
theorem d_r_init_405 : decode prog_13_method_1_code 405 = .ok (.invokevirtual 146, 3) := by decide +kernel
theorem d_r_init_408 : decode prog_13_method_1_code 408 = .ok (.aload_n 0, 1) := by decide +kernel
theorem d_r_init_409 : decode prog_13_method_1_code 409 = .ok (.getfield 61, 3) := by decide +kernel
theorem d_r_init_41 : decode prog_13_method_1_code 41 = .ok (.putfield 22, 3) := by decide +kernel
theorem d_r_init_412 : decode prog_13_method_1_code 412 = .ok (.bipush 8, 2) := by decide +kernel
theorem d_r_init_414 : decode prog_13_method_1_code 414 = .ok (.bipush 16, 2) := by decide +kernel
theorem d_r_init_416 : decode prog_13_method_1_code 416 = .ok (.iastore, 1) := by decide +kernel
theorem d_r_init_417 : decode prog_13_method_1_code 417 = .ok (.aload_n 0, 1) := by decide +kernel
theorem d_r_init_418 : decode prog_13_method_1_code 418 = .ok (.getfield 64, 3) := by decide +kernel
theorem d_r_init_421 : decode prog_13_method_1_code 421 = .ok (.iconst 1, 1) := by decide +kernel
theorem d_r_init_422 : decode prog_13_method_1_code 422 = .ok (.iconst 1, 1) := by decide +kernel
theorem d_r_init_423 : decode prog_13_method_1_code 423 = .ok (.iastore, 1) := by decide +kernel
theorem d_r_init_424 : decode prog_13_method_1_code 424 = .ok (.aload_n 0, 1) := by decide +kernel
theorem d_r_init_425 : decode prog_13_method_1_code 425 = .ok (.getfield 64, 3) := by decide +kernel
theorem d_r_init_428 : decode prog_13_method_1_code 428 = .ok (.iconst 2, 1) := by decide +kernel
theorem d_r_init_429 : decode prog_13_method_1_code 429 = .ok (.bipush 6, 2) := by decide +kernel
theorem d_r_init_431 : decode prog_13_method_1_code 431 = .ok (.iastore, 1) := by decide +kernel
theorem d_r_init_432 : decode prog_13_method_1_code 432 = .ok (.aload_n 0, 1) := by decide +kernel
theorem d_r_init_433 : decode prog_13_method_1_code 433 = .ok (.getfield 64, 3) := by decide +kernel
theorem d_r_init_436 : decode prog_13_method_1_code 436 = .ok (.iconst 3, 1) := by decide +kernel
theorem d_r_init_437 : decode prog_13_method_1_code 437 = .ok (.bipush 9, 2) := by decide +kernel
theorem d_r_init_439 : decode prog_13_method_1_code 439 = .ok (.iastore, 1) := by decide +kernel
theorem d_r_init_44 : decode prog_13_method_1_code 44 = .ok (.aload_n 0, 1) := by decide +kernel
theorem d_r_init_440 : decode prog_13_method_1_code 440 = .ok (.return_, 1) := by decide +kernel
theorem d_r_init_45 : decode prog_13_method_1_code 45 = .ok (.bipush 10, 2) := by decide +kernel
theorem d_r_init_47 : decode prog_13_method_1_code 47 = .ok (.newarray .int, 2) := by decide +kernel
theorem d_r_init_49 : decode prog_13_method_1_code 49 = .ok (.putfield 25, 3) := by decide +kernel
theorem d_r_init_5 : decode prog_13_method_1_code 5 = .ok (.bipush 6, 2) := by decide +kernel
theorem d_r_init_52 : decode prog_13_method_1_code 52 = .ok (.aload_n 0, 1) := by decide +kernel
theorem d_r_init_53 : decode prog_13_method_1_code 53 = .ok (.bipush 10, 2) := by decide +kernel
theorem d_r_init_55 : decode prog_13_method_1_code 55 = .ok (.newarray .int, 2) := by decide +kernel
theorem d_r_init_57 : decode prog_13_method_1_code 57 = .ok (.putfield 28, 3) := by decide +kernel
theorem d_r_init_60 : decode prog_13_method_1_code 60 = .ok (.aload_n 0, 1) := by decide +kernel
theorem d_r_init_61 : decode prog_13_method_1_code 61 = .ok (.bipush 10, 2) := by decide +kernel
theorem d_r_init_63 : decode prog_13_method_1_code 63 = .ok (.newarray .int, 2) := by decide +kernel
theorem d_r_init_65 : decode prog_13_method_1_code 65 = .ok (.putfield 31, 3) := by decide +kernel
theorem d_r_init_68 : decode prog_13_method_1_code 68 = .ok (.aload_n 0, 1) := by decide +kernel
theorem d_r_init_69 : decode prog_13_method_1_code 69 = .ok (.bipush 120, 2) := by decide +kernel
theorem d_r_init_7 : decode prog_13_method_1_code 7 = .ok (.newarray .int, 2) := by decide +kernel
theorem d_r_init_71 : decode prog_13_method_1_code 71 = .ok (.newarray .int, 2) := by decide +kernel
theorem d_r_init_73 : decode prog_13_method_1_code 73 = .ok (.putfield 34, 3) := by decide +kernel
theorem d_r_init_76 : decode prog_13_method_1_code 76 = .ok (.aload_n 0, 1) := by decide +kernel
theorem d_r_init_77 : decode prog_13_method_1_code 77 = .ok (.bipush 10, 2) := by decide +kernel
theorem d_r_init_79 : decode prog_13_method_1_code 79 = .ok (.newarray .int, 2) := by decide +kernel
theorem d_r_init_81 : decode prog_13_method_1_code 81 = .ok (.putfield 37, 3) := by decide +kernel
theorem d_r_init_84 : decode prog_13_method_1_code 84 = .ok (.aload_n 0, 1) := by decide +kernel
theorem d_r_init_85 : decode prog_13_method_1_code 85 = .ok (.bipush 10, 2) := by decide +kernel
theorem d_r_init_87 : decode prog_13_method_1_code 87 = .ok (.newarray .int, 2) := by decide +kernel
theorem d_r_init_89 : decode prog_13_method_1_code 89 = .ok (.putfield 40, 3) := by decide +kernel
theorem d_r_init_9 : decode prog_13_method_1_code 9 = .ok (.putfield 7, 3) := by decide +kernel
theorem d_r_init_92 : decode prog_13_method_1_code 92 = .ok (.aload_n 0, 1) := by decide +kernel
theorem d_r_init_93 : decode prog_13_method_1_code 93 = .ok (.bipush 10, 2) := by decide +kernel
theorem d_r_init_95 : decode prog_13_method_1_code 95 = .ok (.newarray .int, 2) := by decide +kernel
theorem d_r_init_97 : decode prog_13_method_1_code 97 = .ok (.putfield 43, 3) := by decide +kernel
theorem d_r_isFed_0 : decode prog_13_method_34_code 0 = .ok (.iload_n 3, 1) := by decide +kernel
theorem d_r_isFed_1 : decode prog_13_method_34_code 1 = .ok (.aload_n 0, 1) := by decide +kernel
theorem d_r_isFed_10 : decode prog_13_method_34_code 10 = .ok (.iadd, 1) := by decide +kernel
theorem d_r_isFed_11 : decode prog_13_method_34_code 11 = .ok (.iaload, 1) := by decide +kernel
theorem d_r_isFed_12 : decode prog_13_method_34_code 12 = .ok (.ishr, 1) := by decide +kernel
theorem d_r_isFed_13 : decode prog_13_method_34_code 13 = .ok (.iconst 1, 1) := by decide +kernel
theorem d_r_isFed_14 : decode prog_13_method_34_code 14 = .ok (.iand, 1) := by decide +kernel
theorem d_r_isFed_15 : decode prog_13_method_34_code 15 = .ok (.ifCond .eq 39, 3) := by decide +kernel
theorem d_r_isFed_18 : decode prog_13_method_34_code 18 = .ok (.aload_n 0, 1) := by decide +kernel
theorem d_r_isFed_19 : decode prog_13_method_34_code 19 = .ok (.getfield 16, 3) := by decide +kernel
theorem d_r_isFed_2 : decode prog_13_method_34_code 2 = .ok (.getfield 34, 3) := by decide +kernel
theorem d_r_isFed_22 : decode prog_13_method_34_code 22 = .ok (.iload_n 2, 1) := by decide +kernel
theorem d_r_isFed_23 : decode prog_13_method_34_code 23 = .ok (.iaload, 1) := by decide +kernel
theorem d_r_isFed_24 : decode prog_13_method_34_code 24 = .ok (.iconst 3, 1) := by decide +kernel
theorem d_r_isFed_25 : decode prog_13_method_34_code 25 = .ok (.if_icmp .ne 33, 3) := by decide +kernel
theorem d_r_isFed_28 : decode prog_13_method_34_code 28 = .ok (.aload_n 0, 1) := by decide +kernel
theorem d_r_isFed_29 : decode prog_13_method_34_code 29 = .ok (.getfield 31, 3) := by decide +kernel
theorem d_r_isFed_32 : decode prog_13_method_34_code 32 = .ok (.iload_n 2, 1) := by decide +kernel
theorem d_r_isFed_33 : decode prog_13_method_34_code 33 = .ok (.iaload, 1) := by decide +kernel
theorem d_r_isFed_34 : decode prog_13_method_34_code 34 = .ok (.aload_n 0, 1) := by decide +kernel
theorem d_r_isFed_35 : decode prog_13_method_34_code 35 = .ok (.getfield 160, 3) := by decide +kernel
theorem d_r_isFed_38 : decode prog_13_method_34_code 38 = .ok (.if_icmp .ge 20, 3) := by decide +kernel
theorem d_r_isFed_41 : decode prog_13_method_34_code 41 = .ok (.iload_n 3, 1) := by decide +kernel
theorem d_r_isFed_42 : decode prog_13_method_34_code 42 = .ok (.aload_n 0, 1) := by decide +kernel
theorem d_r_isFed_43 : decode prog_13_method_34_code 43 = .ok (.getfield 31, 3) := by decide +kernel
theorem d_r_isFed_46 : decode prog_13_method_34_code 46 = .ok (.iload_n 2, 1) := by decide +kernel
theorem d_r_isFed_47 : decode prog_13_method_34_code 47 = .ok (.iaload, 1) := by decide +kernel
theorem d_r_isFed_48 : decode prog_13_method_34_code 48 = .ok (.ishr, 1) := by decide +kernel
theorem d_r_isFed_49 : decode prog_13_method_34_code 49 = .ok (.iconst 1, 1) := by decide +kernel
theorem d_r_isFed_5 : decode prog_13_method_34_code 5 = .ok (.bipush 10, 2) := by decide +kernel
theorem d_r_isFed_50 : decode prog_13_method_34_code 50 = .ok (.iand, 1) := by decide +kernel
theorem d_r_isFed_51 : decode prog_13_method_34_code 51 = .ok (.ifCond .ne 7, 3) := by decide +kernel
theorem d_r_isFed_54 : decode prog_13_method_34_code 54 = .ok (.iconst 1, 1) := by decide +kernel
theorem d_r_isFed_55 : decode prog_13_method_34_code 55 = .ok (.goto 4, 3) := by decide +kernel
theorem d_r_isFed_58 : decode prog_13_method_34_code 58 = .ok (.iconst 0, 1) := by decide +kernel
theorem d_r_isFed_59 : decode prog_13_method_34_code 59 = .ok (.ireturn, 1) := by decide +kernel
theorem d_r_isFed_7 : decode prog_13_method_34_code 7 = .ok (.iload_n 1, 1) := by decide +kernel
theorem d_r_isFed_8 : decode prog_13_method_34_code 8 = .ok (.imul, 1) := by decide +kernel
theorem d_r_isFed_9 : decode prog_13_method_34_code 9 = .ok (.iload_n 2, 1) := by decide +kernel
theorem d_r_isHouse_0 : decode prog_13_method_6_code 0 = .ok (.iload_n 1, 1) := by decide +kernel
theorem d_r_isHouse_1 : decode prog_13_method_6_code 1 = .ok (.iconst 0, 1) := by decide +kernel
theorem d_r_isHouse_11 : decode prog_13_method_6_code 11 = .ok (.ireturn, 1) := by decide +kernel
theorem d_r_isHouse_2 : decode prog_13_method_6_code 2 = .ok (.aload_n 0, 1) := by decide +kernel
theorem d_r_isHouse_3 : decode prog_13_method_6_code 3 = .ok (.getfield 157, 3) := by decide +kernel
theorem d_r_isHouse_6 : decode prog_13_method_6_code 6 = .ok (.iconst 1, 1) := by decide +kernel
theorem d_r_isHouse_7 : decode prog_13_method_6_code 7 = .ok (.isub, 1) := by decide +kernel
theorem d_r_isHouse_8 : decode prog_13_method_6_code 8 = .ok (.invokestatic 153, 3) := by decide +kernel
theorem d_r_isLamp_0 : decode prog_13_method_5_code 0 = .ok (.iload_n 1, 1) := by decide +kernel
theorem d_r_isLamp_1 : decode prog_13_method_5_code 1 = .ok (.iconst 0, 1) := by decide +kernel
theorem d_r_isLamp_11 : decode prog_13_method_5_code 11 = .ok (.ireturn, 1) := by decide +kernel
theorem d_r_isLamp_2 : decode prog_13_method_5_code 2 = .ok (.aload_n 0, 1) := by decide +kernel
theorem d_r_isLamp_3 : decode prog_13_method_5_code 3 = .ok (.getfield 150, 3) := by decide +kernel
theorem d_r_isLamp_6 : decode prog_13_method_5_code 6 = .ok (.iconst 1, 1) := by decide +kernel
theorem d_r_isLamp_7 : decode prog_13_method_5_code 7 = .ok (.isub, 1) := by decide +kernel
theorem d_r_isLamp_8 : decode prog_13_method_5_code 8 = .ok (.invokestatic 153, 3) := by decide +kernel
theorem d_r_isOn_0 : decode prog_13_method_35_code 0 = .ok (.iload_n 2, 1) := by decide +kernel
theorem d_r_isOn_1 : decode prog_13_method_35_code 1 = .ok (.aload_n 0, 1) := by decide +kernel
theorem d_r_isOn_10 : decode prog_13_method_35_code 10 = .ok (.istore 4, 2) := by decide +kernel
theorem d_r_isOn_101 : decode prog_13_method_35_code 101 = .ok (.invokestatic 153, 3) := by decide +kernel
theorem d_r_isOn_104 : decode prog_13_method_35_code 104 = .ok (.ifCond .eq 7, 3) := by decide +kernel
theorem d_r_isOn_107 : decode prog_13_method_35_code 107 = .ok (.iconst 1, 1) := by decide +kernel
theorem d_r_isOn_108 : decode prog_13_method_35_code 108 = .ok (.goto 4, 3) := by decide +kernel
theorem d_r_isOn_111 : decode prog_13_method_35_code 111 = .ok (.iconst 0, 1) := by decide +kernel
theorem d_r_isOn_112 : decode prog_13_method_35_code 112 = .ok (.ireturn, 1) := by decide +kernel
theorem d_r_isOn_113 : decode prog_13_method_35_code 113 = .ok (.iload 4, 2) := by decide +kernel
theorem d_r_isOn_115 : decode prog_13_method_35_code 115 = .ok (.iconst 1, 1) := by decide +kernel
theorem d_r_isOn_116 : decode prog_13_method_35_code 116 = .ok (.if_icmp .ne 7, 3) := by decide +kernel
theorem d_r_isOn_119 : decode prog_13_method_35_code 119 = .ok (.iconst 1, 1) := by decide +kernel
theorem d_r_isOn_12 : decode prog_13_method_35_code 12 = .ok (.aload_n 0, 1) := by decide +kernel
theorem d_r_isOn_120 : decode prog_13_method_35_code 120 = .ok (.goto 4, 3) := by decide +kernel
theorem d_r_isOn_123 : decode prog_13_method_35_code 123 = .ok (.iconst 0, 1) := by decide +kernel
theorem d_r_isOn_124 : decode prog_13_method_35_code 124 = .ok (.ireturn, 1) := by decide +kernel
theorem d_r_isOn_13 : decode prog_13_method_35_code 13 = .ok (.getfield 16, 3) := by decide +kernel
theorem d_r_isOn_16 : decode prog_13_method_35_code 16 = .ok (.iload_n 1, 1) := by decide +kernel
theorem d_r_isOn_17 : decode prog_13_method_35_code 17 = .ok (.iaload, 1) := by decide +kernel
theorem d_r_isOn_18 : decode prog_13_method_35_code 18 = .ok (.iconst 4, 1) := by decide +kernel
theorem d_r_isOn_19 : decode prog_13_method_35_code 19 = .ok (.if_icmp .ne 5, 3) := by decide +kernel
theorem d_r_isOn_2 : decode prog_13_method_35_code 2 = .ok (.getfield 25, 3) := by decide +kernel
theorem d_r_isOn_22 : decode prog_13_method_35_code 22 = .ok (.iconst 1, 1) := by decide +kernel
theorem d_r_isOn_23 : decode prog_13_method_35_code 23 = .ok (.ireturn, 1) := by decide +kernel
theorem d_r_isOn_24 : decode prog_13_method_35_code 24 = .ok (.aload_n 0, 1) := by decide +kernel
theorem d_r_isOn_25 : decode prog_13_method_35_code 25 = .ok (.getfield 16, 3) := by decide +kernel
theorem d_r_isOn_28 : decode prog_13_method_35_code 28 = .ok (.iload_n 1, 1) := by decide +kernel
theorem d_r_isOn_29 : decode prog_13_method_35_code 29 = .ok (.iaload, 1) := by decide +kernel
theorem d_r_isOn_30 : decode prog_13_method_35_code 30 = .ok (.iconst 2, 1) := by decide +kernel
theorem d_r_isOn_31 : decode prog_13_method_35_code 31 = .ok (.if_icmp .eq 13, 3) := by decide +kernel
theorem d_r_isOn_34 : decode prog_13_method_35_code 34 = .ok (.aload_n 0, 1) := by decide +kernel
theorem d_r_isOn_35 : decode prog_13_method_35_code 35 = .ok (.getfield 16, 3) := by decide +kernel
theorem d_r_isOn_38 : decode prog_13_method_35_code 38 = .ok (.iload_n 1, 1) := by decide +kernel
theorem d_r_isOn_39 : decode prog_13_method_35_code 39 = .ok (.iaload, 1) := by decide +kernel
theorem d_r_isOn_40 : decode prog_13_method_35_code 40 = .ok (.iconst 5, 1) := by decide +kernel
theorem d_r_isOn_41 : decode prog_13_method_35_code 41 = .ok (.if_icmp .ne 72, 3) := by decide +kernel
theorem d_r_isOn_44 : decode prog_13_method_35_code 44 = .ok (.aload_n 0, 1) := by decide +kernel
theorem d_r_isOn_45 : decode prog_13_method_35_code 45 = .ok (.getfield 25, 3) := by decide +kernel
theorem d_r_isOn_48 : decode prog_13_method_35_code 48 = .ok (.iload_n 1, 1) := by decide +kernel
theorem d_r_isOn_49 : decode prog_13_method_35_code 49 = .ok (.iaload, 1) := by decide +kernel
theorem d_r_isOn_5 : decode prog_13_method_35_code 5 = .ok (.iload_n 1, 1) := by decide +kernel
theorem d_r_isOn_50 : decode prog_13_method_35_code 50 = .ok (.aload_n 0, 1) := by decide +kernel
theorem d_r_isOn_51 : decode prog_13_method_35_code 51 = .ok (.getfield 28, 3) := by decide +kernel
theorem d_r_isOn_54 : decode prog_13_method_35_code 54 = .ok (.iload_n 1, 1) := by decide +kernel
theorem d_r_isOn_55 : decode prog_13_method_35_code 55 = .ok (.iaload, 1) := by decide +kernel
theorem d_r_isOn_56 : decode prog_13_method_35_code 56 = .ok (.if_icmp .eq 22, 3) := by decide +kernel
theorem d_r_isOn_59 : decode prog_13_method_35_code 59 = .ok (.iload 4, 2) := by decide +kernel
theorem d_r_isOn_6 : decode prog_13_method_35_code 6 = .ok (.iaload, 1) := by decide +kernel
theorem d_r_isOn_61 : decode prog_13_method_35_code 61 = .ok (.iload_n 2, 1) := by decide +kernel
theorem d_r_isOn_62 : decode prog_13_method_35_code 62 = .ok (.aload_n 0, 1) := by decide +kernel
theorem d_r_isOn_63 : decode prog_13_method_35_code 63 = .ok (.getfield 28, 3) := by decide +kernel
theorem d_r_isOn_66 : decode prog_13_method_35_code 66 = .ok (.iload_n 1, 1) := by decide +kernel
theorem d_r_isOn_67 : decode prog_13_method_35_code 67 = .ok (.iaload, 1) := by decide +kernel
theorem d_r_isOn_68 : decode prog_13_method_35_code 68 = .ok (.ishr, 1) := by decide +kernel
theorem d_r_isOn_69 : decode prog_13_method_35_code 69 = .ok (.iconst 1, 1) := by decide +kernel
theorem d_r_isOn_7 : decode prog_13_method_35_code 7 = .ok (.ishr, 1) := by decide +kernel
theorem d_r_isOn_70 : decode prog_13_method_35_code 70 = .ok (.iand, 1) := by decide +kernel
theorem d_r_isOn_71 : decode prog_13_method_35_code 71 = .ok (.if_icmp .eq 7, 3) := by decide +kernel
theorem d_r_isOn_74 : decode prog_13_method_35_code 74 = .ok (.iconst 1, 1) := by decide +kernel
theorem d_r_isOn_75 : decode prog_13_method_35_code 75 = .ok (.goto 4, 3) := by decide +kernel
theorem d_r_isOn_78 : decode prog_13_method_35_code 78 = .ok (.iconst 0, 1) := by decide +kernel
theorem d_r_isOn_79 : decode prog_13_method_35_code 79 = .ok (.istore 5, 2) := by decide +kernel
theorem d_r_isOn_8 : decode prog_13_method_35_code 8 = .ok (.iconst 1, 1) := by decide +kernel
theorem d_r_isOn_81 : decode prog_13_method_35_code 81 = .ok (.iload 5, 2) := by decide +kernel
theorem d_r_isOn_83 : decode prog_13_method_35_code 83 = .ok (.ifCond .eq 28, 3) := by decide +kernel
theorem d_r_isOn_86 : decode prog_13_method_35_code 86 = .ok (.aload_n 0, 1) := by decide +kernel
theorem d_r_isOn_87 : decode prog_13_method_35_code 87 = .ok (.getfield 16, 3) := by decide +kernel
theorem d_r_isOn_9 : decode prog_13_method_35_code 9 = .ok (.iand, 1) := by decide +kernel
theorem d_r_isOn_90 : decode prog_13_method_35_code 90 = .ok (.iload_n 1, 1) := by decide +kernel
theorem d_r_isOn_91 : decode prog_13_method_35_code 91 = .ok (.iaload, 1) := by decide +kernel
theorem d_r_isOn_92 : decode prog_13_method_35_code 92 = .ok (.iconst 2, 1) := by decide +kernel
theorem d_r_isOn_93 : decode prog_13_method_35_code 93 = .ok (.if_icmp .eq 14, 3) := by decide +kernel
theorem d_r_isOn_96 : decode prog_13_method_35_code 96 = .ok (.iload_n 3, 1) := by decide +kernel
theorem d_r_isOn_97 : decode prog_13_method_35_code 97 = .ok (.bipush 6, 2) := by decide +kernel
theorem d_r_isOn_99 : decode prog_13_method_35_code 99 = .ok (.bipush 17, 2) := by decide +kernel
theorem d_r_isUnder_0 : decode prog_13_method_102_code 0 = .ok (.iload_n 1, 1) := by decide +kernel
theorem d_r_isUnder_1 : decode prog_13_method_102_code 1 = .ok (.ifCond .eq 18, 3) := by decide +kernel
theorem d_r_isUnder_10 : decode prog_13_method_102_code 10 = .ok (.iconst 2, 1) := by decide +kernel
theorem d_r_isUnder_11 : decode prog_13_method_102_code 11 = .ok (.if_icmp .ne 12, 3) := by decide +kernel
theorem d_r_isUnder_14 : decode prog_13_method_102_code 14 = .ok (.iload_n 0, 1) := by decide +kernel
theorem d_r_isUnder_15 : decode prog_13_method_102_code 15 = .ok (.iconst 5, 1) := by decide +kernel
theorem d_r_isUnder_16 : decode prog_13_method_102_code 16 = .ok (.if_icmp .ne 7, 3) := by decide +kernel
theorem d_r_isUnder_19 : decode prog_13_method_102_code 19 = .ok (.iconst 1, 1) := by decide +kernel
theorem d_r_isUnder_20 : decode prog_13_method_102_code 20 = .ok (.goto 4, 3) := by decide +kernel
theorem d_r_isUnder_23 : decode prog_13_method_102_code 23 = .ok (.iconst 0, 1) := by decide +kernel
theorem d_r_isUnder_24 : decode prog_13_method_102_code 24 = .ok (.ireturn, 1) := by decide +kernel
theorem d_r_isUnder_4 : decode prog_13_method_102_code 4 = .ok (.iload_n 0, 1) := by decide +kernel
theorem d_r_isUnder_5 : decode prog_13_method_102_code 5 = .ok (.iload_n 1, 1) := by decide +kernel
theorem d_r_isUnder_6 : decode prog_13_method_102_code 6 = .ok (.if_icmp .eq 13, 3) := by decide +kernel
theorem d_r_isUnder_9 : decode prog_13_method_102_code 9 = .ok (.iload_n 1, 1) := by decide +kernel
theorem d_r_kindsOf_0 : decode prog_13_method_56_code 0 = .ok (.iconst 0, 1) := by decide +kernel
theorem d_r_kindsOf_1 : decode prog_13_method_56_code 1 = .ok (.istore 4, 2) := by decide +kernel
theorem d_r_kindsOf_100 : decode prog_13_method_56_code 100 = .ok (.iinc 7 1, 3) := by decide +kernel
theorem d_r_kindsOf_103 : decode prog_13_method_56_code 103 = .ok (.goto (-48), 3) := by decide +kernel
theorem d_r_kindsOf_106 : decode prog_13_method_56_code 106 = .ok (.iload 4, 2) := by decide +kernel
theorem d_r_kindsOf_108 : decode prog_13_method_56_code 108 = .ok (.iload 6, 2) := by decide +kernel
theorem d_r_kindsOf_110 : decode prog_13_method_56_code 110 = .ok (.ifCond .eq 7, 3) := by decide +kernel
theorem d_r_kindsOf_113 : decode prog_13_method_56_code 113 = .ok (.iconst 1, 1) := by decide +kernel
theorem d_r_kindsOf_114 : decode prog_13_method_56_code 114 = .ok (.goto 4, 3) := by decide +kernel
theorem d_r_kindsOf_117 : decode prog_13_method_56_code 117 = .ok (.iconst 0, 1) := by decide +kernel
theorem d_r_kindsOf_118 : decode prog_13_method_56_code 118 = .ok (.iadd, 1) := by decide +kernel
theorem d_r_kindsOf_119 : decode prog_13_method_56_code 119 = .ok (.istore 4, 2) := by decide +kernel
theorem d_r_kindsOf_12 : decode prog_13_method_56_code 12 = .ok (.if_icmp .ge 115, 3) := by decide +kernel
theorem d_r_kindsOf_121 : decode prog_13_method_56_code 121 = .ok (.iinc 5 1, 3) := by decide +kernel
theorem d_r_kindsOf_124 : decode prog_13_method_56_code 124 = .ok (.goto (-118), 3) := by decide +kernel
theorem d_r_kindsOf_127 : decode prog_13_method_56_code 127 = .ok (.iload 4, 2) := by decide +kernel
theorem d_r_kindsOf_129 : decode prog_13_method_56_code 129 = .ok (.ireturn, 1) := by decide +kernel
theorem d_r_kindsOf_15 : decode prog_13_method_56_code 15 = .ok (.iload_n 1, 1) := by decide +kernel
theorem d_r_kindsOf_16 : decode prog_13_method_56_code 16 = .ok (.iload 5, 2) := by decide +kernel
theorem d_r_kindsOf_18 : decode prog_13_method_56_code 18 = .ok (.ishr, 1) := by decide +kernel
theorem d_r_kindsOf_19 : decode prog_13_method_56_code 19 = .ok (.iconst 1, 1) := by decide +kernel
theorem d_r_kindsOf_20 : decode prog_13_method_56_code 20 = .ok (.iand, 1) := by decide +kernel
theorem d_r_kindsOf_21 : decode prog_13_method_56_code 21 = .ok (.iconst 1, 1) := by decide +kernel
theorem d_r_kindsOf_22 : decode prog_13_method_56_code 22 = .ok (.if_icmp .ne 99, 3) := by decide +kernel
theorem d_r_kindsOf_25 : decode prog_13_method_56_code 25 = .ok (.aload_n 0, 1) := by decide +kernel
theorem d_r_kindsOf_26 : decode prog_13_method_56_code 26 = .ok (.getfield 132, 3) := by decide +kernel
theorem d_r_kindsOf_29 : decode prog_13_method_56_code 29 = .ok (.iload 5, 2) := by decide +kernel
theorem d_r_kindsOf_3 : decode prog_13_method_56_code 3 = .ok (.iconst 0, 1) := by decide +kernel
theorem d_r_kindsOf_31 : decode prog_13_method_56_code 31 = .ok (.aload_n 0, 1) := by decide +kernel
theorem d_r_kindsOf_32 : decode prog_13_method_56_code 32 = .ok (.iload 5, 2) := by decide +kernel
theorem d_r_kindsOf_34 : decode prog_13_method_56_code 34 = .ok (.iload_n 2, 1) := by decide +kernel
theorem d_r_kindsOf_35 : decode prog_13_method_56_code 35 = .ok (.aload_n 0, 1) := by decide +kernel
theorem d_r_kindsOf_36 : decode prog_13_method_56_code 36 = .ok (.getfield 174, 3) := by decide +kernel
theorem d_r_kindsOf_39 : decode prog_13_method_56_code 39 = .ok (.aload_n 0, 1) := by decide +kernel
theorem d_r_kindsOf_4 : decode prog_13_method_56_code 4 = .ok (.istore 5, 2) := by decide +kernel
theorem d_r_kindsOf_40 : decode prog_13_method_56_code 40 = .ok (.getfield 177, 3) := by decide +kernel
theorem d_r_kindsOf_43 : decode prog_13_method_56_code 43 = .ok (.invokevirtual 275, 3) := by decide +kernel
theorem d_r_kindsOf_46 : decode prog_13_method_56_code 46 = .ok (.iload_n 3, 1) := by decide +kernel
theorem d_r_kindsOf_47 : decode prog_13_method_56_code 47 = .ok (.iand, 1) := by decide +kernel
theorem d_r_kindsOf_48 : decode prog_13_method_56_code 48 = .ok (.iastore, 1) := by decide +kernel
theorem d_r_kindsOf_49 : decode prog_13_method_56_code 49 = .ok (.iconst 1, 1) := by decide +kernel
theorem d_r_kindsOf_50 : decode prog_13_method_56_code 50 = .ok (.istore 6, 2) := by decide +kernel
theorem d_r_kindsOf_52 : decode prog_13_method_56_code 52 = .ok (.iconst 0, 1) := by decide +kernel
theorem d_r_kindsOf_53 : decode prog_13_method_56_code 53 = .ok (.istore 7, 2) := by decide +kernel
theorem d_r_kindsOf_55 : decode prog_13_method_56_code 55 = .ok (.iload 7, 2) := by decide +kernel
theorem d_r_kindsOf_57 : decode prog_13_method_56_code 57 = .ok (.iload 5, 2) := by decide +kernel
theorem d_r_kindsOf_59 : decode prog_13_method_56_code 59 = .ok (.if_icmp .ge 47, 3) := by decide +kernel
theorem d_r_kindsOf_6 : decode prog_13_method_56_code 6 = .ok (.iload 5, 2) := by decide +kernel
theorem d_r_kindsOf_62 : decode prog_13_method_56_code 62 = .ok (.iload 6, 2) := by decide +kernel
theorem d_r_kindsOf_64 : decode prog_13_method_56_code 64 = .ok (.ifCond .eq 33, 3) := by decide +kernel
theorem d_r_kindsOf_67 : decode prog_13_method_56_code 67 = .ok (.iload_n 1, 1) := by decide +kernel
theorem d_r_kindsOf_68 : decode prog_13_method_56_code 68 = .ok (.iload 7, 2) := by decide +kernel
theorem d_r_kindsOf_70 : decode prog_13_method_56_code 70 = .ok (.ishr, 1) := by decide +kernel
theorem d_r_kindsOf_71 : decode prog_13_method_56_code 71 = .ok (.iconst 1, 1) := by decide +kernel
theorem d_r_kindsOf_72 : decode prog_13_method_56_code 72 = .ok (.iand, 1) := by decide +kernel
theorem d_r_kindsOf_73 : decode prog_13_method_56_code 73 = .ok (.ifCond .eq 20, 3) := by decide +kernel
theorem d_r_kindsOf_76 : decode prog_13_method_56_code 76 = .ok (.aload_n 0, 1) := by decide +kernel
theorem d_r_kindsOf_77 : decode prog_13_method_56_code 77 = .ok (.getfield 132, 3) := by decide +kernel
theorem d_r_kindsOf_8 : decode prog_13_method_56_code 8 = .ok (.aload_n 0, 1) := by decide +kernel
theorem d_r_kindsOf_80 : decode prog_13_method_56_code 80 = .ok (.iload 7, 2) := by decide +kernel
theorem d_r_kindsOf_82 : decode prog_13_method_56_code 82 = .ok (.iaload, 1) := by decide +kernel
theorem d_r_kindsOf_83 : decode prog_13_method_56_code 83 = .ok (.aload_n 0, 1) := by decide +kernel
theorem d_r_kindsOf_84 : decode prog_13_method_56_code 84 = .ok (.getfield 132, 3) := by decide +kernel
theorem d_r_kindsOf_87 : decode prog_13_method_56_code 87 = .ok (.iload 5, 2) := by decide +kernel
theorem d_r_kindsOf_89 : decode prog_13_method_56_code 89 = .ok (.iaload, 1) := by decide +kernel
theorem d_r_kindsOf_9 : decode prog_13_method_56_code 9 = .ok (.getfield 157, 3) := by decide +kernel
theorem d_r_kindsOf_90 : decode prog_13_method_56_code 90 = .ok (.if_icmp .eq 7, 3) := by decide +kernel
theorem d_r_kindsOf_93 : decode prog_13_method_56_code 93 = .ok (.iconst 1, 1) := by decide +kernel
theorem d_r_kindsOf_94 : decode prog_13_method_56_code 94 = .ok (.goto 4, 3) := by decide +kernel
theorem d_r_kindsOf_97 : decode prog_13_method_56_code 97 = .ok (.iconst 0, 1) := by decide +kernel
theorem d_r_kindsOf_98 : decode prog_13_method_56_code 98 = .ok (.istore 6, 2) := by decide +kernel
theorem d_r_label_0 : decode prog_13_method_77_code 0 = .ok (.iload_n 1, 1) := by decide +kernel
theorem d_r_label_1 : decode prog_13_method_77_code 1 = .ok (.iconst 1, 1) := by decide +kernel
theorem d_r_label_102 : decode prog_13_method_77_code 102 = .ok (.aload_n 0, 1) := by decide +kernel
theorem d_r_label_103 : decode prog_13_method_77_code 103 = .ok (.getfield 186, 3) := by decide +kernel
theorem d_r_label_106 : decode prog_13_method_77_code 106 = .ok (.iconst 1, 1) := by decide +kernel
theorem d_r_label_107 : decode prog_13_method_77_code 107 = .ok (.isub, 1) := by decide +kernel
theorem d_r_label_108 : decode prog_13_method_77_code 108 = .ok (.ireturn, 1) := by decide +kernel
theorem d_r_label_11 : decode prog_13_method_77_code 11 = .ok (.bipush (-2), 2) := by decide +kernel
theorem d_r_label_13 : decode prog_13_method_77_code 13 = .ok (.ireturn, 1) := by decide +kernel
theorem d_r_label_14 : decode prog_13_method_77_code 14 = .ok (.aload_n 0, 1) := by decide +kernel
theorem d_r_label_15 : decode prog_13_method_77_code 15 = .ok (.iload_n 2, 1) := by decide +kernel
theorem d_r_label_16 : decode prog_13_method_77_code 16 = .ok (.invokevirtual 263, 3) := by decide +kernel
theorem d_r_label_19 : decode prog_13_method_77_code 19 = .ok (.istore_n 3, 1) := by decide +kernel
theorem d_r_label_2 : decode prog_13_method_77_code 2 = .ok (.sipush 9999, 3) := by decide +kernel
theorem d_r_label_20 : decode prog_13_method_77_code 20 = .ok (.iload_n 3, 1) := by decide +kernel
theorem d_r_label_21 : decode prog_13_method_77_code 21 = .ok (.ifCond .eq 5, 3) := by decide +kernel
theorem d_r_label_24 : decode prog_13_method_77_code 24 = .ok (.iload_n 3, 1) := by decide +kernel
theorem d_r_label_25 : decode prog_13_method_77_code 25 = .ok (.ireturn, 1) := by decide +kernel
theorem d_r_label_26 : decode prog_13_method_77_code 26 = .ok (.aload_n 0, 1) := by decide +kernel
theorem d_r_label_27 : decode prog_13_method_77_code 27 = .ok (.getfield 186, 3) := by decide +kernel
theorem d_r_label_30 : decode prog_13_method_77_code 30 = .ok (.iconst 4, 1) := by decide +kernel
theorem d_r_label_31 : decode prog_13_method_77_code 31 = .ok (.if_icmp .ne 6, 3) := by decide +kernel
theorem d_r_label_34 : decode prog_13_method_77_code 34 = .ok (.bipush (-4), 2) := by decide +kernel
theorem d_r_label_36 : decode prog_13_method_77_code 36 = .ok (.ireturn, 1) := by decide +kernel
theorem d_r_label_37 : decode prog_13_method_77_code 37 = .ok (.aload_n 0, 1) := by decide +kernel
theorem d_r_label_38 : decode prog_13_method_77_code 38 = .ok (.getfield 52, 3) := by decide +kernel
theorem d_r_label_41 : decode prog_13_method_77_code 41 = .ok (.aload_n 0, 1) := by decide +kernel
theorem d_r_label_42 : decode prog_13_method_77_code 42 = .ok (.getfield 186, 3) := by decide +kernel
theorem d_r_label_45 : decode prog_13_method_77_code 45 = .ok (.iload_n 1, 1) := by decide +kernel
theorem d_r_label_46 : decode prog_13_method_77_code 46 = .ok (.iastore, 1) := by decide +kernel
theorem d_r_label_47 : decode prog_13_method_77_code 47 = .ok (.iconst 0, 1) := by decide +kernel
theorem d_r_label_48 : decode prog_13_method_77_code 48 = .ok (.istore 4, 2) := by decide +kernel
theorem d_r_label_5 : decode prog_13_method_77_code 5 = .ok (.invokestatic 153, 3) := by decide +kernel
theorem d_r_label_50 : decode prog_13_method_77_code 50 = .ok (.iload 4, 2) := by decide +kernel
theorem d_r_label_52 : decode prog_13_method_77_code 52 = .ok (.aload_n 0, 1) := by decide +kernel
theorem d_r_label_53 : decode prog_13_method_77_code 53 = .ok (.getfield 150, 3) := by decide +kernel
theorem d_r_label_56 : decode prog_13_method_77_code 56 = .ok (.if_icmp .ge 36, 3) := by decide +kernel
theorem d_r_label_59 : decode prog_13_method_77_code 59 = .ok (.aload_n 0, 1) := by decide +kernel
theorem d_r_label_60 : decode prog_13_method_77_code 60 = .ok (.getfield 55, 3) := by decide +kernel
theorem d_r_label_63 : decode prog_13_method_77_code 63 = .ok (.bipush 10, 2) := by decide +kernel
theorem d_r_label_65 : decode prog_13_method_77_code 65 = .ok (.aload_n 0, 1) := by decide +kernel
theorem d_r_label_66 : decode prog_13_method_77_code 66 = .ok (.getfield 186, 3) := by decide +kernel
theorem d_r_label_69 : decode prog_13_method_77_code 69 = .ok (.imul, 1) := by decide +kernel
theorem d_r_label_70 : decode prog_13_method_77_code 70 = .ok (.iload 4, 2) := by decide +kernel
theorem d_r_label_72 : decode prog_13_method_77_code 72 = .ok (.iadd, 1) := by decide +kernel
theorem d_r_label_73 : decode prog_13_method_77_code 73 = .ok (.aload_n 0, 1) := by decide +kernel
theorem d_r_label_74 : decode prog_13_method_77_code 74 = .ok (.getfield 92, 3) := by decide +kernel
theorem d_r_label_77 : decode prog_13_method_77_code 77 = .ok (.bipush 40, 2) := by decide +kernel
theorem d_r_label_79 : decode prog_13_method_77_code 79 = .ok (.iload_n 2, 1) := by decide +kernel
theorem d_r_label_8 : decode prog_13_method_77_code 8 = .ok (.ifCond .ne 6, 3) := by decide +kernel
theorem d_r_label_80 : decode prog_13_method_77_code 80 = .ok (.imul, 1) := by decide +kernel
theorem d_r_label_81 : decode prog_13_method_77_code 81 = .ok (.iload 4, 2) := by decide +kernel
theorem d_r_label_83 : decode prog_13_method_77_code 83 = .ok (.iadd, 1) := by decide +kernel
theorem d_r_label_84 : decode prog_13_method_77_code 84 = .ok (.iaload, 1) := by decide +kernel
theorem d_r_label_85 : decode prog_13_method_77_code 85 = .ok (.iastore, 1) := by decide +kernel
theorem d_r_label_86 : decode prog_13_method_77_code 86 = .ok (.iinc 4 1, 3) := by decide +kernel
theorem d_r_label_89 : decode prog_13_method_77_code 89 = .ok (.goto (-39), 3) := by decide +kernel
theorem d_r_label_92 : decode prog_13_method_77_code 92 = .ok (.aload_n 0, 1) := by decide +kernel
theorem d_r_label_93 : decode prog_13_method_77_code 93 = .ok (.dup, 1) := by decide +kernel
theorem d_r_label_94 : decode prog_13_method_77_code 94 = .ok (.getfield 186, 3) := by decide +kernel
theorem d_r_label_97 : decode prog_13_method_77_code 97 = .ok (.iconst 1, 1) := by decide +kernel
theorem d_r_label_98 : decode prog_13_method_77_code 98 = .ok (.iadd, 1) := by decide +kernel
theorem d_r_label_99 : decode prog_13_method_77_code 99 = .ok (.putfield 186, 3) := by decide +kernel
theorem d_r_lampTold_0 : decode prog_13_method_14_code 0 = .ok (.aload_n 0, 1) := by decide +kernel
theorem d_r_lampTold_1 : decode prog_13_method_14_code 1 = .ok (.iload_n 1, 1) := by decide +kernel
theorem d_r_lampTold_10 : decode prog_13_method_14_code 10 = .ok (.ireturn, 1) := by decide +kernel
theorem d_r_lampTold_11 : decode prog_13_method_14_code 11 = .ok (.iload_n 2, 1) := by decide +kernel
theorem d_r_lampTold_12 : decode prog_13_method_14_code 12 = .ok (.tableswitch 82 0 5 #[40, 47, 54, 61, 68, 75], 40) := by decide +kernel
theorem d_r_lampTold_2 : decode prog_13_method_14_code 2 = .ok (.invokevirtual 195, 3) := by decide +kernel
theorem d_r_lampTold_5 : decode prog_13_method_14_code 5 = .ok (.ifCond .ne 6, 3) := by decide +kernel
theorem d_r_lampTold_52 : decode prog_13_method_14_code 52 = .ok (.aload_n 0, 1) := by decide +kernel
theorem d_r_lampTold_53 : decode prog_13_method_14_code 53 = .ok (.getfield 16, 3) := by decide +kernel
theorem d_r_lampTold_56 : decode prog_13_method_14_code 56 = .ok (.iload_n 1, 1) := by decide +kernel
theorem d_r_lampTold_57 : decode prog_13_method_14_code 57 = .ok (.iaload, 1) := by decide +kernel
theorem d_r_lampTold_58 : decode prog_13_method_14_code 58 = .ok (.ireturn, 1) := by decide +kernel
theorem d_r_lampTold_59 : decode prog_13_method_14_code 59 = .ok (.aload_n 0, 1) := by decide +kernel
theorem d_r_lampTold_60 : decode prog_13_method_14_code 60 = .ok (.getfield 19, 3) := by decide +kernel
theorem d_r_lampTold_63 : decode prog_13_method_14_code 63 = .ok (.iload_n 1, 1) := by decide +kernel
theorem d_r_lampTold_64 : decode prog_13_method_14_code 64 = .ok (.iaload, 1) := by decide +kernel
theorem d_r_lampTold_65 : decode prog_13_method_14_code 65 = .ok (.ireturn, 1) := by decide +kernel
theorem d_r_lampTold_66 : decode prog_13_method_14_code 66 = .ok (.aload_n 0, 1) := by decide +kernel
theorem d_r_lampTold_67 : decode prog_13_method_14_code 67 = .ok (.getfield 22, 3) := by decide +kernel
theorem d_r_lampTold_70 : decode prog_13_method_14_code 70 = .ok (.iload_n 1, 1) := by decide +kernel
theorem d_r_lampTold_71 : decode prog_13_method_14_code 71 = .ok (.iaload, 1) := by decide +kernel
theorem d_r_lampTold_72 : decode prog_13_method_14_code 72 = .ok (.ireturn, 1) := by decide +kernel
theorem d_r_lampTold_73 : decode prog_13_method_14_code 73 = .ok (.aload_n 0, 1) := by decide +kernel
theorem d_r_lampTold_74 : decode prog_13_method_14_code 74 = .ok (.getfield 25, 3) := by decide +kernel
theorem d_r_lampTold_77 : decode prog_13_method_14_code 77 = .ok (.iload_n 1, 1) := by decide +kernel
theorem d_r_lampTold_78 : decode prog_13_method_14_code 78 = .ok (.iaload, 1) := by decide +kernel
theorem d_r_lampTold_79 : decode prog_13_method_14_code 79 = .ok (.ireturn, 1) := by decide +kernel
theorem d_r_lampTold_8 : decode prog_13_method_14_code 8 = .ok (.bipush (-5), 2) := by decide +kernel
theorem d_r_lampTold_80 : decode prog_13_method_14_code 80 = .ok (.aload_n 0, 1) := by decide +kernel
theorem d_r_lampTold_81 : decode prog_13_method_14_code 81 = .ok (.getfield 28, 3) := by decide +kernel
theorem d_r_lampTold_84 : decode prog_13_method_14_code 84 = .ok (.iload_n 1, 1) := by decide +kernel
theorem d_r_lampTold_85 : decode prog_13_method_14_code 85 = .ok (.iaload, 1) := by decide +kernel
theorem d_r_lampTold_86 : decode prog_13_method_14_code 86 = .ok (.ireturn, 1) := by decide +kernel
theorem d_r_lampTold_87 : decode prog_13_method_14_code 87 = .ok (.aload_n 0, 1) := by decide +kernel
theorem d_r_lampTold_88 : decode prog_13_method_14_code 88 = .ok (.getfield 31, 3) := by decide +kernel
theorem d_r_lampTold_91 : decode prog_13_method_14_code 91 = .ok (.iload_n 1, 1) := by decide +kernel
theorem d_r_lampTold_92 : decode prog_13_method_14_code 92 = .ok (.iaload, 1) := by decide +kernel
theorem d_r_lampTold_93 : decode prog_13_method_14_code 93 = .ok (.ireturn, 1) := by decide +kernel
theorem d_r_lampTold_94 : decode prog_13_method_14_code 94 = .ok (.bipush (-7), 2) := by decide +kernel
theorem d_r_lampTold_96 : decode prog_13_method_14_code 96 = .ok (.ireturn, 1) := by decide +kernel
theorem d_r_lamp_0 : decode prog_13_method_13_code 0 = .ok (.iload_n 3, 1) := by decide +kernel
theorem d_r_lamp_1 : decode prog_13_method_13_code 1 = .ok (.ifCond .lt 36, 3) := by decide +kernel
theorem d_r_lamp_101 : decode prog_13_method_13_code 101 = .ok (.ifCond .gt 10, 3) := by decide +kernel
theorem d_r_lamp_104 : decode prog_13_method_13_code 104 = .ok (.aload_n 0, 1) := by decide +kernel
theorem d_r_lamp_105 : decode prog_13_method_13_code 105 = .ok (.getfield 183, 3) := by decide +kernel
theorem d_r_lamp_108 : decode prog_13_method_13_code 108 = .ok (.ifCond .le 6, 3) := by decide +kernel
theorem d_r_lamp_111 : decode prog_13_method_13_code 111 = .ok (.bipush (-3), 2) := by decide +kernel
theorem d_r_lamp_113 : decode prog_13_method_13_code 113 = .ok (.ireturn, 1) := by decide +kernel
theorem d_r_lamp_114 : decode prog_13_method_13_code 114 = .ok (.aload_n 0, 1) := by decide +kernel
theorem d_r_lamp_115 : decode prog_13_method_13_code 115 = .ok (.getfield 16, 3) := by decide +kernel
theorem d_r_lamp_118 : decode prog_13_method_13_code 118 = .ok (.aload_n 0, 1) := by decide +kernel
theorem d_r_lamp_119 : decode prog_13_method_13_code 119 = .ok (.getfield 150, 3) := by decide +kernel
theorem d_r_lamp_12 : decode prog_13_method_13_code 12 = .ok (.iload_n 3, 1) := by decide +kernel
theorem d_r_lamp_122 : decode prog_13_method_13_code 122 = .ok (.iload_n 1, 1) := by decide +kernel
theorem d_r_lamp_123 : decode prog_13_method_13_code 123 = .ok (.iastore, 1) := by decide +kernel
theorem d_r_lamp_124 : decode prog_13_method_13_code 124 = .ok (.aload_n 0, 1) := by decide +kernel
theorem d_r_lamp_125 : decode prog_13_method_13_code 125 = .ok (.getfield 19, 3) := by decide +kernel
theorem d_r_lamp_128 : decode prog_13_method_13_code 128 = .ok (.aload_n 0, 1) := by decide +kernel
theorem d_r_lamp_129 : decode prog_13_method_13_code 129 = .ok (.getfield 150, 3) := by decide +kernel
theorem d_r_lamp_13 : decode prog_13_method_13_code 13 = .ok (.bipush 10, 2) := by decide +kernel
theorem d_r_lamp_132 : decode prog_13_method_13_code 132 = .ok (.iload_n 2, 1) := by decide +kernel
theorem d_r_lamp_133 : decode prog_13_method_13_code 133 = .ok (.iastore, 1) := by decide +kernel
theorem d_r_lamp_134 : decode prog_13_method_13_code 134 = .ok (.aload_n 0, 1) := by decide +kernel
theorem d_r_lamp_135 : decode prog_13_method_13_code 135 = .ok (.getfield 22, 3) := by decide +kernel
theorem d_r_lamp_138 : decode prog_13_method_13_code 138 = .ok (.aload_n 0, 1) := by decide +kernel
theorem d_r_lamp_139 : decode prog_13_method_13_code 139 = .ok (.getfield 150, 3) := by decide +kernel
theorem d_r_lamp_142 : decode prog_13_method_13_code 142 = .ok (.iload_n 3, 1) := by decide +kernel
theorem d_r_lamp_143 : decode prog_13_method_13_code 143 = .ok (.bipush 100, 2) := by decide +kernel
theorem d_r_lamp_145 : decode prog_13_method_13_code 145 = .ok (.idiv, 1) := by decide +kernel
theorem d_r_lamp_146 : decode prog_13_method_13_code 146 = .ok (.iastore, 1) := by decide +kernel
theorem d_r_lamp_147 : decode prog_13_method_13_code 147 = .ok (.aload_n 0, 1) := by decide +kernel
theorem d_r_lamp_148 : decode prog_13_method_13_code 148 = .ok (.getfield 25, 3) := by decide +kernel
theorem d_r_lamp_15 : decode prog_13_method_13_code 15 = .ok (.idiv, 1) := by decide +kernel
theorem d_r_lamp_151 : decode prog_13_method_13_code 151 = .ok (.aload_n 0, 1) := by decide +kernel
theorem d_r_lamp_152 : decode prog_13_method_13_code 152 = .ok (.getfield 150, 3) := by decide +kernel
theorem d_r_lamp_155 : decode prog_13_method_13_code 155 = .ok (.iload_n 3, 1) := by decide +kernel
theorem d_r_lamp_156 : decode prog_13_method_13_code 156 = .ok (.bipush 10, 2) := by decide +kernel
theorem d_r_lamp_158 : decode prog_13_method_13_code 158 = .ok (.idiv, 1) := by decide +kernel
theorem d_r_lamp_159 : decode prog_13_method_13_code 159 = .ok (.bipush 10, 2) := by decide +kernel
theorem d_r_lamp_16 : decode prog_13_method_13_code 16 = .ok (.bipush 10, 2) := by decide +kernel
theorem d_r_lamp_161 : decode prog_13_method_13_code 161 = .ok (.irem, 1) := by decide +kernel
theorem d_r_lamp_162 : decode prog_13_method_13_code 162 = .ok (.iastore, 1) := by decide +kernel
theorem d_r_lamp_163 : decode prog_13_method_13_code 163 = .ok (.aload_n 0, 1) := by decide +kernel
theorem d_r_lamp_164 : decode prog_13_method_13_code 164 = .ok (.getfield 28, 3) := by decide +kernel
theorem d_r_lamp_167 : decode prog_13_method_13_code 167 = .ok (.aload_n 0, 1) := by decide +kernel
theorem d_r_lamp_168 : decode prog_13_method_13_code 168 = .ok (.getfield 150, 3) := by decide +kernel
theorem d_r_lamp_171 : decode prog_13_method_13_code 171 = .ok (.iload_n 3, 1) := by decide +kernel
theorem d_r_lamp_172 : decode prog_13_method_13_code 172 = .ok (.bipush 10, 2) := by decide +kernel
theorem d_r_lamp_174 : decode prog_13_method_13_code 174 = .ok (.irem, 1) := by decide +kernel
theorem d_r_lamp_175 : decode prog_13_method_13_code 175 = .ok (.iastore, 1) := by decide +kernel
theorem d_r_lamp_176 : decode prog_13_method_13_code 176 = .ok (.aload_n 0, 1) := by decide +kernel
theorem d_r_lamp_177 : decode prog_13_method_13_code 177 = .ok (.getfield 31, 3) := by decide +kernel
theorem d_r_lamp_18 : decode prog_13_method_13_code 18 = .ok (.irem, 1) := by decide +kernel
theorem d_r_lamp_180 : decode prog_13_method_13_code 180 = .ok (.aload_n 0, 1) := by decide +kernel
theorem d_r_lamp_181 : decode prog_13_method_13_code 181 = .ok (.getfield 150, 3) := by decide +kernel
theorem d_r_lamp_184 : decode prog_13_method_13_code 184 = .ok (.iload 4, 2) := by decide +kernel
theorem d_r_lamp_186 : decode prog_13_method_13_code 186 = .ok (.iastore, 1) := by decide +kernel
theorem d_r_lamp_187 : decode prog_13_method_13_code 187 = .ok (.aload_n 0, 1) := by decide +kernel
theorem d_r_lamp_188 : decode prog_13_method_13_code 188 = .ok (.dup, 1) := by decide +kernel
theorem d_r_lamp_189 : decode prog_13_method_13_code 189 = .ok (.getfield 150, 3) := by decide +kernel
theorem d_r_lamp_19 : decode prog_13_method_13_code 19 = .ok (.bipush 7, 2) := by decide +kernel
theorem d_r_lamp_192 : decode prog_13_method_13_code 192 = .ok (.iconst 1, 1) := by decide +kernel
theorem d_r_lamp_193 : decode prog_13_method_13_code 193 = .ok (.iadd, 1) := by decide +kernel
theorem d_r_lamp_194 : decode prog_13_method_13_code 194 = .ok (.putfield 150, 3) := by decide +kernel
theorem d_r_lamp_197 : decode prog_13_method_13_code 197 = .ok (.aload_n 0, 1) := by decide +kernel
theorem d_r_lamp_198 : decode prog_13_method_13_code 198 = .ok (.getfield 150, 3) := by decide +kernel
theorem d_r_lamp_201 : decode prog_13_method_13_code 201 = .ok (.iconst 1, 1) := by decide +kernel
theorem d_r_lamp_202 : decode prog_13_method_13_code 202 = .ok (.isub, 1) := by decide +kernel
theorem d_r_lamp_203 : decode prog_13_method_13_code 203 = .ok (.ireturn, 1) := by decide +kernel
theorem d_r_lamp_21 : decode prog_13_method_13_code 21 = .ok (.if_icmp .gt 16, 3) := by decide +kernel
theorem d_r_lamp_24 : decode prog_13_method_13_code 24 = .ok (.iload_n 3, 1) := by decide +kernel
theorem d_r_lamp_25 : decode prog_13_method_13_code 25 = .ok (.bipush 10, 2) := by decide +kernel
theorem d_r_lamp_27 : decode prog_13_method_13_code 27 = .ok (.irem, 1) := by decide +kernel
theorem d_r_lamp_28 : decode prog_13_method_13_code 28 = .ok (.bipush 7, 2) := by decide +kernel
theorem d_r_lamp_30 : decode prog_13_method_13_code 30 = .ok (.if_icmp .gt 7, 3) := by decide +kernel
theorem d_r_lamp_33 : decode prog_13_method_13_code 33 = .ok (.iconst 1, 1) := by decide +kernel
theorem d_r_lamp_34 : decode prog_13_method_13_code 34 = .ok (.goto 4, 3) := by decide +kernel
theorem d_r_lamp_37 : decode prog_13_method_13_code 37 = .ok (.iconst 0, 1) := by decide +kernel
theorem d_r_lamp_38 : decode prog_13_method_13_code 38 = .ok (.istore 5, 2) := by decide +kernel
theorem d_r_lamp_4 : decode prog_13_method_13_code 4 = .ok (.iload_n 3, 1) := by decide +kernel
theorem d_r_lamp_40 : decode prog_13_method_13_code 40 = .ok (.iload_n 1, 1) := by decide +kernel
theorem d_r_lamp_41 : decode prog_13_method_13_code 41 = .ok (.iconst 0, 1) := by decide +kernel
theorem d_r_lamp_42 : decode prog_13_method_13_code 42 = .ok (.iconst 5, 1) := by decide +kernel
theorem d_r_lamp_43 : decode prog_13_method_13_code 43 = .ok (.invokestatic 153, 3) := by decide +kernel
theorem d_r_lamp_46 : decode prog_13_method_13_code 46 = .ok (.ifCond .eq 29, 3) := by decide +kernel
theorem d_r_lamp_49 : decode prog_13_method_13_code 49 = .ok (.iload_n 2, 1) := by decide +kernel
theorem d_r_lamp_5 : decode prog_13_method_13_code 5 = .ok (.bipush 100, 2) := by decide +kernel
theorem d_r_lamp_50 : decode prog_13_method_13_code 50 = .ok (.iconst 1, 1) := by decide +kernel
theorem d_r_lamp_51 : decode prog_13_method_13_code 51 = .ok (.bipush 99, 2) := by decide +kernel
theorem d_r_lamp_53 : decode prog_13_method_13_code 53 = .ok (.invokestatic 153, 3) := by decide +kernel
theorem d_r_lamp_56 : decode prog_13_method_13_code 56 = .ok (.ifCond .eq 19, 3) := by decide +kernel
theorem d_r_lamp_59 : decode prog_13_method_13_code 59 = .ok (.iload 5, 2) := by decide +kernel
theorem d_r_lamp_61 : decode prog_13_method_13_code 61 = .ok (.ifCond .eq 14, 3) := by decide +kernel
theorem d_r_lamp_64 : decode prog_13_method_13_code 64 = .ok (.iload 4, 2) := by decide +kernel
theorem d_r_lamp_66 : decode prog_13_method_13_code 66 = .ok (.iconst 0, 1) := by decide +kernel
theorem d_r_lamp_67 : decode prog_13_method_13_code 67 = .ok (.bipush 9, 2) := by decide +kernel
theorem d_r_lamp_69 : decode prog_13_method_13_code 69 = .ok (.invokestatic 153, 3) := by decide +kernel
theorem d_r_lamp_7 : decode prog_13_method_13_code 7 = .ok (.idiv, 1) := by decide +kernel
theorem d_r_lamp_72 : decode prog_13_method_13_code 72 = .ok (.ifCond .ne 6, 3) := by decide +kernel
theorem d_r_lamp_75 : decode prog_13_method_13_code 75 = .ok (.bipush (-2), 2) := by decide +kernel
theorem d_r_lamp_77 : decode prog_13_method_13_code 77 = .ok (.ireturn, 1) := by decide +kernel
theorem d_r_lamp_78 : decode prog_13_method_13_code 78 = .ok (.aload_n 0, 1) := by decide +kernel
theorem d_r_lamp_79 : decode prog_13_method_13_code 79 = .ok (.getfield 150, 3) := by decide +kernel
theorem d_r_lamp_8 : decode prog_13_method_13_code 8 = .ok (.iconst 5, 1) := by decide +kernel
theorem d_r_lamp_82 : decode prog_13_method_13_code 82 = .ok (.bipush 10, 2) := by decide +kernel
theorem d_r_lamp_84 : decode prog_13_method_13_code 84 = .ok (.if_icmp .ne 6, 3) := by decide +kernel
theorem d_r_lamp_87 : decode prog_13_method_13_code 87 = .ok (.bipush (-4), 2) := by decide +kernel
theorem d_r_lamp_89 : decode prog_13_method_13_code 89 = .ok (.ireturn, 1) := by decide +kernel
theorem d_r_lamp_9 : decode prog_13_method_13_code 9 = .ok (.if_icmp .gt 28, 3) := by decide +kernel
theorem d_r_lamp_90 : decode prog_13_method_13_code 90 = .ok (.aload_n 0, 1) := by decide +kernel
theorem d_r_lamp_91 : decode prog_13_method_13_code 91 = .ok (.getfield 157, 3) := by decide +kernel
theorem d_r_lamp_94 : decode prog_13_method_13_code 94 = .ok (.ifCond .gt 17, 3) := by decide +kernel
theorem d_r_lamp_97 : decode prog_13_method_13_code 97 = .ok (.aload_n 0, 1) := by decide +kernel
theorem d_r_lamp_98 : decode prog_13_method_13_code 98 = .ok (.getfield 186, 3) := by decide +kernel
theorem d_r_lampsBy_0 : decode prog_13_method_101_code 0 = .ok (.iload_n 1, 1) := by decide +kernel
theorem d_r_lampsBy_1 : decode prog_13_method_101_code 1 = .ok (.iconst 0, 1) := by decide +kernel
theorem d_r_lampsBy_10 : decode prog_13_method_101_code 10 = .ok (.iconst 0, 1) := by decide +kernel
theorem d_r_lampsBy_102 : decode prog_13_method_101_code 102 = .ok (.bipush (-12), 2) := by decide +kernel
theorem d_r_lampsBy_104 : decode prog_13_method_101_code 104 = .ok (.ireturn, 1) := by decide +kernel
theorem d_r_lampsBy_105 : decode prog_13_method_101_code 105 = .ok (.bipush 40, 2) := by decide +kernel
theorem d_r_lampsBy_107 : decode prog_13_method_101_code 107 = .ok (.iload_n 1, 1) := by decide +kernel
theorem d_r_lampsBy_108 : decode prog_13_method_101_code 108 = .ok (.imul, 1) := by decide +kernel
theorem d_r_lampsBy_109 : decode prog_13_method_101_code 109 = .ok (.iload 7, 2) := by decide +kernel
theorem d_r_lampsBy_11 : decode prog_13_method_101_code 11 = .ok (.iconst 2, 1) := by decide +kernel
theorem d_r_lampsBy_111 : decode prog_13_method_101_code 111 = .ok (.iadd, 1) := by decide +kernel
theorem d_r_lampsBy_112 : decode prog_13_method_101_code 112 = .ok (.istore 8, 2) := by decide +kernel
theorem d_r_lampsBy_114 : decode prog_13_method_101_code 114 = .ok (.iload 5, 2) := by decide +kernel
theorem d_r_lampsBy_116 : decode prog_13_method_101_code 116 = .ok (.aload_n 0, 1) := by decide +kernel
theorem d_r_lampsBy_117 : decode prog_13_method_101_code 117 = .ok (.aload_n 0, 1) := by decide +kernel
theorem d_r_lampsBy_118 : decode prog_13_method_101_code 118 = .ok (.getfield 92, 3) := by decide +kernel
theorem d_r_lampsBy_12 : decode prog_13_method_101_code 12 = .ok (.invokestatic 153, 3) := by decide +kernel
theorem d_r_lampsBy_121 : decode prog_13_method_101_code 121 = .ok (.iload 8, 2) := by decide +kernel
theorem d_r_lampsBy_123 : decode prog_13_method_101_code 123 = .ok (.iaload, 1) := by decide +kernel
theorem d_r_lampsBy_124 : decode prog_13_method_101_code 124 = .ok (.aload_n 0, 1) := by decide +kernel
theorem d_r_lampsBy_125 : decode prog_13_method_101_code 125 = .ok (.getfield 92, 3) := by decide +kernel
theorem d_r_lampsBy_128 : decode prog_13_method_101_code 128 = .ok (.iload 8, 2) := by decide +kernel
theorem d_r_lampsBy_130 : decode prog_13_method_101_code 130 = .ok (.iconst 1, 1) := by decide +kernel
theorem d_r_lampsBy_131 : decode prog_13_method_101_code 131 = .ok (.iadd, 1) := by decide +kernel
theorem d_r_lampsBy_132 : decode prog_13_method_101_code 132 = .ok (.iaload, 1) := by decide +kernel
theorem d_r_lampsBy_133 : decode prog_13_method_101_code 133 = .ok (.aload_n 0, 1) := by decide +kernel
theorem d_r_lampsBy_134 : decode prog_13_method_101_code 134 = .ok (.getfield 92, 3) := by decide +kernel
theorem d_r_lampsBy_137 : decode prog_13_method_101_code 137 = .ok (.iload 8, 2) := by decide +kernel
theorem d_r_lampsBy_139 : decode prog_13_method_101_code 139 = .ok (.iconst 2, 1) := by decide +kernel
theorem d_r_lampsBy_140 : decode prog_13_method_101_code 140 = .ok (.iadd, 1) := by decide +kernel
theorem d_r_lampsBy_141 : decode prog_13_method_101_code 141 = .ok (.iaload, 1) := by decide +kernel
theorem d_r_lampsBy_142 : decode prog_13_method_101_code 142 = .ok (.aload_n 0, 1) := by decide +kernel
theorem d_r_lampsBy_143 : decode prog_13_method_101_code 143 = .ok (.getfield 92, 3) := by decide +kernel
theorem d_r_lampsBy_146 : decode prog_13_method_101_code 146 = .ok (.iload 8, 2) := by decide +kernel
theorem d_r_lampsBy_148 : decode prog_13_method_101_code 148 = .ok (.iconst 3, 1) := by decide +kernel
theorem d_r_lampsBy_149 : decode prog_13_method_101_code 149 = .ok (.iadd, 1) := by decide +kernel
theorem d_r_lampsBy_15 : decode prog_13_method_101_code 15 = .ok (.ifCond .eq 14, 3) := by decide +kernel
theorem d_r_lampsBy_150 : decode prog_13_method_101_code 150 = .ok (.iaload, 1) := by decide +kernel
theorem d_r_lampsBy_151 : decode prog_13_method_101_code 151 = .ok (.invokevirtual 392, 3) := by decide +kernel
theorem d_r_lampsBy_154 : decode prog_13_method_101_code 154 = .ok (.ifCond .lt 7, 3) := by decide +kernel
theorem d_r_lampsBy_157 : decode prog_13_method_101_code 157 = .ok (.iconst 1, 1) := by decide +kernel
theorem d_r_lampsBy_158 : decode prog_13_method_101_code 158 = .ok (.goto 4, 3) := by decide +kernel
theorem d_r_lampsBy_161 : decode prog_13_method_101_code 161 = .ok (.iconst 0, 1) := by decide +kernel
theorem d_r_lampsBy_162 : decode prog_13_method_101_code 162 = .ok (.iadd, 1) := by decide +kernel
theorem d_r_lampsBy_163 : decode prog_13_method_101_code 163 = .ok (.istore 5, 2) := by decide +kernel
theorem d_r_lampsBy_165 : decode prog_13_method_101_code 165 = .ok (.iinc 6 1, 3) := by decide +kernel
theorem d_r_lampsBy_168 : decode prog_13_method_101_code 168 = .ok (.goto (-104), 3) := by decide +kernel
theorem d_r_lampsBy_171 : decode prog_13_method_101_code 171 = .ok (.iload 5, 2) := by decide +kernel
theorem d_r_lampsBy_173 : decode prog_13_method_101_code 173 = .ok (.ireturn, 1) := by decide +kernel
theorem d_r_lampsBy_18 : decode prog_13_method_101_code 18 = .ok (.iload 4, 2) := by decide +kernel
theorem d_r_lampsBy_2 : decode prog_13_method_101_code 2 = .ok (.iconst 3, 1) := by decide +kernel
theorem d_r_lampsBy_20 : decode prog_13_method_101_code 20 = .ok (.iconst 0, 1) := by decide +kernel
theorem d_r_lampsBy_21 : decode prog_13_method_101_code 21 = .ok (.bipush 10, 2) := by decide +kernel
theorem d_r_lampsBy_23 : decode prog_13_method_101_code 23 = .ok (.invokestatic 153, 3) := by decide +kernel
theorem d_r_lampsBy_26 : decode prog_13_method_101_code 26 = .ok (.ifCond .ne 6, 3) := by decide +kernel
theorem d_r_lampsBy_29 : decode prog_13_method_101_code 29 = .ok (.bipush (-2), 2) := by decide +kernel
theorem d_r_lampsBy_3 : decode prog_13_method_101_code 3 = .ok (.invokestatic 153, 3) := by decide +kernel
theorem d_r_lampsBy_31 : decode prog_13_method_101_code 31 = .ok (.ireturn, 1) := by decide +kernel
theorem d_r_lampsBy_32 : decode prog_13_method_101_code 32 = .ok (.aload_n 0, 1) := by decide +kernel
theorem d_r_lampsBy_33 : decode prog_13_method_101_code 33 = .ok (.getfield 86, 3) := by decide +kernel
theorem d_r_lampsBy_36 : decode prog_13_method_101_code 36 = .ok (.iload_n 1, 1) := by decide +kernel
theorem d_r_lampsBy_37 : decode prog_13_method_101_code 37 = .ok (.iaload, 1) := by decide +kernel
theorem d_r_lampsBy_38 : decode prog_13_method_101_code 38 = .ok (.iconst (-1), 1) := by decide +kernel
theorem d_r_lampsBy_39 : decode prog_13_method_101_code 39 = .ok (.if_icmp .ne 6, 3) := by decide +kernel
theorem d_r_lampsBy_42 : decode prog_13_method_101_code 42 = .ok (.bipush (-11), 2) := by decide +kernel
theorem d_r_lampsBy_44 : decode prog_13_method_101_code 44 = .ok (.ireturn, 1) := by decide +kernel
theorem d_r_lampsBy_45 : decode prog_13_method_101_code 45 = .ok (.aload_n 0, 1) := by decide +kernel
theorem d_r_lampsBy_46 : decode prog_13_method_101_code 46 = .ok (.getfield 86, 3) := by decide +kernel
theorem d_r_lampsBy_49 : decode prog_13_method_101_code 49 = .ok (.iload_n 1, 1) := by decide +kernel
theorem d_r_lampsBy_50 : decode prog_13_method_101_code 50 = .ok (.iaload, 1) := by decide +kernel
theorem d_r_lampsBy_51 : decode prog_13_method_101_code 51 = .ok (.iload_n 2, 1) := by decide +kernel
theorem d_r_lampsBy_52 : decode prog_13_method_101_code 52 = .ok (.if_icmp .eq 6, 3) := by decide +kernel
theorem d_r_lampsBy_55 : decode prog_13_method_101_code 55 = .ok (.bipush (-13), 2) := by decide +kernel
theorem d_r_lampsBy_57 : decode prog_13_method_101_code 57 = .ok (.ireturn, 1) := by decide +kernel
theorem d_r_lampsBy_58 : decode prog_13_method_101_code 58 = .ok (.iconst 0, 1) := by decide +kernel
theorem d_r_lampsBy_59 : decode prog_13_method_101_code 59 = .ok (.istore 5, 2) := by decide +kernel
theorem d_r_lampsBy_6 : decode prog_13_method_101_code 6 = .ok (.ifCond .eq 23, 3) := by decide +kernel
theorem d_r_lampsBy_61 : decode prog_13_method_101_code 61 = .ok (.iconst 0, 1) := by decide +kernel
theorem d_r_lampsBy_62 : decode prog_13_method_101_code 62 = .ok (.istore 6, 2) := by decide +kernel
theorem d_r_lampsBy_64 : decode prog_13_method_101_code 64 = .ok (.iload 6, 2) := by decide +kernel
theorem d_r_lampsBy_66 : decode prog_13_method_101_code 66 = .ok (.iload 4, 2) := by decide +kernel
theorem d_r_lampsBy_68 : decode prog_13_method_101_code 68 = .ok (.if_icmp .ge 103, 3) := by decide +kernel
theorem d_r_lampsBy_71 : decode prog_13_method_101_code 71 = .ok (.iload_n 3, 1) := by decide +kernel
theorem d_r_lampsBy_72 : decode prog_13_method_101_code 72 = .ok (.iconst 4, 1) := by decide +kernel
theorem d_r_lampsBy_73 : decode prog_13_method_101_code 73 = .ok (.iload 6, 2) := by decide +kernel
theorem d_r_lampsBy_75 : decode prog_13_method_101_code 75 = .ok (.imul, 1) := by decide +kernel
theorem d_r_lampsBy_76 : decode prog_13_method_101_code 76 = .ok (.iadd, 1) := by decide +kernel
theorem d_r_lampsBy_77 : decode prog_13_method_101_code 77 = .ok (.istore 7, 2) := by decide +kernel
theorem d_r_lampsBy_79 : decode prog_13_method_101_code 79 = .ok (.iload_n 3, 1) := by decide +kernel
theorem d_r_lampsBy_80 : decode prog_13_method_101_code 80 = .ok (.ifCond .lt 22, 3) := by decide +kernel
theorem d_r_lampsBy_83 : decode prog_13_method_101_code 83 = .ok (.iload 7, 2) := by decide +kernel
theorem d_r_lampsBy_85 : decode prog_13_method_101_code 85 = .ok (.iload_n 3, 1) := by decide +kernel
theorem d_r_lampsBy_86 : decode prog_13_method_101_code 86 = .ok (.if_icmp .lt 16, 3) := by decide +kernel
theorem d_r_lampsBy_89 : decode prog_13_method_101_code 89 = .ok (.iload 7, 2) := by decide +kernel
theorem d_r_lampsBy_9 : decode prog_13_method_101_code 9 = .ok (.iload_n 2, 1) := by decide +kernel
theorem d_r_lampsBy_91 : decode prog_13_method_101_code 91 = .ok (.aload_n 0, 1) := by decide +kernel
theorem d_r_lampsBy_92 : decode prog_13_method_101_code 92 = .ok (.getfield 89, 3) := by decide +kernel
theorem d_r_lampsBy_95 : decode prog_13_method_101_code 95 = .ok (.iload_n 1, 1) := by decide +kernel
theorem d_r_lampsBy_96 : decode prog_13_method_101_code 96 = .ok (.iaload, 1) := by decide +kernel
theorem d_r_lampsBy_97 : decode prog_13_method_101_code 97 = .ok (.iconst 4, 1) := by decide +kernel
theorem d_r_lampsBy_98 : decode prog_13_method_101_code 98 = .ok (.isub, 1) := by decide +kernel
theorem d_r_lampsBy_99 : decode prog_13_method_101_code 99 = .ok (.if_icmp .le 6, 3) := by decide +kernel
theorem d_r_lampsIn_0 : decode prog_13_method_44_code 0 = .ok (.iconst 0, 1) := by decide +kernel
theorem d_r_lampsIn_1 : decode prog_13_method_44_code 1 = .ok (.istore_n 2, 1) := by decide +kernel
theorem d_r_lampsIn_12 : decode prog_13_method_44_code 12 = .ok (.iload_n 2, 1) := by decide +kernel
theorem d_r_lampsIn_13 : decode prog_13_method_44_code 13 = .ok (.iload_n 1, 1) := by decide +kernel
theorem d_r_lampsIn_14 : decode prog_13_method_44_code 14 = .ok (.aload_n 0, 1) := by decide +kernel
theorem d_r_lampsIn_15 : decode prog_13_method_44_code 15 = .ok (.getfield 22, 3) := by decide +kernel
theorem d_r_lampsIn_18 : decode prog_13_method_44_code 18 = .ok (.iload_n 3, 1) := by decide +kernel
theorem d_r_lampsIn_19 : decode prog_13_method_44_code 19 = .ok (.iaload, 1) := by decide +kernel
theorem d_r_lampsIn_2 : decode prog_13_method_44_code 2 = .ok (.iconst 0, 1) := by decide +kernel
theorem d_r_lampsIn_20 : decode prog_13_method_44_code 20 = .ok (.ishr, 1) := by decide +kernel
theorem d_r_lampsIn_21 : decode prog_13_method_44_code 21 = .ok (.iconst 1, 1) := by decide +kernel
theorem d_r_lampsIn_22 : decode prog_13_method_44_code 22 = .ok (.iand, 1) := by decide +kernel
theorem d_r_lampsIn_23 : decode prog_13_method_44_code 23 = .ok (.iconst 1, 1) := by decide +kernel
theorem d_r_lampsIn_24 : decode prog_13_method_44_code 24 = .ok (.if_icmp .ne 9, 3) := by decide +kernel
theorem d_r_lampsIn_27 : decode prog_13_method_44_code 27 = .ok (.iconst 1, 1) := by decide +kernel
theorem d_r_lampsIn_28 : decode prog_13_method_44_code 28 = .ok (.iload_n 3, 1) := by decide +kernel
theorem d_r_lampsIn_29 : decode prog_13_method_44_code 29 = .ok (.ishl, 1) := by decide +kernel
theorem d_r_lampsIn_3 : decode prog_13_method_44_code 3 = .ok (.istore_n 3, 1) := by decide +kernel
theorem d_r_lampsIn_30 : decode prog_13_method_44_code 30 = .ok (.goto 4, 3) := by decide +kernel
theorem d_r_lampsIn_33 : decode prog_13_method_44_code 33 = .ok (.iconst 0, 1) := by decide +kernel
theorem d_r_lampsIn_34 : decode prog_13_method_44_code 34 = .ok (.ior, 1) := by decide +kernel
theorem d_r_lampsIn_35 : decode prog_13_method_44_code 35 = .ok (.istore_n 2, 1) := by decide +kernel
theorem d_r_lampsIn_36 : decode prog_13_method_44_code 36 = .ok (.iinc 3 1, 3) := by decide +kernel
theorem d_r_lampsIn_39 : decode prog_13_method_44_code 39 = .ok (.goto (-35), 3) := by decide +kernel
theorem d_r_lampsIn_4 : decode prog_13_method_44_code 4 = .ok (.iload_n 3, 1) := by decide +kernel
theorem d_r_lampsIn_42 : decode prog_13_method_44_code 42 = .ok (.iload_n 2, 1) := by decide +kernel
theorem d_r_lampsIn_43 : decode prog_13_method_44_code 43 = .ok (.ireturn, 1) := by decide +kernel
theorem d_r_lampsIn_5 : decode prog_13_method_44_code 5 = .ok (.aload_n 0, 1) := by decide +kernel
theorem d_r_lampsIn_6 : decode prog_13_method_44_code 6 = .ok (.getfield 150, 3) := by decide +kernel
theorem d_r_lampsIn_9 : decode prog_13_method_44_code 9 = .ok (.if_icmp .ge 33, 3) := by decide +kernel
theorem d_r_lets_0 : decode prog_13_method_53_code 0 = .ok (.aload_n 0, 1) := by decide +kernel
theorem d_r_lets_1 : decode prog_13_method_53_code 1 = .ok (.iconst 0, 1) := by decide +kernel
theorem d_r_lets_2 : decode prog_13_method_53_code 2 = .ok (.invokevirtual 311, 3) := by decide +kernel
theorem d_r_lets_5 : decode prog_13_method_53_code 5 = .ok (.ireturn, 1) := by decide +kernel
theorem d_r_letters_0 : decode prog_13_method_16_code 0 = .ok (.lconst 0, 1) := by decide +kernel
theorem d_r_letters_1 : decode prog_13_method_16_code 1 = .ok (.lstore_n 1, 1) := by decide +kernel
theorem d_r_letters_12 : decode prog_13_method_16_code 12 = .ok (.if_icmp .ge 64, 3) := by decide +kernel
theorem d_r_letters_15 : decode prog_13_method_16_code 15 = .ok (.aload_n 0, 1) := by decide +kernel
theorem d_r_letters_16 : decode prog_13_method_16_code 16 = .ok (.getfield 58, 3) := by decide +kernel
theorem d_r_letters_19 : decode prog_13_method_16_code 19 = .ok (.aload_n 0, 1) := by decide +kernel
theorem d_r_letters_2 : decode prog_13_method_16_code 2 = .ok (.iconst 0, 1) := by decide +kernel
theorem d_r_letters_20 : decode prog_13_method_16_code 20 = .ok (.getfield 200, 3) := by decide +kernel
theorem d_r_letters_23 : decode prog_13_method_16_code 23 = .ok (.iaload, 1) := by decide +kernel
theorem d_r_letters_24 : decode prog_13_method_16_code 24 = .ok (.bipush 97, 2) := by decide +kernel
theorem d_r_letters_26 : decode prog_13_method_16_code 26 = .ok (.bipush 122, 2) := by decide +kernel
theorem d_r_letters_28 : decode prog_13_method_16_code 28 = .ok (.invokestatic 153, 3) := by decide +kernel
theorem d_r_letters_3 : decode prog_13_method_16_code 3 = .ok (.istore_n 3, 1) := by decide +kernel
theorem d_r_letters_31 : decode prog_13_method_16_code 31 = .ok (.ifCond .eq 45, 3) := by decide +kernel
theorem d_r_letters_34 : decode prog_13_method_16_code 34 = .ok (.iload_n 3, 1) := by decide +kernel
theorem d_r_letters_35 : decode prog_13_method_16_code 35 = .ok (.bipush 8, 2) := by decide +kernel
theorem d_r_letters_37 : decode prog_13_method_16_code 37 = .ok (.if_icmp .ge 21, 3) := by decide +kernel
theorem d_r_letters_4 : decode prog_13_method_16_code 4 = .ok (.aload_n 0, 1) := by decide +kernel
theorem d_r_letters_40 : decode prog_13_method_16_code 40 = .ok (.lload_n 1, 1) := by decide +kernel
theorem d_r_letters_41 : decode prog_13_method_16_code 41 = .ok (.bipush 8, 2) := by decide +kernel
theorem d_r_letters_43 : decode prog_13_method_16_code 43 = .ok (.lshl, 1) := by decide +kernel
theorem d_r_letters_44 : decode prog_13_method_16_code 44 = .ok (.aload_n 0, 1) := by decide +kernel
theorem d_r_letters_45 : decode prog_13_method_16_code 45 = .ok (.getfield 58, 3) := by decide +kernel
theorem d_r_letters_48 : decode prog_13_method_16_code 48 = .ok (.aload_n 0, 1) := by decide +kernel
theorem d_r_letters_49 : decode prog_13_method_16_code 49 = .ok (.getfield 200, 3) := by decide +kernel
theorem d_r_letters_5 : decode prog_13_method_16_code 5 = .ok (.getfield 200, 3) := by decide +kernel
theorem d_r_letters_52 : decode prog_13_method_16_code 52 = .ok (.iaload, 1) := by decide +kernel
theorem d_r_letters_53 : decode prog_13_method_16_code 53 = .ok (.i2l, 1) := by decide +kernel
theorem d_r_letters_54 : decode prog_13_method_16_code 54 = .ok (.lor, 1) := by decide +kernel
theorem d_r_letters_55 : decode prog_13_method_16_code 55 = .ok (.goto 4, 3) := by decide +kernel
theorem d_r_letters_58 : decode prog_13_method_16_code 58 = .ok (.lload_n 1, 1) := by decide +kernel
theorem d_r_letters_59 : decode prog_13_method_16_code 59 = .ok (.lstore_n 1, 1) := by decide +kernel
theorem d_r_letters_60 : decode prog_13_method_16_code 60 = .ok (.iinc 3 1, 3) := by decide +kernel
theorem d_r_letters_63 : decode prog_13_method_16_code 63 = .ok (.aload_n 0, 1) := by decide +kernel
theorem d_r_letters_64 : decode prog_13_method_16_code 64 = .ok (.dup, 1) := by decide +kernel
theorem d_r_letters_65 : decode prog_13_method_16_code 65 = .ok (.getfield 200, 3) := by decide +kernel
theorem d_r_letters_68 : decode prog_13_method_16_code 68 = .ok (.iconst 1, 1) := by decide +kernel
theorem d_r_letters_69 : decode prog_13_method_16_code 69 = .ok (.iadd, 1) := by decide +kernel
theorem d_r_letters_70 : decode prog_13_method_16_code 70 = .ok (.putfield 200, 3) := by decide +kernel
theorem d_r_letters_73 : decode prog_13_method_16_code 73 = .ok (.goto (-69), 3) := by decide +kernel
theorem d_r_letters_76 : decode prog_13_method_16_code 76 = .ok (.iload_n 3, 1) := by decide +kernel
theorem d_r_letters_77 : decode prog_13_method_16_code 77 = .ok (.iconst 5, 1) := by decide +kernel
theorem d_r_letters_78 : decode prog_13_method_16_code 78 = .ok (.if_icmp .le 7, 3) := by decide +kernel
theorem d_r_letters_8 : decode prog_13_method_16_code 8 = .ok (.aload_n 0, 1) := by decide +kernel
theorem d_r_letters_81 : decode prog_13_method_16_code 81 = .ok (.lconst 0, 1) := by decide +kernel
theorem d_r_letters_82 : decode prog_13_method_16_code 82 = .ok (.goto 4, 3) := by decide +kernel
theorem d_r_letters_85 : decode prog_13_method_16_code 85 = .ok (.lload_n 1, 1) := by decide +kernel
theorem d_r_letters_86 : decode prog_13_method_16_code 86 = .ok (.lreturn, 1) := by decide +kernel
theorem d_r_letters_9 : decode prog_13_method_16_code 9 = .ok (.getfield 192, 3) := by decide +kernel
theorem d_r_likeOf_0 : decode prog_13_method_57_code 0 = .ok (.iconst 0, 1) := by decide +kernel
theorem d_r_likeOf_1 : decode prog_13_method_57_code 1 = .ok (.istore_n 3, 1) := by decide +kernel
theorem d_r_likeOf_11 : decode prog_13_method_57_code 11 = .ok (.if_icmp .ge 46, 3) := by decide +kernel
theorem d_r_likeOf_14 : decode prog_13_method_57_code 14 = .ok (.iload_n 3, 1) := by decide +kernel
theorem d_r_likeOf_15 : decode prog_13_method_57_code 15 = .ok (.iload_n 1, 1) := by decide +kernel
theorem d_r_likeOf_16 : decode prog_13_method_57_code 16 = .ok (.iload 4, 2) := by decide +kernel
theorem d_r_likeOf_18 : decode prog_13_method_57_code 18 = .ok (.ishr, 1) := by decide +kernel
theorem d_r_likeOf_19 : decode prog_13_method_57_code 19 = .ok (.iconst 1, 1) := by decide +kernel
theorem d_r_likeOf_2 : decode prog_13_method_57_code 2 = .ok (.iconst 0, 1) := by decide +kernel
theorem d_r_likeOf_20 : decode prog_13_method_57_code 20 = .ok (.iand, 1) := by decide +kernel
theorem d_r_likeOf_21 : decode prog_13_method_57_code 21 = .ok (.iconst 1, 1) := by decide +kernel
theorem d_r_likeOf_22 : decode prog_13_method_57_code 22 = .ok (.if_icmp .ne 26, 3) := by decide +kernel
theorem d_r_likeOf_25 : decode prog_13_method_57_code 25 = .ok (.aload_n 0, 1) := by decide +kernel
theorem d_r_likeOf_26 : decode prog_13_method_57_code 26 = .ok (.getfield 132, 3) := by decide +kernel
theorem d_r_likeOf_29 : decode prog_13_method_57_code 29 = .ok (.iload 4, 2) := by decide +kernel
theorem d_r_likeOf_3 : decode prog_13_method_57_code 3 = .ok (.istore 4, 2) := by decide +kernel
theorem d_r_likeOf_31 : decode prog_13_method_57_code 31 = .ok (.iaload, 1) := by decide +kernel
theorem d_r_likeOf_32 : decode prog_13_method_57_code 32 = .ok (.aload_n 0, 1) := by decide +kernel
theorem d_r_likeOf_33 : decode prog_13_method_57_code 33 = .ok (.getfield 132, 3) := by decide +kernel
theorem d_r_likeOf_36 : decode prog_13_method_57_code 36 = .ok (.iload_n 2, 1) := by decide +kernel
theorem d_r_likeOf_37 : decode prog_13_method_57_code 37 = .ok (.iaload, 1) := by decide +kernel
theorem d_r_likeOf_38 : decode prog_13_method_57_code 38 = .ok (.if_icmp .ne 10, 3) := by decide +kernel
theorem d_r_likeOf_41 : decode prog_13_method_57_code 41 = .ok (.iconst 1, 1) := by decide +kernel
theorem d_r_likeOf_42 : decode prog_13_method_57_code 42 = .ok (.iload 4, 2) := by decide +kernel
theorem d_r_likeOf_44 : decode prog_13_method_57_code 44 = .ok (.ishl, 1) := by decide +kernel
theorem d_r_likeOf_45 : decode prog_13_method_57_code 45 = .ok (.goto 4, 3) := by decide +kernel
theorem d_r_likeOf_48 : decode prog_13_method_57_code 48 = .ok (.iconst 0, 1) := by decide +kernel
theorem d_r_likeOf_49 : decode prog_13_method_57_code 49 = .ok (.ior, 1) := by decide +kernel
theorem d_r_likeOf_5 : decode prog_13_method_57_code 5 = .ok (.iload 4, 2) := by decide +kernel
theorem d_r_likeOf_50 : decode prog_13_method_57_code 50 = .ok (.istore_n 3, 1) := by decide +kernel
theorem d_r_likeOf_51 : decode prog_13_method_57_code 51 = .ok (.iinc 4 1, 3) := by decide +kernel
theorem d_r_likeOf_54 : decode prog_13_method_57_code 54 = .ok (.goto (-49), 3) := by decide +kernel
theorem d_r_likeOf_57 : decode prog_13_method_57_code 57 = .ok (.iload_n 3, 1) := by decide +kernel
theorem d_r_likeOf_58 : decode prog_13_method_57_code 58 = .ok (.ireturn, 1) := by decide +kernel
theorem d_r_likeOf_7 : decode prog_13_method_57_code 7 = .ok (.aload_n 0, 1) := by decide +kernel
theorem d_r_likeOf_8 : decode prog_13_method_57_code 8 = .ok (.getfield 157, 3) := by decide +kernel
theorem d_r_likeliest_0 : decode prog_13_method_54_code 0 = .ok (.iconst (-1), 1) := by decide +kernel
theorem d_r_likeliest_1 : decode prog_13_method_54_code 1 = .ok (.istore_n 1, 1) := by decide +kernel
theorem d_r_likeliest_12 : decode prog_13_method_54_code 12 = .ok (.iload_n 1, 1) := by decide +kernel
theorem d_r_likeliest_13 : decode prog_13_method_54_code 13 = .ok (.iconst (-1), 1) := by decide +kernel
theorem d_r_likeliest_14 : decode prog_13_method_54_code 14 = .ok (.if_icmp .eq 16, 3) := by decide +kernel
theorem d_r_likeliest_17 : decode prog_13_method_54_code 17 = .ok (.aload_n 0, 1) := by decide +kernel
theorem d_r_likeliest_18 : decode prog_13_method_54_code 18 = .ok (.iload_n 2, 1) := by decide +kernel
theorem d_r_likeliest_19 : decode prog_13_method_54_code 19 = .ok (.invokevirtual 308, 3) := by decide +kernel
theorem d_r_likeliest_2 : decode prog_13_method_54_code 2 = .ok (.iconst 0, 1) := by decide +kernel
theorem d_r_likeliest_22 : decode prog_13_method_54_code 22 = .ok (.aload_n 0, 1) := by decide +kernel
theorem d_r_likeliest_23 : decode prog_13_method_54_code 23 = .ok (.iload_n 1, 1) := by decide +kernel
theorem d_r_likeliest_24 : decode prog_13_method_54_code 24 = .ok (.invokevirtual 308, 3) := by decide +kernel
theorem d_r_likeliest_27 : decode prog_13_method_54_code 27 = .ok (.if_icmp .ge 7, 3) := by decide +kernel
theorem d_r_likeliest_3 : decode prog_13_method_54_code 3 = .ok (.istore_n 2, 1) := by decide +kernel
theorem d_r_likeliest_30 : decode prog_13_method_54_code 30 = .ok (.iload_n 2, 1) := by decide +kernel
theorem d_r_likeliest_31 : decode prog_13_method_54_code 31 = .ok (.goto 4, 3) := by decide +kernel
theorem d_r_likeliest_34 : decode prog_13_method_54_code 34 = .ok (.iload_n 1, 1) := by decide +kernel
theorem d_r_likeliest_35 : decode prog_13_method_54_code 35 = .ok (.istore_n 1, 1) := by decide +kernel
theorem d_r_likeliest_36 : decode prog_13_method_54_code 36 = .ok (.iinc 2 1, 3) := by decide +kernel
theorem d_r_likeliest_39 : decode prog_13_method_54_code 39 = .ok (.goto (-35), 3) := by decide +kernel
theorem d_r_likeliest_4 : decode prog_13_method_54_code 4 = .ok (.iload_n 2, 1) := by decide +kernel
theorem d_r_likeliest_42 : decode prog_13_method_54_code 42 = .ok (.iload_n 1, 1) := by decide +kernel
theorem d_r_likeliest_43 : decode prog_13_method_54_code 43 = .ok (.ireturn, 1) := by decide +kernel
theorem d_r_likeliest_5 : decode prog_13_method_54_code 5 = .ok (.aload_n 0, 1) := by decide +kernel
theorem d_r_likeliest_6 : decode prog_13_method_54_code 6 = .ok (.getfield 157, 3) := by decide +kernel
theorem d_r_likeliest_9 : decode prog_13_method_54_code 9 = .ok (.if_icmp .ge 33, 3) := by decide +kernel
theorem d_r_litNow_0 : decode prog_13_method_37_code 0 = .ok (.aload_n 0, 1) := by decide +kernel
theorem d_r_litNow_1 : decode prog_13_method_37_code 1 = .ok (.iload_n 1, 1) := by decide +kernel
theorem d_r_litNow_10 : decode prog_13_method_37_code 10 = .ok (.aload_n 0, 1) := by decide +kernel
theorem d_r_litNow_11 : decode prog_13_method_37_code 11 = .ok (.getfield 177, 3) := by decide +kernel
theorem d_r_litNow_14 : decode prog_13_method_37_code 14 = .ok (.invokevirtual 275, 3) := by decide +kernel
theorem d_r_litNow_17 : decode prog_13_method_37_code 17 = .ok (.ireturn, 1) := by decide +kernel
theorem d_r_litNow_2 : decode prog_13_method_37_code 2 = .ok (.aload_n 0, 1) := by decide +kernel
theorem d_r_litNow_3 : decode prog_13_method_37_code 3 = .ok (.getfield 171, 3) := by decide +kernel
theorem d_r_litNow_6 : decode prog_13_method_37_code 6 = .ok (.aload_n 0, 1) := by decide +kernel
theorem d_r_litNow_7 : decode prog_13_method_37_code 7 = .ok (.getfield 174, 3) := by decide +kernel
theorem d_r_lit_0 : decode prog_13_method_36_code 0 = .ok (.iconst 0, 1) := by decide +kernel
theorem d_r_lit_1 : decode prog_13_method_36_code 1 = .ok (.istore 5, 2) := by decide +kernel
theorem d_r_lit_12 : decode prog_13_method_36_code 12 = .ok (.if_icmp .ge 45, 3) := by decide +kernel
theorem d_r_lit_15 : decode prog_13_method_36_code 15 = .ok (.iload 5, 2) := by decide +kernel
theorem d_r_lit_17 : decode prog_13_method_36_code 17 = .ok (.aload_n 0, 1) := by decide +kernel
theorem d_r_lit_18 : decode prog_13_method_36_code 18 = .ok (.iload_n 1, 1) := by decide +kernel
theorem d_r_lit_19 : decode prog_13_method_36_code 19 = .ok (.iload 6, 2) := by decide +kernel
theorem d_r_lit_21 : decode prog_13_method_36_code 21 = .ok (.iload_n 2, 1) := by decide +kernel
theorem d_r_lit_22 : decode prog_13_method_36_code 22 = .ok (.invokevirtual 269, 3) := by decide +kernel
theorem d_r_lit_25 : decode prog_13_method_36_code 25 = .ok (.ifCond .eq 22, 3) := by decide +kernel
theorem d_r_lit_28 : decode prog_13_method_36_code 28 = .ok (.aload_n 0, 1) := by decide +kernel
theorem d_r_lit_29 : decode prog_13_method_36_code 29 = .ok (.iload 6, 2) := by decide +kernel
theorem d_r_lit_3 : decode prog_13_method_36_code 3 = .ok (.iconst 0, 1) := by decide +kernel
theorem d_r_lit_31 : decode prog_13_method_36_code 31 = .ok (.iload_n 3, 1) := by decide +kernel
theorem d_r_lit_32 : decode prog_13_method_36_code 32 = .ok (.iload 4, 2) := by decide +kernel
theorem d_r_lit_34 : decode prog_13_method_36_code 34 = .ok (.invokevirtual 272, 3) := by decide +kernel
theorem d_r_lit_37 : decode prog_13_method_36_code 37 = .ok (.ifCond .eq 10, 3) := by decide +kernel
theorem d_r_lit_4 : decode prog_13_method_36_code 4 = .ok (.istore 6, 2) := by decide +kernel
theorem d_r_lit_40 : decode prog_13_method_36_code 40 = .ok (.iconst 1, 1) := by decide +kernel
theorem d_r_lit_41 : decode prog_13_method_36_code 41 = .ok (.iload 6, 2) := by decide +kernel
theorem d_r_lit_43 : decode prog_13_method_36_code 43 = .ok (.ishl, 1) := by decide +kernel
theorem d_r_lit_44 : decode prog_13_method_36_code 44 = .ok (.goto 4, 3) := by decide +kernel
theorem d_r_lit_47 : decode prog_13_method_36_code 47 = .ok (.iconst 0, 1) := by decide +kernel
theorem d_r_lit_48 : decode prog_13_method_36_code 48 = .ok (.ior, 1) := by decide +kernel
theorem d_r_lit_49 : decode prog_13_method_36_code 49 = .ok (.istore 5, 2) := by decide +kernel
theorem d_r_lit_51 : decode prog_13_method_36_code 51 = .ok (.iinc 6 1, 3) := by decide +kernel
theorem d_r_lit_54 : decode prog_13_method_36_code 54 = .ok (.goto (-48), 3) := by decide +kernel
theorem d_r_lit_57 : decode prog_13_method_36_code 57 = .ok (.iload 5, 2) := by decide +kernel
theorem d_r_lit_59 : decode prog_13_method_36_code 59 = .ok (.ireturn, 1) := by decide +kernel
theorem d_r_lit_6 : decode prog_13_method_36_code 6 = .ok (.iload 6, 2) := by decide +kernel
theorem d_r_lit_8 : decode prog_13_method_36_code 8 = .ok (.aload_n 0, 1) := by decide +kernel
theorem d_r_lit_9 : decode prog_13_method_36_code 9 = .ok (.getfield 150, 3) := by decide +kernel
theorem d_r_liveIn_0 : decode prog_13_method_68_code 0 = .ok (.iconst 0, 1) := by decide +kernel
theorem d_r_liveIn_1 : decode prog_13_method_68_code 1 = .ok (.istore 4, 2) := by decide +kernel
theorem d_r_liveIn_12 : decode prog_13_method_68_code 12 = .ok (.if_icmp .ge 43, 3) := by decide +kernel
theorem d_r_liveIn_15 : decode prog_13_method_68_code 15 = .ok (.iload 4, 2) := by decide +kernel
theorem d_r_liveIn_17 : decode prog_13_method_68_code 17 = .ok (.iload_n 3, 1) := by decide +kernel
theorem d_r_liveIn_18 : decode prog_13_method_68_code 18 = .ok (.iload 5, 2) := by decide +kernel
theorem d_r_liveIn_20 : decode prog_13_method_68_code 20 = .ok (.ishr, 1) := by decide +kernel
theorem d_r_liveIn_21 : decode prog_13_method_68_code 21 = .ok (.iconst 1, 1) := by decide +kernel
theorem d_r_liveIn_22 : decode prog_13_method_68_code 22 = .ok (.iand, 1) := by decide +kernel
theorem d_r_liveIn_23 : decode prog_13_method_68_code 23 = .ok (.iconst 1, 1) := by decide +kernel
theorem d_r_liveIn_24 : decode prog_13_method_68_code 24 = .ok (.if_icmp .ne 21, 3) := by decide +kernel
theorem d_r_liveIn_27 : decode prog_13_method_68_code 27 = .ok (.aload_n 0, 1) := by decide +kernel
theorem d_r_liveIn_28 : decode prog_13_method_68_code 28 = .ok (.iload 5, 2) := by decide +kernel
theorem d_r_liveIn_3 : decode prog_13_method_68_code 3 = .ok (.iconst 0, 1) := by decide +kernel
theorem d_r_liveIn_30 : decode prog_13_method_68_code 30 = .ok (.iload_n 1, 1) := by decide +kernel
theorem d_r_liveIn_31 : decode prog_13_method_68_code 31 = .ok (.iload_n 2, 1) := by decide +kernel
theorem d_r_liveIn_32 : decode prog_13_method_68_code 32 = .ok (.invokevirtual 269, 3) := by decide +kernel
theorem d_r_liveIn_35 : decode prog_13_method_68_code 35 = .ok (.ifCond .eq 10, 3) := by decide +kernel
theorem d_r_liveIn_38 : decode prog_13_method_68_code 38 = .ok (.iconst 1, 1) := by decide +kernel
theorem d_r_liveIn_39 : decode prog_13_method_68_code 39 = .ok (.iload 5, 2) := by decide +kernel
theorem d_r_liveIn_4 : decode prog_13_method_68_code 4 = .ok (.istore 5, 2) := by decide +kernel
theorem d_r_liveIn_41 : decode prog_13_method_68_code 41 = .ok (.ishl, 1) := by decide +kernel
theorem d_r_liveIn_42 : decode prog_13_method_68_code 42 = .ok (.goto 4, 3) := by decide +kernel
theorem d_r_liveIn_45 : decode prog_13_method_68_code 45 = .ok (.iconst 0, 1) := by decide +kernel
theorem d_r_liveIn_46 : decode prog_13_method_68_code 46 = .ok (.ior, 1) := by decide +kernel
theorem d_r_liveIn_47 : decode prog_13_method_68_code 47 = .ok (.istore 4, 2) := by decide +kernel
theorem d_r_liveIn_49 : decode prog_13_method_68_code 49 = .ok (.iinc 5 1, 3) := by decide +kernel
theorem d_r_liveIn_52 : decode prog_13_method_68_code 52 = .ok (.goto (-46), 3) := by decide +kernel
theorem d_r_liveIn_55 : decode prog_13_method_68_code 55 = .ok (.iload 4, 2) := by decide +kernel
theorem d_r_liveIn_57 : decode prog_13_method_68_code 57 = .ok (.ireturn, 1) := by decide +kernel
theorem d_r_liveIn_6 : decode prog_13_method_68_code 6 = .ok (.iload 5, 2) := by decide +kernel
theorem d_r_liveIn_8 : decode prog_13_method_68_code 8 = .ok (.aload_n 0, 1) := by decide +kernel
theorem d_r_liveIn_9 : decode prog_13_method_68_code 9 = .ok (.getfield 157, 3) := by decide +kernel
theorem d_r_live_0 : decode prog_13_method_69_code 0 = .ok (.aload_n 0, 1) := by decide +kernel
theorem d_r_live_1 : decode prog_13_method_69_code 1 = .ok (.iload_n 1, 1) := by decide +kernel
theorem d_r_live_10 : decode prog_13_method_69_code 10 = .ok (.goto 27, 3) := by decide +kernel
theorem d_r_live_13 : decode prog_13_method_69_code 13 = .ok (.aload_n 0, 1) := by decide +kernel
theorem d_r_live_14 : decode prog_13_method_69_code 14 = .ok (.iload_n 2, 1) := by decide +kernel
theorem d_r_live_15 : decode prog_13_method_69_code 15 = .ok (.invokevirtual 163, 3) := by decide +kernel
theorem d_r_live_18 : decode prog_13_method_69_code 18 = .ok (.ifCond .eq 17, 3) := by decide +kernel
theorem d_r_live_2 : decode prog_13_method_69_code 2 = .ok (.invokevirtual 195, 3) := by decide +kernel
theorem d_r_live_21 : decode prog_13_method_69_code 21 = .ok (.aload_n 0, 1) := by decide +kernel
theorem d_r_live_22 : decode prog_13_method_69_code 22 = .ok (.iload_n 1, 1) := by decide +kernel
theorem d_r_live_23 : decode prog_13_method_69_code 23 = .ok (.iload_n 2, 1) := by decide +kernel
theorem d_r_live_24 : decode prog_13_method_69_code 24 = .ok (.aload_n 0, 1) := by decide +kernel
theorem d_r_live_25 : decode prog_13_method_69_code 25 = .ok (.iconst 0, 1) := by decide +kernel
theorem d_r_live_26 : decode prog_13_method_69_code 26 = .ok (.invokevirtual 311, 3) := by decide +kernel
theorem d_r_live_29 : decode prog_13_method_69_code 29 = .ok (.invokevirtual 332, 3) := by decide +kernel
theorem d_r_live_32 : decode prog_13_method_69_code 32 = .ok (.goto 5, 3) := by decide +kernel
theorem d_r_live_35 : decode prog_13_method_69_code 35 = .ok (.bipush (-7), 2) := by decide +kernel
theorem d_r_live_37 : decode prog_13_method_69_code 37 = .ok (.ireturn, 1) := by decide +kernel
theorem d_r_live_5 : decode prog_13_method_69_code 5 = .ok (.ifCond .ne 8, 3) := by decide +kernel
theorem d_r_live_8 : decode prog_13_method_69_code 8 = .ok (.bipush (-5), 2) := by decide +kernel
theorem d_r_loadOf_0 : decode prog_13_method_87_code 0 = .ok (.iconst 0, 1) := by decide +kernel
theorem d_r_loadOf_1 : decode prog_13_method_87_code 1 = .ok (.istore 4, 2) := by decide +kernel
theorem d_r_loadOf_12 : decode prog_13_method_87_code 12 = .ok (.if_icmp .ge 58, 3) := by decide +kernel
theorem d_r_loadOf_15 : decode prog_13_method_87_code 15 = .ok (.iload 4, 2) := by decide +kernel
theorem d_r_loadOf_17 : decode prog_13_method_87_code 17 = .ok (.aload_n 0, 1) := by decide +kernel
theorem d_r_loadOf_18 : decode prog_13_method_87_code 18 = .ok (.getfield 34, 3) := by decide +kernel
theorem d_r_loadOf_21 : decode prog_13_method_87_code 21 = .ok (.bipush 10, 2) := by decide +kernel
theorem d_r_loadOf_23 : decode prog_13_method_87_code 23 = .ok (.iload_n 1, 1) := by decide +kernel
theorem d_r_loadOf_24 : decode prog_13_method_87_code 24 = .ok (.imul, 1) := by decide +kernel
theorem d_r_loadOf_25 : decode prog_13_method_87_code 25 = .ok (.iload 5, 2) := by decide +kernel
theorem d_r_loadOf_27 : decode prog_13_method_87_code 27 = .ok (.iadd, 1) := by decide +kernel
theorem d_r_loadOf_28 : decode prog_13_method_87_code 28 = .ok (.iaload, 1) := by decide +kernel
theorem d_r_loadOf_29 : decode prog_13_method_87_code 29 = .ok (.iload_n 2, 1) := by decide +kernel
theorem d_r_loadOf_3 : decode prog_13_method_87_code 3 = .ok (.iconst 0, 1) := by decide +kernel
theorem d_r_loadOf_30 : decode prog_13_method_87_code 30 = .ok (.if_icmp .ne 30, 3) := by decide +kernel
theorem d_r_loadOf_33 : decode prog_13_method_87_code 33 = .ok (.iload_n 3, 1) := by decide +kernel
theorem d_r_loadOf_34 : decode prog_13_method_87_code 34 = .ok (.iload 5, 2) := by decide +kernel
theorem d_r_loadOf_36 : decode prog_13_method_87_code 36 = .ok (.ishr, 1) := by decide +kernel
theorem d_r_loadOf_37 : decode prog_13_method_87_code 37 = .ok (.iconst 1, 1) := by decide +kernel
theorem d_r_loadOf_38 : decode prog_13_method_87_code 38 = .ok (.iand, 1) := by decide +kernel
theorem d_r_loadOf_39 : decode prog_13_method_87_code 39 = .ok (.iconst 1, 1) := by decide +kernel
theorem d_r_loadOf_4 : decode prog_13_method_87_code 4 = .ok (.istore 5, 2) := by decide +kernel
theorem d_r_loadOf_40 : decode prog_13_method_87_code 40 = .ok (.if_icmp .ne 20, 3) := by decide +kernel
theorem d_r_loadOf_43 : decode prog_13_method_87_code 43 = .ok (.aload_n 0, 1) := by decide +kernel
theorem d_r_loadOf_44 : decode prog_13_method_87_code 44 = .ok (.iconst 2, 1) := by decide +kernel
theorem d_r_loadOf_45 : decode prog_13_method_87_code 45 = .ok (.iload 5, 2) := by decide +kernel
theorem d_r_loadOf_47 : decode prog_13_method_87_code 47 = .ok (.aload_n 0, 1) := by decide +kernel
theorem d_r_loadOf_48 : decode prog_13_method_87_code 48 = .ok (.iload 5, 2) := by decide +kernel
theorem d_r_loadOf_50 : decode prog_13_method_87_code 50 = .ok (.iload_n 3, 1) := by decide +kernel
theorem d_r_loadOf_51 : decode prog_13_method_87_code 51 = .ok (.invokevirtual 282, 3) := by decide +kernel
theorem d_r_loadOf_54 : decode prog_13_method_87_code 54 = .ok (.invokevirtual 286, 3) := by decide +kernel
theorem d_r_loadOf_57 : decode prog_13_method_87_code 57 = .ok (.goto 4, 3) := by decide +kernel
theorem d_r_loadOf_6 : decode prog_13_method_87_code 6 = .ok (.iload 5, 2) := by decide +kernel
theorem d_r_loadOf_60 : decode prog_13_method_87_code 60 = .ok (.iconst 0, 1) := by decide +kernel
theorem d_r_loadOf_61 : decode prog_13_method_87_code 61 = .ok (.iadd, 1) := by decide +kernel
theorem d_r_loadOf_62 : decode prog_13_method_87_code 62 = .ok (.istore 4, 2) := by decide +kernel
theorem d_r_loadOf_64 : decode prog_13_method_87_code 64 = .ok (.iinc 5 1, 3) := by decide +kernel
theorem d_r_loadOf_67 : decode prog_13_method_87_code 67 = .ok (.goto (-61), 3) := by decide +kernel
theorem d_r_loadOf_70 : decode prog_13_method_87_code 70 = .ok (.iload 4, 2) := by decide +kernel
theorem d_r_loadOf_72 : decode prog_13_method_87_code 72 = .ok (.ireturn, 1) := by decide +kernel
theorem d_r_loadOf_8 : decode prog_13_method_87_code 8 = .ok (.aload_n 0, 1) := by decide +kernel
theorem d_r_loadOf_9 : decode prog_13_method_87_code 9 = .ok (.getfield 150, 3) := by decide +kernel
theorem d_r_load_0 : decode prog_13_method_88_code 0 = .ok (.aload_n 0, 1) := by decide +kernel
theorem d_r_load_1 : decode prog_13_method_88_code 1 = .ok (.iload_n 1, 1) := by decide +kernel
theorem d_r_load_10 : decode prog_13_method_88_code 10 = .ok (.aload_n 0, 1) := by decide +kernel
theorem d_r_load_11 : decode prog_13_method_88_code 11 = .ok (.getfield 160, 3) := by decide +kernel
theorem d_r_load_14 : decode prog_13_method_88_code 14 = .ok (.iconst 1, 1) := by decide +kernel
theorem d_r_load_15 : decode prog_13_method_88_code 15 = .ok (.isub, 1) := by decide +kernel
theorem d_r_load_16 : decode prog_13_method_88_code 16 = .ok (.invokestatic 153, 3) := by decide +kernel
theorem d_r_load_19 : decode prog_13_method_88_code 19 = .ok (.ifCond .eq 17, 3) := by decide +kernel
theorem d_r_load_2 : decode prog_13_method_88_code 2 = .ok (.invokevirtual 266, 3) := by decide +kernel
theorem d_r_load_22 : decode prog_13_method_88_code 22 = .ok (.aload_n 0, 1) := by decide +kernel
theorem d_r_load_23 : decode prog_13_method_88_code 23 = .ok (.iload_n 1, 1) := by decide +kernel
theorem d_r_load_24 : decode prog_13_method_88_code 24 = .ok (.iload_n 2, 1) := by decide +kernel
theorem d_r_load_25 : decode prog_13_method_88_code 25 = .ok (.aload_n 0, 1) := by decide +kernel
theorem d_r_load_26 : decode prog_13_method_88_code 26 = .ok (.iload_n 1, 1) := by decide +kernel
theorem d_r_load_27 : decode prog_13_method_88_code 27 = .ok (.invokevirtual 279, 3) := by decide +kernel
theorem d_r_load_30 : decode prog_13_method_88_code 30 = .ok (.invokevirtual 355, 3) := by decide +kernel
theorem d_r_load_33 : decode prog_13_method_88_code 33 = .ok (.goto 5, 3) := by decide +kernel
theorem d_r_load_36 : decode prog_13_method_88_code 36 = .ok (.bipush (-5), 2) := by decide +kernel
theorem d_r_load_38 : decode prog_13_method_88_code 38 = .ok (.ireturn, 1) := by decide +kernel
theorem d_r_load_5 : decode prog_13_method_88_code 5 = .ok (.ifCond .eq 31, 3) := by decide +kernel
theorem d_r_load_8 : decode prog_13_method_88_code 8 = .ok (.iload_n 2, 1) := by decide +kernel
theorem d_r_load_9 : decode prog_13_method_88_code 9 = .ok (.iconst 0, 1) := by decide +kernel
theorem d_r_meterOf_0 : decode prog_13_method_91_code 0 = .ok (.iconst 0, 1) := by decide +kernel
theorem d_r_meterOf_1 : decode prog_13_method_91_code 1 = .ok (.istore_n 2, 1) := by decide +kernel
theorem d_r_meterOf_12 : decode prog_13_method_91_code 12 = .ok (.iload_n 2, 1) := by decide +kernel
theorem d_r_meterOf_13 : decode prog_13_method_91_code 13 = .ok (.aload_n 0, 1) := by decide +kernel
theorem d_r_meterOf_14 : decode prog_13_method_91_code 14 = .ok (.iload_n 1, 1) := by decide +kernel
theorem d_r_meterOf_15 : decode prog_13_method_91_code 15 = .ok (.iload_n 3, 1) := by decide +kernel
theorem d_r_meterOf_16 : decode prog_13_method_91_code 16 = .ok (.aload_n 0, 1) := by decide +kernel
theorem d_r_meterOf_17 : decode prog_13_method_91_code 17 = .ok (.iload_n 1, 1) := by decide +kernel
theorem d_r_meterOf_18 : decode prog_13_method_91_code 18 = .ok (.invokevirtual 279, 3) := by decide +kernel
theorem d_r_meterOf_2 : decode prog_13_method_91_code 2 = .ok (.iconst 0, 1) := by decide +kernel
theorem d_r_meterOf_21 : decode prog_13_method_91_code 21 = .ok (.invokevirtual 355, 3) := by decide +kernel
theorem d_r_meterOf_24 : decode prog_13_method_91_code 24 = .ok (.iadd, 1) := by decide +kernel
theorem d_r_meterOf_25 : decode prog_13_method_91_code 25 = .ok (.istore_n 2, 1) := by decide +kernel
theorem d_r_meterOf_26 : decode prog_13_method_91_code 26 = .ok (.iinc 3 1, 3) := by decide +kernel
theorem d_r_meterOf_29 : decode prog_13_method_91_code 29 = .ok (.goto (-25), 3) := by decide +kernel
theorem d_r_meterOf_3 : decode prog_13_method_91_code 3 = .ok (.istore_n 3, 1) := by decide +kernel
theorem d_r_meterOf_32 : decode prog_13_method_91_code 32 = .ok (.iload_n 2, 1) := by decide +kernel
theorem d_r_meterOf_33 : decode prog_13_method_91_code 33 = .ok (.ireturn, 1) := by decide +kernel
theorem d_r_meterOf_4 : decode prog_13_method_91_code 4 = .ok (.iload_n 3, 1) := by decide +kernel
theorem d_r_meterOf_5 : decode prog_13_method_91_code 5 = .ok (.aload_n 0, 1) := by decide +kernel
theorem d_r_meterOf_6 : decode prog_13_method_91_code 6 = .ok (.getfield 160, 3) := by decide +kernel
theorem d_r_meterOf_9 : decode prog_13_method_91_code 9 = .ok (.if_icmp .ge 23, 3) := by decide +kernel
theorem d_r_meter_0 : decode prog_13_method_92_code 0 = .ok (.aload_n 0, 1) := by decide +kernel
theorem d_r_meter_1 : decode prog_13_method_92_code 1 = .ok (.iload_n 1, 1) := by decide +kernel
theorem d_r_meter_10 : decode prog_13_method_92_code 10 = .ok (.invokevirtual 358, 3) := by decide +kernel
theorem d_r_meter_13 : decode prog_13_method_92_code 13 = .ok (.goto 5, 3) := by decide +kernel
theorem d_r_meter_16 : decode prog_13_method_92_code 16 = .ok (.bipush (-5), 2) := by decide +kernel
theorem d_r_meter_18 : decode prog_13_method_92_code 18 = .ok (.ireturn, 1) := by decide +kernel
theorem d_r_meter_2 : decode prog_13_method_92_code 2 = .ok (.invokevirtual 266, 3) := by decide +kernel
theorem d_r_meter_5 : decode prog_13_method_92_code 5 = .ok (.ifCond .eq 11, 3) := by decide +kernel
theorem d_r_meter_8 : decode prog_13_method_92_code 8 = .ok (.aload_n 0, 1) := by decide +kernel
theorem d_r_meter_9 : decode prog_13_method_92_code 9 = .ok (.iload_n 1, 1) := by decide +kernel
theorem d_r_missOf_0 : decode prog_13_method_50_code 0 = .ok (.iconst 0, 1) := by decide +kernel
theorem d_r_missOf_1 : decode prog_13_method_50_code 1 = .ok (.istore_n 2, 1) := by decide +kernel
theorem d_r_missOf_12 : decode prog_13_method_50_code 12 = .ok (.iload_n 2, 1) := by decide +kernel
theorem d_r_missOf_13 : decode prog_13_method_50_code 13 = .ok (.aload_n 0, 1) := by decide +kernel
theorem d_r_missOf_14 : decode prog_13_method_50_code 14 = .ok (.iload_n 1, 1) := by decide +kernel
theorem d_r_missOf_15 : decode prog_13_method_50_code 15 = .ok (.iload_n 3, 1) := by decide +kernel
theorem d_r_missOf_16 : decode prog_13_method_50_code 16 = .ok (.invokevirtual 302, 3) := by decide +kernel
theorem d_r_missOf_19 : decode prog_13_method_50_code 19 = .ok (.invokestatic 305, 3) := by decide +kernel
theorem d_r_missOf_2 : decode prog_13_method_50_code 2 = .ok (.iconst 0, 1) := by decide +kernel
theorem d_r_missOf_22 : decode prog_13_method_50_code 22 = .ok (.iadd, 1) := by decide +kernel
theorem d_r_missOf_23 : decode prog_13_method_50_code 23 = .ok (.istore_n 2, 1) := by decide +kernel
theorem d_r_missOf_24 : decode prog_13_method_50_code 24 = .ok (.iinc 3 1, 3) := by decide +kernel
theorem d_r_missOf_27 : decode prog_13_method_50_code 27 = .ok (.goto (-23), 3) := by decide +kernel
theorem d_r_missOf_3 : decode prog_13_method_50_code 3 = .ok (.istore_n 3, 1) := by decide +kernel
theorem d_r_missOf_30 : decode prog_13_method_50_code 30 = .ok (.iload_n 2, 1) := by decide +kernel
theorem d_r_missOf_31 : decode prog_13_method_50_code 31 = .ok (.ireturn, 1) := by decide +kernel
theorem d_r_missOf_4 : decode prog_13_method_50_code 4 = .ok (.iload_n 3, 1) := by decide +kernel
theorem d_r_missOf_5 : decode prog_13_method_50_code 5 = .ok (.aload_n 0, 1) := by decide +kernel
theorem d_r_missOf_6 : decode prog_13_method_50_code 6 = .ok (.getfield 183, 3) := by decide +kernel
theorem d_r_missOf_9 : decode prog_13_method_50_code 9 = .ok (.if_icmp .ge 21, 3) := by decide +kernel
theorem d_r_miss_0 : decode prog_13_method_51_code 0 = .ok (.aload_n 0, 1) := by decide +kernel
theorem d_r_miss_1 : decode prog_13_method_51_code 1 = .ok (.iload_n 1, 1) := by decide +kernel
theorem d_r_miss_10 : decode prog_13_method_51_code 10 = .ok (.invokevirtual 308, 3) := by decide +kernel
theorem d_r_miss_13 : decode prog_13_method_51_code 13 = .ok (.goto 5, 3) := by decide +kernel
theorem d_r_miss_16 : decode prog_13_method_51_code 16 = .ok (.bipush (-5), 2) := by decide +kernel
theorem d_r_miss_18 : decode prog_13_method_51_code 18 = .ok (.ireturn, 1) := by decide +kernel
theorem d_r_miss_2 : decode prog_13_method_51_code 2 = .ok (.invokevirtual 266, 3) := by decide +kernel
theorem d_r_miss_5 : decode prog_13_method_51_code 5 = .ok (.ifCond .eq 11, 3) := by decide +kernel
theorem d_r_miss_8 : decode prog_13_method_51_code 8 = .ok (.aload_n 0, 1) := by decide +kernel
theorem d_r_miss_9 : decode prog_13_method_51_code 9 = .ok (.iload_n 1, 1) := by decide +kernel
theorem d_r_nearTo_0 : decode prog_13_method_52_code 0 = .ok (.iconst 0, 1) := by decide +kernel
theorem d_r_nearTo_1 : decode prog_13_method_52_code 1 = .ok (.istore_n 2, 1) := by decide +kernel
theorem d_r_nearTo_12 : decode prog_13_method_52_code 12 = .ok (.iload_n 2, 1) := by decide +kernel
theorem d_r_nearTo_13 : decode prog_13_method_52_code 13 = .ok (.aload_n 0, 1) := by decide +kernel
theorem d_r_nearTo_14 : decode prog_13_method_52_code 14 = .ok (.iload_n 3, 1) := by decide +kernel
theorem d_r_nearTo_15 : decode prog_13_method_52_code 15 = .ok (.invokevirtual 308, 3) := by decide +kernel
theorem d_r_nearTo_18 : decode prog_13_method_52_code 18 = .ok (.iload_n 1, 1) := by decide +kernel
theorem d_r_nearTo_19 : decode prog_13_method_52_code 19 = .ok (.if_icmp .gt 9, 3) := by decide +kernel
theorem d_r_nearTo_2 : decode prog_13_method_52_code 2 = .ok (.iconst 0, 1) := by decide +kernel
theorem d_r_nearTo_22 : decode prog_13_method_52_code 22 = .ok (.iconst 1, 1) := by decide +kernel
theorem d_r_nearTo_23 : decode prog_13_method_52_code 23 = .ok (.iload_n 3, 1) := by decide +kernel
theorem d_r_nearTo_24 : decode prog_13_method_52_code 24 = .ok (.ishl, 1) := by decide +kernel
theorem d_r_nearTo_25 : decode prog_13_method_52_code 25 = .ok (.goto 4, 3) := by decide +kernel
theorem d_r_nearTo_28 : decode prog_13_method_52_code 28 = .ok (.iconst 0, 1) := by decide +kernel
theorem d_r_nearTo_29 : decode prog_13_method_52_code 29 = .ok (.ior, 1) := by decide +kernel
theorem d_r_nearTo_3 : decode prog_13_method_52_code 3 = .ok (.istore_n 3, 1) := by decide +kernel
theorem d_r_nearTo_30 : decode prog_13_method_52_code 30 = .ok (.istore_n 2, 1) := by decide +kernel
theorem d_r_nearTo_31 : decode prog_13_method_52_code 31 = .ok (.iinc 3 1, 3) := by decide +kernel
theorem d_r_nearTo_34 : decode prog_13_method_52_code 34 = .ok (.goto (-30), 3) := by decide +kernel
theorem d_r_nearTo_37 : decode prog_13_method_52_code 37 = .ok (.iload_n 2, 1) := by decide +kernel
theorem d_r_nearTo_38 : decode prog_13_method_52_code 38 = .ok (.ireturn, 1) := by decide +kernel
theorem d_r_nearTo_4 : decode prog_13_method_52_code 4 = .ok (.iload_n 3, 1) := by decide +kernel
theorem d_r_nearTo_5 : decode prog_13_method_52_code 5 = .ok (.aload_n 0, 1) := by decide +kernel
theorem d_r_nearTo_6 : decode prog_13_method_52_code 6 = .ok (.getfield 157, 3) := by decide +kernel
theorem d_r_nearTo_9 : decode prog_13_method_52_code 9 = .ok (.if_icmp .ge 28, 3) := by decide +kernel
theorem d_r_near_0 : decode prog_13_method_55_code 0 = .ok (.iload_n 1, 1) := by decide +kernel
theorem d_r_near_1 : decode prog_13_method_55_code 1 = .ok (.iconst 0, 1) := by decide +kernel
theorem d_r_near_11 : decode prog_13_method_55_code 11 = .ok (.aload_n 0, 1) := by decide +kernel
theorem d_r_near_12 : decode prog_13_method_55_code 12 = .ok (.iload_n 1, 1) := by decide +kernel
theorem d_r_near_13 : decode prog_13_method_55_code 13 = .ok (.invokevirtual 311, 3) := by decide +kernel
theorem d_r_near_16 : decode prog_13_method_55_code 16 = .ok (.goto 5, 3) := by decide +kernel
theorem d_r_near_19 : decode prog_13_method_55_code 19 = .ok (.bipush (-2), 2) := by decide +kernel
theorem d_r_near_2 : decode prog_13_method_55_code 2 = .ok (.sipush 999, 3) := by decide +kernel
theorem d_r_near_21 : decode prog_13_method_55_code 21 = .ok (.ireturn, 1) := by decide +kernel
theorem d_r_near_5 : decode prog_13_method_55_code 5 = .ok (.invokestatic 153, 3) := by decide +kernel
theorem d_r_near_8 : decode prog_13_method_55_code 8 = .ok (.ifCond .eq 11, 3) := by decide +kernel
theorem d_r_next0_0 : decode prog_13_method_17_code 0 = .ok (.aload_n 0, 1) := by decide +kernel
theorem d_r_next0_1 : decode prog_13_method_17_code 1 = .ok (.getfield 200, 3) := by decide +kernel
theorem d_r_next0_100 : decode prog_13_method_17_code 100 = .ok (.ifCond .eq 101, 3) := by decide +kernel
theorem d_r_next0_103 : decode prog_13_method_17_code 103 = .ok (.aload_n 0, 1) := by decide +kernel
theorem d_r_next0_104 : decode prog_13_method_17_code 104 = .ok (.invokevirtual 212, 3) := by decide +kernel
theorem d_r_next0_107 : decode prog_13_method_17_code 107 = .ok (.lstore_n 2, 1) := by decide +kernel
theorem d_r_next0_108 : decode prog_13_method_17_code 108 = .ok (.iconst 0, 1) := by decide +kernel
theorem d_r_next0_109 : decode prog_13_method_17_code 109 = .ok (.istore 4, 2) := by decide +kernel
theorem d_r_next0_11 : decode prog_13_method_17_code 11 = .ok (.aload_n 0, 1) := by decide +kernel
theorem d_r_next0_111 : decode prog_13_method_17_code 111 = .ok (.iload 4, 2) := by decide +kernel
theorem d_r_next0_113 : decode prog_13_method_17_code 113 = .ok (.bipush 12, 2) := by decide +kernel
theorem d_r_next0_115 : decode prog_13_method_17_code 115 = .ok (.if_icmp .ge 21, 3) := by decide +kernel
theorem d_r_next0_118 : decode prog_13_method_17_code 118 = .ok (.aload_n 0, 1) := by decide +kernel
theorem d_r_next0_119 : decode prog_13_method_17_code 119 = .ok (.getfield 119, 3) := by decide +kernel
theorem d_r_next0_12 : decode prog_13_method_17_code 12 = .ok (.getfield 58, 3) := by decide +kernel
theorem d_r_next0_122 : decode prog_13_method_17_code 122 = .ok (.iload 4, 2) := by decide +kernel
theorem d_r_next0_124 : decode prog_13_method_17_code 124 = .ok (.laload, 1) := by decide +kernel
theorem d_r_next0_125 : decode prog_13_method_17_code 125 = .ok (.lload_n 2, 1) := by decide +kernel
theorem d_r_next0_126 : decode prog_13_method_17_code 126 = .ok (.lcmp, 1) := by decide +kernel
theorem d_r_next0_127 : decode prog_13_method_17_code 127 = .ok (.ifCond .eq 9, 3) := by decide +kernel
theorem d_r_next0_130 : decode prog_13_method_17_code 130 = .ok (.iinc 4 1, 3) := by decide +kernel
theorem d_r_next0_133 : decode prog_13_method_17_code 133 = .ok (.goto (-22), 3) := by decide +kernel
theorem d_r_next0_136 : decode prog_13_method_17_code 136 = .ok (.aload_n 0, 1) := by decide +kernel
theorem d_r_next0_137 : decode prog_13_method_17_code 137 = .ok (.iload 4, 2) := by decide +kernel
theorem d_r_next0_139 : decode prog_13_method_17_code 139 = .ok (.iconst 3, 1) := by decide +kernel
theorem d_r_next0_140 : decode prog_13_method_17_code 140 = .ok (.if_icmp .ge 7, 3) := by decide +kernel
theorem d_r_next0_143 : decode prog_13_method_17_code 143 = .ok (.iconst 3, 1) := by decide +kernel
theorem d_r_next0_144 : decode prog_13_method_17_code 144 = .ok (.goto 32, 3) := by decide +kernel
theorem d_r_next0_147 : decode prog_13_method_17_code 147 = .ok (.iload 4, 2) := by decide +kernel
theorem d_r_next0_149 : decode prog_13_method_17_code 149 = .ok (.bipush 9, 2) := by decide +kernel
theorem d_r_next0_15 : decode prog_13_method_17_code 15 = .ok (.aload_n 0, 1) := by decide +kernel
theorem d_r_next0_151 : decode prog_13_method_17_code 151 = .ok (.if_icmp .ge 7, 3) := by decide +kernel
theorem d_r_next0_154 : decode prog_13_method_17_code 154 = .ok (.iconst 2, 1) := by decide +kernel
theorem d_r_next0_155 : decode prog_13_method_17_code 155 = .ok (.goto 21, 3) := by decide +kernel
theorem d_r_next0_158 : decode prog_13_method_17_code 158 = .ok (.iload 4, 2) := by decide +kernel
theorem d_r_next0_16 : decode prog_13_method_17_code 16 = .ok (.getfield 200, 3) := by decide +kernel
theorem d_r_next0_160 : decode prog_13_method_17_code 160 = .ok (.bipush 12, 2) := by decide +kernel
theorem d_r_next0_162 : decode prog_13_method_17_code 162 = .ok (.if_icmp .ne 7, 3) := by decide +kernel
theorem d_r_next0_165 : decode prog_13_method_17_code 165 = .ok (.iconst (-1), 1) := by decide +kernel
theorem d_r_next0_166 : decode prog_13_method_17_code 166 = .ok (.goto 10, 3) := by decide +kernel
theorem d_r_next0_169 : decode prog_13_method_17_code 169 = .ok (.iconst 4, 1) := by decide +kernel
theorem d_r_next0_170 : decode prog_13_method_17_code 170 = .ok (.iload 4, 2) := by decide +kernel
theorem d_r_next0_172 : decode prog_13_method_17_code 172 = .ok (.iadd, 1) := by decide +kernel
theorem d_r_next0_173 : decode prog_13_method_17_code 173 = .ok (.bipush 9, 2) := by decide +kernel
theorem d_r_next0_175 : decode prog_13_method_17_code 175 = .ok (.isub, 1) := by decide +kernel
theorem d_r_next0_176 : decode prog_13_method_17_code 176 = .ok (.putfield 206, 3) := by decide +kernel
theorem d_r_next0_179 : decode prog_13_method_17_code 179 = .ok (.aload_n 0, 1) := by decide +kernel
theorem d_r_next0_180 : decode prog_13_method_17_code 180 = .ok (.iload 4, 2) := by decide +kernel
theorem d_r_next0_182 : decode prog_13_method_17_code 182 = .ok (.iconst 3, 1) := by decide +kernel
theorem d_r_next0_183 : decode prog_13_method_17_code 183 = .ok (.if_icmp .ge 8, 3) := by decide +kernel
theorem d_r_next0_186 : decode prog_13_method_17_code 186 = .ok (.iload 4, 2) := by decide +kernel
theorem d_r_next0_188 : decode prog_13_method_17_code 188 = .ok (.goto 7, 3) := by decide +kernel
theorem d_r_next0_19 : decode prog_13_method_17_code 19 = .ok (.iaload, 1) := by decide +kernel
theorem d_r_next0_191 : decode prog_13_method_17_code 191 = .ok (.iload 4, 2) := by decide +kernel
theorem d_r_next0_193 : decode prog_13_method_17_code 193 = .ok (.iconst 3, 1) := by decide +kernel
theorem d_r_next0_194 : decode prog_13_method_17_code 194 = .ok (.isub, 1) := by decide +kernel
theorem d_r_next0_195 : decode prog_13_method_17_code 195 = .ok (.putfield 209, 3) := by decide +kernel
theorem d_r_next0_198 : decode prog_13_method_17_code 198 = .ok (.goto 189, 3) := by decide +kernel
theorem d_r_next0_20 : decode prog_13_method_17_code 20 = .ok (.bipush 32, 2) := by decide +kernel
theorem d_r_next0_201 : decode prog_13_method_17_code 201 = .ok (.iload_n 1, 1) := by decide +kernel
theorem d_r_next0_202 : decode prog_13_method_17_code 202 = .ok (.bipush 48, 2) := by decide +kernel
theorem d_r_next0_204 : decode prog_13_method_17_code 204 = .ok (.bipush 57, 2) := by decide +kernel
theorem d_r_next0_206 : decode prog_13_method_17_code 206 = .ok (.invokestatic 153, 3) := by decide +kernel
theorem d_r_next0_209 : decode prog_13_method_17_code 209 = .ok (.ifCond .eq 101, 3) := by decide +kernel
theorem d_r_next0_212 : decode prog_13_method_17_code 212 = .ok (.iconst 0, 1) := by decide +kernel
theorem d_r_next0_213 : decode prog_13_method_17_code 213 = .ok (.istore_n 2, 1) := by decide +kernel
theorem d_r_next0_214 : decode prog_13_method_17_code 214 = .ok (.aload_n 0, 1) := by decide +kernel
theorem d_r_next0_215 : decode prog_13_method_17_code 215 = .ok (.getfield 200, 3) := by decide +kernel
theorem d_r_next0_218 : decode prog_13_method_17_code 218 = .ok (.aload_n 0, 1) := by decide +kernel
theorem d_r_next0_219 : decode prog_13_method_17_code 219 = .ok (.getfield 192, 3) := by decide +kernel
theorem d_r_next0_22 : decode prog_13_method_17_code 22 = .ok (.if_icmp .eq 17, 3) := by decide +kernel
theorem d_r_next0_222 : decode prog_13_method_17_code 222 = .ok (.if_icmp .ge 71, 3) := by decide +kernel
theorem d_r_next0_225 : decode prog_13_method_17_code 225 = .ok (.aload_n 0, 1) := by decide +kernel
theorem d_r_next0_226 : decode prog_13_method_17_code 226 = .ok (.getfield 58, 3) := by decide +kernel
theorem d_r_next0_229 : decode prog_13_method_17_code 229 = .ok (.aload_n 0, 1) := by decide +kernel
theorem d_r_next0_230 : decode prog_13_method_17_code 230 = .ok (.getfield 200, 3) := by decide +kernel
theorem d_r_next0_233 : decode prog_13_method_17_code 233 = .ok (.iaload, 1) := by decide +kernel
theorem d_r_next0_234 : decode prog_13_method_17_code 234 = .ok (.bipush 48, 2) := by decide +kernel
theorem d_r_next0_236 : decode prog_13_method_17_code 236 = .ok (.bipush 57, 2) := by decide +kernel
theorem d_r_next0_238 : decode prog_13_method_17_code 238 = .ok (.invokestatic 153, 3) := by decide +kernel
theorem d_r_next0_241 : decode prog_13_method_17_code 241 = .ok (.ifCond .eq 52, 3) := by decide +kernel
theorem d_r_next0_244 : decode prog_13_method_17_code 244 = .ok (.aload_n 0, 1) := by decide +kernel
theorem d_r_next0_245 : decode prog_13_method_17_code 245 = .ok (.iload_n 2, 1) := by decide +kernel
theorem d_r_next0_246 : decode prog_13_method_17_code 246 = .ok (.iconst 4, 1) := by decide +kernel
theorem d_r_next0_247 : decode prog_13_method_17_code 247 = .ok (.if_icmp .ge 26, 3) := by decide +kernel
theorem d_r_next0_25 : decode prog_13_method_17_code 25 = .ok (.aload_n 0, 1) := by decide +kernel
theorem d_r_next0_250 : decode prog_13_method_17_code 250 = .ok (.bipush 10, 2) := by decide +kernel
theorem d_r_next0_252 : decode prog_13_method_17_code 252 = .ok (.aload_n 0, 1) := by decide +kernel
theorem d_r_next0_253 : decode prog_13_method_17_code 253 = .ok (.getfield 209, 3) := by decide +kernel
theorem d_r_next0_256 : decode prog_13_method_17_code 256 = .ok (.imul, 1) := by decide +kernel
theorem d_r_next0_257 : decode prog_13_method_17_code 257 = .ok (.aload_n 0, 1) := by decide +kernel
theorem d_r_next0_258 : decode prog_13_method_17_code 258 = .ok (.getfield 58, 3) := by decide +kernel
theorem d_r_next0_26 : decode prog_13_method_17_code 26 = .ok (.getfield 58, 3) := by decide +kernel
theorem d_r_next0_261 : decode prog_13_method_17_code 261 = .ok (.aload_n 0, 1) := by decide +kernel
theorem d_r_next0_262 : decode prog_13_method_17_code 262 = .ok (.getfield 200, 3) := by decide +kernel
theorem d_r_next0_265 : decode prog_13_method_17_code 265 = .ok (.iaload, 1) := by decide +kernel
theorem d_r_next0_266 : decode prog_13_method_17_code 266 = .ok (.iadd, 1) := by decide +kernel
theorem d_r_next0_267 : decode prog_13_method_17_code 267 = .ok (.bipush 48, 2) := by decide +kernel
theorem d_r_next0_269 : decode prog_13_method_17_code 269 = .ok (.isub, 1) := by decide +kernel
theorem d_r_next0_270 : decode prog_13_method_17_code 270 = .ok (.goto 4, 3) := by decide +kernel
theorem d_r_next0_273 : decode prog_13_method_17_code 273 = .ok (.iconst 0, 1) := by decide +kernel
theorem d_r_next0_274 : decode prog_13_method_17_code 274 = .ok (.putfield 209, 3) := by decide +kernel
theorem d_r_next0_277 : decode prog_13_method_17_code 277 = .ok (.iinc 2 1, 3) := by decide +kernel
theorem d_r_next0_280 : decode prog_13_method_17_code 280 = .ok (.aload_n 0, 1) := by decide +kernel
theorem d_r_next0_281 : decode prog_13_method_17_code 281 = .ok (.dup, 1) := by decide +kernel
theorem d_r_next0_282 : decode prog_13_method_17_code 282 = .ok (.getfield 200, 3) := by decide +kernel
theorem d_r_next0_285 : decode prog_13_method_17_code 285 = .ok (.iconst 1, 1) := by decide +kernel
theorem d_r_next0_286 : decode prog_13_method_17_code 286 = .ok (.iadd, 1) := by decide +kernel
theorem d_r_next0_287 : decode prog_13_method_17_code 287 = .ok (.putfield 200, 3) := by decide +kernel
theorem d_r_next0_29 : decode prog_13_method_17_code 29 = .ok (.aload_n 0, 1) := by decide +kernel
theorem d_r_next0_290 : decode prog_13_method_17_code 290 = .ok (.goto (-76), 3) := by decide +kernel
theorem d_r_next0_293 : decode prog_13_method_17_code 293 = .ok (.aload_n 0, 1) := by decide +kernel
theorem d_r_next0_294 : decode prog_13_method_17_code 294 = .ok (.iload_n 2, 1) := by decide +kernel
theorem d_r_next0_295 : decode prog_13_method_17_code 295 = .ok (.iconst 4, 1) := by decide +kernel
theorem d_r_next0_296 : decode prog_13_method_17_code 296 = .ok (.if_icmp .le 7, 3) := by decide +kernel
theorem d_r_next0_299 : decode prog_13_method_17_code 299 = .ok (.iconst (-1), 1) := by decide +kernel
theorem d_r_next0_30 : decode prog_13_method_17_code 30 = .ok (.getfield 200, 3) := by decide +kernel
theorem d_r_next0_300 : decode prog_13_method_17_code 300 = .ok (.goto 4, 3) := by decide +kernel
theorem d_r_next0_303 : decode prog_13_method_17_code 303 = .ok (.iconst 1, 1) := by decide +kernel
theorem d_r_next0_304 : decode prog_13_method_17_code 304 = .ok (.putfield 206, 3) := by decide +kernel
theorem d_r_next0_307 : decode prog_13_method_17_code 307 = .ok (.goto 80, 3) := by decide +kernel
theorem d_r_next0_310 : decode prog_13_method_17_code 310 = .ok (.iload_n 1, 1) := by decide +kernel
theorem d_r_next0_311 : decode prog_13_method_17_code 311 = .ok (.bipush 40, 2) := by decide +kernel
theorem d_r_next0_313 : decode prog_13_method_17_code 313 = .ok (.if_icmp .eq 45, 3) := by decide +kernel
theorem d_r_next0_316 : decode prog_13_method_17_code 316 = .ok (.iload_n 1, 1) := by decide +kernel
theorem d_r_next0_317 : decode prog_13_method_17_code 317 = .ok (.bipush 41, 2) := by decide +kernel
theorem d_r_next0_319 : decode prog_13_method_17_code 319 = .ok (.if_icmp .eq 39, 3) := by decide +kernel
theorem d_r_next0_322 : decode prog_13_method_17_code 322 = .ok (.iload_n 1, 1) := by decide +kernel
theorem d_r_next0_323 : decode prog_13_method_17_code 323 = .ok (.bipush 59, 2) := by decide +kernel
theorem d_r_next0_325 : decode prog_13_method_17_code 325 = .ok (.if_icmp .eq 33, 3) := by decide +kernel
theorem d_r_next0_328 : decode prog_13_method_17_code 328 = .ok (.iload_n 1, 1) := by decide +kernel
theorem d_r_next0_329 : decode prog_13_method_17_code 329 = .ok (.bipush 43, 2) := by decide +kernel
theorem d_r_next0_33 : decode prog_13_method_17_code 33 = .ok (.iaload, 1) := by decide +kernel
theorem d_r_next0_331 : decode prog_13_method_17_code 331 = .ok (.if_icmp .eq 27, 3) := by decide +kernel
theorem d_r_next0_334 : decode prog_13_method_17_code 334 = .ok (.iload_n 1, 1) := by decide +kernel
theorem d_r_next0_335 : decode prog_13_method_17_code 335 = .ok (.bipush 45, 2) := by decide +kernel
theorem d_r_next0_337 : decode prog_13_method_17_code 337 = .ok (.if_icmp .eq 21, 3) := by decide +kernel
theorem d_r_next0_34 : decode prog_13_method_17_code 34 = .ok (.bipush 10, 2) := by decide +kernel
theorem d_r_next0_340 : decode prog_13_method_17_code 340 = .ok (.iload_n 1, 1) := by decide +kernel
theorem d_r_next0_341 : decode prog_13_method_17_code 341 = .ok (.bipush 42, 2) := by decide +kernel
theorem d_r_next0_343 : decode prog_13_method_17_code 343 = .ok (.if_icmp .eq 15, 3) := by decide +kernel
theorem d_r_next0_346 : decode prog_13_method_17_code 346 = .ok (.iload_n 1, 1) := by decide +kernel
theorem d_r_next0_347 : decode prog_13_method_17_code 347 = .ok (.bipush 60, 2) := by decide +kernel
theorem d_r_next0_349 : decode prog_13_method_17_code 349 = .ok (.if_icmp .eq 9, 3) := by decide +kernel
theorem d_r_next0_352 : decode prog_13_method_17_code 352 = .ok (.iload_n 1, 1) := by decide +kernel
theorem d_r_next0_353 : decode prog_13_method_17_code 353 = .ok (.bipush 61, 2) := by decide +kernel
theorem d_r_next0_355 : decode prog_13_method_17_code 355 = .ok (.if_icmp .ne 7, 3) := by decide +kernel
theorem d_r_next0_358 : decode prog_13_method_17_code 358 = .ok (.iconst 1, 1) := by decide +kernel
theorem d_r_next0_359 : decode prog_13_method_17_code 359 = .ok (.goto 4, 3) := by decide +kernel
theorem d_r_next0_36 : decode prog_13_method_17_code 36 = .ok (.if_icmp .ne 16, 3) := by decide +kernel
theorem d_r_next0_362 : decode prog_13_method_17_code 362 = .ok (.iconst 0, 1) := by decide +kernel
theorem d_r_next0_363 : decode prog_13_method_17_code 363 = .ok (.istore_n 2, 1) := by decide +kernel
theorem d_r_next0_364 : decode prog_13_method_17_code 364 = .ok (.aload_n 0, 1) := by decide +kernel
theorem d_r_next0_365 : decode prog_13_method_17_code 365 = .ok (.iload_n 2, 1) := by decide +kernel
theorem d_r_next0_366 : decode prog_13_method_17_code 366 = .ok (.ifCond .eq 7, 3) := by decide +kernel
theorem d_r_next0_369 : decode prog_13_method_17_code 369 = .ok (.iload_n 1, 1) := by decide +kernel
theorem d_r_next0_370 : decode prog_13_method_17_code 370 = .ok (.goto 4, 3) := by decide +kernel
theorem d_r_next0_373 : decode prog_13_method_17_code 373 = .ok (.iconst (-1), 1) := by decide +kernel
theorem d_r_next0_374 : decode prog_13_method_17_code 374 = .ok (.putfield 206, 3) := by decide +kernel
theorem d_r_next0_377 : decode prog_13_method_17_code 377 = .ok (.aload_n 0, 1) := by decide +kernel
theorem d_r_next0_378 : decode prog_13_method_17_code 378 = .ok (.dup, 1) := by decide +kernel
theorem d_r_next0_379 : decode prog_13_method_17_code 379 = .ok (.getfield 200, 3) := by decide +kernel
theorem d_r_next0_382 : decode prog_13_method_17_code 382 = .ok (.iconst 1, 1) := by decide +kernel
theorem d_r_next0_383 : decode prog_13_method_17_code 383 = .ok (.iadd, 1) := by decide +kernel
theorem d_r_next0_384 : decode prog_13_method_17_code 384 = .ok (.putfield 200, 3) := by decide +kernel
theorem d_r_next0_387 : decode prog_13_method_17_code 387 = .ok (.return_, 1) := by decide +kernel
theorem d_r_next0_39 : decode prog_13_method_17_code 39 = .ok (.aload_n 0, 1) := by decide +kernel
theorem d_r_next0_4 : decode prog_13_method_17_code 4 = .ok (.aload_n 0, 1) := by decide +kernel
theorem d_r_next0_40 : decode prog_13_method_17_code 40 = .ok (.dup, 1) := by decide +kernel
theorem d_r_next0_41 : decode prog_13_method_17_code 41 = .ok (.getfield 200, 3) := by decide +kernel
theorem d_r_next0_44 : decode prog_13_method_17_code 44 = .ok (.iconst 1, 1) := by decide +kernel
theorem d_r_next0_45 : decode prog_13_method_17_code 45 = .ok (.iadd, 1) := by decide +kernel
theorem d_r_next0_46 : decode prog_13_method_17_code 46 = .ok (.putfield 200, 3) := by decide +kernel
theorem d_r_next0_49 : decode prog_13_method_17_code 49 = .ok (.goto (-49), 3) := by decide +kernel
theorem d_r_next0_5 : decode prog_13_method_17_code 5 = .ok (.getfield 192, 3) := by decide +kernel
theorem d_r_next0_52 : decode prog_13_method_17_code 52 = .ok (.aload_n 0, 1) := by decide +kernel
theorem d_r_next0_53 : decode prog_13_method_17_code 53 = .ok (.aload_n 0, 1) := by decide +kernel
theorem d_r_next0_54 : decode prog_13_method_17_code 54 = .ok (.getfield 200, 3) := by decide +kernel
theorem d_r_next0_57 : decode prog_13_method_17_code 57 = .ok (.putfield 203, 3) := by decide +kernel
theorem d_r_next0_60 : decode prog_13_method_17_code 60 = .ok (.aload_n 0, 1) := by decide +kernel
theorem d_r_next0_61 : decode prog_13_method_17_code 61 = .ok (.iconst 0, 1) := by decide +kernel
theorem d_r_next0_62 : decode prog_13_method_17_code 62 = .ok (.putfield 206, 3) := by decide +kernel
theorem d_r_next0_65 : decode prog_13_method_17_code 65 = .ok (.aload_n 0, 1) := by decide +kernel
theorem d_r_next0_66 : decode prog_13_method_17_code 66 = .ok (.iconst 0, 1) := by decide +kernel
theorem d_r_next0_67 : decode prog_13_method_17_code 67 = .ok (.putfield 209, 3) := by decide +kernel
theorem d_r_next0_70 : decode prog_13_method_17_code 70 = .ok (.aload_n 0, 1) := by decide +kernel
theorem d_r_next0_71 : decode prog_13_method_17_code 71 = .ok (.getfield 200, 3) := by decide +kernel
theorem d_r_next0_74 : decode prog_13_method_17_code 74 = .ok (.aload_n 0, 1) := by decide +kernel
theorem d_r_next0_75 : decode prog_13_method_17_code 75 = .ok (.getfield 192, 3) := by decide +kernel
theorem d_r_next0_78 : decode prog_13_method_17_code 78 = .ok (.if_icmp .ne 4, 3) := by decide +kernel
theorem d_r_next0_8 : decode prog_13_method_17_code 8 = .ok (.if_icmp .ge 44, 3) := by decide +kernel
theorem d_r_next0_81 : decode prog_13_method_17_code 81 = .ok (.return_, 1) := by decide +kernel
theorem d_r_next0_82 : decode prog_13_method_17_code 82 = .ok (.aload_n 0, 1) := by decide +kernel
theorem d_r_next0_83 : decode prog_13_method_17_code 83 = .ok (.getfield 58, 3) := by decide +kernel
theorem d_r_next0_86 : decode prog_13_method_17_code 86 = .ok (.aload_n 0, 1) := by decide +kernel
theorem d_r_next0_87 : decode prog_13_method_17_code 87 = .ok (.getfield 200, 3) := by decide +kernel
theorem d_r_next0_90 : decode prog_13_method_17_code 90 = .ok (.iaload, 1) := by decide +kernel
theorem d_r_next0_91 : decode prog_13_method_17_code 91 = .ok (.istore_n 1, 1) := by decide +kernel
theorem d_r_next0_92 : decode prog_13_method_17_code 92 = .ok (.iload_n 1, 1) := by decide +kernel
theorem d_r_next0_93 : decode prog_13_method_17_code 93 = .ok (.bipush 97, 2) := by decide +kernel
theorem d_r_next0_95 : decode prog_13_method_17_code 95 = .ok (.bipush 122, 2) := by decide +kernel
theorem d_r_next0_97 : decode prog_13_method_17_code 97 = .ok (.invokestatic 153, 3) := by decide +kernel
theorem d_r_next1_0 : decode prog_13_method_61_code 0 = .ok (.iload_n 1, 1) := by decide +kernel
theorem d_r_next1_1 : decode prog_13_method_61_code 1 = .ok (.invokestatic 292, 3) := by decide +kernel
theorem d_r_next1_11 : decode prog_13_method_61_code 11 = .ok (.invokestatic 153, 3) := by decide +kernel
theorem d_r_next1_14 : decode prog_13_method_61_code 14 = .ok (.ifCond .eq 12, 3) := by decide +kernel
theorem d_r_next1_17 : decode prog_13_method_61_code 17 = .ok (.iload_n 3, 1) := by decide +kernel
theorem d_r_next1_18 : decode prog_13_method_61_code 18 = .ok (.iconst 0, 1) := by decide +kernel
theorem d_r_next1_19 : decode prog_13_method_61_code 19 = .ok (.iconst 1, 1) := by decide +kernel
theorem d_r_next1_20 : decode prog_13_method_61_code 20 = .ok (.invokestatic 153, 3) := by decide +kernel
theorem d_r_next1_23 : decode prog_13_method_61_code 23 = .ok (.ifCond .ne 6, 3) := by decide +kernel
theorem d_r_next1_26 : decode prog_13_method_61_code 26 = .ok (.bipush (-2), 2) := by decide +kernel
theorem d_r_next1_28 : decode prog_13_method_61_code 28 = .ok (.ireturn, 1) := by decide +kernel
theorem d_r_next1_29 : decode prog_13_method_61_code 29 = .ok (.aload_n 0, 1) := by decide +kernel
theorem d_r_next1_30 : decode prog_13_method_61_code 30 = .ok (.iconst 0, 1) := by decide +kernel
theorem d_r_next1_31 : decode prog_13_method_61_code 31 = .ok (.invokevirtual 311, 3) := by decide +kernel
theorem d_r_next1_34 : decode prog_13_method_61_code 34 = .ok (.istore 4, 2) := by decide +kernel
theorem d_r_next1_36 : decode prog_13_method_61_code 36 = .ok (.iload 4, 2) := by decide +kernel
theorem d_r_next1_38 : decode prog_13_method_61_code 38 = .ok (.ifCond .ne 5, 3) := by decide +kernel
theorem d_r_next1_4 : decode prog_13_method_61_code 4 = .ok (.ifCond .eq 22, 3) := by decide +kernel
theorem d_r_next1_41 : decode prog_13_method_61_code 41 = .ok (.iconst (-1), 1) := by decide +kernel
theorem d_r_next1_42 : decode prog_13_method_61_code 42 = .ok (.ireturn, 1) := by decide +kernel
theorem d_r_next1_43 : decode prog_13_method_61_code 43 = .ok (.aload_n 0, 1) := by decide +kernel
theorem d_r_next1_44 : decode prog_13_method_61_code 44 = .ok (.iload 4, 2) := by decide +kernel
theorem d_r_next1_46 : decode prog_13_method_61_code 46 = .ok (.aload_n 0, 1) := by decide +kernel
theorem d_r_next1_47 : decode prog_13_method_61_code 47 = .ok (.iload_n 1, 1) := by decide +kernel
theorem d_r_next1_48 : decode prog_13_method_61_code 48 = .ok (.invokevirtual 295, 3) := by decide +kernel
theorem d_r_next1_51 : decode prog_13_method_61_code 51 = .ok (.iload_n 2, 1) := by decide +kernel
theorem d_r_next1_52 : decode prog_13_method_61_code 52 = .ok (.invokevirtual 326, 3) := by decide +kernel
theorem d_r_next1_55 : decode prog_13_method_61_code 55 = .ok (.istore 5, 2) := by decide +kernel
theorem d_r_next1_57 : decode prog_13_method_61_code 57 = .ok (.iload_n 3, 1) := by decide +kernel
theorem d_r_next1_58 : decode prog_13_method_61_code 58 = .ok (.ifCond .ne 8, 3) := by decide +kernel
theorem d_r_next1_61 : decode prog_13_method_61_code 61 = .ok (.iload 5, 2) := by decide +kernel
theorem d_r_next1_63 : decode prog_13_method_61_code 63 = .ok (.goto 7, 3) := by decide +kernel
theorem d_r_next1_66 : decode prog_13_method_61_code 66 = .ok (.aload_n 0, 1) := by decide +kernel
theorem d_r_next1_67 : decode prog_13_method_61_code 67 = .ok (.getfield 323, 3) := by decide +kernel
theorem d_r_next1_7 : decode prog_13_method_61_code 7 = .ok (.iload_n 2, 1) := by decide +kernel
theorem d_r_next1_70 : decode prog_13_method_61_code 70 = .ok (.ireturn, 1) := by decide +kernel
theorem d_r_next1_8 : decode prog_13_method_61_code 8 = .ok (.iconst 0, 1) := by decide +kernel
theorem d_r_next1_9 : decode prog_13_method_61_code 9 = .ok (.bipush 6, 2) := by decide +kernel
theorem d_r_nextFor_0 : decode prog_13_method_60_code 0 = .ok (.iconst (-1), 1) := by decide +kernel
theorem d_r_nextFor_1 : decode prog_13_method_60_code 1 = .ok (.istore 4, 2) := by decide +kernel
theorem d_r_nextFor_10 : decode prog_13_method_60_code 10 = .ok (.getfield 160, 3) := by decide +kernel
theorem d_r_nextFor_13 : decode prog_13_method_60_code 13 = .ok (.ishl, 1) := by decide +kernel
theorem d_r_nextFor_14 : decode prog_13_method_60_code 14 = .ok (.if_icmp .ge 75, 3) := by decide +kernel
theorem d_r_nextFor_17 : decode prog_13_method_60_code 17 = .ok (.iload 5, 2) := by decide +kernel
theorem d_r_nextFor_19 : decode prog_13_method_60_code 19 = .ok (.invokestatic 305, 3) := by decide +kernel
theorem d_r_nextFor_22 : decode prog_13_method_60_code 22 = .ok (.iload_n 3, 1) := by decide +kernel
theorem d_r_nextFor_23 : decode prog_13_method_60_code 23 = .ok (.if_icmp .gt 60, 3) := by decide +kernel
theorem d_r_nextFor_26 : decode prog_13_method_60_code 26 = .ok (.aload_n 0, 1) := by decide +kernel
theorem d_r_nextFor_27 : decode prog_13_method_60_code 27 = .ok (.iload_n 1, 1) := by decide +kernel
theorem d_r_nextFor_28 : decode prog_13_method_60_code 28 = .ok (.iload 5, 2) := by decide +kernel
theorem d_r_nextFor_3 : decode prog_13_method_60_code 3 = .ok (.iconst 0, 1) := by decide +kernel
theorem d_r_nextFor_30 : decode prog_13_method_60_code 30 = .ok (.iload_n 2, 1) := by decide +kernel
theorem d_r_nextFor_31 : decode prog_13_method_60_code 31 = .ok (.invokevirtual 320, 3) := by decide +kernel
theorem d_r_nextFor_34 : decode prog_13_method_60_code 34 = .ok (.istore 6, 2) := by decide +kernel
theorem d_r_nextFor_36 : decode prog_13_method_60_code 36 = .ok (.iload 4, 2) := by decide +kernel
theorem d_r_nextFor_38 : decode prog_13_method_60_code 38 = .ok (.iconst (-1), 1) := by decide +kernel
theorem d_r_nextFor_39 : decode prog_13_method_60_code 39 = .ok (.if_icmp .eq 34, 3) := by decide +kernel
theorem d_r_nextFor_4 : decode prog_13_method_60_code 4 = .ok (.istore 5, 2) := by decide +kernel
theorem d_r_nextFor_42 : decode prog_13_method_60_code 42 = .ok (.iload 6, 2) := by decide +kernel
theorem d_r_nextFor_44 : decode prog_13_method_60_code 44 = .ok (.aload_n 0, 1) := by decide +kernel
theorem d_r_nextFor_45 : decode prog_13_method_60_code 45 = .ok (.getfield 323, 3) := by decide +kernel
theorem d_r_nextFor_48 : decode prog_13_method_60_code 48 = .ok (.if_icmp .lt 25, 3) := by decide +kernel
theorem d_r_nextFor_51 : decode prog_13_method_60_code 51 = .ok (.iload 6, 2) := by decide +kernel
theorem d_r_nextFor_53 : decode prog_13_method_60_code 53 = .ok (.aload_n 0, 1) := by decide +kernel
theorem d_r_nextFor_54 : decode prog_13_method_60_code 54 = .ok (.getfield 323, 3) := by decide +kernel
theorem d_r_nextFor_57 : decode prog_13_method_60_code 57 = .ok (.if_icmp .ne 26, 3) := by decide +kernel
theorem d_r_nextFor_6 : decode prog_13_method_60_code 6 = .ok (.iload 5, 2) := by decide +kernel
theorem d_r_nextFor_60 : decode prog_13_method_60_code 60 = .ok (.iload 5, 2) := by decide +kernel
theorem d_r_nextFor_62 : decode prog_13_method_60_code 62 = .ok (.invokestatic 305, 3) := by decide +kernel
theorem d_r_nextFor_65 : decode prog_13_method_60_code 65 = .ok (.iload 4, 2) := by decide +kernel
theorem d_r_nextFor_67 : decode prog_13_method_60_code 67 = .ok (.invokestatic 305, 3) := by decide +kernel
theorem d_r_nextFor_70 : decode prog_13_method_60_code 70 = .ok (.if_icmp .ge 13, 3) := by decide +kernel
theorem d_r_nextFor_73 : decode prog_13_method_60_code 73 = .ok (.iload 5, 2) := by decide +kernel
theorem d_r_nextFor_75 : decode prog_13_method_60_code 75 = .ok (.istore 4, 2) := by decide +kernel
theorem d_r_nextFor_77 : decode prog_13_method_60_code 77 = .ok (.aload_n 0, 1) := by decide +kernel
theorem d_r_nextFor_78 : decode prog_13_method_60_code 78 = .ok (.iload 6, 2) := by decide +kernel
theorem d_r_nextFor_8 : decode prog_13_method_60_code 8 = .ok (.iconst 1, 1) := by decide +kernel
theorem d_r_nextFor_80 : decode prog_13_method_60_code 80 = .ok (.putfield 323, 3) := by decide +kernel
theorem d_r_nextFor_83 : decode prog_13_method_60_code 83 = .ok (.iinc 5 1, 3) := by decide +kernel
theorem d_r_nextFor_86 : decode prog_13_method_60_code 86 = .ok (.goto (-80), 3) := by decide +kernel
theorem d_r_nextFor_89 : decode prog_13_method_60_code 89 = .ok (.iload 4, 2) := by decide +kernel
theorem d_r_nextFor_9 : decode prog_13_method_60_code 9 = .ok (.aload_n 0, 1) := by decide +kernel
theorem d_r_nextFor_91 : decode prog_13_method_60_code 91 = .ok (.ireturn, 1) := by decide +kernel
theorem d_r_nothing_0 : decode prog_13_method_43_code 0 = .ok (.aload_n 0, 1) := by decide +kernel
theorem d_r_nothing_1 : decode prog_13_method_43_code 1 = .ok (.iload_n 1, 1) := by decide +kernel
theorem d_r_nothing_10 : decode prog_13_method_43_code 10 = .ok (.ireturn, 1) := by decide +kernel
theorem d_r_nothing_11 : decode prog_13_method_43_code 11 = .ok (.iconst 0, 1) := by decide +kernel
theorem d_r_nothing_12 : decode prog_13_method_43_code 12 = .ok (.istore_n 2, 1) := by decide +kernel
theorem d_r_nothing_13 : decode prog_13_method_43_code 13 = .ok (.iconst 0, 1) := by decide +kernel
theorem d_r_nothing_14 : decode prog_13_method_43_code 14 = .ok (.istore_n 3, 1) := by decide +kernel
theorem d_r_nothing_15 : decode prog_13_method_43_code 15 = .ok (.iload_n 3, 1) := by decide +kernel
theorem d_r_nothing_16 : decode prog_13_method_43_code 16 = .ok (.bipush 8, 2) := by decide +kernel
theorem d_r_nothing_18 : decode prog_13_method_43_code 18 = .ok (.if_icmp .ge 48, 3) := by decide +kernel
theorem d_r_nothing_2 : decode prog_13_method_43_code 2 = .ok (.invokevirtual 266, 3) := by decide +kernel
theorem d_r_nothing_21 : decode prog_13_method_43_code 21 = .ok (.iload_n 2, 1) := by decide +kernel
theorem d_r_nothing_22 : decode prog_13_method_43_code 22 = .ok (.aload_n 0, 1) := by decide +kernel
theorem d_r_nothing_23 : decode prog_13_method_43_code 23 = .ok (.iload_n 1, 1) := by decide +kernel
theorem d_r_nothing_24 : decode prog_13_method_43_code 24 = .ok (.aload_n 0, 1) := by decide +kernel
theorem d_r_nothing_25 : decode prog_13_method_43_code 25 = .ok (.getfield 171, 3) := by decide +kernel
theorem d_r_nothing_28 : decode prog_13_method_43_code 28 = .ok (.aload_n 0, 1) := by decide +kernel
theorem d_r_nothing_29 : decode prog_13_method_43_code 29 = .ok (.getfield 174, 3) := by decide +kernel
theorem d_r_nothing_32 : decode prog_13_method_43_code 32 = .ok (.iconst 1, 1) := by decide +kernel
theorem d_r_nothing_33 : decode prog_13_method_43_code 33 = .ok (.iload_n 3, 1) := by decide +kernel
theorem d_r_nothing_34 : decode prog_13_method_43_code 34 = .ok (.ishl, 1) := by decide +kernel
theorem d_r_nothing_35 : decode prog_13_method_43_code 35 = .ok (.ixor, 1) := by decide +kernel
theorem d_r_nothing_36 : decode prog_13_method_43_code 36 = .ok (.aload_n 0, 1) := by decide +kernel
theorem d_r_nothing_37 : decode prog_13_method_43_code 37 = .ok (.getfield 177, 3) := by decide +kernel
theorem d_r_nothing_40 : decode prog_13_method_43_code 40 = .ok (.invokevirtual 275, 3) := by decide +kernel
theorem d_r_nothing_43 : decode prog_13_method_43_code 43 = .ok (.aload_n 0, 1) := by decide +kernel
theorem d_r_nothing_44 : decode prog_13_method_43_code 44 = .ok (.iload_n 1, 1) := by decide +kernel
theorem d_r_nothing_45 : decode prog_13_method_43_code 45 = .ok (.invokevirtual 279, 3) := by decide +kernel
theorem d_r_nothing_48 : decode prog_13_method_43_code 48 = .ok (.if_icmp .ne 9, 3) := by decide +kernel
theorem d_r_nothing_5 : decode prog_13_method_43_code 5 = .ok (.ifCond .ne 6, 3) := by decide +kernel
theorem d_r_nothing_51 : decode prog_13_method_43_code 51 = .ok (.iconst 1, 1) := by decide +kernel
theorem d_r_nothing_52 : decode prog_13_method_43_code 52 = .ok (.iload_n 3, 1) := by decide +kernel
theorem d_r_nothing_53 : decode prog_13_method_43_code 53 = .ok (.ishl, 1) := by decide +kernel
theorem d_r_nothing_54 : decode prog_13_method_43_code 54 = .ok (.goto 4, 3) := by decide +kernel
theorem d_r_nothing_57 : decode prog_13_method_43_code 57 = .ok (.iconst 0, 1) := by decide +kernel
theorem d_r_nothing_58 : decode prog_13_method_43_code 58 = .ok (.ior, 1) := by decide +kernel
theorem d_r_nothing_59 : decode prog_13_method_43_code 59 = .ok (.istore_n 2, 1) := by decide +kernel
theorem d_r_nothing_60 : decode prog_13_method_43_code 60 = .ok (.iinc 3 1, 3) := by decide +kernel
theorem d_r_nothing_63 : decode prog_13_method_43_code 63 = .ok (.goto (-48), 3) := by decide +kernel
theorem d_r_nothing_66 : decode prog_13_method_43_code 66 = .ok (.iload_n 2, 1) := by decide +kernel
theorem d_r_nothing_67 : decode prog_13_method_43_code 67 = .ok (.ireturn, 1) := by decide +kernel
theorem d_r_nothing_8 : decode prog_13_method_43_code 8 = .ok (.bipush (-5), 2) := by decide +kernel
theorem d_r_odds_0 : decode prog_13_method_82_code 0 = .ok (.iload_n 1, 1) := by decide +kernel
theorem d_r_odds_1 : decode prog_13_method_82_code 1 = .ok (.iconst 0, 1) := by decide +kernel
theorem d_r_odds_11 : decode prog_13_method_82_code 11 = .ok (.ifCond .eq 12, 3) := by decide +kernel
theorem d_r_odds_14 : decode prog_13_method_82_code 14 = .ok (.iload_n 2, 1) := by decide +kernel
theorem d_r_odds_15 : decode prog_13_method_82_code 15 = .ok (.iconst 0, 1) := by decide +kernel
theorem d_r_odds_16 : decode prog_13_method_82_code 16 = .ok (.iconst 1, 1) := by decide +kernel
theorem d_r_odds_17 : decode prog_13_method_82_code 17 = .ok (.invokestatic 153, 3) := by decide +kernel
theorem d_r_odds_2 : decode prog_13_method_82_code 2 = .ok (.aload_n 0, 1) := by decide +kernel
theorem d_r_odds_20 : decode prog_13_method_82_code 20 = .ok (.ifCond .ne 7, 3) := by decide +kernel
theorem d_r_odds_23 : decode prog_13_method_82_code 23 = .ok (.ldc2_w 347, 3) := by decide +kernel
theorem d_r_odds_26 : decode prog_13_method_82_code 26 = .ok (.lreturn, 1) := by decide +kernel
theorem d_r_odds_27 : decode prog_13_method_82_code 27 = .ok (.aload_n 0, 1) := by decide +kernel
theorem d_r_odds_28 : decode prog_13_method_82_code 28 = .ok (.iload_n 1, 1) := by decide +kernel
theorem d_r_odds_29 : decode prog_13_method_82_code 29 = .ok (.invokevirtual 344, 3) := by decide +kernel
theorem d_r_odds_3 : decode prog_13_method_82_code 3 = .ok (.getfield 186, 3) := by decide +kernel
theorem d_r_odds_32 : decode prog_13_method_82_code 32 = .ok (.istore_n 3, 1) := by decide +kernel
theorem d_r_odds_33 : decode prog_13_method_82_code 33 = .ok (.aload_n 0, 1) := by decide +kernel
theorem d_r_odds_34 : decode prog_13_method_82_code 34 = .ok (.getfield 150, 3) := by decide +kernel
theorem d_r_odds_37 : decode prog_13_method_82_code 37 = .ok (.aload_n 0, 1) := by decide +kernel
theorem d_r_odds_38 : decode prog_13_method_82_code 38 = .ok (.iconst 0, 1) := by decide +kernel
theorem d_r_odds_39 : decode prog_13_method_82_code 39 = .ok (.invokevirtual 311, 3) := by decide +kernel
theorem d_r_odds_42 : decode prog_13_method_82_code 42 = .ok (.invokestatic 305, 3) := by decide +kernel
theorem d_r_odds_45 : decode prog_13_method_82_code 45 = .ok (.imul, 1) := by decide +kernel
theorem d_r_odds_46 : decode prog_13_method_82_code 46 = .ok (.istore 4, 2) := by decide +kernel
theorem d_r_odds_48 : decode prog_13_method_82_code 48 = .ok (.iload_n 3, 1) := by decide +kernel
theorem d_r_odds_49 : decode prog_13_method_82_code 49 = .ok (.ifCond .ne 6, 3) := by decide +kernel
theorem d_r_odds_52 : decode prog_13_method_82_code 52 = .ok (.iload_n 2, 1) := by decide +kernel
theorem d_r_odds_53 : decode prog_13_method_82_code 53 = .ok (.i2l, 1) := by decide +kernel
theorem d_r_odds_54 : decode prog_13_method_82_code 54 = .ok (.lreturn, 1) := by decide +kernel
theorem d_r_odds_55 : decode prog_13_method_82_code 55 = .ok (.iload_n 3, 1) := by decide +kernel
theorem d_r_odds_56 : decode prog_13_method_82_code 56 = .ok (.istore 5, 2) := by decide +kernel
theorem d_r_odds_58 : decode prog_13_method_82_code 58 = .ok (.iload 4, 2) := by decide +kernel
theorem d_r_odds_6 : decode prog_13_method_82_code 6 = .ok (.iconst 1, 1) := by decide +kernel
theorem d_r_odds_60 : decode prog_13_method_82_code 60 = .ok (.istore 6, 2) := by decide +kernel
theorem d_r_odds_62 : decode prog_13_method_82_code 62 = .ok (.iload 6, 2) := by decide +kernel
theorem d_r_odds_64 : decode prog_13_method_82_code 64 = .ok (.ifCond .eq 21, 3) := by decide +kernel
theorem d_r_odds_67 : decode prog_13_method_82_code 67 = .ok (.iload 5, 2) := by decide +kernel
theorem d_r_odds_69 : decode prog_13_method_82_code 69 = .ok (.iload 6, 2) := by decide +kernel
theorem d_r_odds_7 : decode prog_13_method_82_code 7 = .ok (.isub, 1) := by decide +kernel
theorem d_r_odds_71 : decode prog_13_method_82_code 71 = .ok (.irem, 1) := by decide +kernel
theorem d_r_odds_72 : decode prog_13_method_82_code 72 = .ok (.istore 7, 2) := by decide +kernel
theorem d_r_odds_74 : decode prog_13_method_82_code 74 = .ok (.iload 6, 2) := by decide +kernel
theorem d_r_odds_76 : decode prog_13_method_82_code 76 = .ok (.istore 5, 2) := by decide +kernel
theorem d_r_odds_78 : decode prog_13_method_82_code 78 = .ok (.iload 7, 2) := by decide +kernel
theorem d_r_odds_8 : decode prog_13_method_82_code 8 = .ok (.invokestatic 153, 3) := by decide +kernel
theorem d_r_odds_80 : decode prog_13_method_82_code 80 = .ok (.istore 6, 2) := by decide +kernel
theorem d_r_odds_82 : decode prog_13_method_82_code 82 = .ok (.goto (-20), 3) := by decide +kernel
theorem d_r_odds_85 : decode prog_13_method_82_code 85 = .ok (.iload_n 2, 1) := by decide +kernel
theorem d_r_odds_86 : decode prog_13_method_82_code 86 = .ok (.ifCond .ne 7, 3) := by decide +kernel
theorem d_r_odds_89 : decode prog_13_method_82_code 89 = .ok (.iload_n 3, 1) := by decide +kernel
theorem d_r_odds_90 : decode prog_13_method_82_code 90 = .ok (.goto 5, 3) := by decide +kernel
theorem d_r_odds_93 : decode prog_13_method_82_code 93 = .ok (.iload 4, 2) := by decide +kernel
theorem d_r_odds_95 : decode prog_13_method_82_code 95 = .ok (.iload 5, 2) := by decide +kernel
theorem d_r_odds_97 : decode prog_13_method_82_code 97 = .ok (.idiv, 1) := by decide +kernel
theorem d_r_odds_98 : decode prog_13_method_82_code 98 = .ok (.i2l, 1) := by decide +kernel
theorem d_r_odds_99 : decode prog_13_method_82_code 99 = .ok (.lreturn, 1) := by decide +kernel
theorem d_r_ones_0 : decode prog_13_method_9_code 0 = .ok (.iconst 0, 1) := by decide +kernel
theorem d_r_ones_1 : decode prog_13_method_9_code 1 = .ok (.istore_n 1, 1) := by decide +kernel
theorem d_r_ones_10 : decode prog_13_method_9_code 10 = .ok (.iload_n 1, 1) := by decide +kernel
theorem d_r_ones_11 : decode prog_13_method_9_code 11 = .ok (.iload_n 0, 1) := by decide +kernel
theorem d_r_ones_12 : decode prog_13_method_9_code 12 = .ok (.iload_n 2, 1) := by decide +kernel
theorem d_r_ones_13 : decode prog_13_method_9_code 13 = .ok (.ishr, 1) := by decide +kernel
theorem d_r_ones_14 : decode prog_13_method_9_code 14 = .ok (.iconst 1, 1) := by decide +kernel
theorem d_r_ones_15 : decode prog_13_method_9_code 15 = .ok (.iand, 1) := by decide +kernel
theorem d_r_ones_16 : decode prog_13_method_9_code 16 = .ok (.iadd, 1) := by decide +kernel
theorem d_r_ones_17 : decode prog_13_method_9_code 17 = .ok (.istore_n 1, 1) := by decide +kernel
theorem d_r_ones_18 : decode prog_13_method_9_code 18 = .ok (.iinc 2 1, 3) := by decide +kernel
theorem d_r_ones_2 : decode prog_13_method_9_code 2 = .ok (.iconst 0, 1) := by decide +kernel
theorem d_r_ones_21 : decode prog_13_method_9_code 21 = .ok (.goto (-17), 3) := by decide +kernel
theorem d_r_ones_24 : decode prog_13_method_9_code 24 = .ok (.iload_n 1, 1) := by decide +kernel
theorem d_r_ones_25 : decode prog_13_method_9_code 25 = .ok (.ireturn, 1) := by decide +kernel
theorem d_r_ones_3 : decode prog_13_method_9_code 3 = .ok (.istore_n 2, 1) := by decide +kernel
theorem d_r_ones_4 : decode prog_13_method_9_code 4 = .ok (.iload_n 2, 1) := by decide +kernel
theorem d_r_ones_5 : decode prog_13_method_9_code 5 = .ok (.bipush 12, 2) := by decide +kernel
theorem d_r_ones_7 : decode prog_13_method_9_code 7 = .ok (.if_icmp .ge 17, 3) := by decide +kernel
theorem d_r_opensOne_0 : decode prog_13_method_22_code 0 = .ok (.aload_n 0, 1) := by decide +kernel
theorem d_r_opensOne_1 : decode prog_13_method_22_code 1 = .ok (.getfield 225, 3) := by decide +kernel
theorem d_r_opensOne_10 : decode prog_13_method_22_code 10 = .ok (.aload_n 0, 1) := by decide +kernel
theorem d_r_opensOne_11 : decode prog_13_method_22_code 11 = .ok (.dup, 1) := by decide +kernel
theorem d_r_opensOne_12 : decode prog_13_method_22_code 12 = .ok (.getfield 225, 3) := by decide +kernel
theorem d_r_opensOne_15 : decode prog_13_method_22_code 15 = .ok (.iconst 1, 1) := by decide +kernel
theorem d_r_opensOne_16 : decode prog_13_method_22_code 16 = .ok (.iadd, 1) := by decide +kernel
theorem d_r_opensOne_17 : decode prog_13_method_22_code 17 = .ok (.putfield 225, 3) := by decide +kernel
theorem d_r_opensOne_20 : decode prog_13_method_22_code 20 = .ok (.aload_n 0, 1) := by decide +kernel
theorem d_r_opensOne_21 : decode prog_13_method_22_code 21 = .ok (.iload_n 1, 1) := by decide +kernel
theorem d_r_opensOne_22 : decode prog_13_method_22_code 22 = .ok (.invokevirtual 232, 3) := by decide +kernel
theorem d_r_opensOne_25 : decode prog_13_method_22_code 25 = .ok (.iconst 1, 1) := by decide +kernel
theorem d_r_opensOne_26 : decode prog_13_method_22_code 26 = .ok (.ireturn, 1) := by decide +kernel
theorem d_r_opensOne_4 : decode prog_13_method_22_code 4 = .ok (.iconst 5, 1) := by decide +kernel
theorem d_r_opensOne_5 : decode prog_13_method_22_code 5 = .ok (.if_icmp .ne 5, 3) := by decide +kernel
theorem d_r_opensOne_8 : decode prog_13_method_22_code 8 = .ok (.iconst 0, 1) := by decide +kernel
theorem d_r_opensOne_9 : decode prog_13_method_22_code 9 = .ok (.ireturn, 1) := by decide +kernel
theorem d_r_order_0 : decode prog_13_method_94_code 0 = .ok (.aload_n 0, 1) := by decide +kernel
theorem d_r_order_1 : decode prog_13_method_94_code 1 = .ok (.iload_n 1, 1) := by decide +kernel
theorem d_r_order_10 : decode prog_13_method_94_code 10 = .ok (.iconst 1, 1) := by decide +kernel
theorem d_r_order_101 : decode prog_13_method_94_code 101 = .ok (.iconst 0, 1) := by decide +kernel
theorem d_r_order_102 : decode prog_13_method_94_code 102 = .ok (.istore 9, 2) := by decide +kernel
theorem d_r_order_104 : decode prog_13_method_94_code 104 = .ok (.iload 9, 2) := by decide +kernel
theorem d_r_order_106 : decode prog_13_method_94_code 106 = .ok (.aload_n 0, 1) := by decide +kernel
theorem d_r_order_107 : decode prog_13_method_94_code 107 = .ok (.getfield 160, 3) := by decide +kernel
theorem d_r_order_11 : decode prog_13_method_94_code 11 = .ok (.invokestatic 153, 3) := by decide +kernel
theorem d_r_order_110 : decode prog_13_method_94_code 110 = .ok (.if_icmp .ge 135, 3) := by decide +kernel
theorem d_r_order_113 : decode prog_13_method_94_code 113 = .ok (.iconst (-1), 1) := by decide +kernel
theorem d_r_order_114 : decode prog_13_method_94_code 114 = .ok (.istore 10, 2) := by decide +kernel
theorem d_r_order_116 : decode prog_13_method_94_code 116 = .ok (.iconst 0, 1) := by decide +kernel
theorem d_r_order_117 : decode prog_13_method_94_code 117 = .ok (.istore 11, 2) := by decide +kernel
theorem d_r_order_119 : decode prog_13_method_94_code 119 = .ok (.iload 11, 2) := by decide +kernel
theorem d_r_order_121 : decode prog_13_method_94_code 121 = .ok (.aload_n 0, 1) := by decide +kernel
theorem d_r_order_122 : decode prog_13_method_94_code 122 = .ok (.getfield 160, 3) := by decide +kernel
theorem d_r_order_125 : decode prog_13_method_94_code 125 = .ok (.if_icmp .ge 62, 3) := by decide +kernel
theorem d_r_order_128 : decode prog_13_method_94_code 128 = .ok (.iload_n 3, 1) := by decide +kernel
theorem d_r_order_129 : decode prog_13_method_94_code 129 = .ok (.iload 11, 2) := by decide +kernel
theorem d_r_order_131 : decode prog_13_method_94_code 131 = .ok (.ishr, 1) := by decide +kernel
theorem d_r_order_132 : decode prog_13_method_94_code 132 = .ok (.iconst 1, 1) := by decide +kernel
theorem d_r_order_133 : decode prog_13_method_94_code 133 = .ok (.iand, 1) := by decide +kernel
theorem d_r_order_134 : decode prog_13_method_94_code 134 = .ok (.iconst 1, 1) := by decide +kernel
theorem d_r_order_135 : decode prog_13_method_94_code 135 = .ok (.if_icmp .ne 46, 3) := by decide +kernel
theorem d_r_order_138 : decode prog_13_method_94_code 138 = .ok (.iload 10, 2) := by decide +kernel
theorem d_r_order_14 : decode prog_13_method_94_code 14 = .ok (.ifCond .ne 7, 3) := by decide +kernel
theorem d_r_order_140 : decode prog_13_method_94_code 140 = .ok (.iconst (-1), 1) := by decide +kernel
theorem d_r_order_141 : decode prog_13_method_94_code 141 = .ok (.if_icmp .eq 36, 3) := by decide +kernel
theorem d_r_order_144 : decode prog_13_method_94_code 144 = .ok (.aload_n 0, 1) := by decide +kernel
theorem d_r_order_145 : decode prog_13_method_94_code 145 = .ok (.getfield 141, 3) := by decide +kernel
theorem d_r_order_148 : decode prog_13_method_94_code 148 = .ok (.iload 11, 2) := by decide +kernel
theorem d_r_order_150 : decode prog_13_method_94_code 150 = .ok (.iaload, 1) := by decide +kernel
theorem d_r_order_151 : decode prog_13_method_94_code 151 = .ok (.aload_n 0, 1) := by decide +kernel
theorem d_r_order_152 : decode prog_13_method_94_code 152 = .ok (.getfield 13, 3) := by decide +kernel
theorem d_r_order_155 : decode prog_13_method_94_code 155 = .ok (.iload 10, 2) := by decide +kernel
theorem d_r_order_157 : decode prog_13_method_94_code 157 = .ok (.iaload, 1) := by decide +kernel
theorem d_r_order_158 : decode prog_13_method_94_code 158 = .ok (.imul, 1) := by decide +kernel
theorem d_r_order_159 : decode prog_13_method_94_code 159 = .ok (.aload_n 0, 1) := by decide +kernel
theorem d_r_order_160 : decode prog_13_method_94_code 160 = .ok (.getfield 141, 3) := by decide +kernel
theorem d_r_order_163 : decode prog_13_method_94_code 163 = .ok (.iload 10, 2) := by decide +kernel
theorem d_r_order_165 : decode prog_13_method_94_code 165 = .ok (.iaload, 1) := by decide +kernel
theorem d_r_order_166 : decode prog_13_method_94_code 166 = .ok (.aload_n 0, 1) := by decide +kernel
theorem d_r_order_167 : decode prog_13_method_94_code 167 = .ok (.getfield 13, 3) := by decide +kernel
theorem d_r_order_17 : decode prog_13_method_94_code 17 = .ok (.ldc2_w 347, 3) := by decide +kernel
theorem d_r_order_170 : decode prog_13_method_94_code 170 = .ok (.iload 11, 2) := by decide +kernel
theorem d_r_order_172 : decode prog_13_method_94_code 172 = .ok (.iaload, 1) := by decide +kernel
theorem d_r_order_173 : decode prog_13_method_94_code 173 = .ok (.imul, 1) := by decide +kernel
theorem d_r_order_174 : decode prog_13_method_94_code 174 = .ok (.if_icmp .le 7, 3) := by decide +kernel
theorem d_r_order_177 : decode prog_13_method_94_code 177 = .ok (.iload 11, 2) := by decide +kernel
theorem d_r_order_179 : decode prog_13_method_94_code 179 = .ok (.istore 10, 2) := by decide +kernel
theorem d_r_order_181 : decode prog_13_method_94_code 181 = .ok (.iinc 11 1, 3) := by decide +kernel
theorem d_r_order_184 : decode prog_13_method_94_code 184 = .ok (.goto (-65), 3) := by decide +kernel
theorem d_r_order_187 : decode prog_13_method_94_code 187 = .ok (.iload_n 3, 1) := by decide +kernel
theorem d_r_order_188 : decode prog_13_method_94_code 188 = .ok (.iconst 1, 1) := by decide +kernel
theorem d_r_order_189 : decode prog_13_method_94_code 189 = .ok (.iload 10, 2) := by decide +kernel
theorem d_r_order_191 : decode prog_13_method_94_code 191 = .ok (.ishl, 1) := by decide +kernel
theorem d_r_order_192 : decode prog_13_method_94_code 192 = .ok (.iconst (-1), 1) := by decide +kernel
theorem d_r_order_193 : decode prog_13_method_94_code 193 = .ok (.ixor, 1) := by decide +kernel
theorem d_r_order_194 : decode prog_13_method_94_code 194 = .ok (.iand, 1) := by decide +kernel
theorem d_r_order_195 : decode prog_13_method_94_code 195 = .ok (.istore_n 3, 1) := by decide +kernel
theorem d_r_order_196 : decode prog_13_method_94_code 196 = .ok (.iload 8, 2) := by decide +kernel
theorem d_r_order_198 : decode prog_13_method_94_code 198 = .ok (.aload_n 0, 1) := by decide +kernel
theorem d_r_order_199 : decode prog_13_method_94_code 199 = .ok (.getfield 13, 3) := by decide +kernel
theorem d_r_order_2 : decode prog_13_method_94_code 2 = .ok (.invokevirtual 266, 3) := by decide +kernel
theorem d_r_order_20 : decode prog_13_method_94_code 20 = .ok (.lreturn, 1) := by decide +kernel
theorem d_r_order_202 : decode prog_13_method_94_code 202 = .ok (.iload 10, 2) := by decide +kernel
theorem d_r_order_204 : decode prog_13_method_94_code 204 = .ok (.iaload, 1) := by decide +kernel
theorem d_r_order_205 : decode prog_13_method_94_code 205 = .ok (.iadd, 1) := by decide +kernel
theorem d_r_order_206 : decode prog_13_method_94_code 206 = .ok (.istore 8, 2) := by decide +kernel
theorem d_r_order_208 : decode prog_13_method_94_code 208 = .ok (.lload 6, 2) := by decide +kernel
theorem d_r_order_21 : decode prog_13_method_94_code 21 = .ok (.iconst 0, 1) := by decide +kernel
theorem d_r_order_210 : decode prog_13_method_94_code 210 = .ok (.aload_n 0, 1) := by decide +kernel
theorem d_r_order_211 : decode prog_13_method_94_code 211 = .ok (.getfield 141, 3) := by decide +kernel
theorem d_r_order_214 : decode prog_13_method_94_code 214 = .ok (.iload 10, 2) := by decide +kernel
theorem d_r_order_216 : decode prog_13_method_94_code 216 = .ok (.iaload, 1) := by decide +kernel
theorem d_r_order_217 : decode prog_13_method_94_code 217 = .ok (.i2l, 1) := by decide +kernel
theorem d_r_order_218 : decode prog_13_method_94_code 218 = .ok (.iload 8, 2) := by decide +kernel
theorem d_r_order_22 : decode prog_13_method_94_code 22 = .ok (.istore_n 3, 1) := by decide +kernel
theorem d_r_order_220 : decode prog_13_method_94_code 220 = .ok (.i2l, 1) := by decide +kernel
theorem d_r_order_221 : decode prog_13_method_94_code 221 = .ok (.lmul, 1) := by decide +kernel
theorem d_r_order_222 : decode prog_13_method_94_code 222 = .ok (.ladd, 1) := by decide +kernel
theorem d_r_order_223 : decode prog_13_method_94_code 223 = .ok (.lstore 6, 2) := by decide +kernel
theorem d_r_order_225 : decode prog_13_method_94_code 225 = .ok (.ldc2_w 362, 3) := by decide +kernel
theorem d_r_order_228 : decode prog_13_method_94_code 228 = .ok (.lload 4, 2) := by decide +kernel
theorem d_r_order_23 : decode prog_13_method_94_code 23 = .ok (.iload_n 3, 1) := by decide +kernel
theorem d_r_order_230 : decode prog_13_method_94_code 230 = .ok (.lmul, 1) := by decide +kernel
theorem d_r_order_231 : decode prog_13_method_94_code 231 = .ok (.iload 10, 2) := by decide +kernel
theorem d_r_order_233 : decode prog_13_method_94_code 233 = .ok (.i2l, 1) := by decide +kernel
theorem d_r_order_234 : decode prog_13_method_94_code 234 = .ok (.ladd, 1) := by decide +kernel
theorem d_r_order_235 : decode prog_13_method_94_code 235 = .ok (.lconst 1, 1) := by decide +kernel
theorem d_r_order_236 : decode prog_13_method_94_code 236 = .ok (.ladd, 1) := by decide +kernel
theorem d_r_order_237 : decode prog_13_method_94_code 237 = .ok (.lstore 4, 2) := by decide +kernel
theorem d_r_order_239 : decode prog_13_method_94_code 239 = .ok (.iinc 9 1, 3) := by decide +kernel
theorem d_r_order_24 : decode prog_13_method_94_code 24 = .ok (.bipush 6, 2) := by decide +kernel
theorem d_r_order_242 : decode prog_13_method_94_code 242 = .ok (.goto (-138), 3) := by decide +kernel
theorem d_r_order_245 : decode prog_13_method_94_code 245 = .ok (.iload_n 2, 1) := by decide +kernel
theorem d_r_order_246 : decode prog_13_method_94_code 246 = .ok (.ifCond .ne 8, 3) := by decide +kernel
theorem d_r_order_249 : decode prog_13_method_94_code 249 = .ok (.lload 4, 2) := by decide +kernel
theorem d_r_order_251 : decode prog_13_method_94_code 251 = .ok (.goto 5, 3) := by decide +kernel
theorem d_r_order_254 : decode prog_13_method_94_code 254 = .ok (.lload 6, 2) := by decide +kernel
theorem d_r_order_256 : decode prog_13_method_94_code 256 = .ok (.lreturn, 1) := by decide +kernel
theorem d_r_order_26 : decode prog_13_method_94_code 26 = .ok (.if_icmp .ge 16, 3) := by decide +kernel
theorem d_r_order_29 : decode prog_13_method_94_code 29 = .ok (.aload_n 0, 1) := by decide +kernel
theorem d_r_order_30 : decode prog_13_method_94_code 30 = .ok (.getfield 141, 3) := by decide +kernel
theorem d_r_order_33 : decode prog_13_method_94_code 33 = .ok (.iload_n 3, 1) := by decide +kernel
theorem d_r_order_34 : decode prog_13_method_94_code 34 = .ok (.iconst 0, 1) := by decide +kernel
theorem d_r_order_35 : decode prog_13_method_94_code 35 = .ok (.iastore, 1) := by decide +kernel
theorem d_r_order_36 : decode prog_13_method_94_code 36 = .ok (.iinc 3 1, 3) := by decide +kernel
theorem d_r_order_39 : decode prog_13_method_94_code 39 = .ok (.goto (-16), 3) := by decide +kernel
theorem d_r_order_42 : decode prog_13_method_94_code 42 = .ok (.iconst 0, 1) := by decide +kernel
theorem d_r_order_43 : decode prog_13_method_94_code 43 = .ok (.istore_n 3, 1) := by decide +kernel
theorem d_r_order_44 : decode prog_13_method_94_code 44 = .ok (.iload_n 3, 1) := by decide +kernel
theorem d_r_order_45 : decode prog_13_method_94_code 45 = .ok (.aload_n 0, 1) := by decide +kernel
theorem d_r_order_46 : decode prog_13_method_94_code 46 = .ok (.getfield 150, 3) := by decide +kernel
theorem d_r_order_49 : decode prog_13_method_94_code 49 = .ok (.if_icmp .ge 34, 3) := by decide +kernel
theorem d_r_order_5 : decode prog_13_method_94_code 5 = .ok (.ifCond .eq 12, 3) := by decide +kernel
theorem d_r_order_52 : decode prog_13_method_94_code 52 = .ok (.aload_n 0, 1) := by decide +kernel
theorem d_r_order_53 : decode prog_13_method_94_code 53 = .ok (.getfield 141, 3) := by decide +kernel
theorem d_r_order_56 : decode prog_13_method_94_code 56 = .ok (.aload_n 0, 1) := by decide +kernel
theorem d_r_order_57 : decode prog_13_method_94_code 57 = .ok (.getfield 34, 3) := by decide +kernel
theorem d_r_order_60 : decode prog_13_method_94_code 60 = .ok (.bipush 10, 2) := by decide +kernel
theorem d_r_order_62 : decode prog_13_method_94_code 62 = .ok (.iload_n 1, 1) := by decide +kernel
theorem d_r_order_63 : decode prog_13_method_94_code 63 = .ok (.imul, 1) := by decide +kernel
theorem d_r_order_64 : decode prog_13_method_94_code 64 = .ok (.iload_n 3, 1) := by decide +kernel
theorem d_r_order_65 : decode prog_13_method_94_code 65 = .ok (.iadd, 1) := by decide +kernel
theorem d_r_order_66 : decode prog_13_method_94_code 66 = .ok (.iaload, 1) := by decide +kernel
theorem d_r_order_67 : decode prog_13_method_94_code 67 = .ok (.dup2, 1) := by decide +kernel
theorem d_r_order_68 : decode prog_13_method_94_code 68 = .ok (.iaload, 1) := by decide +kernel
theorem d_r_order_69 : decode prog_13_method_94_code 69 = .ok (.aload_n 0, 1) := by decide +kernel
theorem d_r_order_70 : decode prog_13_method_94_code 70 = .ok (.getfield 19, 3) := by decide +kernel
theorem d_r_order_73 : decode prog_13_method_94_code 73 = .ok (.iload_n 3, 1) := by decide +kernel
theorem d_r_order_74 : decode prog_13_method_94_code 74 = .ok (.iaload, 1) := by decide +kernel
theorem d_r_order_75 : decode prog_13_method_94_code 75 = .ok (.iadd, 1) := by decide +kernel
theorem d_r_order_76 : decode prog_13_method_94_code 76 = .ok (.iastore, 1) := by decide +kernel
theorem d_r_order_77 : decode prog_13_method_94_code 77 = .ok (.iinc 3 1, 3) := by decide +kernel
theorem d_r_order_8 : decode prog_13_method_94_code 8 = .ok (.iload_n 2, 1) := by decide +kernel
theorem d_r_order_80 : decode prog_13_method_94_code 80 = .ok (.goto (-36), 3) := by decide +kernel
theorem d_r_order_83 : decode prog_13_method_94_code 83 = .ok (.iconst 1, 1) := by decide +kernel
theorem d_r_order_84 : decode prog_13_method_94_code 84 = .ok (.aload_n 0, 1) := by decide +kernel
theorem d_r_order_85 : decode prog_13_method_94_code 85 = .ok (.getfield 160, 3) := by decide +kernel
theorem d_r_order_88 : decode prog_13_method_94_code 88 = .ok (.ishl, 1) := by decide +kernel
theorem d_r_order_89 : decode prog_13_method_94_code 89 = .ok (.iconst 1, 1) := by decide +kernel
theorem d_r_order_9 : decode prog_13_method_94_code 9 = .ok (.iconst 0, 1) := by decide +kernel
theorem d_r_order_90 : decode prog_13_method_94_code 90 = .ok (.isub, 1) := by decide +kernel
theorem d_r_order_91 : decode prog_13_method_94_code 91 = .ok (.istore_n 3, 1) := by decide +kernel
theorem d_r_order_92 : decode prog_13_method_94_code 92 = .ok (.lconst 0, 1) := by decide +kernel
theorem d_r_order_93 : decode prog_13_method_94_code 93 = .ok (.lstore 4, 2) := by decide +kernel
theorem d_r_order_95 : decode prog_13_method_94_code 95 = .ok (.lconst 0, 1) := by decide +kernel
theorem d_r_order_96 : decode prog_13_method_94_code 96 = .ok (.lstore 6, 2) := by decide +kernel
theorem d_r_order_98 : decode prog_13_method_94_code 98 = .ok (.iconst 0, 1) := by decide +kernel
theorem d_r_order_99 : decode prog_13_method_94_code 99 = .ok (.istore 8, 2) := by decide +kernel
theorem d_r_over_0 : decode prog_13_method_89_code 0 = .ok (.aload_n 0, 1) := by decide +kernel
theorem d_r_over_1 : decode prog_13_method_89_code 1 = .ok (.iload_n 1, 1) := by decide +kernel
theorem d_r_over_10 : decode prog_13_method_89_code 10 = .ok (.ireturn, 1) := by decide +kernel
theorem d_r_over_11 : decode prog_13_method_89_code 11 = .ok (.iconst 0, 1) := by decide +kernel
theorem d_r_over_12 : decode prog_13_method_89_code 12 = .ok (.istore_n 2, 1) := by decide +kernel
theorem d_r_over_13 : decode prog_13_method_89_code 13 = .ok (.iconst 0, 1) := by decide +kernel
theorem d_r_over_14 : decode prog_13_method_89_code 14 = .ok (.istore_n 3, 1) := by decide +kernel
theorem d_r_over_15 : decode prog_13_method_89_code 15 = .ok (.iload_n 3, 1) := by decide +kernel
theorem d_r_over_16 : decode prog_13_method_89_code 16 = .ok (.aload_n 0, 1) := by decide +kernel
theorem d_r_over_17 : decode prog_13_method_89_code 17 = .ok (.getfield 160, 3) := by decide +kernel
theorem d_r_over_2 : decode prog_13_method_89_code 2 = .ok (.invokevirtual 266, 3) := by decide +kernel
theorem d_r_over_20 : decode prog_13_method_89_code 20 = .ok (.if_icmp .ge 39, 3) := by decide +kernel
theorem d_r_over_23 : decode prog_13_method_89_code 23 = .ok (.iload_n 2, 1) := by decide +kernel
theorem d_r_over_24 : decode prog_13_method_89_code 24 = .ok (.aload_n 0, 1) := by decide +kernel
theorem d_r_over_25 : decode prog_13_method_89_code 25 = .ok (.iload_n 1, 1) := by decide +kernel
theorem d_r_over_26 : decode prog_13_method_89_code 26 = .ok (.iload_n 3, 1) := by decide +kernel
theorem d_r_over_27 : decode prog_13_method_89_code 27 = .ok (.aload_n 0, 1) := by decide +kernel
theorem d_r_over_28 : decode prog_13_method_89_code 28 = .ok (.iload_n 1, 1) := by decide +kernel
theorem d_r_over_29 : decode prog_13_method_89_code 29 = .ok (.invokevirtual 279, 3) := by decide +kernel
theorem d_r_over_32 : decode prog_13_method_89_code 32 = .ok (.invokevirtual 355, 3) := by decide +kernel
theorem d_r_over_35 : decode prog_13_method_89_code 35 = .ok (.aload_n 0, 1) := by decide +kernel
theorem d_r_over_36 : decode prog_13_method_89_code 36 = .ok (.getfield 7, 3) := by decide +kernel
theorem d_r_over_39 : decode prog_13_method_89_code 39 = .ok (.iload_n 3, 1) := by decide +kernel
theorem d_r_over_40 : decode prog_13_method_89_code 40 = .ok (.iaload, 1) := by decide +kernel
theorem d_r_over_41 : decode prog_13_method_89_code 41 = .ok (.if_icmp .le 9, 3) := by decide +kernel
theorem d_r_over_44 : decode prog_13_method_89_code 44 = .ok (.iconst 1, 1) := by decide +kernel
theorem d_r_over_45 : decode prog_13_method_89_code 45 = .ok (.iload_n 3, 1) := by decide +kernel
theorem d_r_over_46 : decode prog_13_method_89_code 46 = .ok (.ishl, 1) := by decide +kernel
theorem d_r_over_47 : decode prog_13_method_89_code 47 = .ok (.goto 4, 3) := by decide +kernel
theorem d_r_over_5 : decode prog_13_method_89_code 5 = .ok (.ifCond .ne 6, 3) := by decide +kernel
theorem d_r_over_50 : decode prog_13_method_89_code 50 = .ok (.iconst 0, 1) := by decide +kernel
theorem d_r_over_51 : decode prog_13_method_89_code 51 = .ok (.ior, 1) := by decide +kernel
theorem d_r_over_52 : decode prog_13_method_89_code 52 = .ok (.istore_n 2, 1) := by decide +kernel
theorem d_r_over_53 : decode prog_13_method_89_code 53 = .ok (.iinc 3 1, 3) := by decide +kernel
theorem d_r_over_56 : decode prog_13_method_89_code 56 = .ok (.goto (-41), 3) := by decide +kernel
theorem d_r_over_59 : decode prog_13_method_89_code 59 = .ok (.iload_n 2, 1) := by decide +kernel
theorem d_r_over_60 : decode prog_13_method_89_code 60 = .ok (.ireturn, 1) := by decide +kernel
theorem d_r_over_8 : decode prog_13_method_89_code 8 = .ok (.bipush (-5), 2) := by decide +kernel
theorem d_r_parts_0 : decode prog_13_method_59_code 0 = .ok (.aload_n 0, 1) := by decide +kernel
theorem d_r_parts_1 : decode prog_13_method_59_code 1 = .ok (.iload_n 1, 1) := by decide +kernel
theorem d_r_parts_12 : decode prog_13_method_59_code 12 = .ok (.ifCond .eq 12, 3) := by decide +kernel
theorem d_r_parts_15 : decode prog_13_method_59_code 15 = .ok (.iload_n 3, 1) := by decide +kernel
theorem d_r_parts_16 : decode prog_13_method_59_code 16 = .ok (.iconst 0, 1) := by decide +kernel
theorem d_r_parts_17 : decode prog_13_method_59_code 17 = .ok (.iconst 1, 1) := by decide +kernel
theorem d_r_parts_18 : decode prog_13_method_59_code 18 = .ok (.invokestatic 153, 3) := by decide +kernel
theorem d_r_parts_2 : decode prog_13_method_59_code 2 = .ok (.invokevirtual 163, 3) := by decide +kernel
theorem d_r_parts_21 : decode prog_13_method_59_code 21 = .ok (.ifCond .ne 6, 3) := by decide +kernel
theorem d_r_parts_24 : decode prog_13_method_59_code 24 = .ok (.bipush (-2), 2) := by decide +kernel
theorem d_r_parts_26 : decode prog_13_method_59_code 26 = .ok (.ireturn, 1) := by decide +kernel
theorem d_r_parts_27 : decode prog_13_method_59_code 27 = .ok (.aload_n 0, 1) := by decide +kernel
theorem d_r_parts_28 : decode prog_13_method_59_code 28 = .ok (.iconst 0, 1) := by decide +kernel
theorem d_r_parts_29 : decode prog_13_method_59_code 29 = .ok (.invokevirtual 311, 3) := by decide +kernel
theorem d_r_parts_32 : decode prog_13_method_59_code 32 = .ok (.istore 4, 2) := by decide +kernel
theorem d_r_parts_34 : decode prog_13_method_59_code 34 = .ok (.iload_n 3, 1) := by decide +kernel
theorem d_r_parts_35 : decode prog_13_method_59_code 35 = .ok (.ifCond .ne 18, 3) := by decide +kernel
theorem d_r_parts_38 : decode prog_13_method_59_code 38 = .ok (.aload_n 0, 1) := by decide +kernel
theorem d_r_parts_39 : decode prog_13_method_59_code 39 = .ok (.iload 4, 2) := by decide +kernel
theorem d_r_parts_41 : decode prog_13_method_59_code 41 = .ok (.iload_n 1, 1) := by decide +kernel
theorem d_r_parts_42 : decode prog_13_method_59_code 42 = .ok (.aload_n 0, 1) := by decide +kernel
theorem d_r_parts_43 : decode prog_13_method_59_code 43 = .ok (.iload_n 2, 1) := by decide +kernel
theorem d_r_parts_44 : decode prog_13_method_59_code 44 = .ok (.invokevirtual 295, 3) := by decide +kernel
theorem d_r_parts_47 : decode prog_13_method_59_code 47 = .ok (.invokevirtual 314, 3) := by decide +kernel
theorem d_r_parts_5 : decode prog_13_method_59_code 5 = .ok (.ifCond .eq 19, 3) := by decide +kernel
theorem d_r_parts_50 : decode prog_13_method_59_code 50 = .ok (.goto 15, 3) := by decide +kernel
theorem d_r_parts_53 : decode prog_13_method_59_code 53 = .ok (.aload_n 0, 1) := by decide +kernel
theorem d_r_parts_54 : decode prog_13_method_59_code 54 = .ok (.iload 4, 2) := by decide +kernel
theorem d_r_parts_56 : decode prog_13_method_59_code 56 = .ok (.iload_n 1, 1) := by decide +kernel
theorem d_r_parts_57 : decode prog_13_method_59_code 57 = .ok (.aload_n 0, 1) := by decide +kernel
theorem d_r_parts_58 : decode prog_13_method_59_code 58 = .ok (.iload_n 2, 1) := by decide +kernel
theorem d_r_parts_59 : decode prog_13_method_59_code 59 = .ok (.invokevirtual 295, 3) := by decide +kernel
theorem d_r_parts_62 : decode prog_13_method_59_code 62 = .ok (.invokevirtual 320, 3) := by decide +kernel
theorem d_r_parts_65 : decode prog_13_method_59_code 65 = .ok (.ireturn, 1) := by decide +kernel
theorem d_r_parts_8 : decode prog_13_method_59_code 8 = .ok (.iload_n 2, 1) := by decide +kernel
theorem d_r_parts_9 : decode prog_13_method_59_code 9 = .ok (.invokestatic 292, 3) := by decide +kernel
theorem d_r_plan_0 : decode prog_13_method_63_code 0 = .ok (.aload_n 0, 1) := by decide +kernel
theorem d_r_plan_1 : decode prog_13_method_63_code 1 = .ok (.iload_n 1, 1) := by decide +kernel
theorem d_r_plan_10 : decode prog_13_method_63_code 10 = .ok (.ireturn, 1) := by decide +kernel
theorem d_r_plan_101 : decode prog_13_method_63_code 101 = .ok (.iload 4, 2) := by decide +kernel
theorem d_r_plan_103 : decode prog_13_method_63_code 103 = .ok (.if_icmp .ne 5, 3) := by decide +kernel
theorem d_r_plan_106 : decode prog_13_method_63_code 106 = .ok (.iconst (-1), 1) := by decide +kernel
theorem d_r_plan_107 : decode prog_13_method_63_code 107 = .ok (.ireturn, 1) := by decide +kernel
theorem d_r_plan_108 : decode prog_13_method_63_code 108 = .ok (.iload 8, 2) := by decide +kernel
theorem d_r_plan_11 : decode prog_13_method_63_code 11 = .ok (.iload_n 2, 1) := by decide +kernel
theorem d_r_plan_110 : decode prog_13_method_63_code 110 = .ok (.istore 4, 2) := by decide +kernel
theorem d_r_plan_112 : decode prog_13_method_63_code 112 = .ok (.iinc 6 1, 3) := by decide +kernel
theorem d_r_plan_115 : decode prog_13_method_63_code 115 = .ok (.goto (-56), 3) := by decide +kernel
theorem d_r_plan_118 : decode prog_13_method_63_code 118 = .ok (.iload 6, 2) := by decide +kernel
theorem d_r_plan_12 : decode prog_13_method_63_code 12 = .ok (.invokestatic 292, 3) := by decide +kernel
theorem d_r_plan_120 : decode prog_13_method_63_code 120 = .ok (.ireturn, 1) := by decide +kernel
theorem d_r_plan_15 : decode prog_13_method_63_code 15 = .ok (.ifCond .eq 13, 3) := by decide +kernel
theorem d_r_plan_18 : decode prog_13_method_63_code 18 = .ok (.iload_n 3, 1) := by decide +kernel
theorem d_r_plan_19 : decode prog_13_method_63_code 19 = .ok (.iconst 0, 1) := by decide +kernel
theorem d_r_plan_2 : decode prog_13_method_63_code 2 = .ok (.invokevirtual 266, 3) := by decide +kernel
theorem d_r_plan_20 : decode prog_13_method_63_code 20 = .ok (.bipush 6, 2) := by decide +kernel
theorem d_r_plan_22 : decode prog_13_method_63_code 22 = .ok (.invokestatic 153, 3) := by decide +kernel
theorem d_r_plan_25 : decode prog_13_method_63_code 25 = .ok (.ifCond .ne 6, 3) := by decide +kernel
theorem d_r_plan_28 : decode prog_13_method_63_code 28 = .ok (.bipush (-7), 2) := by decide +kernel
theorem d_r_plan_30 : decode prog_13_method_63_code 30 = .ok (.ireturn, 1) := by decide +kernel
theorem d_r_plan_31 : decode prog_13_method_63_code 31 = .ok (.aload_n 0, 1) := by decide +kernel
theorem d_r_plan_32 : decode prog_13_method_63_code 32 = .ok (.iconst 0, 1) := by decide +kernel
theorem d_r_plan_33 : decode prog_13_method_63_code 33 = .ok (.invokevirtual 311, 3) := by decide +kernel
theorem d_r_plan_36 : decode prog_13_method_63_code 36 = .ok (.istore 4, 2) := by decide +kernel
theorem d_r_plan_38 : decode prog_13_method_63_code 38 = .ok (.iload 4, 2) := by decide +kernel
theorem d_r_plan_40 : decode prog_13_method_63_code 40 = .ok (.iload_n 1, 1) := by decide +kernel
theorem d_r_plan_41 : decode prog_13_method_63_code 41 = .ok (.ishr, 1) := by decide +kernel
theorem d_r_plan_42 : decode prog_13_method_63_code 42 = .ok (.iconst 1, 1) := by decide +kernel
theorem d_r_plan_43 : decode prog_13_method_63_code 43 = .ok (.iand, 1) := by decide +kernel
theorem d_r_plan_44 : decode prog_13_method_63_code 44 = .ok (.ifCond .ne 5, 3) := by decide +kernel
theorem d_r_plan_47 : decode prog_13_method_63_code 47 = .ok (.iconst (-1), 1) := by decide +kernel
theorem d_r_plan_48 : decode prog_13_method_63_code 48 = .ok (.ireturn, 1) := by decide +kernel
theorem d_r_plan_49 : decode prog_13_method_63_code 49 = .ok (.aload_n 0, 1) := by decide +kernel
theorem d_r_plan_5 : decode prog_13_method_63_code 5 = .ok (.ifCond .ne 6, 3) := by decide +kernel
theorem d_r_plan_50 : decode prog_13_method_63_code 50 = .ok (.iload_n 2, 1) := by decide +kernel
theorem d_r_plan_51 : decode prog_13_method_63_code 51 = .ok (.invokevirtual 295, 3) := by decide +kernel
theorem d_r_plan_54 : decode prog_13_method_63_code 54 = .ok (.istore 5, 2) := by decide +kernel
theorem d_r_plan_56 : decode prog_13_method_63_code 56 = .ok (.iconst 0, 1) := by decide +kernel
theorem d_r_plan_57 : decode prog_13_method_63_code 57 = .ok (.istore 6, 2) := by decide +kernel
theorem d_r_plan_59 : decode prog_13_method_63_code 59 = .ok (.iload 4, 2) := by decide +kernel
theorem d_r_plan_61 : decode prog_13_method_63_code 61 = .ok (.invokestatic 305, 3) := by decide +kernel
theorem d_r_plan_64 : decode prog_13_method_63_code 64 = .ok (.iconst 1, 1) := by decide +kernel
theorem d_r_plan_65 : decode prog_13_method_63_code 65 = .ok (.if_icmp .le 53, 3) := by decide +kernel
theorem d_r_plan_68 : decode prog_13_method_63_code 68 = .ok (.aload_n 0, 1) := by decide +kernel
theorem d_r_plan_69 : decode prog_13_method_63_code 69 = .ok (.iload 4, 2) := by decide +kernel
theorem d_r_plan_71 : decode prog_13_method_63_code 71 = .ok (.iload 5, 2) := by decide +kernel
theorem d_r_plan_73 : decode prog_13_method_63_code 73 = .ok (.iload_n 3, 1) := by decide +kernel
theorem d_r_plan_74 : decode prog_13_method_63_code 74 = .ok (.invokevirtual 326, 3) := by decide +kernel
theorem d_r_plan_77 : decode prog_13_method_63_code 77 = .ok (.istore 7, 2) := by decide +kernel
theorem d_r_plan_79 : decode prog_13_method_63_code 79 = .ok (.aload_n 0, 1) := by decide +kernel
theorem d_r_plan_8 : decode prog_13_method_63_code 8 = .ok (.bipush (-5), 2) := by decide +kernel
theorem d_r_plan_80 : decode prog_13_method_63_code 80 = .ok (.iload 4, 2) := by decide +kernel
theorem d_r_plan_82 : decode prog_13_method_63_code 82 = .ok (.iload 7, 2) := by decide +kernel
theorem d_r_plan_84 : decode prog_13_method_63_code 84 = .ok (.iload 5, 2) := by decide +kernel
theorem d_r_plan_86 : decode prog_13_method_63_code 86 = .ok (.invokevirtual 314, 3) := by decide +kernel
theorem d_r_plan_89 : decode prog_13_method_63_code 89 = .ok (.pop, 1) := by decide +kernel
theorem d_r_plan_90 : decode prog_13_method_63_code 90 = .ok (.aload_n 0, 1) := by decide +kernel
theorem d_r_plan_91 : decode prog_13_method_63_code 91 = .ok (.iload 4, 2) := by decide +kernel
theorem d_r_plan_93 : decode prog_13_method_63_code 93 = .ok (.iload_n 1, 1) := by decide +kernel
theorem d_r_plan_94 : decode prog_13_method_63_code 94 = .ok (.invokevirtual 317, 3) := by decide +kernel
theorem d_r_plan_97 : decode prog_13_method_63_code 97 = .ok (.istore 8, 2) := by decide +kernel
theorem d_r_plan_99 : decode prog_13_method_63_code 99 = .ok (.iload 8, 2) := by decide +kernel
theorem d_r_put_0 : decode prog_13_method_76_code 0 = .ok (.iload_n 1, 1) := by decide +kernel
theorem d_r_put_1 : decode prog_13_method_76_code 1 = .ok (.iconst 0, 1) := by decide +kernel
theorem d_r_put_101 : decode prog_13_method_76_code 101 = .ok (.iload_n 3, 1) := by decide +kernel
theorem d_r_put_102 : decode prog_13_method_76_code 102 = .ok (.imul, 1) := by decide +kernel
theorem d_r_put_103 : decode prog_13_method_76_code 103 = .ok (.iload 5, 2) := by decide +kernel
theorem d_r_put_105 : decode prog_13_method_76_code 105 = .ok (.iadd, 1) := by decide +kernel
theorem d_r_put_106 : decode prog_13_method_76_code 106 = .ok (.ireturn, 1) := by decide +kernel
theorem d_r_put_107 : decode prog_13_method_76_code 107 = .ok (.iinc 5 1, 3) := by decide +kernel
theorem d_r_put_11 : decode prog_13_method_76_code 11 = .ok (.ireturn, 1) := by decide +kernel
theorem d_r_put_110 : decode prog_13_method_76_code 110 = .ok (.goto (-69), 3) := by decide +kernel
theorem d_r_put_113 : decode prog_13_method_76_code 113 = .ok (.iinc 3 1, 3) := by decide +kernel
theorem d_r_put_116 : decode prog_13_method_76_code 116 = .ok (.goto (-94), 3) := by decide +kernel
theorem d_r_put_119 : decode prog_13_method_76_code 119 = .ok (.iconst (-1), 1) := by decide +kernel
theorem d_r_put_12 : decode prog_13_method_76_code 12 = .ok (.aload_n 0, 1) := by decide +kernel
theorem d_r_put_120 : decode prog_13_method_76_code 120 = .ok (.ireturn, 1) := by decide +kernel
theorem d_r_put_13 : decode prog_13_method_76_code 13 = .ok (.iconst 1, 1) := by decide +kernel
theorem d_r_put_14 : decode prog_13_method_76_code 14 = .ok (.iload_n 1, 1) := by decide +kernel
theorem d_r_put_15 : decode prog_13_method_76_code 15 = .ok (.ishl, 1) := by decide +kernel
theorem d_r_put_16 : decode prog_13_method_76_code 16 = .ok (.invokevirtual 295, 3) := by decide +kernel
theorem d_r_put_19 : decode prog_13_method_76_code 19 = .ok (.istore_n 2, 1) := by decide +kernel
theorem d_r_put_2 : decode prog_13_method_76_code 2 = .ok (.iconst 5, 1) := by decide +kernel
theorem d_r_put_20 : decode prog_13_method_76_code 20 = .ok (.iconst 0, 1) := by decide +kernel
theorem d_r_put_21 : decode prog_13_method_76_code 21 = .ok (.istore_n 3, 1) := by decide +kernel
theorem d_r_put_22 : decode prog_13_method_76_code 22 = .ok (.iload_n 3, 1) := by decide +kernel
theorem d_r_put_23 : decode prog_13_method_76_code 23 = .ok (.aload_n 0, 1) := by decide +kernel
theorem d_r_put_24 : decode prog_13_method_76_code 24 = .ok (.getfield 150, 3) := by decide +kernel
theorem d_r_put_27 : decode prog_13_method_76_code 27 = .ok (.if_icmp .ge 92, 3) := by decide +kernel
theorem d_r_put_3 : decode prog_13_method_76_code 3 = .ok (.invokestatic 153, 3) := by decide +kernel
theorem d_r_put_30 : decode prog_13_method_76_code 30 = .ok (.aload_n 0, 1) := by decide +kernel
theorem d_r_put_31 : decode prog_13_method_76_code 31 = .ok (.getfield 19, 3) := by decide +kernel
theorem d_r_put_34 : decode prog_13_method_76_code 34 = .ok (.iload_n 3, 1) := by decide +kernel
theorem d_r_put_35 : decode prog_13_method_76_code 35 = .ok (.iaload, 1) := by decide +kernel
theorem d_r_put_36 : decode prog_13_method_76_code 36 = .ok (.istore 4, 2) := by decide +kernel
theorem d_r_put_38 : decode prog_13_method_76_code 38 = .ok (.iconst 1, 1) := by decide +kernel
theorem d_r_put_39 : decode prog_13_method_76_code 39 = .ok (.istore 5, 2) := by decide +kernel
theorem d_r_put_41 : decode prog_13_method_76_code 41 = .ok (.iload 5, 2) := by decide +kernel
theorem d_r_put_43 : decode prog_13_method_76_code 43 = .ok (.bipush 99, 2) := by decide +kernel
theorem d_r_put_45 : decode prog_13_method_76_code 45 = .ok (.if_icmp .gt 68, 3) := by decide +kernel
theorem d_r_put_48 : decode prog_13_method_76_code 48 = .ok (.iload_n 2, 1) := by decide +kernel
theorem d_r_put_49 : decode prog_13_method_76_code 49 = .ok (.iload_n 3, 1) := by decide +kernel
theorem d_r_put_50 : decode prog_13_method_76_code 50 = .ok (.ishr, 1) := by decide +kernel
theorem d_r_put_51 : decode prog_13_method_76_code 51 = .ok (.iconst 1, 1) := by decide +kernel
theorem d_r_put_52 : decode prog_13_method_76_code 52 = .ok (.iand, 1) := by decide +kernel
theorem d_r_put_53 : decode prog_13_method_76_code 53 = .ok (.iconst 1, 1) := by decide +kernel
theorem d_r_put_54 : decode prog_13_method_76_code 54 = .ok (.if_icmp .ne 59, 3) := by decide +kernel
theorem d_r_put_57 : decode prog_13_method_76_code 57 = .ok (.aload_n 0, 1) := by decide +kernel
theorem d_r_put_58 : decode prog_13_method_76_code 58 = .ok (.getfield 19, 3) := by decide +kernel
theorem d_r_put_6 : decode prog_13_method_76_code 6 = .ok (.ifCond .ne 6, 3) := by decide +kernel
theorem d_r_put_61 : decode prog_13_method_76_code 61 = .ok (.iload_n 3, 1) := by decide +kernel
theorem d_r_put_62 : decode prog_13_method_76_code 62 = .ok (.iload 5, 2) := by decide +kernel
theorem d_r_put_64 : decode prog_13_method_76_code 64 = .ok (.iastore, 1) := by decide +kernel
theorem d_r_put_65 : decode prog_13_method_76_code 65 = .ok (.aload_n 0, 1) := by decide +kernel
theorem d_r_put_66 : decode prog_13_method_76_code 66 = .ok (.iload_n 2, 1) := by decide +kernel
theorem d_r_put_67 : decode prog_13_method_76_code 67 = .ok (.invokevirtual 338, 3) := by decide +kernel
theorem d_r_put_70 : decode prog_13_method_76_code 70 = .ok (.iconst 1, 1) := by decide +kernel
theorem d_r_put_71 : decode prog_13_method_76_code 71 = .ok (.iload_n 2, 1) := by decide +kernel
theorem d_r_put_72 : decode prog_13_method_76_code 72 = .ok (.invokestatic 305, 3) := by decide +kernel
theorem d_r_put_75 : decode prog_13_method_76_code 75 = .ok (.ishl, 1) := by decide +kernel
theorem d_r_put_76 : decode prog_13_method_76_code 76 = .ok (.if_icmp .ne 7, 3) := by decide +kernel
theorem d_r_put_79 : decode prog_13_method_76_code 79 = .ok (.iconst 1, 1) := by decide +kernel
theorem d_r_put_80 : decode prog_13_method_76_code 80 = .ok (.goto 4, 3) := by decide +kernel
theorem d_r_put_83 : decode prog_13_method_76_code 83 = .ok (.iconst 0, 1) := by decide +kernel
theorem d_r_put_84 : decode prog_13_method_76_code 84 = .ok (.istore 6, 2) := by decide +kernel
theorem d_r_put_86 : decode prog_13_method_76_code 86 = .ok (.aload_n 0, 1) := by decide +kernel
theorem d_r_put_87 : decode prog_13_method_76_code 87 = .ok (.getfield 19, 3) := by decide +kernel
theorem d_r_put_9 : decode prog_13_method_76_code 9 = .ok (.bipush (-2), 2) := by decide +kernel
theorem d_r_put_90 : decode prog_13_method_76_code 90 = .ok (.iload_n 3, 1) := by decide +kernel
theorem d_r_put_91 : decode prog_13_method_76_code 91 = .ok (.iload 4, 2) := by decide +kernel
theorem d_r_put_93 : decode prog_13_method_76_code 93 = .ok (.iastore, 1) := by decide +kernel
theorem d_r_put_94 : decode prog_13_method_76_code 94 = .ok (.iload 6, 2) := by decide +kernel
theorem d_r_put_96 : decode prog_13_method_76_code 96 = .ok (.ifCond .eq 11, 3) := by decide +kernel
theorem d_r_put_99 : decode prog_13_method_76_code 99 = .ok (.bipush 100, 2) := by decide +kernel
theorem d_r_puts_0 : decode prog_13_method_19_code 0 = .ok (.aload_n 0, 1) := by decide +kernel
theorem d_r_puts_1 : decode prog_13_method_19_code 1 = .ok (.getfield 61, 3) := by decide +kernel
theorem d_r_puts_11 : decode prog_13_method_19_code 11 = .ok (.imul, 1) := by decide +kernel
theorem d_r_puts_12 : decode prog_13_method_19_code 12 = .ok (.aload_n 0, 1) := by decide +kernel
theorem d_r_puts_13 : decode prog_13_method_19_code 13 = .ok (.getfield 216, 3) := by decide +kernel
theorem d_r_puts_16 : decode prog_13_method_19_code 16 = .ok (.iadd, 1) := by decide +kernel
theorem d_r_puts_17 : decode prog_13_method_19_code 17 = .ok (.iload_n 1, 1) := by decide +kernel
theorem d_r_puts_18 : decode prog_13_method_19_code 18 = .ok (.iastore, 1) := by decide +kernel
theorem d_r_puts_19 : decode prog_13_method_19_code 19 = .ok (.aload_n 0, 1) := by decide +kernel
theorem d_r_puts_20 : decode prog_13_method_19_code 20 = .ok (.dup, 1) := by decide +kernel
theorem d_r_puts_21 : decode prog_13_method_19_code 21 = .ok (.getfield 216, 3) := by decide +kernel
theorem d_r_puts_24 : decode prog_13_method_19_code 24 = .ok (.iconst 1, 1) := by decide +kernel
theorem d_r_puts_25 : decode prog_13_method_19_code 25 = .ok (.iadd, 1) := by decide +kernel
theorem d_r_puts_26 : decode prog_13_method_19_code 26 = .ok (.putfield 216, 3) := by decide +kernel
theorem d_r_puts_29 : decode prog_13_method_19_code 29 = .ok (.return_, 1) := by decide +kernel
theorem d_r_puts_4 : decode prog_13_method_19_code 4 = .ok (.sipush 200, 3) := by decide +kernel
theorem d_r_puts_7 : decode prog_13_method_19_code 7 = .ok (.aload_n 0, 1) := by decide +kernel
theorem d_r_puts_8 : decode prog_13_method_19_code 8 = .ok (.getfield 67, 3) := by decide +kernel
theorem d_r_rank_0 : decode prog_13_method_18_code 0 = .ok (.iload_n 0, 1) := by decide +kernel
theorem d_r_rank_1 : decode prog_13_method_18_code 1 = .ok (.ifCond .ne 7, 3) := by decide +kernel
theorem d_r_rank_11 : decode prog_13_method_18_code 11 = .ok (.if_icmp .ne 7, 3) := by decide +kernel
theorem d_r_rank_14 : decode prog_13_method_18_code 14 = .ok (.iconst 1, 1) := by decide +kernel
theorem d_r_rank_15 : decode prog_13_method_18_code 15 = .ok (.goto 56, 3) := by decide +kernel
theorem d_r_rank_18 : decode prog_13_method_18_code 18 = .ok (.iload_n 0, 1) := by decide +kernel
theorem d_r_rank_19 : decode prog_13_method_18_code 19 = .ok (.bipush 12, 2) := by decide +kernel
theorem d_r_rank_21 : decode prog_13_method_18_code 21 = .ok (.if_icmp .ne 7, 3) := by decide +kernel
theorem d_r_rank_24 : decode prog_13_method_18_code 24 = .ok (.iconst 2, 1) := by decide +kernel
theorem d_r_rank_25 : decode prog_13_method_18_code 25 = .ok (.goto 46, 3) := by decide +kernel
theorem d_r_rank_28 : decode prog_13_method_18_code 28 = .ok (.iload_n 0, 1) := by decide +kernel
theorem d_r_rank_29 : decode prog_13_method_18_code 29 = .ok (.bipush 13, 2) := by decide +kernel
theorem d_r_rank_31 : decode prog_13_method_18_code 31 = .ok (.if_icmp .ne 7, 3) := by decide +kernel
theorem d_r_rank_34 : decode prog_13_method_18_code 34 = .ok (.iconst 3, 1) := by decide +kernel
theorem d_r_rank_35 : decode prog_13_method_18_code 35 = .ok (.goto 36, 3) := by decide +kernel
theorem d_r_rank_38 : decode prog_13_method_18_code 38 = .ok (.iload_n 0, 1) := by decide +kernel
theorem d_r_rank_39 : decode prog_13_method_18_code 39 = .ok (.bipush 15, 2) := by decide +kernel
theorem d_r_rank_4 : decode prog_13_method_18_code 4 = .ok (.iconst 0, 1) := by decide +kernel
theorem d_r_rank_41 : decode prog_13_method_18_code 41 = .ok (.if_icmp .gt 7, 3) := by decide +kernel
theorem d_r_rank_44 : decode prog_13_method_18_code 44 = .ok (.iconst 4, 1) := by decide +kernel
theorem d_r_rank_45 : decode prog_13_method_18_code 45 = .ok (.goto 26, 3) := by decide +kernel
theorem d_r_rank_48 : decode prog_13_method_18_code 48 = .ok (.iload_n 0, 1) := by decide +kernel
theorem d_r_rank_49 : decode prog_13_method_18_code 49 = .ok (.bipush 17, 2) := by decide +kernel
theorem d_r_rank_5 : decode prog_13_method_18_code 5 = .ok (.goto 66, 3) := by decide +kernel
theorem d_r_rank_51 : decode prog_13_method_18_code 51 = .ok (.if_icmp .gt 7, 3) := by decide +kernel
theorem d_r_rank_54 : decode prog_13_method_18_code 54 = .ok (.iconst 5, 1) := by decide +kernel
theorem d_r_rank_55 : decode prog_13_method_18_code 55 = .ok (.goto 16, 3) := by decide +kernel
theorem d_r_rank_58 : decode prog_13_method_18_code 58 = .ok (.iload_n 0, 1) := by decide +kernel
theorem d_r_rank_59 : decode prog_13_method_18_code 59 = .ok (.bipush 18, 2) := by decide +kernel
theorem d_r_rank_61 : decode prog_13_method_18_code 61 = .ok (.if_icmp .ne 8, 3) := by decide +kernel
theorem d_r_rank_64 : decode prog_13_method_18_code 64 = .ok (.bipush 6, 2) := by decide +kernel
theorem d_r_rank_66 : decode prog_13_method_18_code 66 = .ok (.goto 5, 3) := by decide +kernel
theorem d_r_rank_69 : decode prog_13_method_18_code 69 = .ok (.bipush 7, 2) := by decide +kernel
theorem d_r_rank_71 : decode prog_13_method_18_code 71 = .ok (.ireturn, 1) := by decide +kernel
theorem d_r_rank_8 : decode prog_13_method_18_code 8 = .ok (.iload_n 0, 1) := by decide +kernel
theorem d_r_rank_9 : decode prog_13_method_18_code 9 = .ok (.bipush 11, 2) := by decide +kernel
theorem d_r_right_0 : decode prog_13_method_81_code 0 = .ok (.iconst (-1), 1) := by decide +kernel
theorem d_r_right_1 : decode prog_13_method_81_code 1 = .ok (.istore_n 1, 1) := by decide +kernel
theorem d_r_right_11 : decode prog_13_method_81_code 11 = .ok (.if_icmp .ge 53, 3) := by decide +kernel
theorem d_r_right_14 : decode prog_13_method_81_code 14 = .ok (.aload_n 0, 1) := by decide +kernel
theorem d_r_right_15 : decode prog_13_method_81_code 15 = .ok (.iload_n 3, 1) := by decide +kernel
theorem d_r_right_16 : decode prog_13_method_81_code 16 = .ok (.invokevirtual 344, 3) := by decide +kernel
theorem d_r_right_19 : decode prog_13_method_81_code 19 = .ok (.istore 4, 2) := by decide +kernel
theorem d_r_right_2 : decode prog_13_method_81_code 2 = .ok (.iconst 0, 1) := by decide +kernel
theorem d_r_right_21 : decode prog_13_method_81_code 21 = .ok (.iload_n 1, 1) := by decide +kernel
theorem d_r_right_22 : decode prog_13_method_81_code 22 = .ok (.iconst (-1), 1) := by decide +kernel
theorem d_r_right_23 : decode prog_13_method_81_code 23 = .ok (.if_icmp .eq 25, 3) := by decide +kernel
theorem d_r_right_26 : decode prog_13_method_81_code 26 = .ok (.iload 4, 2) := by decide +kernel
theorem d_r_right_28 : decode prog_13_method_81_code 28 = .ok (.iload_n 2, 1) := by decide +kernel
theorem d_r_right_29 : decode prog_13_method_81_code 29 = .ok (.if_icmp .gt 19, 3) := by decide +kernel
theorem d_r_right_3 : decode prog_13_method_81_code 3 = .ok (.istore_n 2, 1) := by decide +kernel
theorem d_r_right_32 : decode prog_13_method_81_code 32 = .ok (.iload 4, 2) := by decide +kernel
theorem d_r_right_34 : decode prog_13_method_81_code 34 = .ok (.iload_n 2, 1) := by decide +kernel
theorem d_r_right_35 : decode prog_13_method_81_code 35 = .ok (.if_icmp .ne 23, 3) := by decide +kernel
theorem d_r_right_38 : decode prog_13_method_81_code 38 = .ok (.aload_n 0, 1) := by decide +kernel
theorem d_r_right_39 : decode prog_13_method_81_code 39 = .ok (.getfield 52, 3) := by decide +kernel
theorem d_r_right_4 : decode prog_13_method_81_code 4 = .ok (.iconst 0, 1) := by decide +kernel
theorem d_r_right_42 : decode prog_13_method_81_code 42 = .ok (.iload_n 3, 1) := by decide +kernel
theorem d_r_right_43 : decode prog_13_method_81_code 43 = .ok (.iaload, 1) := by decide +kernel
theorem d_r_right_44 : decode prog_13_method_81_code 44 = .ok (.iload_n 1, 1) := by decide +kernel
theorem d_r_right_45 : decode prog_13_method_81_code 45 = .ok (.if_icmp .le 13, 3) := by decide +kernel
theorem d_r_right_48 : decode prog_13_method_81_code 48 = .ok (.aload_n 0, 1) := by decide +kernel
theorem d_r_right_49 : decode prog_13_method_81_code 49 = .ok (.getfield 52, 3) := by decide +kernel
theorem d_r_right_5 : decode prog_13_method_81_code 5 = .ok (.istore_n 3, 1) := by decide +kernel
theorem d_r_right_52 : decode prog_13_method_81_code 52 = .ok (.iload_n 3, 1) := by decide +kernel
theorem d_r_right_53 : decode prog_13_method_81_code 53 = .ok (.iaload, 1) := by decide +kernel
theorem d_r_right_54 : decode prog_13_method_81_code 54 = .ok (.istore_n 1, 1) := by decide +kernel
theorem d_r_right_55 : decode prog_13_method_81_code 55 = .ok (.iload 4, 2) := by decide +kernel
theorem d_r_right_57 : decode prog_13_method_81_code 57 = .ok (.istore_n 2, 1) := by decide +kernel
theorem d_r_right_58 : decode prog_13_method_81_code 58 = .ok (.iinc 3 1, 3) := by decide +kernel
theorem d_r_right_6 : decode prog_13_method_81_code 6 = .ok (.iload_n 3, 1) := by decide +kernel
theorem d_r_right_61 : decode prog_13_method_81_code 61 = .ok (.goto (-55), 3) := by decide +kernel
theorem d_r_right_64 : decode prog_13_method_81_code 64 = .ok (.iload_n 1, 1) := by decide +kernel
theorem d_r_right_65 : decode prog_13_method_81_code 65 = .ok (.ireturn, 1) := by decide +kernel
theorem d_r_right_7 : decode prog_13_method_81_code 7 = .ok (.aload_n 0, 1) := by decide +kernel
theorem d_r_right_8 : decode prog_13_method_81_code 8 = .ok (.getfield 186, 3) := by decide +kernel
theorem d_r_room_0 : decode prog_13_method_42_code 0 = .ok (.aload_n 0, 1) := by decide +kernel
theorem d_r_room_1 : decode prog_13_method_42_code 1 = .ok (.iload_n 1, 1) := by decide +kernel
theorem d_r_room_10 : decode prog_13_method_42_code 10 = .ok (.ireturn, 1) := by decide +kernel
theorem d_r_room_11 : decode prog_13_method_42_code 11 = .ok (.iload_n 2, 1) := by decide +kernel
theorem d_r_room_12 : decode prog_13_method_42_code 12 = .ok (.iconst 0, 1) := by decide +kernel
theorem d_r_room_13 : decode prog_13_method_42_code 13 = .ok (.iconst 5, 1) := by decide +kernel
theorem d_r_room_14 : decode prog_13_method_42_code 14 = .ok (.invokestatic 153, 3) := by decide +kernel
theorem d_r_room_17 : decode prog_13_method_42_code 17 = .ok (.ifCond .ne 6, 3) := by decide +kernel
theorem d_r_room_2 : decode prog_13_method_42_code 2 = .ok (.invokevirtual 266, 3) := by decide +kernel
theorem d_r_room_20 : decode prog_13_method_42_code 20 = .ok (.bipush (-7), 2) := by decide +kernel
theorem d_r_room_22 : decode prog_13_method_42_code 22 = .ok (.ireturn, 1) := by decide +kernel
theorem d_r_room_23 : decode prog_13_method_42_code 23 = .ok (.iconst 0, 1) := by decide +kernel
theorem d_r_room_24 : decode prog_13_method_42_code 24 = .ok (.istore_n 3, 1) := by decide +kernel
theorem d_r_room_25 : decode prog_13_method_42_code 25 = .ok (.iconst 0, 1) := by decide +kernel
theorem d_r_room_26 : decode prog_13_method_42_code 26 = .ok (.istore 4, 2) := by decide +kernel
theorem d_r_room_28 : decode prog_13_method_42_code 28 = .ok (.iload 4, 2) := by decide +kernel
theorem d_r_room_30 : decode prog_13_method_42_code 30 = .ok (.aload_n 0, 1) := by decide +kernel
theorem d_r_room_31 : decode prog_13_method_42_code 31 = .ok (.getfield 150, 3) := by decide +kernel
theorem d_r_room_34 : decode prog_13_method_42_code 34 = .ok (.if_icmp .ge 34, 3) := by decide +kernel
theorem d_r_room_37 : decode prog_13_method_42_code 37 = .ok (.iload_n 3, 1) := by decide +kernel
theorem d_r_room_38 : decode prog_13_method_42_code 38 = .ok (.aload_n 0, 1) := by decide +kernel
theorem d_r_room_39 : decode prog_13_method_42_code 39 = .ok (.getfield 22, 3) := by decide +kernel
theorem d_r_room_42 : decode prog_13_method_42_code 42 = .ok (.iload 4, 2) := by decide +kernel
theorem d_r_room_44 : decode prog_13_method_42_code 44 = .ok (.iaload, 1) := by decide +kernel
theorem d_r_room_45 : decode prog_13_method_42_code 45 = .ok (.iload_n 2, 1) := by decide +kernel
theorem d_r_room_46 : decode prog_13_method_42_code 46 = .ok (.if_icmp .ne 13, 3) := by decide +kernel
theorem d_r_room_49 : decode prog_13_method_42_code 49 = .ok (.aload_n 0, 1) := by decide +kernel
theorem d_r_room_5 : decode prog_13_method_42_code 5 = .ok (.ifCond .ne 6, 3) := by decide +kernel
theorem d_r_room_50 : decode prog_13_method_42_code 50 = .ok (.iload_n 1, 1) := by decide +kernel
theorem d_r_room_51 : decode prog_13_method_42_code 51 = .ok (.iload 4, 2) := by decide +kernel
theorem d_r_room_53 : decode prog_13_method_42_code 53 = .ok (.invokevirtual 289, 3) := by decide +kernel
theorem d_r_room_56 : decode prog_13_method_42_code 56 = .ok (.goto 4, 3) := by decide +kernel
theorem d_r_room_59 : decode prog_13_method_42_code 59 = .ok (.iconst 0, 1) := by decide +kernel
theorem d_r_room_60 : decode prog_13_method_42_code 60 = .ok (.iadd, 1) := by decide +kernel
theorem d_r_room_61 : decode prog_13_method_42_code 61 = .ok (.istore_n 3, 1) := by decide +kernel
theorem d_r_room_62 : decode prog_13_method_42_code 62 = .ok (.iinc 4 1, 3) := by decide +kernel
theorem d_r_room_65 : decode prog_13_method_42_code 65 = .ok (.goto (-37), 3) := by decide +kernel
theorem d_r_room_68 : decode prog_13_method_42_code 68 = .ok (.iload_n 3, 1) := by decide +kernel
theorem d_r_room_69 : decode prog_13_method_42_code 69 = .ok (.ireturn, 1) := by decide +kernel
theorem d_r_room_8 : decode prog_13_method_42_code 8 = .ok (.bipush (-5), 2) := by decide +kernel
theorem d_r_rowOf_0 : decode prog_13_method_39_code 0 = .ok (.iconst 0, 1) := by decide +kernel
theorem d_r_rowOf_1 : decode prog_13_method_39_code 1 = .ok (.istore_n 3, 1) := by decide +kernel
theorem d_r_rowOf_11 : decode prog_13_method_39_code 11 = .ok (.if_icmp .ge 59, 3) := by decide +kernel
theorem d_r_rowOf_14 : decode prog_13_method_39_code 14 = .ok (.aload_n 0, 1) := by decide +kernel
theorem d_r_rowOf_15 : decode prog_13_method_39_code 15 = .ok (.getfield 16, 3) := by decide +kernel
theorem d_r_rowOf_18 : decode prog_13_method_39_code 18 = .ok (.iload_n 1, 1) := by decide +kernel
theorem d_r_rowOf_19 : decode prog_13_method_39_code 19 = .ok (.iaload, 1) := by decide +kernel
theorem d_r_rowOf_2 : decode prog_13_method_39_code 2 = .ok (.iconst 0, 1) := by decide +kernel
theorem d_r_rowOf_20 : decode prog_13_method_39_code 20 = .ok (.iconst 1, 1) := by decide +kernel
theorem d_r_rowOf_21 : decode prog_13_method_39_code 21 = .ok (.if_icmp .ne 49, 3) := by decide +kernel
theorem d_r_rowOf_24 : decode prog_13_method_39_code 24 = .ok (.iload_n 3, 1) := by decide +kernel
theorem d_r_rowOf_25 : decode prog_13_method_39_code 25 = .ok (.aload_n 0, 1) := by decide +kernel
theorem d_r_rowOf_26 : decode prog_13_method_39_code 26 = .ok (.getfield 16, 3) := by decide +kernel
theorem d_r_rowOf_29 : decode prog_13_method_39_code 29 = .ok (.iload 4, 2) := by decide +kernel
theorem d_r_rowOf_3 : decode prog_13_method_39_code 3 = .ok (.istore 4, 2) := by decide +kernel
theorem d_r_rowOf_31 : decode prog_13_method_39_code 31 = .ok (.iaload, 1) := by decide +kernel
theorem d_r_rowOf_32 : decode prog_13_method_39_code 32 = .ok (.iconst 1, 1) := by decide +kernel
theorem d_r_rowOf_33 : decode prog_13_method_39_code 33 = .ok (.if_icmp .ne 28, 3) := by decide +kernel
theorem d_r_rowOf_36 : decode prog_13_method_39_code 36 = .ok (.aload_n 0, 1) := by decide +kernel
theorem d_r_rowOf_37 : decode prog_13_method_39_code 37 = .ok (.getfield 31, 3) := by decide +kernel
theorem d_r_rowOf_40 : decode prog_13_method_39_code 40 = .ok (.iload 4, 2) := by decide +kernel
theorem d_r_rowOf_42 : decode prog_13_method_39_code 42 = .ok (.iaload, 1) := by decide +kernel
theorem d_r_rowOf_43 : decode prog_13_method_39_code 43 = .ok (.aload_n 0, 1) := by decide +kernel
theorem d_r_rowOf_44 : decode prog_13_method_39_code 44 = .ok (.getfield 31, 3) := by decide +kernel
theorem d_r_rowOf_47 : decode prog_13_method_39_code 47 = .ok (.iload_n 1, 1) := by decide +kernel
theorem d_r_rowOf_48 : decode prog_13_method_39_code 48 = .ok (.iaload, 1) := by decide +kernel
theorem d_r_rowOf_49 : decode prog_13_method_39_code 49 = .ok (.if_icmp .ne 12, 3) := by decide +kernel
theorem d_r_rowOf_5 : decode prog_13_method_39_code 5 = .ok (.iload 4, 2) := by decide +kernel
theorem d_r_rowOf_52 : decode prog_13_method_39_code 52 = .ok (.iload_n 2, 1) := by decide +kernel
theorem d_r_rowOf_53 : decode prog_13_method_39_code 53 = .ok (.iload 4, 2) := by decide +kernel
theorem d_r_rowOf_55 : decode prog_13_method_39_code 55 = .ok (.ishr, 1) := by decide +kernel
theorem d_r_rowOf_56 : decode prog_13_method_39_code 56 = .ok (.iconst 1, 1) := by decide +kernel
theorem d_r_rowOf_57 : decode prog_13_method_39_code 57 = .ok (.iand, 1) := by decide +kernel
theorem d_r_rowOf_58 : decode prog_13_method_39_code 58 = .ok (.goto 4, 3) := by decide +kernel
theorem d_r_rowOf_61 : decode prog_13_method_39_code 61 = .ok (.iconst 0, 1) := by decide +kernel
theorem d_r_rowOf_62 : decode prog_13_method_39_code 62 = .ok (.iadd, 1) := by decide +kernel
theorem d_r_rowOf_63 : decode prog_13_method_39_code 63 = .ok (.istore_n 3, 1) := by decide +kernel
theorem d_r_rowOf_64 : decode prog_13_method_39_code 64 = .ok (.iinc 4 1, 3) := by decide +kernel
theorem d_r_rowOf_67 : decode prog_13_method_39_code 67 = .ok (.goto (-62), 3) := by decide +kernel
theorem d_r_rowOf_7 : decode prog_13_method_39_code 7 = .ok (.aload_n 0, 1) := by decide +kernel
theorem d_r_rowOf_70 : decode prog_13_method_39_code 70 = .ok (.iload_n 3, 1) := by decide +kernel
theorem d_r_rowOf_71 : decode prog_13_method_39_code 71 = .ok (.iconst 1, 1) := by decide +kernel
theorem d_r_rowOf_72 : decode prog_13_method_39_code 72 = .ok (.if_icmp .ge 7, 3) := by decide +kernel
theorem d_r_rowOf_75 : decode prog_13_method_39_code 75 = .ok (.iconst 1, 1) := by decide +kernel
theorem d_r_rowOf_76 : decode prog_13_method_39_code 76 = .ok (.goto 4, 3) := by decide +kernel
theorem d_r_rowOf_79 : decode prog_13_method_39_code 79 = .ok (.iload_n 3, 1) := by decide +kernel
theorem d_r_rowOf_8 : decode prog_13_method_39_code 8 = .ok (.getfield 150, 3) := by decide +kernel
theorem d_r_rowOf_80 : decode prog_13_method_39_code 80 = .ok (.ireturn, 1) := by decide +kernel
theorem d_r_says_0 : decode prog_13_method_30_code 0 = .ok (.aload_n 0, 1) := by decide +kernel
theorem d_r_says_1 : decode prog_13_method_30_code 1 = .ok (.getfield 129, 3) := by decide +kernel
theorem d_r_says_10 : decode prog_13_method_30_code 10 = .ok (.iaload, 1) := by decide +kernel
theorem d_r_says_11 : decode prog_13_method_30_code 11 = .ok (.iastore, 1) := by decide +kernel
theorem d_r_says_12 : decode prog_13_method_30_code 12 = .ok (.aload_n 0, 1) := by decide +kernel
theorem d_r_says_13 : decode prog_13_method_30_code 13 = .ok (.getfield 129, 3) := by decide +kernel
theorem d_r_says_16 : decode prog_13_method_30_code 16 = .ok (.iconst 1, 1) := by decide +kernel
theorem d_r_says_17 : decode prog_13_method_30_code 17 = .ok (.iload_n 3, 1) := by decide +kernel
theorem d_r_says_18 : decode prog_13_method_30_code 18 = .ok (.iastore, 1) := by decide +kernel
theorem d_r_says_19 : decode prog_13_method_30_code 19 = .ok (.aload_n 0, 1) := by decide +kernel
theorem d_r_says_20 : decode prog_13_method_30_code 20 = .ok (.getfield 129, 3) := by decide +kernel
theorem d_r_says_23 : decode prog_13_method_30_code 23 = .ok (.iconst 2, 1) := by decide +kernel
theorem d_r_says_24 : decode prog_13_method_30_code 24 = .ok (.aload_n 0, 1) := by decide +kernel
theorem d_r_says_25 : decode prog_13_method_30_code 25 = .ok (.getfield 177, 3) := by decide +kernel
theorem d_r_says_28 : decode prog_13_method_30_code 28 = .ok (.iastore, 1) := by decide +kernel
theorem d_r_says_29 : decode prog_13_method_30_code 29 = .ok (.aload_n 0, 1) := by decide +kernel
theorem d_r_says_30 : decode prog_13_method_30_code 30 = .ok (.getfield 129, 3) := by decide +kernel
theorem d_r_says_33 : decode prog_13_method_30_code 33 = .ok (.iconst 3, 1) := by decide +kernel
theorem d_r_says_34 : decode prog_13_method_30_code 34 = .ok (.aload_n 0, 1) := by decide +kernel
theorem d_r_says_35 : decode prog_13_method_30_code 35 = .ok (.getfield 22, 3) := by decide +kernel
theorem d_r_says_38 : decode prog_13_method_30_code 38 = .ok (.iload_n 2, 1) := by decide +kernel
theorem d_r_says_39 : decode prog_13_method_30_code 39 = .ok (.iaload, 1) := by decide +kernel
theorem d_r_says_4 : decode prog_13_method_30_code 4 = .ok (.iconst 0, 1) := by decide +kernel
theorem d_r_says_40 : decode prog_13_method_30_code 40 = .ok (.iastore, 1) := by decide +kernel
theorem d_r_says_41 : decode prog_13_method_30_code 41 = .ok (.aload_n 0, 1) := by decide +kernel
theorem d_r_says_42 : decode prog_13_method_30_code 42 = .ok (.getfield 129, 3) := by decide +kernel
theorem d_r_says_45 : decode prog_13_method_30_code 45 = .ok (.iconst 4, 1) := by decide +kernel
theorem d_r_says_46 : decode prog_13_method_30_code 46 = .ok (.aload_n 0, 1) := by decide +kernel
theorem d_r_says_47 : decode prog_13_method_30_code 47 = .ok (.getfield 31, 3) := by decide +kernel
theorem d_r_says_5 : decode prog_13_method_30_code 5 = .ok (.aload_n 0, 1) := by decide +kernel
theorem d_r_says_50 : decode prog_13_method_30_code 50 = .ok (.iload_n 2, 1) := by decide +kernel
theorem d_r_says_51 : decode prog_13_method_30_code 51 = .ok (.iaload, 1) := by decide +kernel
theorem d_r_says_52 : decode prog_13_method_30_code 52 = .ok (.iastore, 1) := by decide +kernel
theorem d_r_says_53 : decode prog_13_method_30_code 53 = .ok (.aload_n 0, 1) := by decide +kernel
theorem d_r_says_54 : decode prog_13_method_30_code 54 = .ok (.getfield 129, 3) := by decide +kernel
theorem d_r_says_57 : decode prog_13_method_30_code 57 = .ok (.iconst 5, 1) := by decide +kernel
theorem d_r_says_58 : decode prog_13_method_30_code 58 = .ok (.iconst 0, 1) := by decide +kernel
theorem d_r_says_59 : decode prog_13_method_30_code 59 = .ok (.iastore, 1) := by decide +kernel
theorem d_r_says_6 : decode prog_13_method_30_code 6 = .ok (.getfield 19, 3) := by decide +kernel
theorem d_r_says_60 : decode prog_13_method_30_code 60 = .ok (.aload_n 0, 1) := by decide +kernel
theorem d_r_says_61 : decode prog_13_method_30_code 61 = .ok (.iload_n 1, 1) := by decide +kernel
theorem d_r_says_62 : decode prog_13_method_30_code 62 = .ok (.invokevirtual 260, 3) := by decide +kernel
theorem d_r_says_65 : decode prog_13_method_30_code 65 = .ok (.ireturn, 1) := by decide +kernel
theorem d_r_says_9 : decode prog_13_method_30_code 9 = .ok (.iload_n 2, 1) := by decide +kernel
theorem d_r_set_0 : decode prog_13_method_11_code 0 = .ok (.iload_n 1, 1) := by decide +kernel
theorem d_r_set_1 : decode prog_13_method_11_code 1 = .ok (.iconst 0, 1) := by decide +kernel
theorem d_r_set_10 : decode prog_13_method_11_code 10 = .ok (.ireturn, 1) := by decide +kernel
theorem d_r_set_100 : decode prog_13_method_11_code 100 = .ok (.iload_n 1, 1) := by decide +kernel
theorem d_r_set_101 : decode prog_13_method_11_code 101 = .ok (.iconst 2, 1) := by decide +kernel
theorem d_r_set_102 : decode prog_13_method_11_code 102 = .ok (.if_icmp .ne 7, 3) := by decide +kernel
theorem d_r_set_105 : decode prog_13_method_11_code 105 = .ok (.iload_n 2, 1) := by decide +kernel
theorem d_r_set_106 : decode prog_13_method_11_code 106 = .ok (.goto 7, 3) := by decide +kernel
theorem d_r_set_109 : decode prog_13_method_11_code 109 = .ok (.aload_n 0, 1) := by decide +kernel
theorem d_r_set_11 : decode prog_13_method_11_code 11 = .ok (.iload_n 1, 1) := by decide +kernel
theorem d_r_set_110 : decode prog_13_method_11_code 110 = .ok (.getfield 177, 3) := by decide +kernel
theorem d_r_set_113 : decode prog_13_method_11_code 113 = .ok (.putfield 177, 3) := by decide +kernel
theorem d_r_set_116 : decode prog_13_method_11_code 116 = .ok (.aload_n 0, 1) := by decide +kernel
theorem d_r_set_117 : decode prog_13_method_11_code 117 = .ok (.iload_n 1, 1) := by decide +kernel
theorem d_r_set_118 : decode prog_13_method_11_code 118 = .ok (.iconst 3, 1) := by decide +kernel
theorem d_r_set_119 : decode prog_13_method_11_code 119 = .ok (.if_icmp .ne 7, 3) := by decide +kernel
theorem d_r_set_12 : decode prog_13_method_11_code 12 = .ok (.ifCond .ne 11, 3) := by decide +kernel
theorem d_r_set_122 : decode prog_13_method_11_code 122 = .ok (.iload_n 2, 1) := by decide +kernel
theorem d_r_set_123 : decode prog_13_method_11_code 123 = .ok (.goto 7, 3) := by decide +kernel
theorem d_r_set_126 : decode prog_13_method_11_code 126 = .ok (.aload_n 0, 1) := by decide +kernel
theorem d_r_set_127 : decode prog_13_method_11_code 127 = .ok (.getfield 180, 3) := by decide +kernel
theorem d_r_set_130 : decode prog_13_method_11_code 130 = .ok (.putfield 180, 3) := by decide +kernel
theorem d_r_set_133 : decode prog_13_method_11_code 133 = .ok (.iload 4, 2) := by decide +kernel
theorem d_r_set_135 : decode prog_13_method_11_code 135 = .ok (.ireturn, 1) := by decide +kernel
theorem d_r_set_15 : decode prog_13_method_11_code 15 = .ok (.aload_n 0, 1) := by decide +kernel
theorem d_r_set_16 : decode prog_13_method_11_code 16 = .ok (.iload_n 2, 1) := by decide +kernel
theorem d_r_set_17 : decode prog_13_method_11_code 17 = .ok (.invokevirtual 163, 3) := by decide +kernel
theorem d_r_set_2 : decode prog_13_method_11_code 2 = .ok (.iconst 3, 1) := by decide +kernel
theorem d_r_set_20 : decode prog_13_method_11_code 20 = .ok (.goto 31, 3) := by decide +kernel
theorem d_r_set_23 : decode prog_13_method_11_code 23 = .ok (.iload_n 2, 1) := by decide +kernel
theorem d_r_set_24 : decode prog_13_method_11_code 24 = .ok (.iconst 0, 1) := by decide +kernel
theorem d_r_set_25 : decode prog_13_method_11_code 25 = .ok (.iload_n 1, 1) := by decide +kernel
theorem d_r_set_26 : decode prog_13_method_11_code 26 = .ok (.iconst 1, 1) := by decide +kernel
theorem d_r_set_27 : decode prog_13_method_11_code 27 = .ok (.if_icmp .ne 9, 3) := by decide +kernel
theorem d_r_set_3 : decode prog_13_method_11_code 3 = .ok (.invokestatic 153, 3) := by decide +kernel
theorem d_r_set_30 : decode prog_13_method_11_code 30 = .ok (.sipush 255, 3) := by decide +kernel
theorem d_r_set_33 : decode prog_13_method_11_code 33 = .ok (.goto 15, 3) := by decide +kernel
theorem d_r_set_36 : decode prog_13_method_11_code 36 = .ok (.iload_n 1, 1) := by decide +kernel
theorem d_r_set_37 : decode prog_13_method_11_code 37 = .ok (.iconst 2, 1) := by decide +kernel
theorem d_r_set_38 : decode prog_13_method_11_code 38 = .ok (.if_icmp .ne 8, 3) := by decide +kernel
theorem d_r_set_41 : decode prog_13_method_11_code 41 = .ok (.bipush 23, 2) := by decide +kernel
theorem d_r_set_43 : decode prog_13_method_11_code 43 = .ok (.goto 5, 3) := by decide +kernel
theorem d_r_set_46 : decode prog_13_method_11_code 46 = .ok (.bipush 99, 2) := by decide +kernel
theorem d_r_set_48 : decode prog_13_method_11_code 48 = .ok (.invokestatic 153, 3) := by decide +kernel
theorem d_r_set_51 : decode prog_13_method_11_code 51 = .ok (.istore_n 3, 1) := by decide +kernel
theorem d_r_set_52 : decode prog_13_method_11_code 52 = .ok (.iload_n 3, 1) := by decide +kernel
theorem d_r_set_53 : decode prog_13_method_11_code 53 = .ok (.ifCond .ne 6, 3) := by decide +kernel
theorem d_r_set_56 : decode prog_13_method_11_code 56 = .ok (.bipush (-2), 2) := by decide +kernel
theorem d_r_set_58 : decode prog_13_method_11_code 58 = .ok (.ireturn, 1) := by decide +kernel
theorem d_r_set_59 : decode prog_13_method_11_code 59 = .ok (.aload_n 0, 1) := by decide +kernel
theorem d_r_set_6 : decode prog_13_method_11_code 6 = .ok (.ifCond .ne 5, 3) := by decide +kernel
theorem d_r_set_60 : decode prog_13_method_11_code 60 = .ok (.iload_n 1, 1) := by decide +kernel
theorem d_r_set_61 : decode prog_13_method_11_code 61 = .ok (.invokevirtual 167, 3) := by decide +kernel
theorem d_r_set_64 : decode prog_13_method_11_code 64 = .ok (.istore 4, 2) := by decide +kernel
theorem d_r_set_66 : decode prog_13_method_11_code 66 = .ok (.aload_n 0, 1) := by decide +kernel
theorem d_r_set_67 : decode prog_13_method_11_code 67 = .ok (.iload_n 1, 1) := by decide +kernel
theorem d_r_set_68 : decode prog_13_method_11_code 68 = .ok (.ifCond .ne 7, 3) := by decide +kernel
theorem d_r_set_71 : decode prog_13_method_11_code 71 = .ok (.iload_n 2, 1) := by decide +kernel
theorem d_r_set_72 : decode prog_13_method_11_code 72 = .ok (.goto 7, 3) := by decide +kernel
theorem d_r_set_75 : decode prog_13_method_11_code 75 = .ok (.aload_n 0, 1) := by decide +kernel
theorem d_r_set_76 : decode prog_13_method_11_code 76 = .ok (.getfield 171, 3) := by decide +kernel
theorem d_r_set_79 : decode prog_13_method_11_code 79 = .ok (.putfield 171, 3) := by decide +kernel
theorem d_r_set_82 : decode prog_13_method_11_code 82 = .ok (.aload_n 0, 1) := by decide +kernel
theorem d_r_set_83 : decode prog_13_method_11_code 83 = .ok (.iload_n 1, 1) := by decide +kernel
theorem d_r_set_84 : decode prog_13_method_11_code 84 = .ok (.iconst 1, 1) := by decide +kernel
theorem d_r_set_85 : decode prog_13_method_11_code 85 = .ok (.if_icmp .ne 7, 3) := by decide +kernel
theorem d_r_set_88 : decode prog_13_method_11_code 88 = .ok (.iload_n 2, 1) := by decide +kernel
theorem d_r_set_89 : decode prog_13_method_11_code 89 = .ok (.goto 7, 3) := by decide +kernel
theorem d_r_set_9 : decode prog_13_method_11_code 9 = .ok (.iconst (-1), 1) := by decide +kernel
theorem d_r_set_92 : decode prog_13_method_11_code 92 = .ok (.aload_n 0, 1) := by decide +kernel
theorem d_r_set_93 : decode prog_13_method_11_code 93 = .ok (.getfield 174, 3) := by decide +kernel
theorem d_r_set_96 : decode prog_13_method_11_code 96 = .ok (.putfield 174, 3) := by decide +kernel
theorem d_r_set_99 : decode prog_13_method_11_code 99 = .ok (.aload_n 0, 1) := by decide +kernel
theorem d_r_sheet_0 : decode prog_13_method_98_code 0 = .ok (.iload_n 1, 1) := by decide +kernel
theorem d_r_sheet_1 : decode prog_13_method_98_code 1 = .ok (.iconst 0, 1) := by decide +kernel
theorem d_r_sheet_10 : decode prog_13_method_98_code 10 = .ok (.iconst (-1), 1) := by decide +kernel
theorem d_r_sheet_11 : decode prog_13_method_98_code 11 = .ok (.iconst 2, 1) := by decide +kernel
theorem d_r_sheet_12 : decode prog_13_method_98_code 12 = .ok (.invokestatic 153, 3) := by decide +kernel
theorem d_r_sheet_15 : decode prog_13_method_98_code 15 = .ok (.ifCond .eq 14, 3) := by decide +kernel
theorem d_r_sheet_18 : decode prog_13_method_98_code 18 = .ok (.iload_n 2, 1) := by decide +kernel
theorem d_r_sheet_19 : decode prog_13_method_98_code 19 = .ok (.iconst (-1), 1) := by decide +kernel
theorem d_r_sheet_2 : decode prog_13_method_98_code 2 = .ok (.iconst 3, 1) := by decide +kernel
theorem d_r_sheet_20 : decode prog_13_method_98_code 20 = .ok (.if_icmp .eq 12, 3) := by decide +kernel
theorem d_r_sheet_23 : decode prog_13_method_98_code 23 = .ok (.iload_n 3, 1) := by decide +kernel
theorem d_r_sheet_24 : decode prog_13_method_98_code 24 = .ok (.bipush 40, 2) := by decide +kernel
theorem d_r_sheet_26 : decode prog_13_method_98_code 26 = .ok (.if_icmp .le 6, 3) := by decide +kernel
theorem d_r_sheet_29 : decode prog_13_method_98_code 29 = .ok (.bipush (-2), 2) := by decide +kernel
theorem d_r_sheet_3 : decode prog_13_method_98_code 3 = .ok (.invokestatic 153, 3) := by decide +kernel
theorem d_r_sheet_31 : decode prog_13_method_98_code 31 = .ok (.ireturn, 1) := by decide +kernel
theorem d_r_sheet_32 : decode prog_13_method_98_code 32 = .ok (.iload_n 2, 1) := by decide +kernel
theorem d_r_sheet_33 : decode prog_13_method_98_code 33 = .ok (.iconst (-1), 1) := by decide +kernel
theorem d_r_sheet_34 : decode prog_13_method_98_code 34 = .ok (.if_icmp .eq 10, 3) := by decide +kernel
theorem d_r_sheet_37 : decode prog_13_method_98_code 37 = .ok (.iload_n 3, 1) := by decide +kernel
theorem d_r_sheet_38 : decode prog_13_method_98_code 38 = .ok (.ifCond .ge 6, 3) := by decide +kernel
theorem d_r_sheet_41 : decode prog_13_method_98_code 41 = .ok (.bipush (-14), 2) := by decide +kernel
theorem d_r_sheet_43 : decode prog_13_method_98_code 43 = .ok (.ireturn, 1) := by decide +kernel
theorem d_r_sheet_44 : decode prog_13_method_98_code 44 = .ok (.aload_n 0, 1) := by decide +kernel
theorem d_r_sheet_45 : decode prog_13_method_98_code 45 = .ok (.getfield 86, 3) := by decide +kernel
theorem d_r_sheet_48 : decode prog_13_method_98_code 48 = .ok (.iload_n 1, 1) := by decide +kernel
theorem d_r_sheet_49 : decode prog_13_method_98_code 49 = .ok (.iload_n 2, 1) := by decide +kernel
theorem d_r_sheet_50 : decode prog_13_method_98_code 50 = .ok (.iastore, 1) := by decide +kernel
theorem d_r_sheet_51 : decode prog_13_method_98_code 51 = .ok (.aload_n 0, 1) := by decide +kernel
theorem d_r_sheet_52 : decode prog_13_method_98_code 52 = .ok (.getfield 89, 3) := by decide +kernel
theorem d_r_sheet_55 : decode prog_13_method_98_code 55 = .ok (.iload_n 1, 1) := by decide +kernel
theorem d_r_sheet_56 : decode prog_13_method_98_code 56 = .ok (.iload_n 2, 1) := by decide +kernel
theorem d_r_sheet_57 : decode prog_13_method_98_code 57 = .ok (.iconst (-1), 1) := by decide +kernel
theorem d_r_sheet_58 : decode prog_13_method_98_code 58 = .ok (.if_icmp .ne 7, 3) := by decide +kernel
theorem d_r_sheet_6 : decode prog_13_method_98_code 6 = .ok (.ifCond .eq 23, 3) := by decide +kernel
theorem d_r_sheet_61 : decode prog_13_method_98_code 61 = .ok (.iconst 0, 1) := by decide +kernel
theorem d_r_sheet_62 : decode prog_13_method_98_code 62 = .ok (.goto 4, 3) := by decide +kernel
theorem d_r_sheet_65 : decode prog_13_method_98_code 65 = .ok (.iload_n 3, 1) := by decide +kernel
theorem d_r_sheet_66 : decode prog_13_method_98_code 66 = .ok (.iastore, 1) := by decide +kernel
theorem d_r_sheet_67 : decode prog_13_method_98_code 67 = .ok (.iconst 0, 1) := by decide +kernel
theorem d_r_sheet_68 : decode prog_13_method_98_code 68 = .ok (.istore 4, 2) := by decide +kernel
theorem d_r_sheet_70 : decode prog_13_method_98_code 70 = .ok (.iload 4, 2) := by decide +kernel
theorem d_r_sheet_72 : decode prog_13_method_98_code 72 = .ok (.bipush 40, 2) := by decide +kernel
theorem d_r_sheet_74 : decode prog_13_method_98_code 74 = .ok (.if_icmp .ge 22, 3) := by decide +kernel
theorem d_r_sheet_77 : decode prog_13_method_98_code 77 = .ok (.aload_n 0, 1) := by decide +kernel
theorem d_r_sheet_78 : decode prog_13_method_98_code 78 = .ok (.getfield 92, 3) := by decide +kernel
theorem d_r_sheet_81 : decode prog_13_method_98_code 81 = .ok (.bipush 40, 2) := by decide +kernel
theorem d_r_sheet_83 : decode prog_13_method_98_code 83 = .ok (.iload_n 1, 1) := by decide +kernel
theorem d_r_sheet_84 : decode prog_13_method_98_code 84 = .ok (.imul, 1) := by decide +kernel
theorem d_r_sheet_85 : decode prog_13_method_98_code 85 = .ok (.iload 4, 2) := by decide +kernel
theorem d_r_sheet_87 : decode prog_13_method_98_code 87 = .ok (.iadd, 1) := by decide +kernel
theorem d_r_sheet_88 : decode prog_13_method_98_code 88 = .ok (.iconst 0, 1) := by decide +kernel
theorem d_r_sheet_89 : decode prog_13_method_98_code 89 = .ok (.iastore, 1) := by decide +kernel
theorem d_r_sheet_9 : decode prog_13_method_98_code 9 = .ok (.iload_n 2, 1) := by decide +kernel
theorem d_r_sheet_90 : decode prog_13_method_98_code 90 = .ok (.iinc 4 1, 3) := by decide +kernel
theorem d_r_sheet_93 : decode prog_13_method_98_code 93 = .ok (.goto (-23), 3) := by decide +kernel
theorem d_r_sheet_96 : decode prog_13_method_98_code 96 = .ok (.iconst 1, 1) := by decide +kernel
theorem d_r_sheet_97 : decode prog_13_method_98_code 97 = .ok (.ireturn, 1) := by decide +kernel
theorem d_r_show_0 : decode prog_13_method_38_code 0 = .ok (.aload_n 0, 1) := by decide +kernel
theorem d_r_show_1 : decode prog_13_method_38_code 1 = .ok (.iload_n 1, 1) := by decide +kernel
theorem d_r_show_10 : decode prog_13_method_38_code 10 = .ok (.invokevirtual 279, 3) := by decide +kernel
theorem d_r_show_13 : decode prog_13_method_38_code 13 = .ok (.goto 5, 3) := by decide +kernel
theorem d_r_show_16 : decode prog_13_method_38_code 16 = .ok (.bipush (-5), 2) := by decide +kernel
theorem d_r_show_18 : decode prog_13_method_38_code 18 = .ok (.ireturn, 1) := by decide +kernel
theorem d_r_show_2 : decode prog_13_method_38_code 2 = .ok (.invokevirtual 266, 3) := by decide +kernel
theorem d_r_show_5 : decode prog_13_method_38_code 5 = .ok (.ifCond .eq 11, 3) := by decide +kernel
theorem d_r_show_8 : decode prog_13_method_38_code 8 = .ok (.aload_n 0, 1) := by decide +kernel
theorem d_r_show_9 : decode prog_13_method_38_code 9 = .ok (.iload_n 1, 1) := by decide +kernel
theorem d_r_signOf_0 : decode prog_13_method_24_code 0 = .ok (.aload_n 0, 1) := by decide +kernel
theorem d_r_signOf_1 : decode prog_13_method_24_code 1 = .ok (.getfield 206, 3) := by decide +kernel
theorem d_r_signOf_10 : decode prog_13_method_24_code 10 = .ok (.goto 87, 3) := by decide +kernel
theorem d_r_signOf_13 : decode prog_13_method_24_code 13 = .ok (.aload_n 0, 1) := by decide +kernel
theorem d_r_signOf_14 : decode prog_13_method_24_code 14 = .ok (.getfield 206, 3) := by decide +kernel
theorem d_r_signOf_17 : decode prog_13_method_24_code 17 = .ok (.iconst 5, 1) := by decide +kernel
theorem d_r_signOf_18 : decode prog_13_method_24_code 18 = .ok (.if_icmp .ne 8, 3) := by decide +kernel
theorem d_r_signOf_21 : decode prog_13_method_24_code 21 = .ok (.bipush 12, 2) := by decide +kernel
theorem d_r_signOf_23 : decode prog_13_method_24_code 23 = .ok (.goto 74, 3) := by decide +kernel
theorem d_r_signOf_26 : decode prog_13_method_24_code 26 = .ok (.aload_n 0, 1) := by decide +kernel
theorem d_r_signOf_27 : decode prog_13_method_24_code 27 = .ok (.getfield 206, 3) := by decide +kernel
theorem d_r_signOf_30 : decode prog_13_method_24_code 30 = .ok (.bipush 60, 2) := by decide +kernel
theorem d_r_signOf_32 : decode prog_13_method_24_code 32 = .ok (.if_icmp .ne 8, 3) := by decide +kernel
theorem d_r_signOf_35 : decode prog_13_method_24_code 35 = .ok (.bipush 14, 2) := by decide +kernel
theorem d_r_signOf_37 : decode prog_13_method_24_code 37 = .ok (.goto 60, 3) := by decide +kernel
theorem d_r_signOf_4 : decode prog_13_method_24_code 4 = .ok (.iconst 4, 1) := by decide +kernel
theorem d_r_signOf_40 : decode prog_13_method_24_code 40 = .ok (.aload_n 0, 1) := by decide +kernel
theorem d_r_signOf_41 : decode prog_13_method_24_code 41 = .ok (.getfield 206, 3) := by decide +kernel
theorem d_r_signOf_44 : decode prog_13_method_24_code 44 = .ok (.bipush 61, 2) := by decide +kernel
theorem d_r_signOf_46 : decode prog_13_method_24_code 46 = .ok (.if_icmp .ne 8, 3) := by decide +kernel
theorem d_r_signOf_49 : decode prog_13_method_24_code 49 = .ok (.bipush 15, 2) := by decide +kernel
theorem d_r_signOf_5 : decode prog_13_method_24_code 5 = .ok (.if_icmp .ne 8, 3) := by decide +kernel
theorem d_r_signOf_51 : decode prog_13_method_24_code 51 = .ok (.goto 46, 3) := by decide +kernel
theorem d_r_signOf_54 : decode prog_13_method_24_code 54 = .ok (.aload_n 0, 1) := by decide +kernel
theorem d_r_signOf_55 : decode prog_13_method_24_code 55 = .ok (.getfield 206, 3) := by decide +kernel
theorem d_r_signOf_58 : decode prog_13_method_24_code 58 = .ok (.bipush 43, 2) := by decide +kernel
theorem d_r_signOf_60 : decode prog_13_method_24_code 60 = .ok (.if_icmp .ne 8, 3) := by decide +kernel
theorem d_r_signOf_63 : decode prog_13_method_24_code 63 = .ok (.bipush 16, 2) := by decide +kernel
theorem d_r_signOf_65 : decode prog_13_method_24_code 65 = .ok (.goto 32, 3) := by decide +kernel
theorem d_r_signOf_68 : decode prog_13_method_24_code 68 = .ok (.aload_n 0, 1) := by decide +kernel
theorem d_r_signOf_69 : decode prog_13_method_24_code 69 = .ok (.getfield 206, 3) := by decide +kernel
theorem d_r_signOf_72 : decode prog_13_method_24_code 72 = .ok (.bipush 45, 2) := by decide +kernel
theorem d_r_signOf_74 : decode prog_13_method_24_code 74 = .ok (.if_icmp .ne 8, 3) := by decide +kernel
theorem d_r_signOf_77 : decode prog_13_method_24_code 77 = .ok (.bipush 17, 2) := by decide +kernel
theorem d_r_signOf_79 : decode prog_13_method_24_code 79 = .ok (.goto 18, 3) := by decide +kernel
theorem d_r_signOf_8 : decode prog_13_method_24_code 8 = .ok (.bipush 11, 2) := by decide +kernel
theorem d_r_signOf_82 : decode prog_13_method_24_code 82 = .ok (.aload_n 0, 1) := by decide +kernel
theorem d_r_signOf_83 : decode prog_13_method_24_code 83 = .ok (.getfield 206, 3) := by decide +kernel
theorem d_r_signOf_86 : decode prog_13_method_24_code 86 = .ok (.bipush 42, 2) := by decide +kernel
theorem d_r_signOf_88 : decode prog_13_method_24_code 88 = .ok (.if_icmp .ne 8, 3) := by decide +kernel
theorem d_r_signOf_91 : decode prog_13_method_24_code 91 = .ok (.bipush 18, 2) := by decide +kernel
theorem d_r_signOf_93 : decode prog_13_method_24_code 93 = .ok (.goto 4, 3) := by decide +kernel
theorem d_r_signOf_96 : decode prog_13_method_24_code 96 = .ok (.iconst (-1), 1) := by decide +kernel
theorem d_r_signOf_97 : decode prog_13_method_24_code 97 = .ok (.ireturn, 1) := by decide +kernel
theorem d_r_size_0 : decode prog_13_method_84_code 0 = .ok (.iload_n 0, 1) := by decide +kernel
theorem d_r_size_1 : decode prog_13_method_84_code 1 = .ok (.ifCond .ge 8, 3) := by decide +kernel
theorem d_r_size_10 : decode prog_13_method_84_code 10 = .ok (.ireturn, 1) := by decide +kernel
theorem d_r_size_4 : decode prog_13_method_84_code 4 = .ok (.iload_n 0, 1) := by decide +kernel
theorem d_r_size_5 : decode prog_13_method_84_code 5 = .ok (.ineg, 1) := by decide +kernel
theorem d_r_size_6 : decode prog_13_method_84_code 6 = .ok (.goto 4, 3) := by decide +kernel
theorem d_r_size_9 : decode prog_13_method_84_code 9 = .ok (.iload_n 0, 1) := by decide +kernel
theorem d_r_sumOf_0 : decode prog_13_method_72_code 0 = .ok (.iconst 0, 1) := by decide +kernel
theorem d_r_sumOf_1 : decode prog_13_method_72_code 1 = .ok (.istore_n 2, 1) := by decide +kernel
theorem d_r_sumOf_12 : decode prog_13_method_72_code 12 = .ok (.iload_n 2, 1) := by decide +kernel
theorem d_r_sumOf_13 : decode prog_13_method_72_code 13 = .ok (.iload_n 1, 1) := by decide +kernel
theorem d_r_sumOf_14 : decode prog_13_method_72_code 14 = .ok (.iload_n 3, 1) := by decide +kernel
theorem d_r_sumOf_15 : decode prog_13_method_72_code 15 = .ok (.ishr, 1) := by decide +kernel
theorem d_r_sumOf_16 : decode prog_13_method_72_code 16 = .ok (.iconst 1, 1) := by decide +kernel
theorem d_r_sumOf_17 : decode prog_13_method_72_code 17 = .ok (.iand, 1) := by decide +kernel
theorem d_r_sumOf_18 : decode prog_13_method_72_code 18 = .ok (.iconst 1, 1) := by decide +kernel
theorem d_r_sumOf_19 : decode prog_13_method_72_code 19 = .ok (.if_icmp .ne 12, 3) := by decide +kernel
theorem d_r_sumOf_2 : decode prog_13_method_72_code 2 = .ok (.iconst 0, 1) := by decide +kernel
theorem d_r_sumOf_22 : decode prog_13_method_72_code 22 = .ok (.aload_n 0, 1) := by decide +kernel
theorem d_r_sumOf_23 : decode prog_13_method_72_code 23 = .ok (.getfield 19, 3) := by decide +kernel
theorem d_r_sumOf_26 : decode prog_13_method_72_code 26 = .ok (.iload_n 3, 1) := by decide +kernel
theorem d_r_sumOf_27 : decode prog_13_method_72_code 27 = .ok (.iaload, 1) := by decide +kernel
theorem d_r_sumOf_28 : decode prog_13_method_72_code 28 = .ok (.goto 4, 3) := by decide +kernel
theorem d_r_sumOf_3 : decode prog_13_method_72_code 3 = .ok (.istore_n 3, 1) := by decide +kernel
theorem d_r_sumOf_31 : decode prog_13_method_72_code 31 = .ok (.iconst 0, 1) := by decide +kernel
theorem d_r_sumOf_32 : decode prog_13_method_72_code 32 = .ok (.iadd, 1) := by decide +kernel
theorem d_r_sumOf_33 : decode prog_13_method_72_code 33 = .ok (.istore_n 2, 1) := by decide +kernel
theorem d_r_sumOf_34 : decode prog_13_method_72_code 34 = .ok (.iinc 3 1, 3) := by decide +kernel
theorem d_r_sumOf_37 : decode prog_13_method_72_code 37 = .ok (.goto (-33), 3) := by decide +kernel
theorem d_r_sumOf_4 : decode prog_13_method_72_code 4 = .ok (.iload_n 3, 1) := by decide +kernel
theorem d_r_sumOf_40 : decode prog_13_method_72_code 40 = .ok (.iload_n 2, 1) := by decide +kernel
theorem d_r_sumOf_41 : decode prog_13_method_72_code 41 = .ok (.ireturn, 1) := by decide +kernel
theorem d_r_sumOf_5 : decode prog_13_method_72_code 5 = .ok (.aload_n 0, 1) := by decide +kernel
theorem d_r_sumOf_6 : decode prog_13_method_72_code 6 = .ok (.getfield 150, 3) := by decide +kernel
theorem d_r_sumOf_9 : decode prog_13_method_72_code 9 = .ok (.if_icmp .ge 31, 3) := by decide +kernel
theorem d_r_sumsOf_0 : decode prog_13_method_73_code 0 = .ok (.iconst 0, 1) := by decide +kernel
theorem d_r_sumsOf_1 : decode prog_13_method_73_code 1 = .ok (.istore_n 2, 1) := by decide +kernel
theorem d_r_sumsOf_10 : decode prog_13_method_73_code 10 = .ok (.getfield 138, 3) := by decide +kernel
theorem d_r_sumsOf_13 : decode prog_13_method_73_code 13 = .ok (.iload_n 2, 1) := by decide +kernel
theorem d_r_sumsOf_14 : decode prog_13_method_73_code 14 = .ok (.iconst 0, 1) := by decide +kernel
theorem d_r_sumsOf_15 : decode prog_13_method_73_code 15 = .ok (.iastore, 1) := by decide +kernel
theorem d_r_sumsOf_16 : decode prog_13_method_73_code 16 = .ok (.iinc 2 1, 3) := by decide +kernel
theorem d_r_sumsOf_19 : decode prog_13_method_73_code 19 = .ok (.goto (-17), 3) := by decide +kernel
theorem d_r_sumsOf_2 : decode prog_13_method_73_code 2 = .ok (.iload_n 2, 1) := by decide +kernel
theorem d_r_sumsOf_22 : decode prog_13_method_73_code 22 = .ok (.iconst 0, 1) := by decide +kernel
theorem d_r_sumsOf_23 : decode prog_13_method_73_code 23 = .ok (.istore_n 2, 1) := by decide +kernel
theorem d_r_sumsOf_24 : decode prog_13_method_73_code 24 = .ok (.iconst 0, 1) := by decide +kernel
theorem d_r_sumsOf_25 : decode prog_13_method_73_code 25 = .ok (.istore_n 3, 1) := by decide +kernel
theorem d_r_sumsOf_26 : decode prog_13_method_73_code 26 = .ok (.iload_n 3, 1) := by decide +kernel
theorem d_r_sumsOf_27 : decode prog_13_method_73_code 27 = .ok (.iconst 1, 1) := by decide +kernel
theorem d_r_sumsOf_28 : decode prog_13_method_73_code 28 = .ok (.aload_n 0, 1) := by decide +kernel
theorem d_r_sumsOf_29 : decode prog_13_method_73_code 29 = .ok (.getfield 150, 3) := by decide +kernel
theorem d_r_sumsOf_3 : decode prog_13_method_73_code 3 = .ok (.sipush 1000, 3) := by decide +kernel
theorem d_r_sumsOf_32 : decode prog_13_method_73_code 32 = .ok (.ishl, 1) := by decide +kernel
theorem d_r_sumsOf_33 : decode prog_13_method_73_code 33 = .ok (.if_icmp .ge 50, 3) := by decide +kernel
theorem d_r_sumsOf_36 : decode prog_13_method_73_code 36 = .ok (.iload_n 3, 1) := by decide +kernel
theorem d_r_sumsOf_37 : decode prog_13_method_73_code 37 = .ok (.iload_n 1, 1) := by decide +kernel
theorem d_r_sumsOf_38 : decode prog_13_method_73_code 38 = .ok (.iconst (-1), 1) := by decide +kernel
theorem d_r_sumsOf_39 : decode prog_13_method_73_code 39 = .ok (.ixor, 1) := by decide +kernel
theorem d_r_sumsOf_40 : decode prog_13_method_73_code 40 = .ok (.iand, 1) := by decide +kernel
theorem d_r_sumsOf_41 : decode prog_13_method_73_code 41 = .ok (.ifCond .ne 36, 3) := by decide +kernel
theorem d_r_sumsOf_44 : decode prog_13_method_73_code 44 = .ok (.aload_n 0, 1) := by decide +kernel
theorem d_r_sumsOf_45 : decode prog_13_method_73_code 45 = .ok (.iload_n 3, 1) := by decide +kernel
theorem d_r_sumsOf_46 : decode prog_13_method_73_code 46 = .ok (.invokevirtual 335, 3) := by decide +kernel
theorem d_r_sumsOf_49 : decode prog_13_method_73_code 49 = .ok (.istore 4, 2) := by decide +kernel
theorem d_r_sumsOf_51 : decode prog_13_method_73_code 51 = .ok (.iload_n 2, 1) := by decide +kernel
theorem d_r_sumsOf_52 : decode prog_13_method_73_code 52 = .ok (.aload_n 0, 1) := by decide +kernel
theorem d_r_sumsOf_53 : decode prog_13_method_73_code 53 = .ok (.getfield 138, 3) := by decide +kernel
theorem d_r_sumsOf_56 : decode prog_13_method_73_code 56 = .ok (.iload 4, 2) := by decide +kernel
theorem d_r_sumsOf_58 : decode prog_13_method_73_code 58 = .ok (.iaload, 1) := by decide +kernel
theorem d_r_sumsOf_59 : decode prog_13_method_73_code 59 = .ok (.ifCond .ne 7, 3) := by decide +kernel
theorem d_r_sumsOf_6 : decode prog_13_method_73_code 6 = .ok (.if_icmp .ge 16, 3) := by decide +kernel
theorem d_r_sumsOf_62 : decode prog_13_method_73_code 62 = .ok (.iconst 1, 1) := by decide +kernel
theorem d_r_sumsOf_63 : decode prog_13_method_73_code 63 = .ok (.goto 4, 3) := by decide +kernel
theorem d_r_sumsOf_66 : decode prog_13_method_73_code 66 = .ok (.iconst 0, 1) := by decide +kernel
theorem d_r_sumsOf_67 : decode prog_13_method_73_code 67 = .ok (.iadd, 1) := by decide +kernel
theorem d_r_sumsOf_68 : decode prog_13_method_73_code 68 = .ok (.istore_n 2, 1) := by decide +kernel
theorem d_r_sumsOf_69 : decode prog_13_method_73_code 69 = .ok (.aload_n 0, 1) := by decide +kernel
theorem d_r_sumsOf_70 : decode prog_13_method_73_code 70 = .ok (.getfield 138, 3) := by decide +kernel
theorem d_r_sumsOf_73 : decode prog_13_method_73_code 73 = .ok (.iload 4, 2) := by decide +kernel
theorem d_r_sumsOf_75 : decode prog_13_method_73_code 75 = .ok (.iconst 1, 1) := by decide +kernel
theorem d_r_sumsOf_76 : decode prog_13_method_73_code 76 = .ok (.iastore, 1) := by decide +kernel
theorem d_r_sumsOf_77 : decode prog_13_method_73_code 77 = .ok (.iinc 3 1, 3) := by decide +kernel
theorem d_r_sumsOf_80 : decode prog_13_method_73_code 80 = .ok (.goto (-54), 3) := by decide +kernel
theorem d_r_sumsOf_83 : decode prog_13_method_73_code 83 = .ok (.iload_n 2, 1) := by decide +kernel
theorem d_r_sumsOf_84 : decode prog_13_method_73_code 84 = .ok (.ireturn, 1) := by decide +kernel
theorem d_r_sumsOf_9 : decode prog_13_method_73_code 9 = .ok (.aload_n 0, 1) := by decide +kernel
theorem d_r_sums_0 : decode prog_13_method_74_code 0 = .ok (.iload_n 1, 1) := by decide +kernel
theorem d_r_sums_1 : decode prog_13_method_74_code 1 = .ok (.iconst 0, 1) := by decide +kernel
theorem d_r_sums_10 : decode prog_13_method_74_code 10 = .ok (.aload_n 0, 1) := by decide +kernel
theorem d_r_sums_11 : decode prog_13_method_74_code 11 = .ok (.iconst 1, 1) := by decide +kernel
theorem d_r_sums_12 : decode prog_13_method_74_code 12 = .ok (.iload_n 1, 1) := by decide +kernel
theorem d_r_sums_13 : decode prog_13_method_74_code 13 = .ok (.ishl, 1) := by decide +kernel
theorem d_r_sums_14 : decode prog_13_method_74_code 14 = .ok (.invokevirtual 295, 3) := by decide +kernel
theorem d_r_sums_17 : decode prog_13_method_74_code 17 = .ok (.invokevirtual 338, 3) := by decide +kernel
theorem d_r_sums_2 : decode prog_13_method_74_code 2 = .ok (.iconst 5, 1) := by decide +kernel
theorem d_r_sums_20 : decode prog_13_method_74_code 20 = .ok (.goto 5, 3) := by decide +kernel
theorem d_r_sums_23 : decode prog_13_method_74_code 23 = .ok (.bipush (-2), 2) := by decide +kernel
theorem d_r_sums_25 : decode prog_13_method_74_code 25 = .ok (.ireturn, 1) := by decide +kernel
theorem d_r_sums_3 : decode prog_13_method_74_code 3 = .ok (.invokestatic 153, 3) := by decide +kernel
theorem d_r_sums_6 : decode prog_13_method_74_code 6 = .ok (.ifCond .eq 17, 3) := by decide +kernel
theorem d_r_sums_9 : decode prog_13_method_74_code 9 = .ok (.aload_n 0, 1) := by decide +kernel
theorem d_r_sureOf_0 : decode prog_13_method_65_code 0 = .ok (.aload_n 0, 1) := by decide +kernel
theorem d_r_sureOf_1 : decode prog_13_method_65_code 1 = .ok (.iconst 0, 1) := by decide +kernel
theorem d_r_sureOf_10 : decode prog_13_method_65_code 10 = .ok (.istore 4, 2) := by decide +kernel
theorem d_r_sureOf_12 : decode prog_13_method_65_code 12 = .ok (.iload 4, 2) := by decide +kernel
theorem d_r_sureOf_14 : decode prog_13_method_65_code 14 = .ok (.aload_n 0, 1) := by decide +kernel
theorem d_r_sureOf_15 : decode prog_13_method_65_code 15 = .ok (.getfield 157, 3) := by decide +kernel
theorem d_r_sureOf_18 : decode prog_13_method_65_code 18 = .ok (.if_icmp .ge 58, 3) := by decide +kernel
theorem d_r_sureOf_2 : decode prog_13_method_65_code 2 = .ok (.invokevirtual 311, 3) := by decide +kernel
theorem d_r_sureOf_21 : decode prog_13_method_65_code 21 = .ok (.iload_n 2, 1) := by decide +kernel
theorem d_r_sureOf_22 : decode prog_13_method_65_code 22 = .ok (.iload 4, 2) := by decide +kernel
theorem d_r_sureOf_24 : decode prog_13_method_65_code 24 = .ok (.ishr, 1) := by decide +kernel
theorem d_r_sureOf_25 : decode prog_13_method_65_code 25 = .ok (.iconst 1, 1) := by decide +kernel
theorem d_r_sureOf_26 : decode prog_13_method_65_code 26 = .ok (.iand, 1) := by decide +kernel
theorem d_r_sureOf_27 : decode prog_13_method_65_code 27 = .ok (.iconst 1, 1) := by decide +kernel
theorem d_r_sureOf_28 : decode prog_13_method_65_code 28 = .ok (.if_icmp .ne 42, 3) := by decide +kernel
theorem d_r_sureOf_31 : decode prog_13_method_65_code 31 = .ok (.iload_n 3, 1) := by decide +kernel
theorem d_r_sureOf_32 : decode prog_13_method_65_code 32 = .ok (.bipush (-3), 2) := by decide +kernel
theorem d_r_sureOf_34 : decode prog_13_method_65_code 34 = .ok (.if_icmp .eq 19, 3) := by decide +kernel
theorem d_r_sureOf_37 : decode prog_13_method_65_code 37 = .ok (.iload_n 3, 1) := by decide +kernel
theorem d_r_sureOf_38 : decode prog_13_method_65_code 38 = .ok (.aload_n 0, 1) := by decide +kernel
theorem d_r_sureOf_39 : decode prog_13_method_65_code 39 = .ok (.getfield 34, 3) := by decide +kernel
theorem d_r_sureOf_42 : decode prog_13_method_65_code 42 = .ok (.bipush 10, 2) := by decide +kernel
theorem d_r_sureOf_44 : decode prog_13_method_65_code 44 = .ok (.iload 4, 2) := by decide +kernel
theorem d_r_sureOf_46 : decode prog_13_method_65_code 46 = .ok (.imul, 1) := by decide +kernel
theorem d_r_sureOf_47 : decode prog_13_method_65_code 47 = .ok (.iload_n 1, 1) := by decide +kernel
theorem d_r_sureOf_48 : decode prog_13_method_65_code 48 = .ok (.iadd, 1) := by decide +kernel
theorem d_r_sureOf_49 : decode prog_13_method_65_code 49 = .ok (.iaload, 1) := by decide +kernel
theorem d_r_sureOf_5 : decode prog_13_method_65_code 5 = .ok (.istore_n 2, 1) := by decide +kernel
theorem d_r_sureOf_50 : decode prog_13_method_65_code 50 = .ok (.if_icmp .ne 18, 3) := by decide +kernel
theorem d_r_sureOf_53 : decode prog_13_method_65_code 53 = .ok (.aload_n 0, 1) := by decide +kernel
theorem d_r_sureOf_54 : decode prog_13_method_65_code 54 = .ok (.getfield 34, 3) := by decide +kernel
theorem d_r_sureOf_57 : decode prog_13_method_65_code 57 = .ok (.bipush 10, 2) := by decide +kernel
theorem d_r_sureOf_59 : decode prog_13_method_65_code 59 = .ok (.iload 4, 2) := by decide +kernel
theorem d_r_sureOf_6 : decode prog_13_method_65_code 6 = .ok (.bipush (-3), 2) := by decide +kernel
theorem d_r_sureOf_61 : decode prog_13_method_65_code 61 = .ok (.imul, 1) := by decide +kernel
theorem d_r_sureOf_62 : decode prog_13_method_65_code 62 = .ok (.iload_n 1, 1) := by decide +kernel
theorem d_r_sureOf_63 : decode prog_13_method_65_code 63 = .ok (.iadd, 1) := by decide +kernel
theorem d_r_sureOf_64 : decode prog_13_method_65_code 64 = .ok (.iaload, 1) := by decide +kernel
theorem d_r_sureOf_65 : decode prog_13_method_65_code 65 = .ok (.goto 4, 3) := by decide +kernel
theorem d_r_sureOf_68 : decode prog_13_method_65_code 68 = .ok (.iconst (-1), 1) := by decide +kernel
theorem d_r_sureOf_69 : decode prog_13_method_65_code 69 = .ok (.istore_n 3, 1) := by decide +kernel
theorem d_r_sureOf_70 : decode prog_13_method_65_code 70 = .ok (.iinc 4 1, 3) := by decide +kernel
theorem d_r_sureOf_73 : decode prog_13_method_65_code 73 = .ok (.goto (-61), 3) := by decide +kernel
theorem d_r_sureOf_76 : decode prog_13_method_65_code 76 = .ok (.iload_n 3, 1) := by decide +kernel
theorem d_r_sureOf_77 : decode prog_13_method_65_code 77 = .ok (.ireturn, 1) := by decide +kernel
theorem d_r_sureOf_8 : decode prog_13_method_65_code 8 = .ok (.istore_n 3, 1) := by decide +kernel
theorem d_r_sureOf_9 : decode prog_13_method_65_code 9 = .ok (.iconst 0, 1) := by decide +kernel
theorem d_r_sure_0 : decode prog_13_method_66_code 0 = .ok (.aload_n 0, 1) := by decide +kernel
theorem d_r_sure_1 : decode prog_13_method_66_code 1 = .ok (.iload_n 1, 1) := by decide +kernel
theorem d_r_sure_10 : decode prog_13_method_66_code 10 = .ok (.invokevirtual 329, 3) := by decide +kernel
theorem d_r_sure_13 : decode prog_13_method_66_code 13 = .ok (.goto 5, 3) := by decide +kernel
theorem d_r_sure_16 : decode prog_13_method_66_code 16 = .ok (.bipush (-5), 2) := by decide +kernel
theorem d_r_sure_18 : decode prog_13_method_66_code 18 = .ok (.ireturn, 1) := by decide +kernel
theorem d_r_sure_2 : decode prog_13_method_66_code 2 = .ok (.invokevirtual 195, 3) := by decide +kernel
theorem d_r_sure_5 : decode prog_13_method_66_code 5 = .ok (.ifCond .eq 11, 3) := by decide +kernel
theorem d_r_sure_8 : decode prog_13_method_66_code 8 = .ok (.aload_n 0, 1) := by decide +kernel
theorem d_r_sure_9 : decode prog_13_method_66_code 9 = .ok (.iload_n 1, 1) := by decide +kernel
theorem d_r_taken_0 : decode prog_13_method_103_code 0 = .ok (.iload_n 2, 1) := by decide +kernel
theorem d_r_taken_1 : decode prog_13_method_103_code 1 = .ok (.iconst 0, 1) := by decide +kernel
theorem d_r_taken_10 : decode prog_13_method_103_code 10 = .ok (.bipush (-2), 2) := by decide +kernel
theorem d_r_taken_101 : decode prog_13_method_103_code 101 = .ok (.iload_n 1, 1) := by decide +kernel
theorem d_r_taken_102 : decode prog_13_method_103_code 102 = .ok (.bipush 6, 2) := by decide +kernel
theorem d_r_taken_104 : decode prog_13_method_103_code 104 = .ok (.isub, 1) := by decide +kernel
theorem d_r_taken_105 : decode prog_13_method_103_code 105 = .ok (.goto 5, 3) := by decide +kernel
theorem d_r_taken_108 : decode prog_13_method_103_code 108 = .ok (.bipush (-13), 2) := by decide +kernel
theorem d_r_taken_110 : decode prog_13_method_103_code 110 = .ok (.ireturn, 1) := by decide +kernel
theorem d_r_taken_12 : decode prog_13_method_103_code 12 = .ok (.ireturn, 1) := by decide +kernel
theorem d_r_taken_13 : decode prog_13_method_103_code 13 = .ok (.iload_n 1, 1) := by decide +kernel
theorem d_r_taken_14 : decode prog_13_method_103_code 14 = .ok (.iconst 0, 1) := by decide +kernel
theorem d_r_taken_15 : decode prog_13_method_103_code 15 = .ok (.bipush 15, 2) := by decide +kernel
theorem d_r_taken_17 : decode prog_13_method_103_code 17 = .ok (.invokestatic 153, 3) := by decide +kernel
theorem d_r_taken_2 : decode prog_13_method_103_code 2 = .ok (.bipush 6, 2) := by decide +kernel
theorem d_r_taken_20 : decode prog_13_method_103_code 20 = .ok (.ifCond .ne 6, 3) := by decide +kernel
theorem d_r_taken_23 : decode prog_13_method_103_code 23 = .ok (.bipush (-12), 2) := by decide +kernel
theorem d_r_taken_25 : decode prog_13_method_103_code 25 = .ok (.ireturn, 1) := by decide +kernel
theorem d_r_taken_26 : decode prog_13_method_103_code 26 = .ok (.iload_n 1, 1) := by decide +kernel
theorem d_r_taken_27 : decode prog_13_method_103_code 27 = .ok (.bipush 6, 2) := by decide +kernel
theorem d_r_taken_29 : decode prog_13_method_103_code 29 = .ok (.if_icmp .ge 34, 3) := by decide +kernel
theorem d_r_taken_32 : decode prog_13_method_103_code 32 = .ok (.iload_n 1, 1) := by decide +kernel
theorem d_r_taken_33 : decode prog_13_method_103_code 33 = .ok (.aload_n 0, 1) := by decide +kernel
theorem d_r_taken_34 : decode prog_13_method_103_code 34 = .ok (.getfield 160, 3) := by decide +kernel
theorem d_r_taken_37 : decode prog_13_method_103_code 37 = .ok (.if_icmp .lt 8, 3) := by decide +kernel
theorem d_r_taken_4 : decode prog_13_method_103_code 4 = .ok (.invokestatic 153, 3) := by decide +kernel
theorem d_r_taken_40 : decode prog_13_method_103_code 40 = .ok (.bipush (-11), 2) := by decide +kernel
theorem d_r_taken_42 : decode prog_13_method_103_code 42 = .ok (.goto 20, 3) := by decide +kernel
theorem d_r_taken_45 : decode prog_13_method_103_code 45 = .ok (.iload_n 2, 1) := by decide +kernel
theorem d_r_taken_46 : decode prog_13_method_103_code 46 = .ok (.bipush 6, 2) := by decide +kernel
theorem d_r_taken_48 : decode prog_13_method_103_code 48 = .ok (.if_icmp .ne 12, 3) := by decide +kernel
theorem d_r_taken_51 : decode prog_13_method_103_code 51 = .ok (.aload_n 0, 1) := by decide +kernel
theorem d_r_taken_52 : decode prog_13_method_103_code 52 = .ok (.getfield 7, 3) := by decide +kernel
theorem d_r_taken_55 : decode prog_13_method_103_code 55 = .ok (.iload_n 1, 1) := by decide +kernel
theorem d_r_taken_56 : decode prog_13_method_103_code 56 = .ok (.iaload, 1) := by decide +kernel
theorem d_r_taken_57 : decode prog_13_method_103_code 57 = .ok (.goto 5, 3) := by decide +kernel
theorem d_r_taken_60 : decode prog_13_method_103_code 60 = .ok (.bipush (-13), 2) := by decide +kernel
theorem d_r_taken_62 : decode prog_13_method_103_code 62 = .ok (.ireturn, 1) := by decide +kernel
theorem d_r_taken_63 : decode prog_13_method_103_code 63 = .ok (.iload_n 1, 1) := by decide +kernel
theorem d_r_taken_64 : decode prog_13_method_103_code 64 = .ok (.bipush 6, 2) := by decide +kernel
theorem d_r_taken_66 : decode prog_13_method_103_code 66 = .ok (.isub, 1) := by decide +kernel
theorem d_r_taken_67 : decode prog_13_method_103_code 67 = .ok (.aload_n 0, 1) := by decide +kernel
theorem d_r_taken_68 : decode prog_13_method_103_code 68 = .ok (.getfield 150, 3) := by decide +kernel
theorem d_r_taken_7 : decode prog_13_method_103_code 7 = .ok (.ifCond .ne 6, 3) := by decide +kernel
theorem d_r_taken_71 : decode prog_13_method_103_code 71 = .ok (.if_icmp .lt 8, 3) := by decide +kernel
theorem d_r_taken_74 : decode prog_13_method_103_code 74 = .ok (.bipush (-11), 2) := by decide +kernel
theorem d_r_taken_76 : decode prog_13_method_103_code 76 = .ok (.goto 34, 3) := by decide +kernel
theorem d_r_taken_79 : decode prog_13_method_103_code 79 = .ok (.iload_n 2, 1) := by decide +kernel
theorem d_r_taken_80 : decode prog_13_method_103_code 80 = .ok (.bipush 6, 2) := by decide +kernel
theorem d_r_taken_82 : decode prog_13_method_103_code 82 = .ok (.if_icmp .ge 26, 3) := by decide +kernel
theorem d_r_taken_85 : decode prog_13_method_103_code 85 = .ok (.aload_n 0, 1) := by decide +kernel
theorem d_r_taken_86 : decode prog_13_method_103_code 86 = .ok (.getfield 16, 3) := by decide +kernel
theorem d_r_taken_89 : decode prog_13_method_103_code 89 = .ok (.iload_n 1, 1) := by decide +kernel
theorem d_r_taken_90 : decode prog_13_method_103_code 90 = .ok (.bipush 6, 2) := by decide +kernel
theorem d_r_taken_92 : decode prog_13_method_103_code 92 = .ok (.isub, 1) := by decide +kernel
theorem d_r_taken_93 : decode prog_13_method_103_code 93 = .ok (.iaload, 1) := by decide +kernel
theorem d_r_taken_94 : decode prog_13_method_103_code 94 = .ok (.iload_n 2, 1) := by decide +kernel
theorem d_r_taken_95 : decode prog_13_method_103_code 95 = .ok (.invokestatic 395, 3) := by decide +kernel
theorem d_r_taken_98 : decode prog_13_method_103_code 98 = .ok (.ifCond .eq 10, 3) := by decide +kernel
theorem d_r_tellsFuses_0 : decode prog_13_method_31_code 0 = .ok (.iload_n 1, 1) := by decide +kernel
theorem d_r_tellsFuses_1 : decode prog_13_method_31_code 1 = .ok (.iconst 0, 1) := by decide +kernel
theorem d_r_tellsFuses_11 : decode prog_13_method_31_code 11 = .ok (.ireturn, 1) := by decide +kernel
theorem d_r_tellsFuses_12 : decode prog_13_method_31_code 12 = .ok (.aload_n 0, 1) := by decide +kernel
theorem d_r_tellsFuses_13 : decode prog_13_method_31_code 13 = .ok (.getfield 86, 3) := by decide +kernel
theorem d_r_tellsFuses_16 : decode prog_13_method_31_code 16 = .ok (.iload_n 1, 1) := by decide +kernel
theorem d_r_tellsFuses_17 : decode prog_13_method_31_code 17 = .ok (.iaload, 1) := by decide +kernel
theorem d_r_tellsFuses_18 : decode prog_13_method_31_code 18 = .ok (.iconst (-1), 1) := by decide +kernel
theorem d_r_tellsFuses_19 : decode prog_13_method_31_code 19 = .ok (.if_icmp .ne 6, 3) := by decide +kernel
theorem d_r_tellsFuses_2 : decode prog_13_method_31_code 2 = .ok (.iconst 3, 1) := by decide +kernel
theorem d_r_tellsFuses_22 : decode prog_13_method_31_code 22 = .ok (.bipush (-11), 2) := by decide +kernel
theorem d_r_tellsFuses_24 : decode prog_13_method_31_code 24 = .ok (.ireturn, 1) := by decide +kernel
theorem d_r_tellsFuses_25 : decode prog_13_method_31_code 25 = .ok (.aload_n 0, 1) := by decide +kernel
theorem d_r_tellsFuses_26 : decode prog_13_method_31_code 26 = .ok (.getfield 89, 3) := by decide +kernel
theorem d_r_tellsFuses_29 : decode prog_13_method_31_code 29 = .ok (.iload_n 1, 1) := by decide +kernel
theorem d_r_tellsFuses_3 : decode prog_13_method_31_code 3 = .ok (.invokestatic 153, 3) := by decide +kernel
theorem d_r_tellsFuses_30 : decode prog_13_method_31_code 30 = .ok (.iaload, 1) := by decide +kernel
theorem d_r_tellsFuses_31 : decode prog_13_method_31_code 31 = .ok (.aload_n 0, 1) := by decide +kernel
theorem d_r_tellsFuses_32 : decode prog_13_method_31_code 32 = .ok (.getfield 150, 3) := by decide +kernel
theorem d_r_tellsFuses_35 : decode prog_13_method_31_code 35 = .ok (.if_icmp .ne 7, 3) := by decide +kernel
theorem d_r_tellsFuses_38 : decode prog_13_method_31_code 38 = .ok (.iconst 1, 1) := by decide +kernel
theorem d_r_tellsFuses_39 : decode prog_13_method_31_code 39 = .ok (.goto 4, 3) := by decide +kernel
theorem d_r_tellsFuses_42 : decode prog_13_method_31_code 42 = .ok (.iconst 0, 1) := by decide +kernel
theorem d_r_tellsFuses_43 : decode prog_13_method_31_code 43 = .ok (.istore_n 2, 1) := by decide +kernel
theorem d_r_tellsFuses_44 : decode prog_13_method_31_code 44 = .ok (.iconst 0, 1) := by decide +kernel
theorem d_r_tellsFuses_45 : decode prog_13_method_31_code 45 = .ok (.istore_n 3, 1) := by decide +kernel
theorem d_r_tellsFuses_46 : decode prog_13_method_31_code 46 = .ok (.iload_n 3, 1) := by decide +kernel
theorem d_r_tellsFuses_47 : decode prog_13_method_31_code 47 = .ok (.aload_n 0, 1) := by decide +kernel
theorem d_r_tellsFuses_48 : decode prog_13_method_31_code 48 = .ok (.getfield 150, 3) := by decide +kernel
theorem d_r_tellsFuses_51 : decode prog_13_method_31_code 51 = .ok (.if_icmp .ge 35, 3) := by decide +kernel
theorem d_r_tellsFuses_54 : decode prog_13_method_31_code 54 = .ok (.iload_n 2, 1) := by decide +kernel
theorem d_r_tellsFuses_55 : decode prog_13_method_31_code 55 = .ok (.ifCond .eq 31, 3) := by decide +kernel
theorem d_r_tellsFuses_58 : decode prog_13_method_31_code 58 = .ok (.aload_n 0, 1) := by decide +kernel
theorem d_r_tellsFuses_59 : decode prog_13_method_31_code 59 = .ok (.getfield 92, 3) := by decide +kernel
theorem d_r_tellsFuses_6 : decode prog_13_method_31_code 6 = .ok (.ifCond .ne 6, 3) := by decide +kernel
theorem d_r_tellsFuses_62 : decode prog_13_method_31_code 62 = .ok (.bipush 40, 2) := by decide +kernel
theorem d_r_tellsFuses_64 : decode prog_13_method_31_code 64 = .ok (.iload_n 1, 1) := by decide +kernel
theorem d_r_tellsFuses_65 : decode prog_13_method_31_code 65 = .ok (.imul, 1) := by decide +kernel
theorem d_r_tellsFuses_66 : decode prog_13_method_31_code 66 = .ok (.iload_n 3, 1) := by decide +kernel
theorem d_r_tellsFuses_67 : decode prog_13_method_31_code 67 = .ok (.iadd, 1) := by decide +kernel
theorem d_r_tellsFuses_68 : decode prog_13_method_31_code 68 = .ok (.iaload, 1) := by decide +kernel
theorem d_r_tellsFuses_69 : decode prog_13_method_31_code 69 = .ok (.iconst 0, 1) := by decide +kernel
theorem d_r_tellsFuses_70 : decode prog_13_method_31_code 70 = .ok (.aload_n 0, 1) := by decide +kernel
theorem d_r_tellsFuses_71 : decode prog_13_method_31_code 71 = .ok (.getfield 160, 3) := by decide +kernel
theorem d_r_tellsFuses_74 : decode prog_13_method_31_code 74 = .ok (.iconst 1, 1) := by decide +kernel
theorem d_r_tellsFuses_75 : decode prog_13_method_31_code 75 = .ok (.isub, 1) := by decide +kernel
theorem d_r_tellsFuses_76 : decode prog_13_method_31_code 76 = .ok (.invokestatic 153, 3) := by decide +kernel
theorem d_r_tellsFuses_79 : decode prog_13_method_31_code 79 = .ok (.istore_n 2, 1) := by decide +kernel
theorem d_r_tellsFuses_80 : decode prog_13_method_31_code 80 = .ok (.iinc 3 1, 3) := by decide +kernel
theorem d_r_tellsFuses_83 : decode prog_13_method_31_code 83 = .ok (.goto (-37), 3) := by decide +kernel
theorem d_r_tellsFuses_86 : decode prog_13_method_31_code 86 = .ok (.iload_n 2, 1) := by decide +kernel
theorem d_r_tellsFuses_87 : decode prog_13_method_31_code 87 = .ok (.ifCond .eq 7, 3) := by decide +kernel
theorem d_r_tellsFuses_9 : decode prog_13_method_31_code 9 = .ok (.bipush (-2), 2) := by decide +kernel
theorem d_r_tellsFuses_90 : decode prog_13_method_31_code 90 = .ok (.iconst 0, 1) := by decide +kernel
theorem d_r_tellsFuses_91 : decode prog_13_method_31_code 91 = .ok (.goto 5, 3) := by decide +kernel
theorem d_r_tellsFuses_94 : decode prog_13_method_31_code 94 = .ok (.bipush (-2), 2) := by decide +kernel
theorem d_r_tellsFuses_96 : decode prog_13_method_31_code 96 = .ok (.ireturn, 1) := by decide +kernel
theorem d_r_text_0 : decode prog_13_method_26_code 0 = .ok (.aload_n 0, 1) := by decide +kernel
theorem d_r_text_1 : decode prog_13_method_26_code 1 = .ok (.getfield 67, 3) := by decide +kernel
theorem d_r_text_101 : decode prog_13_method_26_code 101 = .ok (.iload_n 1, 1) := by decide +kernel
theorem d_r_text_102 : decode prog_13_method_26_code 102 = .ok (.ifCond .eq 20, 3) := by decide +kernel
theorem d_r_text_105 : decode prog_13_method_26_code 105 = .ok (.aload_n 0, 1) := by decide +kernel
theorem d_r_text_106 : decode prog_13_method_26_code 106 = .ok (.invokevirtual 238, 3) := by decide +kernel
theorem d_r_text_109 : decode prog_13_method_26_code 109 = .ok (.aload_n 0, 1) := by decide +kernel
theorem d_r_text_11 : decode prog_13_method_26_code 11 = .ok (.ireturn, 1) := by decide +kernel
theorem d_r_text_110 : decode prog_13_method_26_code 110 = .ok (.getfield 206, 3) := by decide +kernel
theorem d_r_text_113 : decode prog_13_method_26_code 113 = .ok (.ifCond .ne 7, 3) := by decide +kernel
theorem d_r_text_116 : decode prog_13_method_26_code 116 = .ok (.iconst 1, 1) := by decide +kernel
theorem d_r_text_117 : decode prog_13_method_26_code 117 = .ok (.goto 4, 3) := by decide +kernel
theorem d_r_text_12 : decode prog_13_method_26_code 12 = .ok (.aload_n 0, 1) := by decide +kernel
theorem d_r_text_120 : decode prog_13_method_26_code 120 = .ok (.iconst 0, 1) := by decide +kernel
theorem d_r_text_121 : decode prog_13_method_26_code 121 = .ok (.istore_n 1, 1) := by decide +kernel
theorem d_r_text_122 : decode prog_13_method_26_code 122 = .ok (.aload_n 0, 1) := by decide +kernel
theorem d_r_text_123 : decode prog_13_method_26_code 123 = .ok (.getfield 64, 3) := by decide +kernel
theorem d_r_text_126 : decode prog_13_method_26_code 126 = .ok (.iconst 4, 1) := by decide +kernel
theorem d_r_text_127 : decode prog_13_method_26_code 127 = .ok (.aload_n 0, 1) := by decide +kernel
theorem d_r_text_128 : decode prog_13_method_26_code 128 = .ok (.getfield 67, 3) := by decide +kernel
theorem d_r_text_13 : decode prog_13_method_26_code 13 = .ok (.iconst 0, 1) := by decide +kernel
theorem d_r_text_131 : decode prog_13_method_26_code 131 = .ok (.imul, 1) := by decide +kernel
theorem d_r_text_132 : decode prog_13_method_26_code 132 = .ok (.iconst 3, 1) := by decide +kernel
theorem d_r_text_133 : decode prog_13_method_26_code 133 = .ok (.iadd, 1) := by decide +kernel
theorem d_r_text_134 : decode prog_13_method_26_code 134 = .ok (.aload_n 0, 1) := by decide +kernel
theorem d_r_text_135 : decode prog_13_method_26_code 135 = .ok (.getfield 216, 3) := by decide +kernel
theorem d_r_text_138 : decode prog_13_method_26_code 138 = .ok (.iastore, 1) := by decide +kernel
theorem d_r_text_139 : decode prog_13_method_26_code 139 = .ok (.aload_n 0, 1) := by decide +kernel
theorem d_r_text_14 : decode prog_13_method_26_code 14 = .ok (.putfield 200, 3) := by decide +kernel
theorem d_r_text_140 : decode prog_13_method_26_code 140 = .ok (.iconst 0, 1) := by decide +kernel
theorem d_r_text_141 : decode prog_13_method_26_code 141 = .ok (.putfield 192, 3) := by decide +kernel
theorem d_r_text_144 : decode prog_13_method_26_code 144 = .ok (.iload_n 1, 1) := by decide +kernel
theorem d_r_text_145 : decode prog_13_method_26_code 145 = .ok (.ifCond .ne 11, 3) := by decide +kernel
theorem d_r_text_148 : decode prog_13_method_26_code 148 = .ok (.bipush (-100), 2) := by decide +kernel
theorem d_r_text_150 : decode prog_13_method_26_code 150 = .ok (.aload_n 0, 1) := by decide +kernel
theorem d_r_text_151 : decode prog_13_method_26_code 151 = .ok (.getfield 203, 3) := by decide +kernel
theorem d_r_text_154 : decode prog_13_method_26_code 154 = .ok (.isub, 1) := by decide +kernel
theorem d_r_text_155 : decode prog_13_method_26_code 155 = .ok (.ireturn, 1) := by decide +kernel
theorem d_r_text_156 : decode prog_13_method_26_code 156 = .ok (.aload_n 0, 1) := by decide +kernel
theorem d_r_text_157 : decode prog_13_method_26_code 157 = .ok (.dup, 1) := by decide +kernel
theorem d_r_text_158 : decode prog_13_method_26_code 158 = .ok (.getfield 67, 3) := by decide +kernel
theorem d_r_text_161 : decode prog_13_method_26_code 161 = .ok (.iconst 1, 1) := by decide +kernel
theorem d_r_text_162 : decode prog_13_method_26_code 162 = .ok (.iadd, 1) := by decide +kernel
theorem d_r_text_163 : decode prog_13_method_26_code 163 = .ok (.putfield 67, 3) := by decide +kernel
theorem d_r_text_166 : decode prog_13_method_26_code 166 = .ok (.aload_n 0, 1) := by decide +kernel
theorem d_r_text_167 : decode prog_13_method_26_code 167 = .ok (.getfield 67, 3) := by decide +kernel
theorem d_r_text_17 : decode prog_13_method_26_code 17 = .ok (.aload_n 0, 1) := by decide +kernel
theorem d_r_text_170 : decode prog_13_method_26_code 170 = .ok (.iconst 1, 1) := by decide +kernel
theorem d_r_text_171 : decode prog_13_method_26_code 171 = .ok (.isub, 1) := by decide +kernel
theorem d_r_text_172 : decode prog_13_method_26_code 172 = .ok (.ireturn, 1) := by decide +kernel
theorem d_r_text_18 : decode prog_13_method_26_code 18 = .ok (.iconst 0, 1) := by decide +kernel
theorem d_r_text_19 : decode prog_13_method_26_code 19 = .ok (.putfield 216, 3) := by decide +kernel
theorem d_r_text_22 : decode prog_13_method_26_code 22 = .ok (.iconst 1, 1) := by decide +kernel
theorem d_r_text_23 : decode prog_13_method_26_code 23 = .ok (.istore_n 1, 1) := by decide +kernel
theorem d_r_text_24 : decode prog_13_method_26_code 24 = .ok (.iconst 0, 1) := by decide +kernel
theorem d_r_text_25 : decode prog_13_method_26_code 25 = .ok (.istore_n 2, 1) := by decide +kernel
theorem d_r_text_26 : decode prog_13_method_26_code 26 = .ok (.iload_n 2, 1) := by decide +kernel
theorem d_r_text_27 : decode prog_13_method_26_code 27 = .ok (.iconst 3, 1) := by decide +kernel
theorem d_r_text_28 : decode prog_13_method_26_code 28 = .ok (.if_icmp .ge 73, 3) := by decide +kernel
theorem d_r_text_31 : decode prog_13_method_26_code 31 = .ok (.iload_n 1, 1) := by decide +kernel
theorem d_r_text_32 : decode prog_13_method_26_code 32 = .ok (.ifCond .eq 69, 3) := by decide +kernel
theorem d_r_text_35 : decode prog_13_method_26_code 35 = .ok (.aload_n 0, 1) := by decide +kernel
theorem d_r_text_36 : decode prog_13_method_26_code 36 = .ok (.invokevirtual 238, 3) := by decide +kernel
theorem d_r_text_39 : decode prog_13_method_26_code 39 = .ok (.aload_n 0, 1) := by decide +kernel
theorem d_r_text_4 : decode prog_13_method_26_code 4 = .ok (.bipush 6, 2) := by decide +kernel
theorem d_r_text_40 : decode prog_13_method_26_code 40 = .ok (.getfield 206, 3) := by decide +kernel
theorem d_r_text_43 : decode prog_13_method_26_code 43 = .ok (.iconst 3, 1) := by decide +kernel
theorem d_r_text_44 : decode prog_13_method_26_code 44 = .ok (.if_icmp .ne 15, 3) := by decide +kernel
theorem d_r_text_47 : decode prog_13_method_26_code 47 = .ok (.aload_n 0, 1) := by decide +kernel
theorem d_r_text_48 : decode prog_13_method_26_code 48 = .ok (.getfield 209, 3) := by decide +kernel
theorem d_r_text_51 : decode prog_13_method_26_code 51 = .ok (.iload_n 2, 1) := by decide +kernel
theorem d_r_text_52 : decode prog_13_method_26_code 52 = .ok (.if_icmp .ne 7, 3) := by decide +kernel
theorem d_r_text_55 : decode prog_13_method_26_code 55 = .ok (.iconst 1, 1) := by decide +kernel
theorem d_r_text_56 : decode prog_13_method_26_code 56 = .ok (.goto 4, 3) := by decide +kernel
theorem d_r_text_59 : decode prog_13_method_26_code 59 = .ok (.iconst 0, 1) := by decide +kernel
theorem d_r_text_6 : decode prog_13_method_26_code 6 = .ok (.if_icmp .ne 6, 3) := by decide +kernel
theorem d_r_text_60 : decode prog_13_method_26_code 60 = .ok (.istore_n 1, 1) := by decide +kernel
theorem d_r_text_61 : decode prog_13_method_26_code 61 = .ok (.aload_n 0, 1) := by decide +kernel
theorem d_r_text_62 : decode prog_13_method_26_code 62 = .ok (.getfield 64, 3) := by decide +kernel
theorem d_r_text_65 : decode prog_13_method_26_code 65 = .ok (.iconst 4, 1) := by decide +kernel
theorem d_r_text_66 : decode prog_13_method_26_code 66 = .ok (.aload_n 0, 1) := by decide +kernel
theorem d_r_text_67 : decode prog_13_method_26_code 67 = .ok (.getfield 67, 3) := by decide +kernel
theorem d_r_text_70 : decode prog_13_method_26_code 70 = .ok (.imul, 1) := by decide +kernel
theorem d_r_text_71 : decode prog_13_method_26_code 71 = .ok (.iload_n 2, 1) := by decide +kernel
theorem d_r_text_72 : decode prog_13_method_26_code 72 = .ok (.iadd, 1) := by decide +kernel
theorem d_r_text_73 : decode prog_13_method_26_code 73 = .ok (.aload_n 0, 1) := by decide +kernel
theorem d_r_text_74 : decode prog_13_method_26_code 74 = .ok (.getfield 216, 3) := by decide +kernel
theorem d_r_text_77 : decode prog_13_method_26_code 77 = .ok (.iastore, 1) := by decide +kernel
theorem d_r_text_78 : decode prog_13_method_26_code 78 = .ok (.iload_n 1, 1) := by decide +kernel
theorem d_r_text_79 : decode prog_13_method_26_code 79 = .ok (.ifCond .eq 14, 3) := by decide +kernel
theorem d_r_text_82 : decode prog_13_method_26_code 82 = .ok (.aload_n 0, 1) := by decide +kernel
theorem d_r_text_83 : decode prog_13_method_26_code 83 = .ok (.invokevirtual 252, 3) := by decide +kernel
theorem d_r_text_86 : decode prog_13_method_26_code 86 = .ok (.ifCond .eq 7, 3) := by decide +kernel
theorem d_r_text_89 : decode prog_13_method_26_code 89 = .ok (.iconst 1, 1) := by decide +kernel
theorem d_r_text_9 : decode prog_13_method_26_code 9 = .ok (.bipush (-4), 2) := by decide +kernel
theorem d_r_text_90 : decode prog_13_method_26_code 90 = .ok (.goto 4, 3) := by decide +kernel
theorem d_r_text_93 : decode prog_13_method_26_code 93 = .ok (.iconst 0, 1) := by decide +kernel
theorem d_r_text_94 : decode prog_13_method_26_code 94 = .ok (.istore_n 1, 1) := by decide +kernel
theorem d_r_text_95 : decode prog_13_method_26_code 95 = .ok (.iinc 2 1, 3) := by decide +kernel
theorem d_r_text_98 : decode prog_13_method_26_code 98 = .ok (.goto (-72), 3) := by decide +kernel
theorem d_r_thick_0 : decode prog_13_method_90_code 0 = .ok (.aload_n 0, 1) := by decide +kernel
theorem d_r_thick_1 : decode prog_13_method_90_code 1 = .ok (.iload_n 1, 1) := by decide +kernel
theorem d_r_thick_10 : decode prog_13_method_90_code 10 = .ok (.aload_n 0, 1) := by decide +kernel
theorem d_r_thick_11 : decode prog_13_method_90_code 11 = .ok (.getfield 160, 3) := by decide +kernel
theorem d_r_thick_14 : decode prog_13_method_90_code 14 = .ok (.iconst 1, 1) := by decide +kernel
theorem d_r_thick_15 : decode prog_13_method_90_code 15 = .ok (.isub, 1) := by decide +kernel
theorem d_r_thick_16 : decode prog_13_method_90_code 16 = .ok (.invokestatic 153, 3) := by decide +kernel
theorem d_r_thick_19 : decode prog_13_method_90_code 19 = .ok (.ifCond .ne 6, 3) := by decide +kernel
theorem d_r_thick_2 : decode prog_13_method_90_code 2 = .ok (.invokevirtual 266, 3) := by decide +kernel
theorem d_r_thick_22 : decode prog_13_method_90_code 22 = .ok (.bipush (-5), 2) := by decide +kernel
theorem d_r_thick_24 : decode prog_13_method_90_code 24 = .ok (.ireturn, 1) := by decide +kernel
theorem d_r_thick_25 : decode prog_13_method_90_code 25 = .ok (.iconst 0, 1) := by decide +kernel
theorem d_r_thick_26 : decode prog_13_method_90_code 26 = .ok (.istore_n 3, 1) := by decide +kernel
theorem d_r_thick_27 : decode prog_13_method_90_code 27 = .ok (.iconst 0, 1) := by decide +kernel
theorem d_r_thick_28 : decode prog_13_method_90_code 28 = .ok (.istore 4, 2) := by decide +kernel
theorem d_r_thick_30 : decode prog_13_method_90_code 30 = .ok (.iload 4, 2) := by decide +kernel
theorem d_r_thick_32 : decode prog_13_method_90_code 32 = .ok (.sipush 256, 3) := by decide +kernel
theorem d_r_thick_35 : decode prog_13_method_90_code 35 = .ok (.if_icmp .ge 42, 3) := by decide +kernel
theorem d_r_thick_38 : decode prog_13_method_90_code 38 = .ok (.aload_n 0, 1) := by decide +kernel
theorem d_r_thick_39 : decode prog_13_method_90_code 39 = .ok (.iload_n 1, 1) := by decide +kernel
theorem d_r_thick_40 : decode prog_13_method_90_code 40 = .ok (.iload_n 2, 1) := by decide +kernel
theorem d_r_thick_41 : decode prog_13_method_90_code 41 = .ok (.aload_n 0, 1) := by decide +kernel
theorem d_r_thick_42 : decode prog_13_method_90_code 42 = .ok (.iload_n 1, 1) := by decide +kernel
theorem d_r_thick_43 : decode prog_13_method_90_code 43 = .ok (.iconst 0, 1) := by decide +kernel
theorem d_r_thick_44 : decode prog_13_method_90_code 44 = .ok (.iload 4, 2) := by decide +kernel
theorem d_r_thick_46 : decode prog_13_method_90_code 46 = .ok (.aload_n 0, 1) := by decide +kernel
theorem d_r_thick_47 : decode prog_13_method_90_code 47 = .ok (.getfield 177, 3) := by decide +kernel
theorem d_r_thick_5 : decode prog_13_method_90_code 5 = .ok (.ifCond .eq 17, 3) := by decide +kernel
theorem d_r_thick_50 : decode prog_13_method_90_code 50 = .ok (.invokevirtual 275, 3) := by decide +kernel
theorem d_r_thick_53 : decode prog_13_method_90_code 53 = .ok (.invokevirtual 355, 3) := by decide +kernel
theorem d_r_thick_56 : decode prog_13_method_90_code 56 = .ok (.istore 5, 2) := by decide +kernel
theorem d_r_thick_58 : decode prog_13_method_90_code 58 = .ok (.iload 5, 2) := by decide +kernel
theorem d_r_thick_60 : decode prog_13_method_90_code 60 = .ok (.iload_n 3, 1) := by decide +kernel
theorem d_r_thick_61 : decode prog_13_method_90_code 61 = .ok (.if_icmp .le 8, 3) := by decide +kernel
theorem d_r_thick_64 : decode prog_13_method_90_code 64 = .ok (.iload 5, 2) := by decide +kernel
theorem d_r_thick_66 : decode prog_13_method_90_code 66 = .ok (.goto 4, 3) := by decide +kernel
theorem d_r_thick_69 : decode prog_13_method_90_code 69 = .ok (.iload_n 3, 1) := by decide +kernel
theorem d_r_thick_70 : decode prog_13_method_90_code 70 = .ok (.istore_n 3, 1) := by decide +kernel
theorem d_r_thick_71 : decode prog_13_method_90_code 71 = .ok (.iinc 4 1, 3) := by decide +kernel
theorem d_r_thick_74 : decode prog_13_method_90_code 74 = .ok (.goto (-44), 3) := by decide +kernel
theorem d_r_thick_77 : decode prog_13_method_90_code 77 = .ok (.iload_n 3, 1) := by decide +kernel
theorem d_r_thick_78 : decode prog_13_method_90_code 78 = .ok (.ireturn, 1) := by decide +kernel
theorem d_r_thick_8 : decode prog_13_method_90_code 8 = .ok (.iload_n 2, 1) := by decide +kernel
theorem d_r_thick_9 : decode prog_13_method_90_code 9 = .ok (.iconst 0, 1) := by decide +kernel
theorem d_r_toneAt_0 : decode prog_13_method_83_code 0 = .ok (.aload_n 0, 1) := by decide +kernel
theorem d_r_toneAt_1 : decode prog_13_method_83_code 1 = .ok (.getfield 129, 3) := by decide +kernel
theorem d_r_toneAt_11 : decode prog_13_method_83_code 11 = .ok (.iconst 1, 1) := by decide +kernel
theorem d_r_toneAt_12 : decode prog_13_method_83_code 12 = .ok (.iconst 0, 1) := by decide +kernel
theorem d_r_toneAt_13 : decode prog_13_method_83_code 13 = .ok (.iastore, 1) := by decide +kernel
theorem d_r_toneAt_14 : decode prog_13_method_83_code 14 = .ok (.aload_n 0, 1) := by decide +kernel
theorem d_r_toneAt_15 : decode prog_13_method_83_code 15 = .ok (.getfield 129, 3) := by decide +kernel
theorem d_r_toneAt_18 : decode prog_13_method_83_code 18 = .ok (.iconst 2, 1) := by decide +kernel
theorem d_r_toneAt_19 : decode prog_13_method_83_code 19 = .ok (.aload_n 0, 1) := by decide +kernel
theorem d_r_toneAt_20 : decode prog_13_method_83_code 20 = .ok (.getfield 177, 3) := by decide +kernel
theorem d_r_toneAt_23 : decode prog_13_method_83_code 23 = .ok (.iastore, 1) := by decide +kernel
theorem d_r_toneAt_24 : decode prog_13_method_83_code 24 = .ok (.aload_n 0, 1) := by decide +kernel
theorem d_r_toneAt_25 : decode prog_13_method_83_code 25 = .ok (.getfield 129, 3) := by decide +kernel
theorem d_r_toneAt_28 : decode prog_13_method_83_code 28 = .ok (.iconst 3, 1) := by decide +kernel
theorem d_r_toneAt_29 : decode prog_13_method_83_code 29 = .ok (.iload_n 2, 1) := by decide +kernel
theorem d_r_toneAt_30 : decode prog_13_method_83_code 30 = .ok (.iastore, 1) := by decide +kernel
theorem d_r_toneAt_31 : decode prog_13_method_83_code 31 = .ok (.aload_n 0, 1) := by decide +kernel
theorem d_r_toneAt_32 : decode prog_13_method_83_code 32 = .ok (.getfield 129, 3) := by decide +kernel
theorem d_r_toneAt_35 : decode prog_13_method_83_code 35 = .ok (.iconst 4, 1) := by decide +kernel
theorem d_r_toneAt_36 : decode prog_13_method_83_code 36 = .ok (.iconst 0, 1) := by decide +kernel
theorem d_r_toneAt_37 : decode prog_13_method_83_code 37 = .ok (.iastore, 1) := by decide +kernel
theorem d_r_toneAt_38 : decode prog_13_method_83_code 38 = .ok (.aload_n 0, 1) := by decide +kernel
theorem d_r_toneAt_39 : decode prog_13_method_83_code 39 = .ok (.getfield 129, 3) := by decide +kernel
theorem d_r_toneAt_4 : decode prog_13_method_83_code 4 = .ok (.iconst 0, 1) := by decide +kernel
theorem d_r_toneAt_42 : decode prog_13_method_83_code 42 = .ok (.iconst 5, 1) := by decide +kernel
theorem d_r_toneAt_43 : decode prog_13_method_83_code 43 = .ok (.iload_n 1, 1) := by decide +kernel
theorem d_r_toneAt_44 : decode prog_13_method_83_code 44 = .ok (.iastore, 1) := by decide +kernel
theorem d_r_toneAt_45 : decode prog_13_method_83_code 45 = .ok (.aload_n 0, 1) := by decide +kernel
theorem d_r_toneAt_46 : decode prog_13_method_83_code 46 = .ok (.iconst 1, 1) := by decide +kernel
theorem d_r_toneAt_47 : decode prog_13_method_83_code 47 = .ok (.invokevirtual 260, 3) := by decide +kernel
theorem d_r_toneAt_5 : decode prog_13_method_83_code 5 = .ok (.iconst 0, 1) := by decide +kernel
theorem d_r_toneAt_50 : decode prog_13_method_83_code 50 = .ok (.ireturn, 1) := by decide +kernel
theorem d_r_toneAt_6 : decode prog_13_method_83_code 6 = .ok (.iastore, 1) := by decide +kernel
theorem d_r_toneAt_7 : decode prog_13_method_83_code 7 = .ok (.aload_n 0, 1) := by decide +kernel
theorem d_r_toneAt_8 : decode prog_13_method_83_code 8 = .ok (.getfield 129, 3) := by decide +kernel
theorem d_r_touch_0 : decode prog_13_method_71_code 0 = .ok (.aload_n 0, 1) := by decide +kernel
theorem d_r_touch_1 : decode prog_13_method_71_code 1 = .ok (.iconst 0, 1) := by decide +kernel
theorem d_r_touch_10 : decode prog_13_method_71_code 10 = .ok (.iload_n 3, 1) := by decide +kernel
theorem d_r_touch_11 : decode prog_13_method_71_code 11 = .ok (.aload_n 0, 1) := by decide +kernel
theorem d_r_touch_12 : decode prog_13_method_71_code 12 = .ok (.getfield 150, 3) := by decide +kernel
theorem d_r_touch_15 : decode prog_13_method_71_code 15 = .ok (.if_icmp .ge 32, 3) := by decide +kernel
theorem d_r_touch_18 : decode prog_13_method_71_code 18 = .ok (.iload_n 2, 1) := by decide +kernel
theorem d_r_touch_19 : decode prog_13_method_71_code 19 = .ok (.aload_n 0, 1) := by decide +kernel
theorem d_r_touch_2 : decode prog_13_method_71_code 2 = .ok (.invokevirtual 311, 3) := by decide +kernel
theorem d_r_touch_20 : decode prog_13_method_71_code 20 = .ok (.iload_n 3, 1) := by decide +kernel
theorem d_r_touch_21 : decode prog_13_method_71_code 21 = .ok (.aload_n 0, 1) := by decide +kernel
theorem d_r_touch_22 : decode prog_13_method_71_code 22 = .ok (.getfield 171, 3) := by decide +kernel
theorem d_r_touch_25 : decode prog_13_method_71_code 25 = .ok (.iload_n 1, 1) := by decide +kernel
theorem d_r_touch_26 : decode prog_13_method_71_code 26 = .ok (.invokevirtual 332, 3) := by decide +kernel
theorem d_r_touch_29 : decode prog_13_method_71_code 29 = .ok (.ifCond .ne 9, 3) := by decide +kernel
theorem d_r_touch_32 : decode prog_13_method_71_code 32 = .ok (.iconst 1, 1) := by decide +kernel
theorem d_r_touch_33 : decode prog_13_method_71_code 33 = .ok (.iload_n 3, 1) := by decide +kernel
theorem d_r_touch_34 : decode prog_13_method_71_code 34 = .ok (.ishl, 1) := by decide +kernel
theorem d_r_touch_35 : decode prog_13_method_71_code 35 = .ok (.goto 4, 3) := by decide +kernel
theorem d_r_touch_38 : decode prog_13_method_71_code 38 = .ok (.iconst 0, 1) := by decide +kernel
theorem d_r_touch_39 : decode prog_13_method_71_code 39 = .ok (.ior, 1) := by decide +kernel
theorem d_r_touch_40 : decode prog_13_method_71_code 40 = .ok (.istore_n 2, 1) := by decide +kernel
theorem d_r_touch_41 : decode prog_13_method_71_code 41 = .ok (.iinc 3 1, 3) := by decide +kernel
theorem d_r_touch_44 : decode prog_13_method_71_code 44 = .ok (.goto (-34), 3) := by decide +kernel
theorem d_r_touch_47 : decode prog_13_method_71_code 47 = .ok (.iload_n 2, 1) := by decide +kernel
theorem d_r_touch_48 : decode prog_13_method_71_code 48 = .ok (.ireturn, 1) := by decide +kernel
theorem d_r_touch_5 : decode prog_13_method_71_code 5 = .ok (.istore_n 1, 1) := by decide +kernel
theorem d_r_touch_6 : decode prog_13_method_71_code 6 = .ok (.iconst 0, 1) := by decide +kernel
theorem d_r_touch_7 : decode prog_13_method_71_code 7 = .ok (.istore_n 2, 1) := by decide +kernel
theorem d_r_touch_8 : decode prog_13_method_71_code 8 = .ok (.iconst 0, 1) := by decide +kernel
theorem d_r_touch_9 : decode prog_13_method_71_code 9 = .ok (.istore_n 3, 1) := by decide +kernel
theorem d_r_two_0 : decode prog_13_method_27_code 0 = .ok (.iload_n 0, 1) := by decide +kernel
theorem d_r_two_1 : decode prog_13_method_27_code 1 = .ok (.tableswitch 101 11 17 #[43, 57, 101, 71, 82, 93, 97], 43) := by decide +kernel
theorem d_r_two_100 : decode prog_13_method_27_code 100 = .ok (.isub, 1) := by decide +kernel
theorem d_r_two_101 : decode prog_13_method_27_code 101 = .ok (.ireturn, 1) := by decide +kernel
theorem d_r_two_102 : decode prog_13_method_27_code 102 = .ok (.iload_n 1, 1) := by decide +kernel
theorem d_r_two_103 : decode prog_13_method_27_code 103 = .ok (.iload_n 2, 1) := by decide +kernel
theorem d_r_two_104 : decode prog_13_method_27_code 104 = .ok (.imul, 1) := by decide +kernel
theorem d_r_two_105 : decode prog_13_method_27_code 105 = .ok (.ireturn, 1) := by decide +kernel
theorem d_r_two_44 : decode prog_13_method_27_code 44 = .ok (.iload_n 1, 1) := by decide +kernel
theorem d_r_two_45 : decode prog_13_method_27_code 45 = .ok (.ifCond .ne 7, 3) := by decide +kernel
theorem d_r_two_48 : decode prog_13_method_27_code 48 = .ok (.iload_n 2, 1) := by decide +kernel
theorem d_r_two_49 : decode prog_13_method_27_code 49 = .ok (.ifCond .eq 7, 3) := by decide +kernel
theorem d_r_two_52 : decode prog_13_method_27_code 52 = .ok (.iconst 1, 1) := by decide +kernel
theorem d_r_two_53 : decode prog_13_method_27_code 53 = .ok (.goto 4, 3) := by decide +kernel
theorem d_r_two_56 : decode prog_13_method_27_code 56 = .ok (.iconst 0, 1) := by decide +kernel
theorem d_r_two_57 : decode prog_13_method_27_code 57 = .ok (.ireturn, 1) := by decide +kernel
theorem d_r_two_58 : decode prog_13_method_27_code 58 = .ok (.iload_n 1, 1) := by decide +kernel
theorem d_r_two_59 : decode prog_13_method_27_code 59 = .ok (.ifCond .eq 11, 3) := by decide +kernel
theorem d_r_two_62 : decode prog_13_method_27_code 62 = .ok (.iload_n 2, 1) := by decide +kernel
theorem d_r_two_63 : decode prog_13_method_27_code 63 = .ok (.ifCond .eq 7, 3) := by decide +kernel
theorem d_r_two_66 : decode prog_13_method_27_code 66 = .ok (.iconst 1, 1) := by decide +kernel
theorem d_r_two_67 : decode prog_13_method_27_code 67 = .ok (.goto 4, 3) := by decide +kernel
theorem d_r_two_70 : decode prog_13_method_27_code 70 = .ok (.iconst 0, 1) := by decide +kernel
theorem d_r_two_71 : decode prog_13_method_27_code 71 = .ok (.ireturn, 1) := by decide +kernel
theorem d_r_two_72 : decode prog_13_method_27_code 72 = .ok (.iload_n 1, 1) := by decide +kernel
theorem d_r_two_73 : decode prog_13_method_27_code 73 = .ok (.iload_n 2, 1) := by decide +kernel
theorem d_r_two_74 : decode prog_13_method_27_code 74 = .ok (.if_icmp .ge 7, 3) := by decide +kernel
theorem d_r_two_77 : decode prog_13_method_27_code 77 = .ok (.iconst 1, 1) := by decide +kernel
theorem d_r_two_78 : decode prog_13_method_27_code 78 = .ok (.goto 4, 3) := by decide +kernel
theorem d_r_two_81 : decode prog_13_method_27_code 81 = .ok (.iconst 0, 1) := by decide +kernel
theorem d_r_two_82 : decode prog_13_method_27_code 82 = .ok (.ireturn, 1) := by decide +kernel
theorem d_r_two_83 : decode prog_13_method_27_code 83 = .ok (.iload_n 1, 1) := by decide +kernel
theorem d_r_two_84 : decode prog_13_method_27_code 84 = .ok (.iload_n 2, 1) := by decide +kernel
theorem d_r_two_85 : decode prog_13_method_27_code 85 = .ok (.if_icmp .ne 7, 3) := by decide +kernel
theorem d_r_two_88 : decode prog_13_method_27_code 88 = .ok (.iconst 1, 1) := by decide +kernel
theorem d_r_two_89 : decode prog_13_method_27_code 89 = .ok (.goto 4, 3) := by decide +kernel
theorem d_r_two_92 : decode prog_13_method_27_code 92 = .ok (.iconst 0, 1) := by decide +kernel
theorem d_r_two_93 : decode prog_13_method_27_code 93 = .ok (.ireturn, 1) := by decide +kernel
theorem d_r_two_94 : decode prog_13_method_27_code 94 = .ok (.iload_n 1, 1) := by decide +kernel
theorem d_r_two_95 : decode prog_13_method_27_code 95 = .ok (.iload_n 2, 1) := by decide +kernel
theorem d_r_two_96 : decode prog_13_method_27_code 96 = .ok (.iadd, 1) := by decide +kernel
theorem d_r_two_97 : decode prog_13_method_27_code 97 = .ok (.ireturn, 1) := by decide +kernel
theorem d_r_two_98 : decode prog_13_method_27_code 98 = .ok (.iload_n 1, 1) := by decide +kernel
theorem d_r_two_99 : decode prog_13_method_27_code 99 = .ok (.iload_n 2, 1) := by decide +kernel
theorem d_r_unwinds_0 : decode prog_13_method_20_code 0 = .ok (.aload_n 0, 1) := by decide +kernel
theorem d_r_unwinds_1 : decode prog_13_method_20_code 1 = .ok (.getfield 219, 3) := by decide +kernel
theorem d_r_unwinds_11 : decode prog_13_method_20_code 11 = .ok (.aload_n 0, 1) := by decide +kernel
theorem d_r_unwinds_12 : decode prog_13_method_20_code 12 = .ok (.getfield 219, 3) := by decide +kernel
theorem d_r_unwinds_15 : decode prog_13_method_20_code 15 = .ok (.iconst 1, 1) := by decide +kernel
theorem d_r_unwinds_16 : decode prog_13_method_20_code 16 = .ok (.isub, 1) := by decide +kernel
theorem d_r_unwinds_17 : decode prog_13_method_20_code 17 = .ok (.iaload, 1) := by decide +kernel
theorem d_r_unwinds_18 : decode prog_13_method_20_code 18 = .ok (.invokestatic 222, 3) := by decide +kernel
theorem d_r_unwinds_21 : decode prog_13_method_20_code 21 = .ok (.iload_n 1, 1) := by decide +kernel
theorem d_r_unwinds_22 : decode prog_13_method_20_code 22 = .ok (.if_icmp .lt 57, 3) := by decide +kernel
theorem d_r_unwinds_25 : decode prog_13_method_20_code 25 = .ok (.aload_n 0, 1) := by decide +kernel
theorem d_r_unwinds_26 : decode prog_13_method_20_code 26 = .ok (.dup, 1) := by decide +kernel
theorem d_r_unwinds_27 : decode prog_13_method_20_code 27 = .ok (.getfield 219, 3) := by decide +kernel
theorem d_r_unwinds_30 : decode prog_13_method_20_code 30 = .ok (.iconst 1, 1) := by decide +kernel
theorem d_r_unwinds_31 : decode prog_13_method_20_code 31 = .ok (.isub, 1) := by decide +kernel
theorem d_r_unwinds_32 : decode prog_13_method_20_code 32 = .ok (.putfield 219, 3) := by decide +kernel
theorem d_r_unwinds_35 : decode prog_13_method_20_code 35 = .ok (.aload_n 0, 1) := by decide +kernel
theorem d_r_unwinds_36 : decode prog_13_method_20_code 36 = .ok (.getfield 123, 3) := by decide +kernel
theorem d_r_unwinds_39 : decode prog_13_method_20_code 39 = .ok (.aload_n 0, 1) := by decide +kernel
theorem d_r_unwinds_4 : decode prog_13_method_20_code 4 = .ok (.ifCond .le 75, 3) := by decide +kernel
theorem d_r_unwinds_40 : decode prog_13_method_20_code 40 = .ok (.getfield 219, 3) := by decide +kernel
theorem d_r_unwinds_43 : decode prog_13_method_20_code 43 = .ok (.iaload, 1) := by decide +kernel
theorem d_r_unwinds_44 : decode prog_13_method_20_code 44 = .ok (.istore_n 2, 1) := by decide +kernel
theorem d_r_unwinds_45 : decode prog_13_method_20_code 45 = .ok (.aload_n 0, 1) := by decide +kernel
theorem d_r_unwinds_46 : decode prog_13_method_20_code 46 = .ok (.dup, 1) := by decide +kernel
theorem d_r_unwinds_47 : decode prog_13_method_20_code 47 = .ok (.getfield 225, 3) := by decide +kernel
theorem d_r_unwinds_50 : decode prog_13_method_20_code 50 = .ok (.iload_n 2, 1) := by decide +kernel
theorem d_r_unwinds_51 : decode prog_13_method_20_code 51 = .ok (.bipush 13, 2) := by decide +kernel
theorem d_r_unwinds_53 : decode prog_13_method_20_code 53 = .ok (.if_icmp .eq 9, 3) := by decide +kernel
theorem d_r_unwinds_56 : decode prog_13_method_20_code 56 = .ok (.iload_n 2, 1) := by decide +kernel
theorem d_r_unwinds_57 : decode prog_13_method_20_code 57 = .ok (.bipush 19, 2) := by decide +kernel
theorem d_r_unwinds_59 : decode prog_13_method_20_code 59 = .ok (.if_icmp .ne 7, 3) := by decide +kernel
theorem d_r_unwinds_62 : decode prog_13_method_20_code 62 = .ok (.iconst 1, 1) := by decide +kernel
theorem d_r_unwinds_63 : decode prog_13_method_20_code 63 = .ok (.goto 4, 3) := by decide +kernel
theorem d_r_unwinds_66 : decode prog_13_method_20_code 66 = .ok (.iconst 0, 1) := by decide +kernel
theorem d_r_unwinds_67 : decode prog_13_method_20_code 67 = .ok (.isub, 1) := by decide +kernel
theorem d_r_unwinds_68 : decode prog_13_method_20_code 68 = .ok (.putfield 225, 3) := by decide +kernel
theorem d_r_unwinds_7 : decode prog_13_method_20_code 7 = .ok (.aload_n 0, 1) := by decide +kernel
theorem d_r_unwinds_71 : decode prog_13_method_20_code 71 = .ok (.aload_n 0, 1) := by decide +kernel
theorem d_r_unwinds_72 : decode prog_13_method_20_code 72 = .ok (.iload_n 2, 1) := by decide +kernel
theorem d_r_unwinds_73 : decode prog_13_method_20_code 73 = .ok (.invokevirtual 228, 3) := by decide +kernel
theorem d_r_unwinds_76 : decode prog_13_method_20_code 76 = .ok (.goto (-76), 3) := by decide +kernel
theorem d_r_unwinds_79 : decode prog_13_method_20_code 79 = .ok (.return_, 1) := by decide +kernel
theorem d_r_unwinds_8 : decode prog_13_method_20_code 8 = .ok (.getfield 123, 3) := by decide +kernel
theorem d_r_wall_0 : decode prog_13_method_85_code 0 = .ok (.iload_n 1, 1) := by decide +kernel
theorem d_r_wall_1 : decode prog_13_method_85_code 1 = .ok (.iconst 0, 1) := by decide +kernel
theorem d_r_wall_10 : decode prog_13_method_85_code 10 = .ok (.iconst 0, 1) := by decide +kernel
theorem d_r_wall_100 : decode prog_13_method_85_code 100 = .ok (.goto (-40), 3) := by decide +kernel
theorem d_r_wall_103 : decode prog_13_method_85_code 103 = .ok (.iload 4, 2) := by decide +kernel
theorem d_r_wall_105 : decode prog_13_method_85_code 105 = .ok (.ifCond .ne 6, 3) := by decide +kernel
theorem d_r_wall_108 : decode prog_13_method_85_code 108 = .ok (.bipush (-2), 2) := by decide +kernel
theorem d_r_wall_11 : decode prog_13_method_85_code 11 = .ok (.iconst 5, 1) := by decide +kernel
theorem d_r_wall_110 : decode prog_13_method_85_code 110 = .ok (.ireturn, 1) := by decide +kernel
theorem d_r_wall_111 : decode prog_13_method_85_code 111 = .ok (.iconst (-1), 1) := by decide +kernel
theorem d_r_wall_112 : decode prog_13_method_85_code 112 = .ok (.istore 5, 2) := by decide +kernel
theorem d_r_wall_114 : decode prog_13_method_85_code 114 = .ok (.iconst 0, 1) := by decide +kernel
theorem d_r_wall_115 : decode prog_13_method_85_code 115 = .ok (.istore 6, 2) := by decide +kernel
theorem d_r_wall_117 : decode prog_13_method_85_code 117 = .ok (.iconst 0, 1) := by decide +kernel
theorem d_r_wall_118 : decode prog_13_method_85_code 118 = .ok (.istore 7, 2) := by decide +kernel
theorem d_r_wall_12 : decode prog_13_method_85_code 12 = .ok (.invokestatic 153, 3) := by decide +kernel
theorem d_r_wall_120 : decode prog_13_method_85_code 120 = .ok (.iload 7, 2) := by decide +kernel
theorem d_r_wall_122 : decode prog_13_method_85_code 122 = .ok (.aload_n 0, 1) := by decide +kernel
theorem d_r_wall_123 : decode prog_13_method_85_code 123 = .ok (.getfield 89, 3) := by decide +kernel
theorem d_r_wall_126 : decode prog_13_method_85_code 126 = .ok (.iload_n 1, 1) := by decide +kernel
theorem d_r_wall_127 : decode prog_13_method_85_code 127 = .ok (.iaload, 1) := by decide +kernel
theorem d_r_wall_128 : decode prog_13_method_85_code 128 = .ok (.if_icmp .ge 87, 3) := by decide +kernel
theorem d_r_wall_131 : decode prog_13_method_85_code 131 = .ok (.iconst 0, 1) := by decide +kernel
theorem d_r_wall_132 : decode prog_13_method_85_code 132 = .ok (.istore 8, 2) := by decide +kernel
theorem d_r_wall_134 : decode prog_13_method_85_code 134 = .ok (.iconst 0, 1) := by decide +kernel
theorem d_r_wall_135 : decode prog_13_method_85_code 135 = .ok (.istore 9, 2) := by decide +kernel
theorem d_r_wall_137 : decode prog_13_method_85_code 137 = .ok (.iload 9, 2) := by decide +kernel
theorem d_r_wall_139 : decode prog_13_method_85_code 139 = .ok (.aload_n 0, 1) := by decide +kernel
theorem d_r_wall_140 : decode prog_13_method_85_code 140 = .ok (.getfield 89, 3) := by decide +kernel
theorem d_r_wall_143 : decode prog_13_method_85_code 143 = .ok (.iload_n 1, 1) := by decide +kernel
theorem d_r_wall_144 : decode prog_13_method_85_code 144 = .ok (.iaload, 1) := by decide +kernel
theorem d_r_wall_145 : decode prog_13_method_85_code 145 = .ok (.if_icmp .ge 43, 3) := by decide +kernel
theorem d_r_wall_148 : decode prog_13_method_85_code 148 = .ok (.iload 8, 2) := by decide +kernel
theorem d_r_wall_15 : decode prog_13_method_85_code 15 = .ok (.ifCond .eq 12, 3) := by decide +kernel
theorem d_r_wall_150 : decode prog_13_method_85_code 150 = .ok (.aload_n 0, 1) := by decide +kernel
theorem d_r_wall_151 : decode prog_13_method_85_code 151 = .ok (.getfield 92, 3) := by decide +kernel
theorem d_r_wall_154 : decode prog_13_method_85_code 154 = .ok (.bipush 40, 2) := by decide +kernel
theorem d_r_wall_156 : decode prog_13_method_85_code 156 = .ok (.iload_n 1, 1) := by decide +kernel
theorem d_r_wall_157 : decode prog_13_method_85_code 157 = .ok (.imul, 1) := by decide +kernel
theorem d_r_wall_158 : decode prog_13_method_85_code 158 = .ok (.iload 9, 2) := by decide +kernel
theorem d_r_wall_160 : decode prog_13_method_85_code 160 = .ok (.iadd, 1) := by decide +kernel
theorem d_r_wall_161 : decode prog_13_method_85_code 161 = .ok (.iaload, 1) := by decide +kernel
theorem d_r_wall_162 : decode prog_13_method_85_code 162 = .ok (.aload_n 0, 1) := by decide +kernel
theorem d_r_wall_163 : decode prog_13_method_85_code 163 = .ok (.iload 9, 2) := by decide +kernel
theorem d_r_wall_165 : decode prog_13_method_85_code 165 = .ok (.iload 7, 2) := by decide +kernel
theorem d_r_wall_167 : decode prog_13_method_85_code 167 = .ok (.isub, 1) := by decide +kernel
theorem d_r_wall_168 : decode prog_13_method_85_code 168 = .ok (.invokestatic 349, 3) := by decide +kernel
theorem d_r_wall_171 : decode prog_13_method_85_code 171 = .ok (.iload_n 2, 1) := by decide +kernel
theorem d_r_wall_172 : decode prog_13_method_85_code 172 = .ok (.invokevirtual 352, 3) := by decide +kernel
theorem d_r_wall_175 : decode prog_13_method_85_code 175 = .ok (.isub, 1) := by decide +kernel
theorem d_r_wall_176 : decode prog_13_method_85_code 176 = .ok (.invokestatic 349, 3) := by decide +kernel
theorem d_r_wall_179 : decode prog_13_method_85_code 179 = .ok (.iadd, 1) := by decide +kernel
theorem d_r_wall_18 : decode prog_13_method_85_code 18 = .ok (.iload_n 3, 1) := by decide +kernel
theorem d_r_wall_180 : decode prog_13_method_85_code 180 = .ok (.istore 8, 2) := by decide +kernel
theorem d_r_wall_182 : decode prog_13_method_85_code 182 = .ok (.iinc 9 1, 3) := by decide +kernel
theorem d_r_wall_185 : decode prog_13_method_85_code 185 = .ok (.goto (-48), 3) := by decide +kernel
theorem d_r_wall_188 : decode prog_13_method_85_code 188 = .ok (.iload 5, 2) := by decide +kernel
theorem d_r_wall_19 : decode prog_13_method_85_code 19 = .ok (.iconst 0, 1) := by decide +kernel
theorem d_r_wall_190 : decode prog_13_method_85_code 190 = .ok (.iconst (-1), 1) := by decide +kernel
theorem d_r_wall_191 : decode prog_13_method_85_code 191 = .ok (.if_icmp .eq 10, 3) := by decide +kernel
theorem d_r_wall_194 : decode prog_13_method_85_code 194 = .ok (.iload 8, 2) := by decide +kernel
theorem d_r_wall_196 : decode prog_13_method_85_code 196 = .ok (.iload 6, 2) := by decide +kernel
theorem d_r_wall_198 : decode prog_13_method_85_code 198 = .ok (.if_icmp .ge 11, 3) := by decide +kernel
theorem d_r_wall_2 : decode prog_13_method_85_code 2 = .ok (.iconst 3, 1) := by decide +kernel
theorem d_r_wall_20 : decode prog_13_method_85_code 20 = .ok (.iconst 1, 1) := by decide +kernel
theorem d_r_wall_201 : decode prog_13_method_85_code 201 = .ok (.iload 7, 2) := by decide +kernel
theorem d_r_wall_203 : decode prog_13_method_85_code 203 = .ok (.istore 5, 2) := by decide +kernel
theorem d_r_wall_205 : decode prog_13_method_85_code 205 = .ok (.iload 8, 2) := by decide +kernel
theorem d_r_wall_207 : decode prog_13_method_85_code 207 = .ok (.istore 6, 2) := by decide +kernel
theorem d_r_wall_209 : decode prog_13_method_85_code 209 = .ok (.iinc 7 1, 3) := by decide +kernel
theorem d_r_wall_21 : decode prog_13_method_85_code 21 = .ok (.invokestatic 153, 3) := by decide +kernel
theorem d_r_wall_212 : decode prog_13_method_85_code 212 = .ok (.goto (-92), 3) := by decide +kernel
theorem d_r_wall_215 : decode prog_13_method_85_code 215 = .ok (.iload_n 3, 1) := by decide +kernel
theorem d_r_wall_216 : decode prog_13_method_85_code 216 = .ok (.ifCond .ne 8, 3) := by decide +kernel
theorem d_r_wall_219 : decode prog_13_method_85_code 219 = .ok (.iload 5, 2) := by decide +kernel
theorem d_r_wall_221 : decode prog_13_method_85_code 221 = .ok (.goto 5, 3) := by decide +kernel
theorem d_r_wall_224 : decode prog_13_method_85_code 224 = .ok (.iload 6, 2) := by decide +kernel
theorem d_r_wall_226 : decode prog_13_method_85_code 226 = .ok (.ireturn, 1) := by decide +kernel
theorem d_r_wall_24 : decode prog_13_method_85_code 24 = .ok (.ifCond .ne 6, 3) := by decide +kernel
theorem d_r_wall_27 : decode prog_13_method_85_code 27 = .ok (.bipush (-2), 2) := by decide +kernel
theorem d_r_wall_29 : decode prog_13_method_85_code 29 = .ok (.ireturn, 1) := by decide +kernel
theorem d_r_wall_3 : decode prog_13_method_85_code 3 = .ok (.invokestatic 153, 3) := by decide +kernel
theorem d_r_wall_30 : decode prog_13_method_85_code 30 = .ok (.aload_n 0, 1) := by decide +kernel
theorem d_r_wall_31 : decode prog_13_method_85_code 31 = .ok (.getfield 86, 3) := by decide +kernel
theorem d_r_wall_34 : decode prog_13_method_85_code 34 = .ok (.iload_n 1, 1) := by decide +kernel
theorem d_r_wall_35 : decode prog_13_method_85_code 35 = .ok (.iaload, 1) := by decide +kernel
theorem d_r_wall_36 : decode prog_13_method_85_code 36 = .ok (.iconst (-1), 1) := by decide +kernel
theorem d_r_wall_37 : decode prog_13_method_85_code 37 = .ok (.if_icmp .ne 6, 3) := by decide +kernel
theorem d_r_wall_40 : decode prog_13_method_85_code 40 = .ok (.bipush (-11), 2) := by decide +kernel
theorem d_r_wall_42 : decode prog_13_method_85_code 42 = .ok (.ireturn, 1) := by decide +kernel
theorem d_r_wall_43 : decode prog_13_method_85_code 43 = .ok (.aload_n 0, 1) := by decide +kernel
theorem d_r_wall_44 : decode prog_13_method_85_code 44 = .ok (.getfield 89, 3) := by decide +kernel
theorem d_r_wall_47 : decode prog_13_method_85_code 47 = .ok (.iload_n 1, 1) := by decide +kernel
theorem d_r_wall_48 : decode prog_13_method_85_code 48 = .ok (.iaload, 1) := by decide +kernel
theorem d_r_wall_49 : decode prog_13_method_85_code 49 = .ok (.iconst 1, 1) := by decide +kernel
theorem d_r_wall_50 : decode prog_13_method_85_code 50 = .ok (.bipush 30, 2) := by decide +kernel
theorem d_r_wall_52 : decode prog_13_method_85_code 52 = .ok (.invokestatic 153, 3) := by decide +kernel
theorem d_r_wall_55 : decode prog_13_method_85_code 55 = .ok (.istore 4, 2) := by decide +kernel
theorem d_r_wall_57 : decode prog_13_method_85_code 57 = .ok (.iconst 0, 1) := by decide +kernel
theorem d_r_wall_58 : decode prog_13_method_85_code 58 = .ok (.istore 5, 2) := by decide +kernel
theorem d_r_wall_6 : decode prog_13_method_85_code 6 = .ok (.ifCond .eq 21, 3) := by decide +kernel
theorem d_r_wall_60 : decode prog_13_method_85_code 60 = .ok (.iload 5, 2) := by decide +kernel
theorem d_r_wall_62 : decode prog_13_method_85_code 62 = .ok (.aload_n 0, 1) := by decide +kernel
theorem d_r_wall_63 : decode prog_13_method_85_code 63 = .ok (.getfield 89, 3) := by decide +kernel
theorem d_r_wall_66 : decode prog_13_method_85_code 66 = .ok (.iload_n 1, 1) := by decide +kernel
theorem d_r_wall_67 : decode prog_13_method_85_code 67 = .ok (.iaload, 1) := by decide +kernel
theorem d_r_wall_68 : decode prog_13_method_85_code 68 = .ok (.if_icmp .ge 35, 3) := by decide +kernel
theorem d_r_wall_71 : decode prog_13_method_85_code 71 = .ok (.iload 4, 2) := by decide +kernel
theorem d_r_wall_73 : decode prog_13_method_85_code 73 = .ok (.ifCond .eq 30, 3) := by decide +kernel
theorem d_r_wall_76 : decode prog_13_method_85_code 76 = .ok (.aload_n 0, 1) := by decide +kernel
theorem d_r_wall_77 : decode prog_13_method_85_code 77 = .ok (.getfield 92, 3) := by decide +kernel
theorem d_r_wall_80 : decode prog_13_method_85_code 80 = .ok (.bipush 40, 2) := by decide +kernel
theorem d_r_wall_82 : decode prog_13_method_85_code 82 = .ok (.iload_n 1, 1) := by decide +kernel
theorem d_r_wall_83 : decode prog_13_method_85_code 83 = .ok (.imul, 1) := by decide +kernel
theorem d_r_wall_84 : decode prog_13_method_85_code 84 = .ok (.iload 5, 2) := by decide +kernel
theorem d_r_wall_86 : decode prog_13_method_85_code 86 = .ok (.iadd, 1) := by decide +kernel
theorem d_r_wall_87 : decode prog_13_method_85_code 87 = .ok (.iaload, 1) := by decide +kernel
theorem d_r_wall_88 : decode prog_13_method_85_code 88 = .ok (.iconst 0, 1) := by decide +kernel
theorem d_r_wall_89 : decode prog_13_method_85_code 89 = .ok (.sipush 999, 3) := by decide +kernel
theorem d_r_wall_9 : decode prog_13_method_85_code 9 = .ok (.iload_n 2, 1) := by decide +kernel
theorem d_r_wall_92 : decode prog_13_method_85_code 92 = .ok (.invokestatic 153, 3) := by decide +kernel
theorem d_r_wall_95 : decode prog_13_method_85_code 95 = .ok (.istore 4, 2) := by decide +kernel
theorem d_r_wall_97 : decode prog_13_method_85_code 97 = .ok (.iinc 5 1, 3) := by decide +kernel
theorem d_r_which_0 : decode prog_13_method_75_code 0 = .ok (.iload_n 1, 1) := by decide +kernel
theorem d_r_which_1 : decode prog_13_method_75_code 1 = .ok (.iconst 0, 1) := by decide +kernel
theorem d_r_which_10 : decode prog_13_method_75_code 10 = .ok (.iconst 0, 1) := by decide +kernel
theorem d_r_which_11 : decode prog_13_method_75_code 11 = .ok (.sipush 9999, 3) := by decide +kernel
theorem d_r_which_14 : decode prog_13_method_75_code 14 = .ok (.invokestatic 153, 3) := by decide +kernel
theorem d_r_which_17 : decode prog_13_method_75_code 17 = .ok (.ifCond .ne 6, 3) := by decide +kernel
theorem d_r_which_2 : decode prog_13_method_75_code 2 = .ok (.iconst 5, 1) := by decide +kernel
theorem d_r_which_20 : decode prog_13_method_75_code 20 = .ok (.bipush (-2), 2) := by decide +kernel
theorem d_r_which_22 : decode prog_13_method_75_code 22 = .ok (.ireturn, 1) := by decide +kernel
theorem d_r_which_23 : decode prog_13_method_75_code 23 = .ok (.aload_n 0, 1) := by decide +kernel
theorem d_r_which_24 : decode prog_13_method_75_code 24 = .ok (.iconst 1, 1) := by decide +kernel
theorem d_r_which_25 : decode prog_13_method_75_code 25 = .ok (.iload_n 1, 1) := by decide +kernel
theorem d_r_which_26 : decode prog_13_method_75_code 26 = .ok (.ishl, 1) := by decide +kernel
theorem d_r_which_27 : decode prog_13_method_75_code 27 = .ok (.invokevirtual 295, 3) := by decide +kernel
theorem d_r_which_3 : decode prog_13_method_75_code 3 = .ok (.invokestatic 153, 3) := by decide +kernel
theorem d_r_which_30 : decode prog_13_method_75_code 30 = .ok (.istore_n 3, 1) := by decide +kernel
theorem d_r_which_31 : decode prog_13_method_75_code 31 = .ok (.iconst (-1), 1) := by decide +kernel
theorem d_r_which_32 : decode prog_13_method_75_code 32 = .ok (.istore 4, 2) := by decide +kernel
theorem d_r_which_34 : decode prog_13_method_75_code 34 = .ok (.iconst 0, 1) := by decide +kernel
theorem d_r_which_35 : decode prog_13_method_75_code 35 = .ok (.istore 5, 2) := by decide +kernel
theorem d_r_which_37 : decode prog_13_method_75_code 37 = .ok (.iload 5, 2) := by decide +kernel
theorem d_r_which_39 : decode prog_13_method_75_code 39 = .ok (.iconst 1, 1) := by decide +kernel
theorem d_r_which_40 : decode prog_13_method_75_code 40 = .ok (.aload_n 0, 1) := by decide +kernel
theorem d_r_which_41 : decode prog_13_method_75_code 41 = .ok (.getfield 150, 3) := by decide +kernel
theorem d_r_which_44 : decode prog_13_method_75_code 44 = .ok (.ishl, 1) := by decide +kernel
theorem d_r_which_45 : decode prog_13_method_75_code 45 = .ok (.if_icmp .ge 41, 3) := by decide +kernel
theorem d_r_which_48 : decode prog_13_method_75_code 48 = .ok (.iload 5, 2) := by decide +kernel
theorem d_r_which_50 : decode prog_13_method_75_code 50 = .ok (.iload_n 3, 1) := by decide +kernel
theorem d_r_which_51 : decode prog_13_method_75_code 51 = .ok (.iconst (-1), 1) := by decide +kernel
theorem d_r_which_52 : decode prog_13_method_75_code 52 = .ok (.ixor, 1) := by decide +kernel
theorem d_r_which_53 : decode prog_13_method_75_code 53 = .ok (.iand, 1) := by decide +kernel
theorem d_r_which_54 : decode prog_13_method_75_code 54 = .ok (.ifCond .ne 26, 3) := by decide +kernel
theorem d_r_which_57 : decode prog_13_method_75_code 57 = .ok (.aload_n 0, 1) := by decide +kernel
theorem d_r_which_58 : decode prog_13_method_75_code 58 = .ok (.iload 5, 2) := by decide +kernel
theorem d_r_which_6 : decode prog_13_method_75_code 6 = .ok (.ifCond .eq 14, 3) := by decide +kernel
theorem d_r_which_60 : decode prog_13_method_75_code 60 = .ok (.invokevirtual 335, 3) := by decide +kernel
theorem d_r_which_63 : decode prog_13_method_75_code 63 = .ok (.iload_n 2, 1) := by decide +kernel
theorem d_r_which_64 : decode prog_13_method_75_code 64 = .ok (.if_icmp .ne 16, 3) := by decide +kernel
theorem d_r_which_67 : decode prog_13_method_75_code 67 = .ok (.iload 4, 2) := by decide +kernel
theorem d_r_which_69 : decode prog_13_method_75_code 69 = .ok (.iconst (-1), 1) := by decide +kernel
theorem d_r_which_70 : decode prog_13_method_75_code 70 = .ok (.if_icmp .eq 6, 3) := by decide +kernel
theorem d_r_which_73 : decode prog_13_method_75_code 73 = .ok (.bipush (-3), 2) := by decide +kernel
theorem d_r_which_75 : decode prog_13_method_75_code 75 = .ok (.ireturn, 1) := by decide +kernel
theorem d_r_which_76 : decode prog_13_method_75_code 76 = .ok (.iload 5, 2) := by decide +kernel
theorem d_r_which_78 : decode prog_13_method_75_code 78 = .ok (.istore 4, 2) := by decide +kernel
theorem d_r_which_80 : decode prog_13_method_75_code 80 = .ok (.iinc 5 1, 3) := by decide +kernel
theorem d_r_which_83 : decode prog_13_method_75_code 83 = .ok (.goto (-46), 3) := by decide +kernel
theorem d_r_which_86 : decode prog_13_method_75_code 86 = .ok (.iload 4, 2) := by decide +kernel
theorem d_r_which_88 : decode prog_13_method_75_code 88 = .ok (.ireturn, 1) := by decide +kernel
theorem d_r_which_9 : decode prog_13_method_75_code 9 = .ok (.iload_n 2, 1) := by decide +kernel
theorem d_r_witness_0 : decode prog_13_method_93_code 0 = .ok (.iload_n 1, 1) := by decide +kernel
theorem d_r_witness_1 : decode prog_13_method_93_code 1 = .ok (.iconst 0, 1) := by decide +kernel
theorem d_r_witness_11 : decode prog_13_method_93_code 11 = .ok (.iload_n 2, 1) := by decide +kernel
theorem d_r_witness_12 : decode prog_13_method_93_code 12 = .ok (.iconst 0, 1) := by decide +kernel
theorem d_r_witness_13 : decode prog_13_method_93_code 13 = .ok (.sipush 999, 3) := by decide +kernel
theorem d_r_witness_16 : decode prog_13_method_93_code 16 = .ok (.invokestatic 153, 3) := by decide +kernel
theorem d_r_witness_19 : decode prog_13_method_93_code 19 = .ok (.ifCond .ne 6, 3) := by decide +kernel
theorem d_r_witness_2 : decode prog_13_method_93_code 2 = .ok (.ldc_w 361, 3) := by decide +kernel
theorem d_r_witness_22 : decode prog_13_method_93_code 22 = .ok (.bipush (-2), 2) := by decide +kernel
theorem d_r_witness_24 : decode prog_13_method_93_code 24 = .ok (.ireturn, 1) := by decide +kernel
theorem d_r_witness_25 : decode prog_13_method_93_code 25 = .ok (.aload_n 0, 1) := by decide +kernel
theorem d_r_witness_26 : decode prog_13_method_93_code 26 = .ok (.iconst 0, 1) := by decide +kernel
theorem d_r_witness_27 : decode prog_13_method_93_code 27 = .ok (.invokevirtual 311, 3) := by decide +kernel
theorem d_r_witness_30 : decode prog_13_method_93_code 30 = .ok (.istore_n 3, 1) := by decide +kernel
theorem d_r_witness_31 : decode prog_13_method_93_code 31 = .ok (.iconst 0, 1) := by decide +kernel
theorem d_r_witness_32 : decode prog_13_method_93_code 32 = .ok (.istore 4, 2) := by decide +kernel
theorem d_r_witness_34 : decode prog_13_method_93_code 34 = .ok (.iconst 0, 1) := by decide +kernel
theorem d_r_witness_35 : decode prog_13_method_93_code 35 = .ok (.istore 5, 2) := by decide +kernel
theorem d_r_witness_37 : decode prog_13_method_93_code 37 = .ok (.iload 5, 2) := by decide +kernel
theorem d_r_witness_39 : decode prog_13_method_93_code 39 = .ok (.aload_n 0, 1) := by decide +kernel
theorem d_r_witness_40 : decode prog_13_method_93_code 40 = .ok (.getfield 157, 3) := by decide +kernel
theorem d_r_witness_43 : decode prog_13_method_93_code 43 = .ok (.if_icmp .ge 47, 3) := by decide +kernel
theorem d_r_witness_46 : decode prog_13_method_93_code 46 = .ok (.iload 4, 2) := by decide +kernel
theorem d_r_witness_48 : decode prog_13_method_93_code 48 = .ok (.iload_n 3, 1) := by decide +kernel
theorem d_r_witness_49 : decode prog_13_method_93_code 49 = .ok (.iload 5, 2) := by decide +kernel
theorem d_r_witness_5 : decode prog_13_method_93_code 5 = .ok (.invokestatic 153, 3) := by decide +kernel
theorem d_r_witness_51 : decode prog_13_method_93_code 51 = .ok (.ishr, 1) := by decide +kernel
theorem d_r_witness_52 : decode prog_13_method_93_code 52 = .ok (.iconst 1, 1) := by decide +kernel
theorem d_r_witness_53 : decode prog_13_method_93_code 53 = .ok (.iand, 1) := by decide +kernel
theorem d_r_witness_54 : decode prog_13_method_93_code 54 = .ok (.iconst 1, 1) := by decide +kernel
theorem d_r_witness_55 : decode prog_13_method_93_code 55 = .ok (.if_icmp .ne 25, 3) := by decide +kernel
theorem d_r_witness_58 : decode prog_13_method_93_code 58 = .ok (.aload_n 0, 1) := by decide +kernel
theorem d_r_witness_59 : decode prog_13_method_93_code 59 = .ok (.iload 5, 2) := by decide +kernel
theorem d_r_witness_61 : decode prog_13_method_93_code 61 = .ok (.invokevirtual 358, 3) := by decide +kernel
theorem d_r_witness_64 : decode prog_13_method_93_code 64 = .ok (.iload_n 1, 1) := by decide +kernel
theorem d_r_witness_65 : decode prog_13_method_93_code 65 = .ok (.isub, 1) := by decide +kernel
theorem d_r_witness_66 : decode prog_13_method_93_code 66 = .ok (.invokestatic 349, 3) := by decide +kernel
theorem d_r_witness_69 : decode prog_13_method_93_code 69 = .ok (.iload_n 2, 1) := by decide +kernel
theorem d_r_witness_70 : decode prog_13_method_93_code 70 = .ok (.if_icmp .gt 10, 3) := by decide +kernel
theorem d_r_witness_73 : decode prog_13_method_93_code 73 = .ok (.iconst 1, 1) := by decide +kernel
theorem d_r_witness_74 : decode prog_13_method_93_code 74 = .ok (.iload 5, 2) := by decide +kernel
theorem d_r_witness_76 : decode prog_13_method_93_code 76 = .ok (.ishl, 1) := by decide +kernel
theorem d_r_witness_77 : decode prog_13_method_93_code 77 = .ok (.goto 4, 3) := by decide +kernel
theorem d_r_witness_8 : decode prog_13_method_93_code 8 = .ok (.ifCond .eq 14, 3) := by decide +kernel
theorem d_r_witness_80 : decode prog_13_method_93_code 80 = .ok (.iconst 0, 1) := by decide +kernel
theorem d_r_witness_81 : decode prog_13_method_93_code 81 = .ok (.ior, 1) := by decide +kernel
theorem d_r_witness_82 : decode prog_13_method_93_code 82 = .ok (.istore 4, 2) := by decide +kernel
theorem d_r_witness_84 : decode prog_13_method_93_code 84 = .ok (.iinc 5 1, 3) := by decide +kernel
theorem d_r_witness_87 : decode prog_13_method_93_code 87 = .ok (.goto (-50), 3) := by decide +kernel
theorem d_r_witness_90 : decode prog_13_method_93_code 90 = .ok (.iload 4, 2) := by decide +kernel
theorem d_r_witness_92 : decode prog_13_method_93_code 92 = .ok (.ireturn, 1) := by decide +kernel
theorem d_r_worth_0 : decode prog_13_method_28_code 0 = .ok (.iconst 0, 1) := by decide +kernel
theorem d_r_worth_1 : decode prog_13_method_28_code 1 = .ok (.istore_n 2, 1) := by decide +kernel
theorem d_r_worth_100 : decode prog_13_method_28_code 100 = .ok (.iload 4, 2) := by decide +kernel
theorem d_r_worth_102 : decode prog_13_method_28_code 102 = .ok (.bipush 13, 2) := by decide +kernel
theorem d_r_worth_104 : decode prog_13_method_28_code 104 = .ok (.if_icmp .ne 30, 3) := by decide +kernel
theorem d_r_worth_107 : decode prog_13_method_28_code 107 = .ok (.aload_n 0, 1) := by decide +kernel
theorem d_r_worth_108 : decode prog_13_method_28_code 108 = .ok (.getfield 126, 3) := by decide +kernel
theorem d_r_worth_11 : decode prog_13_method_28_code 11 = .ok (.imul, 1) := by decide +kernel
theorem d_r_worth_111 : decode prog_13_method_28_code 111 = .ok (.iload_n 2, 1) := by decide +kernel
theorem d_r_worth_112 : decode prog_13_method_28_code 112 = .ok (.iconst 1, 1) := by decide +kernel
theorem d_r_worth_113 : decode prog_13_method_28_code 113 = .ok (.isub, 1) := by decide +kernel
theorem d_r_worth_114 : decode prog_13_method_28_code 114 = .ok (.aload_n 0, 1) := by decide +kernel
theorem d_r_worth_115 : decode prog_13_method_28_code 115 = .ok (.getfield 126, 3) := by decide +kernel
theorem d_r_worth_118 : decode prog_13_method_28_code 118 = .ok (.iload_n 2, 1) := by decide +kernel
theorem d_r_worth_119 : decode prog_13_method_28_code 119 = .ok (.iconst 1, 1) := by decide +kernel
theorem d_r_worth_12 : decode prog_13_method_28_code 12 = .ok (.iload_n 1, 1) := by decide +kernel
theorem d_r_worth_120 : decode prog_13_method_28_code 120 = .ok (.isub, 1) := by decide +kernel
theorem d_r_worth_121 : decode prog_13_method_28_code 121 = .ok (.iaload, 1) := by decide +kernel
theorem d_r_worth_122 : decode prog_13_method_28_code 122 = .ok (.ifCond .ne 7, 3) := by decide +kernel
theorem d_r_worth_125 : decode prog_13_method_28_code 125 = .ok (.iconst 1, 1) := by decide +kernel
theorem d_r_worth_126 : decode prog_13_method_28_code 126 = .ok (.goto 4, 3) := by decide +kernel
theorem d_r_worth_129 : decode prog_13_method_28_code 129 = .ok (.iconst 0, 1) := by decide +kernel
theorem d_r_worth_13 : decode prog_13_method_28_code 13 = .ok (.iadd, 1) := by decide +kernel
theorem d_r_worth_130 : decode prog_13_method_28_code 130 = .ok (.iastore, 1) := by decide +kernel
theorem d_r_worth_131 : decode prog_13_method_28_code 131 = .ok (.goto 60, 3) := by decide +kernel
theorem d_r_worth_134 : decode prog_13_method_28_code 134 = .ok (.iload 4, 2) := by decide +kernel
theorem d_r_worth_136 : decode prog_13_method_28_code 136 = .ok (.bipush 19, 2) := by decide +kernel
theorem d_r_worth_138 : decode prog_13_method_28_code 138 = .ok (.if_icmp .ne 23, 3) := by decide +kernel
theorem d_r_worth_14 : decode prog_13_method_28_code 14 = .ok (.iaload, 1) := by decide +kernel
theorem d_r_worth_141 : decode prog_13_method_28_code 141 = .ok (.aload_n 0, 1) := by decide +kernel
theorem d_r_worth_142 : decode prog_13_method_28_code 142 = .ok (.getfield 126, 3) := by decide +kernel
theorem d_r_worth_145 : decode prog_13_method_28_code 145 = .ok (.iload_n 2, 1) := by decide +kernel
theorem d_r_worth_146 : decode prog_13_method_28_code 146 = .ok (.iconst 1, 1) := by decide +kernel
theorem d_r_worth_147 : decode prog_13_method_28_code 147 = .ok (.isub, 1) := by decide +kernel
theorem d_r_worth_148 : decode prog_13_method_28_code 148 = .ok (.aload_n 0, 1) := by decide +kernel
theorem d_r_worth_149 : decode prog_13_method_28_code 149 = .ok (.getfield 126, 3) := by decide +kernel
theorem d_r_worth_15 : decode prog_13_method_28_code 15 = .ok (.istore_n 3, 1) := by decide +kernel
theorem d_r_worth_152 : decode prog_13_method_28_code 152 = .ok (.iload_n 2, 1) := by decide +kernel
theorem d_r_worth_153 : decode prog_13_method_28_code 153 = .ok (.iconst 1, 1) := by decide +kernel
theorem d_r_worth_154 : decode prog_13_method_28_code 154 = .ok (.isub, 1) := by decide +kernel
theorem d_r_worth_155 : decode prog_13_method_28_code 155 = .ok (.iaload, 1) := by decide +kernel
theorem d_r_worth_156 : decode prog_13_method_28_code 156 = .ok (.ineg, 1) := by decide +kernel
theorem d_r_worth_157 : decode prog_13_method_28_code 157 = .ok (.iastore, 1) := by decide +kernel
theorem d_r_worth_158 : decode prog_13_method_28_code 158 = .ok (.goto 33, 3) := by decide +kernel
theorem d_r_worth_16 : decode prog_13_method_28_code 16 = .ok (.iload_n 3, 1) := by decide +kernel
theorem d_r_worth_161 : decode prog_13_method_28_code 161 = .ok (.iinc 2 (-1), 3) := by decide +kernel
theorem d_r_worth_164 : decode prog_13_method_28_code 164 = .ok (.aload_n 0, 1) := by decide +kernel
theorem d_r_worth_165 : decode prog_13_method_28_code 165 = .ok (.getfield 126, 3) := by decide +kernel
theorem d_r_worth_168 : decode prog_13_method_28_code 168 = .ok (.iload_n 2, 1) := by decide +kernel
theorem d_r_worth_169 : decode prog_13_method_28_code 169 = .ok (.iconst 1, 1) := by decide +kernel
theorem d_r_worth_17 : decode prog_13_method_28_code 17 = .ok (.aload_n 0, 1) := by decide +kernel
theorem d_r_worth_170 : decode prog_13_method_28_code 170 = .ok (.isub, 1) := by decide +kernel
theorem d_r_worth_171 : decode prog_13_method_28_code 171 = .ok (.iload 4, 2) := by decide +kernel
theorem d_r_worth_173 : decode prog_13_method_28_code 173 = .ok (.aload_n 0, 1) := by decide +kernel
theorem d_r_worth_174 : decode prog_13_method_28_code 174 = .ok (.getfield 126, 3) := by decide +kernel
theorem d_r_worth_177 : decode prog_13_method_28_code 177 = .ok (.iload_n 2, 1) := by decide +kernel
theorem d_r_worth_178 : decode prog_13_method_28_code 178 = .ok (.iconst 1, 1) := by decide +kernel
theorem d_r_worth_179 : decode prog_13_method_28_code 179 = .ok (.isub, 1) := by decide +kernel
theorem d_r_worth_18 : decode prog_13_method_28_code 18 = .ok (.getfield 64, 3) := by decide +kernel
theorem d_r_worth_180 : decode prog_13_method_28_code 180 = .ok (.iaload, 1) := by decide +kernel
theorem d_r_worth_181 : decode prog_13_method_28_code 181 = .ok (.aload_n 0, 1) := by decide +kernel
theorem d_r_worth_182 : decode prog_13_method_28_code 182 = .ok (.getfield 126, 3) := by decide +kernel
theorem d_r_worth_185 : decode prog_13_method_28_code 185 = .ok (.iload_n 2, 1) := by decide +kernel
theorem d_r_worth_186 : decode prog_13_method_28_code 186 = .ok (.iaload, 1) := by decide +kernel
theorem d_r_worth_187 : decode prog_13_method_28_code 187 = .ok (.invokestatic 256, 3) := by decide +kernel
theorem d_r_worth_190 : decode prog_13_method_28_code 190 = .ok (.iastore, 1) := by decide +kernel
theorem d_r_worth_191 : decode prog_13_method_28_code 191 = .ok (.iinc 3 1, 3) := by decide +kernel
theorem d_r_worth_194 : decode prog_13_method_28_code 194 = .ok (.goto (-178), 3) := by decide +kernel
theorem d_r_worth_197 : decode prog_13_method_28_code 197 = .ok (.aload_n 0, 1) := by decide +kernel
theorem d_r_worth_198 : decode prog_13_method_28_code 198 = .ok (.getfield 126, 3) := by decide +kernel
theorem d_r_worth_2 : decode prog_13_method_28_code 2 = .ok (.aload_n 0, 1) := by decide +kernel
theorem d_r_worth_201 : decode prog_13_method_28_code 201 = .ok (.iconst 0, 1) := by decide +kernel
theorem d_r_worth_202 : decode prog_13_method_28_code 202 = .ok (.iaload, 1) := by decide +kernel
theorem d_r_worth_203 : decode prog_13_method_28_code 203 = .ok (.ifCond .ge 7, 3) := by decide +kernel
theorem d_r_worth_206 : decode prog_13_method_28_code 206 = .ok (.iconst 0, 1) := by decide +kernel
theorem d_r_worth_207 : decode prog_13_method_28_code 207 = .ok (.goto 27, 3) := by decide +kernel
theorem d_r_worth_21 : decode prog_13_method_28_code 21 = .ok (.iconst 4, 1) := by decide +kernel
theorem d_r_worth_210 : decode prog_13_method_28_code 210 = .ok (.aload_n 0, 1) := by decide +kernel
theorem d_r_worth_211 : decode prog_13_method_28_code 211 = .ok (.getfield 126, 3) := by decide +kernel
theorem d_r_worth_214 : decode prog_13_method_28_code 214 = .ok (.iconst 0, 1) := by decide +kernel
theorem d_r_worth_215 : decode prog_13_method_28_code 215 = .ok (.iaload, 1) := by decide +kernel
theorem d_r_worth_216 : decode prog_13_method_28_code 216 = .ok (.sipush 999, 3) := by decide +kernel
theorem d_r_worth_219 : decode prog_13_method_28_code 219 = .ok (.if_icmp .le 9, 3) := by decide +kernel
theorem d_r_worth_22 : decode prog_13_method_28_code 22 = .ok (.aload_n 0, 1) := by decide +kernel
theorem d_r_worth_222 : decode prog_13_method_28_code 222 = .ok (.sipush 999, 3) := by decide +kernel
theorem d_r_worth_225 : decode prog_13_method_28_code 225 = .ok (.goto 9, 3) := by decide +kernel
theorem d_r_worth_228 : decode prog_13_method_28_code 228 = .ok (.aload_n 0, 1) := by decide +kernel
theorem d_r_worth_229 : decode prog_13_method_28_code 229 = .ok (.getfield 126, 3) := by decide +kernel
theorem d_r_worth_23 : decode prog_13_method_28_code 23 = .ok (.getfield 189, 3) := by decide +kernel
theorem d_r_worth_232 : decode prog_13_method_28_code 232 = .ok (.iconst 0, 1) := by decide +kernel
theorem d_r_worth_233 : decode prog_13_method_28_code 233 = .ok (.iaload, 1) := by decide +kernel
theorem d_r_worth_234 : decode prog_13_method_28_code 234 = .ok (.ireturn, 1) := by decide +kernel
theorem d_r_worth_26 : decode prog_13_method_28_code 26 = .ok (.imul, 1) := by decide +kernel
theorem d_r_worth_27 : decode prog_13_method_28_code 27 = .ok (.iload_n 1, 1) := by decide +kernel
theorem d_r_worth_28 : decode prog_13_method_28_code 28 = .ok (.iadd, 1) := by decide +kernel
theorem d_r_worth_29 : decode prog_13_method_28_code 29 = .ok (.iconst 1, 1) := by decide +kernel
theorem d_r_worth_3 : decode prog_13_method_28_code 3 = .ok (.getfield 64, 3) := by decide +kernel
theorem d_r_worth_30 : decode prog_13_method_28_code 30 = .ok (.iadd, 1) := by decide +kernel
theorem d_r_worth_31 : decode prog_13_method_28_code 31 = .ok (.iaload, 1) := by decide +kernel
theorem d_r_worth_32 : decode prog_13_method_28_code 32 = .ok (.if_icmp .ge 165, 3) := by decide +kernel
theorem d_r_worth_35 : decode prog_13_method_28_code 35 = .ok (.aload_n 0, 1) := by decide +kernel
theorem d_r_worth_36 : decode prog_13_method_28_code 36 = .ok (.getfield 61, 3) := by decide +kernel
theorem d_r_worth_39 : decode prog_13_method_28_code 39 = .ok (.sipush 200, 3) := by decide +kernel
theorem d_r_worth_42 : decode prog_13_method_28_code 42 = .ok (.aload_n 0, 1) := by decide +kernel
theorem d_r_worth_43 : decode prog_13_method_28_code 43 = .ok (.getfield 189, 3) := by decide +kernel
theorem d_r_worth_46 : decode prog_13_method_28_code 46 = .ok (.imul, 1) := by decide +kernel
theorem d_r_worth_47 : decode prog_13_method_28_code 47 = .ok (.iload_n 3, 1) := by decide +kernel
theorem d_r_worth_48 : decode prog_13_method_28_code 48 = .ok (.iadd, 1) := by decide +kernel
theorem d_r_worth_49 : decode prog_13_method_28_code 49 = .ok (.iaload, 1) := by decide +kernel
theorem d_r_worth_50 : decode prog_13_method_28_code 50 = .ok (.istore 4, 2) := by decide +kernel
theorem d_r_worth_52 : decode prog_13_method_28_code 52 = .ok (.iload 4, 2) := by decide +kernel
theorem d_r_worth_54 : decode prog_13_method_28_code 54 = .ok (.ldc 241, 2) := by decide +kernel
theorem d_r_worth_56 : decode prog_13_method_28_code 56 = .ok (.if_icmp .ge 10, 3) := by decide +kernel
theorem d_r_worth_59 : decode prog_13_method_28_code 59 = .ok (.iload 4, 2) := by decide +kernel
theorem d_r_worth_6 : decode prog_13_method_28_code 6 = .ok (.iconst 4, 1) := by decide +kernel
theorem d_r_worth_61 : decode prog_13_method_28_code 61 = .ok (.bipush 11, 2) := by decide +kernel
theorem d_r_worth_63 : decode prog_13_method_28_code 63 = .ok (.if_icmp .ge 37, 3) := by decide +kernel
theorem d_r_worth_66 : decode prog_13_method_28_code 66 = .ok (.aload_n 0, 1) := by decide +kernel
theorem d_r_worth_67 : decode prog_13_method_28_code 67 = .ok (.getfield 126, 3) := by decide +kernel
theorem d_r_worth_7 : decode prog_13_method_28_code 7 = .ok (.aload_n 0, 1) := by decide +kernel
theorem d_r_worth_70 : decode prog_13_method_28_code 70 = .ok (.iload_n 2, 1) := by decide +kernel
theorem d_r_worth_71 : decode prog_13_method_28_code 71 = .ok (.iload 4, 2) := by decide +kernel
theorem d_r_worth_73 : decode prog_13_method_28_code 73 = .ok (.bipush 11, 2) := by decide +kernel
theorem d_r_worth_75 : decode prog_13_method_28_code 75 = .ok (.if_icmp .ge 13, 3) := by decide +kernel
theorem d_r_worth_78 : decode prog_13_method_28_code 78 = .ok (.aload_n 0, 1) := by decide +kernel
theorem d_r_worth_79 : decode prog_13_method_28_code 79 = .ok (.getfield 129, 3) := by decide +kernel
theorem d_r_worth_8 : decode prog_13_method_28_code 8 = .ok (.getfield 189, 3) := by decide +kernel
theorem d_r_worth_82 : decode prog_13_method_28_code 82 = .ok (.iload 4, 2) := by decide +kernel
theorem d_r_worth_84 : decode prog_13_method_28_code 84 = .ok (.iaload, 1) := by decide +kernel
theorem d_r_worth_85 : decode prog_13_method_28_code 85 = .ok (.goto 8, 3) := by decide +kernel
theorem d_r_worth_88 : decode prog_13_method_28_code 88 = .ok (.iload 4, 2) := by decide +kernel
theorem d_r_worth_90 : decode prog_13_method_28_code 90 = .ok (.ldc 241, 2) := by decide +kernel
theorem d_r_worth_92 : decode prog_13_method_28_code 92 = .ok (.isub, 1) := by decide +kernel
theorem d_r_worth_93 : decode prog_13_method_28_code 93 = .ok (.iastore, 1) := by decide +kernel
theorem d_r_worth_94 : decode prog_13_method_28_code 94 = .ok (.iinc 2 1, 3) := by decide +kernel
theorem d_r_worth_97 : decode prog_13_method_28_code 97 = .ok (.goto 94, 3) := by decide +kernel
